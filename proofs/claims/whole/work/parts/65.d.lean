/-! KEYS: how they are compared; chains of spots and ops; all that is true of the abstract state. -/
def kcmp : List Nat → List Nat → Int
  | [], [] => 0
  | [], _ :: bs => - ((bs.length : Int) + 1)
  | _ :: as, [] => (as.length : Int) + 1
  | a :: as, b :: bs => if a = b then kcmp as bs else (a : Int) - b
theorem kcmp_self (a : List Nat) : kcmp a a = 0 := by
  induction a with
  | nil => rfl
  | cons x a ih => rw [kcmp, if_pos rfl, ih]
theorem kcmp_eq : ∀ (a b : List Nat), kcmp a b = 0 → a = b := by
  intro a
  induction a with
  | nil =>
    intro b h
    cases b with
    | nil => rfl
    | cons y b => rw [kcmp] at h; omega
  | cons x a ih =>
    intro b h
    cases b with
    | nil => rw [kcmp] at h; omega
    | cons y b =>
      rw [kcmp] at h
      split at h
      · rename_i e
        rw [e, ih b h]
      · omega
theorem kcmp_anti : ∀ (a b : List Nat), kcmp a b = - kcmp b a := by
  intro a
  induction a with
  | nil =>
    intro b
    cases b with
    | nil => rfl
    | cons y b => rw [kcmp, kcmp]
  | cons x a ih =>
    intro b
    cases b with
    | nil => rw [kcmp, kcmp]; omega
    | cons y b =>
      rw [kcmp, kcmp]
      by_cases e : x = y
      · rw [if_pos e, if_pos e.symm, ih b]
      · rw [if_neg e, if_neg (Ne.symm e)]
        omega
theorem kcmp_trans : ∀ (a b c : List Nat), kcmp a b < 0 → kcmp b c < 0 → kcmp a c < 0 := by
  intro a
  induction a with
  | nil =>
    intro b c h1 h2
    cases b with
    | nil => rw [kcmp] at h1; omega
    | cons y b =>
      cases c with
      | nil => rw [kcmp] at h2; omega
      | cons z c => rw [kcmp]; omega
  | cons x a ih =>
    intro b c h1 h2
    cases b with
    | nil => rw [kcmp] at h1; omega
    | cons y b =>
      cases c with
      | nil => rw [kcmp] at h2; omega
      | cons z c =>
        rw [kcmp] at h1 h2 ⊢
        by_cases e1 : x = y
        · subst e1
          rw [if_pos rfl] at h1
          by_cases e2 : x = z
          · subst e2
            rw [if_pos rfl] at h2 ⊢
            exact ih b c h1 h2
          · rw [if_neg e2] at h2 ⊢
            exact h2
        · rw [if_neg e1] at h1
          by_cases e2 : y = z
          · subst e2
            rw [if_neg e1]
            exact h1
          · rw [if_neg e2] at h2
            rw [if_neg (by omega)]
            omega
theorem kcmp_irr {a b : List Nat} (h : kcmp a b < 0) : a ≠ b := by
  rintro rfl
  rw [kcmp_self] at h
  omega
theorem kcmp_pos {a b : List Nat} : 0 < kcmp a b ↔ kcmp b a < 0 := by
  rw [kcmp_anti a b]
  omega
/-- two lists whose keys rise strictly and that hold the same keys have the same keys -/
theorem asc_ext : ∀ (l l' : List (List Nat)), l.Pairwise (fun a b => kcmp a b < 0) → l'.Pairwise (fun a b => kcmp a b < 0) → (∀ x, x ∈ l ↔ x ∈ l') → l = l' := by
  intro l
  induction l with
  | nil =>
    intro l' _ _ h
    cases l' with
    | nil => rfl
    | cons b l' => have := (h b).mpr (by simp); cases this
  | cons a l ih =>
    intro l' h1 h2 h
    cases l' with
    | nil => have := (h a).mp (by simp); cases this
    | cons b l' =>
      rw [List.pairwise_cons] at h1 h2
      have hab : a = b := by
        have ha := (h a).mp (by simp)
        have hb := (h b).mpr (by simp)
        rw [List.mem_cons] at ha hb
        rcases ha with ha | ha
        · exact ha
        · rcases hb with hb | hb
          · exact hb.symm
          · have p1 := h1.1 b hb
            have p2 := h2.1 a ha
            have := kcmp_trans _ _ _ p1 p2
            rw [kcmp_self] at this
            omega
      subst hab
      congr 1
      apply ih l' h1.2 h2.2
      intro x
      have := h x
      rw [List.mem_cons, List.mem_cons] at this
      constructor
      · intro hx
        rcases this.mp (Or.inr hx) with e | e
        · subst e; exact absurd rfl (kcmp_irr (h1.1 x hx))
        · exact e
      · intro hx
        rcases this.mpr (Or.inr hx) with e | e
        · subst e; exact absurd rfl (kcmp_irr (h2.1 x hx))
        · exact e
def I_L (A : AS) : Prop := ∀ x, (A.L x).Nodup ∧ (∀ s, s ∈ A.L x ↔ s < A.n ∧ A.obj s = x ∧ A.sp s = s) ∧
  (A.kd x = 6 → (A.L x).Pairwise (fun a b => kcmp (A.key a) (A.key b) < 0)) ∧
  (A.kd x ≠ 6 → Jp A.par A.id (fun o => A.gone o = 0) (A.L x))
def I_O (A : AS) : Prop := ∀ s, (A.O s).Nodup ∧ (∀ o, o ∈ A.O s ↔ o < A.n ∧ A.sp o = s) ∧ (A.O s).Pairwise (fun a b => A.id b ≤ A.id a)
/-- counters: the open ops of r have those up to its top; a change's ops have those from its first -/
def I_top (A : AS) : Prop := (∀ r, A.on r ≤ A.tp r ∧ A.tp r ≤ A.n) ∧
  (∀ o, o < A.n → A.gone o = 0 → A.chg o = none → A.tp (A.own o) < A.id o / 8 + A.on (A.own o) ∧ A.id o / 8 ≤ A.tp (A.own o)) ∧
  (∀ r t, r < 8 → A.tp r < t + A.on r → t ≤ A.tp r → ∃ o, o < A.n ∧ A.gone o = 0 ∧ A.chg o = none ∧ A.own o = r ∧ A.id o / 8 = t) ∧
  (∀ c, c < A.m → 1 ≤ A.cf c ∧ 1 ≤ A.cz c ∧ A.cf c + A.cz c ≤ A.n + 1) ∧
  (∀ o c, o < A.n → A.chg o = some c → A.cf c ≤ A.id o / 8 ∧ A.id o / 8 < A.cf c + A.cz c) ∧
  (∀ c t, c < A.m → A.cf c ≤ t → t < A.cf c + A.cz c → ∃ o, o < A.n ∧ A.chg o = some c ∧ A.id o / 8 = t) ∧
  (∀ r c, A.has r c → A.cf c + A.cz c ≤ A.tp r - A.on r + 1) ∧
  (∀ r, A.tp r - A.on r = 0 ∨ ∃ c, A.has r c ∧ A.tp r - A.on r + 1 = A.cf c + A.cz c)
/-- bytes of the first k ops -/
def sumN (g : Nat → Nat) : Nat → Nat
  | 0 => 0
  | k + 1 => sumN g k + g k
def AS.kbs (A : AS) (k : Nat) : Nat := sumN (fun o => (A.key o).length + (A.str o).length) k
theorem kbs_s {A : AS} {k : Nat} : A.kbs (k + 1) = A.kbs k + ((A.key k).length + (A.str k).length) := rfl
theorem kbs_congr {A B : AS} : ∀ {k : Nat}, (∀ o, o < k → B.key o = A.key o ∧ B.str o = A.str o) → B.kbs k = A.kbs k := by
  intro k
  induction k with
  | zero => intro _; rfl
  | succ k ih =>
    intro h
    rw [kbs_s, kbs_s, ih (fun o ho => h o (by omega)), (h k (by omega)).1, (h k (by omega)).2]
def I_sz (A : AS) : Prop := A.n ≤ 4000 ∧ A.m ≤ 1000 ∧ A.kn ≤ 24576 ∧ A.kbs A.n ≤ A.kn
/-- the ops alone -/
def I_P (A : AS) : Prop := I_ops A ∧ I_uni A ∧ I_chg A ∧ I_obj A ∧ I_ins A ∧ I_on A ∧ I_pre A ∧ I_hid A ∧ I_L A ∧ I_O A
/-- where the reference puts an op -/
def AS.plc (A : AS) (o : Nat) : Nat := if A.ins o = 1 then A.oi (A.par o) else if A.kd (A.obj o) = 6 then 0 else A.id (A.sp o)
def I_pl (A : AS) : Prop := ∀ o, o < A.n → A.pl o = A.plc o
/-- a change's number counts its actor's changes -/
def I_cnt (A : AS) : Prop := (∀ c, c < A.m → A.cu c = cntTo (fun d => decide (A.ca d = A.ca c)) (c + 1)) ∧ ∀ a, A.hv a a = cntTo (fun d => decide (A.ca d = a)) A.m
def AI (A : AS) : Prop := I_sz A ∧ I_C A ∧ I_P A ∧ I_top A ∧ I_pl A ∧ I_cnt A
