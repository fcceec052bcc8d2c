/-! THE ORDER OF LIST ELEMENTS. -/
section RGA
variable {pr : Nat → Option Nat} {f : Nat → Nat} {g : Nat → Prop}
/-- y goes ahead of o: f the ids, g: not gone -/
def Jo (f : Nat → Nat) (g : Nat → Prop) (o y : Nat) : Prop := f o ≤ f y ∧ (g o → f o < f y)
/-- between an element's place and it stand only greater ones -/
def Jp (pr : Nat → Option Nat) (f : Nat → Nat) (g : Nat → Prop) (l : List Nat) : Prop := ∀ l1 o l2, l = l1 ++ o :: l2 → match pr o with
  | none => ∀ y, y ∈ l1 → Jo f g o y
  | some p => ∃ a b, l1 = a ++ p :: b ∧ ∀ y, y ∈ b → Jo f g o y
theorem Jp_nil : Jp pr f g [] := by
  intro l1 o l2 h
  cases l1 <;> cases h
/-- the list l = pre ++ b ++ c becomes pre ++ b ++ o :: c -/
theorem Jp_insert {pre b c : List Nat} {o : Nat} (hJ : Jp pr f g (pre ++ b ++ c)) (hn : (pre ++ b ++ o :: c).Nodup)
    (hp : match pr o with
      | none => pre = []
      | some p => ∃ a, pre = a ++ [p] ∧ f p < f o)
    (hb : ∀ y, y ∈ b → f o < f y) (hc : ∀ y c', c = y :: c' → f y ≤ f o)
    (hch : ∀ y q, y ∈ pre ++ b ++ c → pr y = some q → f q < f y)
    (hu : ∀ y, y ∈ pre ++ b ++ c → g y → f y ≠ f o) : Jp pr f g (pre ++ b ++ o :: c) := by
  intro l1 o' l2 he
  have hbJ : ∀ y, y ∈ b → Jo f g o y := fun y hy => ⟨Nat.le_of_lt (hb y hy), fun _ => hb y hy⟩
  have hself : match pr o with
      | none => ∀ y, y ∈ pre ++ b → Jo f g o y
      | some p => ∃ a b', pre ++ b = a ++ p :: b' ∧ ∀ y, y ∈ b' → Jo f g o y := by
    cases hpo : pr o with
    | none =>
      rw [hpo] at hp
      simp only at hp ⊢
      subst hp
      simpa using hbJ
    | some p =>
      rw [hpo] at hp
      simp only at hp ⊢
      obtain ⟨a, rfl, _⟩ := hp
      exact ⟨a, b, by simp, hbJ⟩
  rw [List.append_eq_append_iff] at he
  rcases he with ⟨a', h1, h2⟩ | ⟨c', h1, h2⟩
  · -- o' at o or behind it
    cases a' with
    | nil =>
      simp only [List.append_nil, List.nil_append, List.cons.injEq] at h1 h2
      obtain ⟨rfl, rfl⟩ := h2
      subst h1
      exact hself
    | cons z c1 =>
      simp only [List.cons_append, List.cons.injEq] at h2
      obtain ⟨rfl, rfl⟩ := h2
      subst h1
      -- now l = pre ++ b ++ c1 ++ o' :: l2, o between b and c1
      have h3 := hJ (pre ++ b ++ c1) o' l2 (by simp)
      have hin : o' ∈ pre ++ b ++ (c1 ++ o' :: l2) := by simp
      -- o goes ahead of o' where nothing but b and c1 stands between
      have hA : (∀ y, y ∈ c1 → Jo f g o' y) → Jo f g o' o := by
        intro hy
        cases c1 with
        | nil =>
          have h4 := hc o' l2 (by simp)
          refine ⟨h4, fun hg => ?_⟩
          have := hu o' hin hg
          omega
        | cons y c2 =>
          have h4 := hc y (c2 ++ o' :: l2) (by simp)
          have h5 := hy y (by simp)
          exact ⟨by have := h5.1; omega, fun hg => by have := h5.2 hg; omega⟩
      cases hpo' : pr o' with
      | none =>
        rw [hpo'] at h3
        simp only at h3 ⊢
        intro y hy
        by_cases e : y = o
        · rw [e]; exact hA (fun y hy => h3 y (by simp [hy]))
        · exact h3 y (by simpa [e] using hy)
      | some p' =>
        rw [hpo'] at h3
        simp only at h3 ⊢
        obtain ⟨a, b', h4, h5⟩ := h3
        rw [List.append_assoc, List.append_eq_append_iff] at h4
        rcases h4 with ⟨x, h6, h7⟩ | ⟨x, h6, h7⟩
        · -- a = pre ++ x, b ++ c1 = x ++ p' :: b'
          rw [List.append_eq_append_iff] at h7
          rcases h7 with ⟨y, h8, h9⟩ | ⟨y, h8, h9⟩
          · -- x = b ++ y, c1 = y ++ p' :: b'
            subst h6 h8 h9
            exact ⟨pre ++ b ++ o :: y, b', by simp, h5⟩
          · -- b = x ++ y, p' :: b' = y ++ c1
            cases y with
            | nil =>
              simp only [List.nil_append] at h9
              subst h9
              simp only [List.append_nil] at h8
              subst h8 h6
              exact ⟨pre ++ b ++ [o], b', by simp, h5⟩
            | cons y0 y =>
              simp only [List.cons_append, List.cons.injEq] at h9
              obtain ⟨rfl, rfl⟩ := h9
              exfalso
              have h10 := hb p' (by rw [h8]; simp)
              have h11 := hch o' p' hin hpo'
              have h12 := (hA (fun z hz => h5 z (by simp [hz]))).1
              omega
        · -- pre = a ++ x, p' :: b' = x ++ (b ++ c1)
          cases x with
          | nil =>
            simp only [List.nil_append] at h7
            simp only [List.append_nil] at h6
            subst h6
            cases b with
            | nil =>
              simp only [List.nil_append] at h7
              subst h7
              exact ⟨pre ++ [o], b', by simp, h5⟩
            | cons b0 b1 =>
              simp only [List.cons_append, List.cons.injEq] at h7
              obtain ⟨rfl, rfl⟩ := h7
              exfalso
              have h10 := hb p' (by simp)
              have h11 := hch o' p' hin hpo'
              have h12 := (hA (fun z hz => h5 z (by simp [hz]))).1
              omega
          | cons x0 x1 =>
            simp only [List.cons_append, List.cons.injEq] at h7
            obtain ⟨rfl, rfl⟩ := h7
            subst h6
            refine ⟨a, x1 ++ (b ++ o :: c1), by simp, ?_⟩
            intro y hy
            by_cases e : y = o
            · rw [e]
              -- the place of o is p' or behind it
              cases hpo : pr o with
              | none => rw [hpo] at hp; simp at hp
              | some p =>
                rw [hpo] at hp
                simp only at hp
                obtain ⟨aa, haa, hlt⟩ := hp
                rcases List.eq_nil_or_concat x1 with rfl | ⟨x2, z, rfl⟩
                · exact hA (fun z hz => h5 z (by simp [hz]))
                · have : z = p := by
                    have e3 : (a ++ p' :: x2) ++ [z] = aa ++ [p] := by simpa using haa
                    have e4 := (List.append_inj' e3 rfl).2
                    simpa using e4
                  subst this
                  have := h5 z (by simp)
                  exact ⟨by have := this.1; omega, fun hg => by have := this.2 hg; omega⟩
            · exact h5 y (by simpa [e] using hy)
  · -- o' before o
    cases c' with
    | nil =>
      simp only [List.nil_append, List.cons.injEq] at h2
      simp only [List.append_nil] at h1
      obtain ⟨rfl, rfl⟩ := h2
      rw [← h1]
      exact hself
    | cons z c1 =>
      simp only [List.cons_append, List.cons.injEq] at h2
      obtain ⟨rfl, rfl⟩ := h2
      exact hJ l1 o' (c1 ++ c) (by rw [h1]; simp)
/-- going (an op is gone) keeps it -/
theorem Jp_gone {g' : Nat → Prop} {l : List Nat} (h : Jp pr f g l) (hg : ∀ o, o ∈ l → g' o → g o) : Jp pr f g' l := by
  intro l1 o l2 he
  have h1 := h l1 o l2 he
  have hm : o ∈ l := by rw [he]; simp
  cases hp : pr o with
  | none =>
    rw [hp] at h1
    simp only at h1 ⊢
    exact fun y hy => ⟨(h1 y hy).1, fun q => (h1 y hy).2 (hg o hm q)⟩
  | some p =>
    rw [hp] at h1
    simp only at h1 ⊢
    obtain ⟨a, b, h2, h3⟩ := h1
    exact ⟨a, b, h2, fun y hy => ⟨(h3 y hy).1, fun q => (h3 y hy).2 (hg o hm q)⟩⟩
/-- o put right behind its place -/
def insA (l : List Nat) (o : Nat) : Option Nat → List Nat
  | none => o :: l
  | some p => match l with
    | [] => []
    | a :: l' => if a = p then a :: o :: l' else a :: insA l' o (some p)
theorem insA_at {a b : List Nat} {p o : Nat} (h : p ∉ a) : insA (a ++ p :: b) o (some p) = a ++ p :: o :: b := by
  induction a with
  | nil => simp [insA]
  | cons x a ih =>
    simp only [List.mem_cons, not_or] at h
    rw [List.cons_append, insA, if_neg (Ne.symm h.1), ih h.2]
    rfl
/-- the reference's way: those of w in the order of their ids, each right behind its place -/
theorem rga_step {l : List Nat} {w : Nat → Bool} {o : Nat} (hJ : Jp pr f g l) (hn : l.Nodup) (ho : o ∈ l) (hg : g o) (hw : w o = false)
    (hlt : ∀ y, w y = true → f y < f o) (hp : ∀ p, pr o = some p → w p = true) :
    insA (l.filter w) o (pr o) = l.filter (fun x => w x || decide (x = o)) := by
  obtain ⟨l1, l2, rfl⟩ := List.append_of_mem ho
  have h1 := hJ l1 o l2 rfl
  rw [List.nodup_append] at hn
  obtain ⟨hn1, hn2, hn3⟩ := hn
  rw [List.nodup_cons] at hn2
  have f2 : ∀ l : List Nat, o ∉ l → l.filter (fun x => w x || decide (x = o)) = l.filter w := by
    intro l hl
    apply List.filter_congr
    intro x hx
    have : x ≠ o := by rintro rfl; exact hl hx
    simp [this]
  have ho1 : o ∉ l1 := fun h => hn3 o h o (by simp) rfl
  have hR : (l1 ++ o :: l2).filter (fun x => w x || decide (x = o)) = l1.filter w ++ o :: l2.filter w := by
    rw [List.filter_append, f2 l1 ho1, List.filter_cons_of_pos (by simp), f2 l2 hn2.1]
  have hL : (l1 ++ o :: l2).filter w = l1.filter w ++ l2.filter w := by
    rw [List.filter_append, List.filter_cons_of_neg (by simp [hw])]
  rw [hR, hL]
  cases hpo : pr o with
  | none =>
    rw [hpo] at h1
    simp only at h1
    have : l1.filter w = [] := by
      rw [List.filter_eq_nil_iff]
      intro y hy hwy
      have := (h1 y hy).2 hg
      have := hlt y hwy
      omega
    rw [this]
    simp [insA]
  | some p =>
    rw [hpo] at h1
    simp only at h1
    obtain ⟨a, b, rfl, h3⟩ := h1
    have hb : b.filter w = [] := by
      rw [List.filter_eq_nil_iff]
      intro y hy hwy
      have := (h3 y hy).2 hg
      have := hlt y hwy
      omega
    have hpa : p ∉ a := by
      intro h
      rw [List.nodup_append] at hn1
      exact hn1.2.2 p h p (by simp) rfl
    have e1 : (a ++ p :: b).filter w = a.filter w ++ [p] := by
      rw [List.filter_append, List.filter_cons_of_pos (hp p hpo), hb]
    rw [e1]
    have : a.filter w ++ [p] ++ l2.filter w = a.filter w ++ p :: l2.filter w := by simp
    rw [this, insA_at (by intro h; exact hpa (List.mem_filter.mp h).1)]
    simp
end RGA
