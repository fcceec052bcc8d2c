/-! THE CLASS'S STATE AND THE ABSTRACT ONE (RC). -/
/-- the tables' sizes -/
def RC_N (N : Nat → Nat) (A : AS) : Prop := N 0 = A.m ∧ N 1 = 1 ∧ N 2 = 1 ∧ N 3 = A.n + 1 ∧ N 4 = 8 ∧ N 5 = 7 ∧ N 6 = 1 ∧ N 7 = A.ns ∧ N 8 = 1 ∧ N 9 = 500 ∧ N 10 = 1 ∧ N 11 = 1 ∧ N 12 = 10 + A.m ∧ N 13 = 7 ∧ N 14 = 8 ∧ 2 ≤ N 15 ∧ N 16 = 9 + A.m ∧ N 17 = 1 ∧ N 18 = 1
/-- no reference leads out of the tables -/
def WF (N : Nat → Nat) (C : CS) : Prop := (∀ k f j t y, k < 12 → j < N k → (cFT.getD k [])[f]? = some (t + 2) → C.r k f j = some y → y < N t) ∧ ∀ k j p y, 15 ≤ k → k < 19 → j < N k → C.q k j p = some y → y < N (cET k)
/-- what the constructors laid, and never changes -/
def RC_st (C : CS) : Prop := C.r 11 0 0 = some 0 ∧ C.r 11 1 0 = some 0 ∧ C.r 11 2 0 = some 0 ∧ C.r 11 3 0 = some 0 ∧ C.r 11 4 0 = some 0 ∧ C.r 11 5 0 = some 0 ∧ C.r 11 6 0 = some 3 ∧
  C.r 8 0 0 = some 0 ∧ C.r 8 1 0 = some 0 ∧ C.r 8 2 0 = some 0 ∧ C.r 8 3 0 = some 0 ∧ C.r 10 0 0 = some 0 ∧ C.r 10 1 0 = some 8 ∧ C.r 10 2 0 = some 1 ∧ C.r 1 0 0 = some 0 ∧ C.r 1 1 0 = some 1 ∧ C.r 2 0 0 = some 0 ∧ C.r 2 1 0 = some 2 ∧ C.r 6 0 0 = some 0 ∧ C.r 6 1 0 = some 3 ∧ C.r 6 2 0 = some 9
def RC_sz (C : CS) (m : Nat) : Prop := C.z 15 0 = 32008 ∧ C.z 15 1 = 8 ∧ C.z 16 0 = 1000 ∧ C.z 17 0 = 8 ∧ C.z 18 0 = 500 ∧ C.z 13 0 = 24576 ∧ C.z 13 1 = 8192 ∧ C.z 13 2 = 16384 ∧ C.z 13 3 = 224582 ∧ C.z 13 4 = 8192 ∧ C.z 13 5 = 8192 ∧ C.z 13 6 = 8192 ∧
  (∀ r, r < 8 → C.i 4 0 r = nI r ∧ C.r 4 1 r = some r ∧ C.r 4 2 r = some r ∧ C.r 4 3 r = some (1 + r) ∧ C.z 14 r = 1000 ∧ C.z 16 (1 + r) = 8 ∧ C.q 17 0 r = some r) ∧ (∀ j, j < 10 + m → C.z 12 j = 8) ∧ (∀ j, j < 7 → C.r 5 0 j = some j) ∧ ∀ i, i < 500 → C.q 18 0 i = some i
/-- the place of an object's op in the table -/
def ox (x : Option Nat) : Nat := match x with
  | none => 0
  | some m => m + 1
/-- a chain by references -/
def chn (nx : Nat → Option Nat) : Option Nat → List Nat → Prop
  | h, [] => h = none
  | h, a :: l => h = some a ∧ chn nx (nx a) l
/-- the fields of an op that are no links -/
def RC_op (C : CS) (A : AS) : Prop := ∀ o, o < A.n → C.i 3 0 (o + 1) = nI (A.id o) ∧ C.r 3 1 (o + 1) = some (ox (A.obj o)) ∧ C.i 3 2 (o + 1) = nI (A.act o) ∧ C.l 3 3 (o + 1) = A.num o ∧ C.i 3 4 (o + 1) = nI (if A.gone o = 0 then A.cn o else 1002) ∧ C.i 3 5 (o + 1) = nI (A.ins o) ∧ C.r 3 6 (o + 1) = (A.par o).map (· + 1) ∧ C.i 3 8 (o + 1) = nI (A.ba o) ∧ C.i 3 9 (o + 1) = nI (A.key o).length ∧ C.i 3 10 (o + 1) = nI (A.str o).length ∧ C.r 3 11 (o + 1) = some (A.sj (A.sp o))
def RC_rt (C : CS) : Prop := C.i 3 0 0 = nI 0 ∧ C.r 3 1 0 = none ∧ C.i 3 2 0 = nI 6 ∧ C.i 3 5 0 = nI 0 ∧ C.i 3 9 0 = nI 0 ∧ C.i 3 10 0 = nI 0
/-- PRED -/
def RC_pr (N : Nat → Nat) (C : CS) (A : AS) : Prop := ∀ o, o < A.n → match A.pre o with
  | [] => C.r 3 7 (o + 1) = none
  | l => ∃ j, 2 ≤ j ∧ j < N 15 ∧ C.r 3 7 (o + 1) = some j ∧ C.z 15 j = l.length ∧ ∀ k (h : k < l.length), C.q 15 j k = some (l[k] + 1)
/-- chains of spots and of ops -/
def RC_ln (C : CS) (A : AS) : Prop := (∀ s, s < A.n → A.sp s = s → A.sj s < A.ns ∧ C.r 7 0 (A.sj s) = some (s + 1) ∧ chn (C.r 3 12) (C.r 7 1 (A.sj s)) ((A.O s).map (· + 1))) ∧
  (∀ s t, s < A.n → t < A.n → A.sp s = s → A.sp t = t → A.sj s = A.sj t → s = t) ∧ (∀ x, (∀ m, x = some m → m < A.n) → chn (C.r 7 2) (C.r 3 13 (ox x)) ((A.L x).map A.sj))
/-- ops by their ids -/
def RC_id (C : CS) (A : AS) : Prop := (∀ o, o < A.n → A.gone o = 0 → C.q 15 0 (A.id o) = some (o + 1)) ∧ ∀ i j, C.q 15 0 i = some j → ∃ o, o < A.n ∧ A.gone o = 0 ∧ A.id o = i ∧ j = o + 1
/-- kept bytes -/
def RC_kp (C : CS) (A : AS) : Prop := C.i 5 1 0 = nI A.kn ∧ ∀ o, o < A.n → A.ba o + (A.key o).length + (A.str o).length ≤ A.kn ∧ (∀ i (h : i < (A.key o).length), (A.key o)[i] < 256 ∧ C.a 13 0 (A.ba o + i) = sb (A.key o)[i]) ∧ (∀ i (h : i < (A.str o).length), (A.str o)[i] < 256 ∧ C.a 13 0 (A.ba o + (A.key o).length + i) = sb (A.str o)[i]) ∧ (A.act o ≠ 4 → A.str o = [])
/-- changes -/
def RC_cg (C : CS) (A : AS) : Prop := C.i 8 4 0 = nI A.m ∧ C.i 8 5 0 = nI A.n ∧ (∀ c, c < 1000 → A.m ≤ c → C.q 16 0 c = none) ∧ ∀ c, c < A.m → C.q 16 0 c = some c ∧ C.i 0 0 c = nI (A.ca c) ∧ C.i 0 1 c = nI (A.cu c) ∧ C.i 0 2 c = nI c ∧ C.i 0 3 c = nI (A.cf c) ∧ C.i 0 4 c = nI (A.cz c) ∧ C.r 0 5 c = some (9 + c) ∧ C.r 0 6 c = some (10 + c) ∧ (∀ a, a < 8 → C.a 12 (10 + c) a = nI (A.cl c a)) ∧
  ∃ dl : List Nat, C.z 16 (9 + c) = dl.length ∧ dl.length ≤ 8 ∧ (∀ d, d ∈ dl ↔ A.dp c d = true) ∧ dl.Pairwise (fun a b => A.ca a < A.ca b) ∧ ∀ k (h : k < dl.length), C.q 16 (9 + c) k = some dl[k]
/-- how many -/
def AS.nch (A : AS) (r : Nat) : Nat := cntTo (A.hasB r) A.m
def AS.nwt (A : AS) (r : Nat) : Nat := cntTo (A.wt r) A.m
def AS.nop (A : AS) (r : Nat) : Nat := cntTo (A.owns r) A.n
/-- replicas -/
def RC_rp (C : CS) (A : AS) : Prop := ∀ r, r < 8 → (∀ a, a < 8 → C.a 12 r a = nI (A.hv r a)) ∧ (∀ c, c < 1000 → C.a 14 r c = b2 (A.wt r c)) ∧ (∀ a d, a < 8 → (C.q 16 (1 + r) a = some d ↔ A.head r d ∧ A.ca d = a)) ∧ C.r 4 4 r = A.lk r ∧ C.i 4 5 r = nI (A.nch r) ∧ C.i 4 6 r = nI (A.nwt r) ∧ C.i 4 7 r = nI (A.nop r) ∧ C.i 4 8 r = nI (A.tp r) ∧ C.i 4 9 r = nI (A.on r)
def RC0 (N : Nat → Nat) (C : CS) (A : AS) : Prop := RC_N N A ∧ WF N C ∧ RC_st C ∧ RC_sz C A.m ∧ RC_rt C ∧ RC_pr N C A ∧ RC_id C A ∧ RC_kp C A ∧ RC_cg C A ∧ RC_rp C A ∧ RC_op C A ∧ RC_ln C A
/-- what the view leaves behind: how often gather has run; whom it found -/
def SC (A : AS) (C : CS) (rd : Nat) : Prop := C.i 10 4 0 = nI rd ∧ (∀ j, j < A.n + 1 → ∃ t, t ≤ rd ∧ C.i 3 14 j = nI t) ∧ ∀ p y, C.q 15 1 p = some y → y < A.n + 1
/-- the class's state is A's; gather has run rd times -/
def RC (N : Nat → Nat) (C : CS) (A : AS) (rd : Nat) : Prop := RC0 N C A ∧ SC A C rd
/-- the view's clock is that of r's view -/
def VC (C : CS) (A : AS) (r : Nat) : Prop := ∀ a, a < 8 → C.a 12 8 a = nI (A.vw r a)
section NZ
variable {N : Nat → Nat} {C : CS} {A : AS}
theorem nz_a {k j p : Nat} (h : ¬ (k = 12 ∧ j = 8)) : (nz C).a k j p = C.a k j p := if_neg h
theorem nz_q {k j p : Nat} (h : ¬ (k = 15 ∧ j = 1)) : (nz C).q k j p = C.q k j p := if_neg h
theorem nz_both (hw : ∀ p y, C.q 15 1 p = some y → y < N 3) : RC0 N (nz C) A ↔ RC0 N C A := by
  have e1 : WF N (nz C) ↔ WF N C := by
    constructor
    · rintro ⟨h1, h2⟩
      refine ⟨h1, ?_⟩
      intro k j p y a1 a2 a3 a4
      by_cases e : k = 15 ∧ j = 1
      · obtain ⟨rfl, rfl⟩ := e
        exact hw p y a4
      · exact h2 k j p y a1 a2 a3 (by rw [nz_q e]; exact a4)
    · rintro ⟨h1, h2⟩
      refine ⟨h1, ?_⟩
      intro k j p y a1 a2 a3 a4
      by_cases e : k = 15 ∧ j = 1
      · have : (nz C).q k j p = none := if_pos e
        rw [this] at a4
        cases a4
      · exact h2 k j p y a1 a2 a3 (by rw [← nz_q e]; exact a4)
  have e2 : RC_sz (nz C) A.m ↔ RC_sz C A.m := Iff.rfl
  have e3 : RC_pr N (nz C) A ↔ RC_pr N C A := by
    unfold RC_pr
    constructor
    · intro h o ho
      have := h o ho
      cases hp : A.pre o with
      | nil => rw [hp] at this; exact this
      | cons a l =>
        rw [hp] at this
        obtain ⟨j, b1, b2, b3, b4, b5⟩ := this
        exact ⟨j, b1, b2, b3, b4, fun k hk => by rw [← nz_q (C := C) (k := 15) (j := j) (by omega)]; exact b5 k hk⟩
    · intro h o ho
      have := h o ho
      cases hp : A.pre o with
      | nil => rw [hp] at this; exact this
      | cons a l =>
        rw [hp] at this
        obtain ⟨j, b1, b2, b3, b4, b5⟩ := this
        exact ⟨j, b1, b2, b3, b4, fun k hk => by rw [nz_q (C := C) (k := 15) (j := j) (by omega)]; exact b5 k hk⟩
  have e4 : RC_cg (nz C) A ↔ RC_cg C A := by
    unfold RC_cg
    have h : ∀ c a, (nz C).a 12 (10 + c) a = C.a 12 (10 + c) a := fun c a => nz_a (by omega)
    simp only [h]
    exact Iff.rfl
  have e5 : RC_rp (nz C) A ↔ RC_rp C A := by
    unfold RC_rp
    constructor
    · intro h r hr
      have h1 := h r hr
      refine ⟨?_, h1.2⟩
      intro a ha
      rw [← nz_a (C := C) (k := 12) (j := r) (by omega)]
      exact h1.1 a ha
    · intro h r hr
      have h1 := h r hr
      refine ⟨?_, h1.2⟩
      intro a ha
      rw [nz_a (C := C) (k := 12) (j := r) (by omega)]
      exact h1.1 a ha
  have e6 : RC_op (nz C) A ↔ RC_op C A := Iff.rfl
  have e7 : RC_kp (nz C) A ↔ RC_kp C A := Iff.rfl
  unfold RC0
  rw [e1, e2, e3, e4, e5, e7]
  exact Iff.rfl
/-- what the view does leaves RC -/
theorem RC.scr {C' : CS} {rd rd' : Nat} (h : RC N C A rd) (he : nz C' = nz C) (hs : SC A C' rd') : RC N C' A rd' := by
  have e : N 3 = A.n + 1 := h.1.1.2.2.2.1
  refine ⟨(nz_both (by rw [e]; exact hs.2.2)).mp ?_, hs⟩
  rw [he]
  exact (nz_both (by rw [e]; exact h.2.2.2)).mpr h.1
end NZ
