/-! THE REFERENCE'S STATE AND THE ABSTRACT ONE (RS). -/
def AS.hasB (A : AS) (r c : Nat) : Bool := decide (c < A.m) && decide (A.cu c ≤ A.hv r (A.ca c))
def AS.cloB (A : AS) (c d : Nat) : Bool := decide (d < A.m) && decide (A.cu d ≤ A.cl c (A.ca d))
def AS.hidB (A : AS) (r o : Nat) : Bool := (List.range A.n).any (fun p => A.inV r p && !decide (A.act p = 10) && (A.pre p).contains o)
def AS.visB (A : AS) (r o : Nat) : Bool := A.inV r o && decide (A.act o ≤ 8) && !A.hidB r o
theorem hasB_iff {A : AS} {r c : Nat} : A.hasB r c = true ↔ A.has r c := by unfold AS.hasB AS.has; simp
theorem cloB_iff {A : AS} {r c : Nat} : A.cloB r c = true ↔ A.clo r c := by unfold AS.cloB AS.clo; simp
theorem hidB_iff {A : AS} {r o : Nat} : A.hidB r o = true ↔ A.hid r o := by
  unfold AS.hidB AS.hid
  simp only [List.any_eq_true, List.mem_range, Bool.and_eq_true, Bool.not_eq_true', decide_eq_false_iff_not, List.contains_iff_mem]
  constructor
  · rintro ⟨p, h1, ⟨h2, h3⟩, h4⟩; exact ⟨p, h1, h2, h3, h4⟩
  · rintro ⟨p, h1, h2, h3, h4⟩; exact ⟨p, h1, ⟨h2, h3⟩, h4⟩
theorem visB_iff {A : AS} {r o : Nat} : A.visB r o = true ↔ A.vis r o := by
  unfold AS.visB AS.vis
  rw [← hidB_iff]
  simp [and_assoc]
/-- candidates at a spot, greatest first -/
def AS.cd (A : AS) (r s : Nat) : List Nat := (A.O s).filter (A.visB r)
/-- a number or -1 -/
def cI (x : Option Nat) : Int32 := match x with
  | none => -1
  | some c => nI c
/-- a byte as the arrays hold it -/
def sb (x : Nat) : Int32 := (nI x).toInt8.toInt32
def R_n (S : MS) (A : AS) : Prop := S.i 23 = nI A.n ∧ S.i 34 = nI A.m ∧ S.i 27 = nI A.kn
def R_op (S : MS) (A : AS) : Prop := ∀ o, o < A.n → S.a 8 o = nI (A.id o) ∧ S.a 9 o = nI (A.oi (A.obj o)) ∧ S.a 10 o = nI (A.pl o) ∧ S.a 11 o = nI (A.act o) ∧ S.a 12 o = nI (A.own o) ∧ S.a 13 o = cI (A.chg o) ∧ S.a 20 o = nI (A.ins o) ∧ S.a 21 o = nI (A.gone o) ∧ S.n 22 o = A.num o
def R_tx (S : MS) (A : AS) : Prop := ∀ o, o < A.n → (A.key o ≠ [] → S.a 14 o = nI (A.ba o)) ∧ S.a 15 o = nI (A.key o).length ∧ (A.str o ≠ [] → S.a 16 o = nI (A.ba o + (A.key o).length)) ∧ S.a 17 o = nI (A.str o).length ∧ (A.act o ≠ 4 → A.str o = []) ∧
  A.ba o + (A.key o).length + (A.str o).length ≤ A.kn ∧ (∀ i (h : i < (A.key o).length), (A.key o)[i] < 256 ∧ S.a 26 (A.ba o + i) = sb (A.key o)[i]) ∧ (∀ i (h : i < (A.str o).length), (A.str o)[i] < 256 ∧ S.a 26 (A.ba o + (A.key o).length + i) = sb (A.str o)[i])
def R_pr (S : MS) (A : AS) : Prop := ∃ (t : Nat) (pa : Nat → Nat), S.i 25 = nI t ∧ t ≤ 8 * A.n ∧ ∀ o, o < A.n → S.a 18 o = nI (pa o) ∧ S.a 19 o = nI (A.pre o).length ∧ pa o + (A.pre o).length ≤ t ∧ ∀ k (h : k < (A.pre o).length), S.a 24 (pa o + k) = nI (A.pre o)[k]
def R_od (S : MS) (A : AS) : Prop := ∃ od : List Nat, od.length = A.n ∧ (∀ i (h : i < od.length), S.a 28 i = nI od[i]) ∧ od.Nodup ∧ (∀ o, o ∈ od ↔ o < A.n) ∧ od.Pairwise (fun a b => A.id a ≤ A.id b)
def R_cg (S : MS) (A : AS) : Prop := ∀ c, c < A.m → S.a 29 c = nI (A.ca c) ∧ S.a 30 c = nI (A.cu c)
def R_dp (S : MS) (A : AS) : Prop := ∃ (t : Nat) (da : Nat → Nat) (dl : Nat → List Nat), S.i 35 = nI t ∧ t ≤ 8 * A.m ∧ ∀ c, c < A.m → S.a 31 c = nI (da c) ∧ S.a 32 c = nI (dl c).length ∧ da c + (dl c).length ≤ t ∧ (dl c).Nodup ∧ (∀ d, d ∈ dl c ↔ A.dp c d = true) ∧ ∀ k (h : k < (dl c).length), S.a 33 (da c + k) = nI (dl c)[k]
def R_rp (S : MS) (A : AS) : Prop := ∀ r, r < 8 → S.a 39 r = cI (A.lk r) ∧ ∀ c, c < 1000 → S.a (101 + r) c = b2 (A.hasB r c) ∧ S.a (109 + r) c = b2 (A.wt r c) ∧ (S.a (117 + r) c = 0 ∨ S.a (117 + r) c = 1) ∧ (A.m ≤ c → S.a (117 + r) c = 0) ∧ ∀ c0, A.lk r = some c0 → S.a (117 + r) c = b2 (A.cloB c0 c)
def RS (S : MS) (A : AS) : Prop := R_n S A ∧ R_op S A ∧ R_tx S A ∧ R_pr S A ∧ R_od S A ∧ R_cg S A ∧ R_dp S A ∧ R_rp S A
/-- fields and rows of the reference that RS doesn't speak of -/
def scI (k : Nat) : Bool := !([23, 34, 27, 25, 35].contains k)
def scA (k : Nat) : Bool := ![8, 9, 10, 11, 12, 13, 20, 21, 14, 15, 16, 17, 26, 18, 19, 24, 28, 29, 30, 31, 32, 33, 39].contains k && decide (k < 101)
theorem RS.setI {S : MS} {A : AS} (h : RS S A) {k : Nat} {v : Int32} (hk : scI k = true) : RS (S.setI k v) A := by
  have hh : ∀ j, j = 23 ∨ j = 34 ∨ j = 27 ∨ j = 25 ∨ j = 35 → (S.setI k v).i j = S.i j := by
    intro j hj
    rw [MS.i_setI, if_neg]
    rintro rfl
    rcases hj with rfl | rfl | rfl | rfl | rfl <;> exact absurd hk (by decide)
  unfold RS R_n R_op R_tx R_pr R_od R_cg R_dp R_rp at *
  rw [hh 23 (by simp), hh 34 (by simp), hh 27 (by simp), hh 25 (by simp), hh 35 (by simp)]
  exact h
theorem RS.setA {S : MS} {A : AS} (h : RS S A) {k : Nat} {f : Nat → Int32} (hk : scA k = true) : RS (S.setA k f) A := by
  have hh : ∀ j, scA j = false → (S.setA k f).a j = S.a j := by
    intro j hj
    rw [MS.a_setA, if_neg]
    rintro rfl
    rw [hk] at hj
    cases hj
  have h2 : ∀ j, 101 ≤ j → (S.setA k f).a j = S.a j := by
    intro j hj
    rw [MS.a_setA, if_neg]
    rintro rfl
    unfold scA at hk
    simp at hk
    omega
  unfold RS R_n R_op R_tx R_pr R_od R_cg R_dp R_rp at *
  simp only [MS.i_setA, MS.n_setA]
  rw [hh 8 rfl, hh 9 rfl, hh 10 rfl, hh 11 rfl, hh 12 rfl, hh 13 rfl, hh 20 rfl, hh 21 rfl, hh 14 rfl, hh 15 rfl, hh 16 rfl, hh 17 rfl, hh 26 rfl, hh 18 rfl, hh 19 rfl, hh 24 rfl, hh 28 rfl, hh 29 rfl, hh 30 rfl, hh 31 rfl, hh 32 rfl, hh 33 rfl, hh 39 rfl]
  refine ⟨h.1, h.2.1, h.2.2.1, h.2.2.2.1, h.2.2.2.2.1, h.2.2.2.2.2.1, h.2.2.2.2.2.2.1, ?_⟩
  intro r hr
  have h3 := h.2.2.2.2.2.2.2 r hr
  refine ⟨h3.1, fun c hc => ?_⟩
  rw [h2 (101 + r) (by omega), h2 (109 + r) (by omega), h2 (117 + r) (by omega)]
  exact h3.2 c hc
theorem cI_neg {x : Option Nat} (h : ∀ c, x = some c → c < 1000) : (0 ≤ cI x) ↔ x ≠ none := by
  cases x with
  | none => simp [cI]
  | some c => simp only [cI, ne_eq, reduceCtorEq, not_false_eq_true, iff_true]; exact nI_pos' (by have := h c rfl; omega)
theorem rop {S : MS} {A : AS} (h : RS S A) (hA : AI A) (o : Nat) (ho : o < A.n) : S.a 8 o = nI (A.id o) ∧ S.a 9 o = nI (A.oi (A.obj o)) ∧ S.a 10 o = nI (A.plc o) ∧ S.a 11 o = nI (A.act o) ∧ S.a 12 o = nI (A.own o) ∧ S.a 13 o = cI (A.chg o) ∧ S.a 20 o = nI (A.ins o) ∧ S.a 21 o = nI (A.gone o) ∧ S.n 22 o = A.num o := by
  rw [← hA.2.2.2.2.1 o ho]
  exact h.2.1 o ho
