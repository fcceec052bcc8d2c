/-! THE REFERENCE AS FUNCTIONS: its state MS, its world mw; printed functions are built of ob, gd, lp. Printed by wip/gen/ms.py -/
def MS : Type := (Nat → Int32) × (Nat → Nat → Int32) × (Nat → Nat → Int64)
def MS.i (S : MS) : Nat → Int32 := S.1
def MS.a (S : MS) : Nat → Nat → Int32 := S.2.1
def MS.n (S : MS) : Nat → Nat → Int64 := S.2.2
def MS.setI (S : MS) (k : Nat) (v : Int32) : MS := (fun j => if j = k then v else S.i j, S.a, S.n)
def MS.setA (S : MS) (k : Nat) (f : Nat → Int32) : MS := (S.i, fun j => if j = k then f else S.a j, S.n)
def MS.setN (S : MS) (k : Nat) (f : Nat → Int64) : MS := (S.i, S.a, fun j => if j = k then f else S.n j)
/-- how often a printed loop may go round -/
def FU : Nat := 1000000
def ob {α τ : Type} (x : Option α) (f : α → Option τ) : Option τ := match x with
  | none => none
  | some a => f a
def ob2 {α β τ : Type} (x : Option (α × β)) (f : α → β → Option τ) : Option τ := match x with
  | none => none
  | some (a, b) => f a b
def oe {β ρ τ : Type} (x : Option (β ⊕ ρ)) (f : β → Option τ) (g : ρ → Option τ) : Option τ := match x with
  | none => none
  | some (.inl b) => f b
  | some (.inr r) => g r
def gd {τ : Type} (i : Int32) (n : Nat) (k : Option τ) : Option τ := if i < 0 then none else if n ≤ i.toNatClampNeg then none else k
def gB {τ : Type} (k : Nat) (x : Option τ) : Option τ := if k = 1 ∨ k = 2 ∨ k = 3 ∨ k = 62 then x else none
def gR {τ : Type} (k : Nat) (x : Option τ) : Option τ := if k < 8 then x else none
def lp {α ε : Type} (body : α → Option (α ⊕ ε)) : Nat → α → Option ε
  | 0, _ => none
  | n + 1, a => match body a with
    | none => none
    | some (.inl a') => lp body n a'
    | some (.inr e) => some e
def ushr32 (x y : Int32) : Int32 := (x.toUInt32 >>> (y.toUInt32 &&& Int32.toUInt32 31)).toInt32
def ushr64 (x : Int64) (y : Int32) : Int64 := (x.toUInt64 >>> (y.toInt64.toUInt64 &&& Int64.toUInt64 63)).toInt64
theorem ob_some {α τ : Type} {x : Option α} {f : α → Option τ} {o : τ} (h : ob x f = some o) : ∃ a, x = some a ∧ f a = some o := by
  cases x with
  | none => cases h
  | some a => exact ⟨a, rfl, h⟩
theorem ob2_some {α β τ : Type} {x : Option (α × β)} {f : α → β → Option τ} {o : τ} (h : ob2 x f = some o) : ∃ a b, x = some (a, b) ∧ f a b = some o := by
  cases x with
  | none => cases h
  | some a => exact ⟨a.1, a.2, rfl, h⟩
theorem oe_some {β ρ τ : Type} {x : Option (β ⊕ ρ)} {f : β → Option τ} {g : ρ → Option τ} {o : τ} (h : oe x f g = some o) : (∃ b, x = some (.inl b) ∧ f b = some o) ∨ ∃ r, x = some (.inr r) ∧ g r = some o := by
  match x, h with
  | some (.inl b), h => exact Or.inl ⟨b, rfl, h⟩
  | some (.inr r), h => exact Or.inr ⟨r, rfl, h⟩
theorem gd_some {τ : Type} {i : Int32} {n : Nat} {k : Option τ} {o : τ} (h : gd i n k = some o) : vp_in i n ∧ k = some o := by
  unfold gd at h
  split at h
  · cases h
  · split at h
    · cases h
    · rename_i h1 h2
      exact ⟨fun q => q.elim h1 h2, h⟩
theorem gB_some {τ : Type} {k : Nat} {x : Option τ} {o : τ} (h : gB k x = some o) : (k = 1 ∨ k = 2 ∨ k = 3 ∨ k = 62) ∧ x = some o := by
  unfold gB at h
  split at h
  · rename_i h1; exact ⟨h1, h⟩
  · cases h
theorem gR_some {τ : Type} {k : Nat} {x : Option τ} {o : τ} (h : gR k x = some o) : k < 8 ∧ x = some o := by
  unfold gR at h
  split at h
  · rename_i h1; exact ⟨h1, h⟩
  · cases h
theorem vp_in.lt {i : Int32} {n : Nat} (h : vp_in i n) : i.toNatClampNeg < n := Nat.not_le.mp fun q => h (Or.inr q)
theorem lp_w {α ε : Type} {body : α → Option (α ⊕ ε)} {G : α → Prop} {e : ε} (hb : ∀ a o, body a = some o → (∀ a', o = .inl a' → G a') → (∀ e', o = .inr e' → e' = e) → G a) : ∀ n a, lp body n a = some e → G a := by
  intro n
  induction n with
  | zero => intro a h; cases h
  | succ n ih =>
    intro a h
    unfold lp at h
    cases ho : body a with
    | none => rw [ho] at h; cases h
    | some o =>
      rw [ho] at h
      cases o with
      | inl a' => exact hb a _ ho (fun a'' h' => by cases h'; exact ih a' h) (fun e' h' => by cases h')
      | inr e' => exact hb a _ ho (fun a'' h' => by cases h') (fun e'' h' => by cases h'; cases h; rfl)
def mObj (md : Nat → Nat) (S : MS) : List Value := [.int (S.i 0), .ref (md 1), .ref (md 2), .ref (md 3), .int (S.i 4), .int (S.i 5), .int (S.i 6), .int (S.i 7), .ref (md 8), .ref (md 9), .ref (md 10), .ref (md 11), .ref (md 12), .ref (md 13), .ref (md 14), .ref (md 15), .ref (md 16), .ref (md 17), .ref (md 18), .ref (md 19), .ref (md 20), .ref (md 21), .ref (md 22), .int (S.i 23), .ref (md 24), .int (S.i 25), .ref (md 26), .int (S.i 27), .ref (md 28), .ref (md 29), .ref (md 30), .ref (md 31), .ref (md 32), .ref (md 33), .int (S.i 34), .int (S.i 35), .ref (md 36), .ref (md 37), .ref (md 38), .ref (md 39), .ref (md 40), .int (S.i 41), .int (S.i 42), .int (S.i 43), .ref (md 44), .ref (md 45), .ref (md 46), .int (S.i 47), .ref (md 48), .ref (md 49), .int (S.i 50), .ref (md 51), .int (S.i 52), .ref (md 53), .ref (md 54), .ref (md 55), .ref (md 56), .ref (md 57), .ref (md 58), .ref (md 59), .ref (md 60), .ref (md 61), .ref (md 62), .ref (md 63), .int (S.i 64), .int (S.i 65), .int (S.i 66), .int (S.i 67), .int (S.i 68), .int (S.i 69), .ref (md 70), .int (S.i 71), .ref (md 72), .int (S.i 73), .int (S.i 74), .int (S.i 75), .int (S.i 76)]
def mw (md : Nat → Nat) (mc : Nat → ClassId) (S : MS) : va_W := [(md 100, .inr (12, mObj md S)), (md 1, .inl (mc 1, 8300, .inl (S.a 1))), (md 2, .inl (mc 1, 8300, .inl (S.a 2))), (md 3, .inl (mc 1, 8300, .inl (S.a 3))), (md 8, .inl (mc 0, 4000, .inl (S.a 8))), (md 9, .inl (mc 0, 4000, .inl (S.a 9))), (md 10, .inl (mc 0, 4000, .inl (S.a 10))), (md 11, .inl (mc 0, 4000, .inl (S.a 11))), (md 12, .inl (mc 0, 4000, .inl (S.a 12))), (md 13, .inl (mc 0, 4000, .inl (S.a 13))), (md 14, .inl (mc 0, 4000, .inl (S.a 14))), (md 15, .inl (mc 0, 4000, .inl (S.a 15))), (md 16, .inl (mc 0, 4000, .inl (S.a 16))), (md 17, .inl (mc 0, 4000, .inl (S.a 17))), (md 18, .inl (mc 0, 4000, .inl (S.a 18))), (md 19, .inl (mc 0, 4000, .inl (S.a 19))), (md 20, .inl (mc 2, 4000, .inl (S.a 20))), (md 21, .inl (mc 2, 4000, .inl (S.a 21))), (md 22, .inl (mc 3, 4000, .inr (.inl (S.n 22)))), (md 24, .inl (mc 0, 40000, .inl (S.a 24))), (md 26, .inl (mc 1, 32876, .inl (S.a 26))), (md 28, .inl (mc 0, 4000, .inl (S.a 28))), (md 29, .inl (mc 0, 1000, .inl (S.a 29))), (md 30, .inl (mc 0, 1000, .inl (S.a 30))), (md 31, .inl (mc 0, 1000, .inl (S.a 31))), (md 32, .inl (mc 0, 1000, .inl (S.a 32))), (md 33, .inl (mc 0, 10000, .inl (S.a 33))), (md 39, .inl (mc 0, 8, .inl (S.a 39))), (md 40, .inl (mc 1, 800000, .inl (S.a 40))), (md 44, .inl (mc 2, 1000, .inl (S.a 44))), (md 45, .inl (mc 2, 4000, .inl (S.a 45))), (md 46, .inl (mc 0, 4000, .inl (S.a 46))), (md 48, .inl (mc 0, 4000, .inl (S.a 48))), (md 49, .inl (mc 0, 4001, .inl (S.a 49))), (md 51, .inl (mc 2, 4000, .inl (S.a 51))), (md 53, .inl (mc 0, 501, .inl (S.a 53))), (md 54, .inl (mc 0, 501, .inl (S.a 54))), (md 55, .inl (mc 0, 501, .inl (S.a 55))), (md 56, .inl (mc 0, 501, .inl (S.a 56))), (md 57, .inl (mc 0, 501, .inl (S.a 57))), (md 58, .inl (mc 0, 501, .inl (S.a 58))), (md 59, .inl (mc 0, 501, .inl (S.a 59))), (md 60, .inl (mc 0, 501, .inl (S.a 60))), (md 61, .inl (mc 3, 501, .inr (.inl (S.n 61)))), (md 62, .inl (mc 1, 8300, .inl (S.a 62))), (md 63, .inl (mc 0, 32, .inl (S.a 63))), (md 70, .inl (mc 0, 4000, .inl (S.a 70))), (md 72, .inl (mc 0, 12010, .inl (S.a 72))), (md 36, .inl (mc 4, 8, .inr (.inr (.inr (.inr (fun r => some (md (101 + r)))))))), (md 37, .inl (mc 4, 8, .inr (.inr (.inr (.inr (fun r => some (md (109 + r)))))))), (md 38, .inl (mc 4, 8, .inr (.inr (.inr (.inr (fun r => some (md (117 + r)))))))), (md 101, .inl (mc 2, 1000, .inl (S.a 101))), (md 102, .inl (mc 2, 1000, .inl (S.a 102))), (md 103, .inl (mc 2, 1000, .inl (S.a 103))), (md 104, .inl (mc 2, 1000, .inl (S.a 104))), (md 105, .inl (mc 2, 1000, .inl (S.a 105))), (md 106, .inl (mc 2, 1000, .inl (S.a 106))), (md 107, .inl (mc 2, 1000, .inl (S.a 107))), (md 108, .inl (mc 2, 1000, .inl (S.a 108))), (md 109, .inl (mc 2, 1000, .inl (S.a 109))), (md 110, .inl (mc 2, 1000, .inl (S.a 110))), (md 111, .inl (mc 2, 1000, .inl (S.a 111))), (md 112, .inl (mc 2, 1000, .inl (S.a 112))), (md 113, .inl (mc 2, 1000, .inl (S.a 113))), (md 114, .inl (mc 2, 1000, .inl (S.a 114))), (md 115, .inl (mc 2, 1000, .inl (S.a 115))), (md 116, .inl (mc 2, 1000, .inl (S.a 116))), (md 117, .inl (mc 2, 1000, .inl (S.a 117))), (md 118, .inl (mc 2, 1000, .inl (S.a 118))), (md 119, .inl (mc 2, 1000, .inl (S.a 119))), (md 120, .inl (mc 2, 1000, .inl (S.a 120))), (md 121, .inl (mc 2, 1000, .inl (S.a 121))), (md 122, .inl (mc 2, 1000, .inl (S.a 122))), (md 123, .inl (mc 2, 1000, .inl (S.a 123))), (md 124, .inl (mc 2, 1000, .inl (S.a 124)))]
abbrev mty (mc : Nat → ClassId) : List (ClassId × FieldType) := [(mc 0, .int), (mc 1, .byte), (mc 2, .boolean), (mc 3, .long), (mc 4, .array .boolean)]
section MWL
variable {md : Nat → Nat} {mc : Nat → ClassId} {S : MS}
theorem mw_I0 {v : Int32} : (mw md mc S).set 0 (md 100, .inr (12, (mObj md S).set 0 (.int v))) = mw md mc (S.setI 0 v) := rfl
theorem mw_I4 {v : Int32} : (mw md mc S).set 0 (md 100, .inr (12, (mObj md S).set 4 (.int v))) = mw md mc (S.setI 4 v) := rfl
theorem mw_I5 {v : Int32} : (mw md mc S).set 0 (md 100, .inr (12, (mObj md S).set 5 (.int v))) = mw md mc (S.setI 5 v) := rfl
theorem mw_I6 {v : Int32} : (mw md mc S).set 0 (md 100, .inr (12, (mObj md S).set 6 (.int v))) = mw md mc (S.setI 6 v) := rfl
theorem mw_I7 {v : Int32} : (mw md mc S).set 0 (md 100, .inr (12, (mObj md S).set 7 (.int v))) = mw md mc (S.setI 7 v) := rfl
theorem mw_I23 {v : Int32} : (mw md mc S).set 0 (md 100, .inr (12, (mObj md S).set 23 (.int v))) = mw md mc (S.setI 23 v) := rfl
theorem mw_I25 {v : Int32} : (mw md mc S).set 0 (md 100, .inr (12, (mObj md S).set 25 (.int v))) = mw md mc (S.setI 25 v) := rfl
theorem mw_I27 {v : Int32} : (mw md mc S).set 0 (md 100, .inr (12, (mObj md S).set 27 (.int v))) = mw md mc (S.setI 27 v) := rfl
theorem mw_I34 {v : Int32} : (mw md mc S).set 0 (md 100, .inr (12, (mObj md S).set 34 (.int v))) = mw md mc (S.setI 34 v) := rfl
theorem mw_I35 {v : Int32} : (mw md mc S).set 0 (md 100, .inr (12, (mObj md S).set 35 (.int v))) = mw md mc (S.setI 35 v) := rfl
theorem mw_I41 {v : Int32} : (mw md mc S).set 0 (md 100, .inr (12, (mObj md S).set 41 (.int v))) = mw md mc (S.setI 41 v) := rfl
theorem mw_I42 {v : Int32} : (mw md mc S).set 0 (md 100, .inr (12, (mObj md S).set 42 (.int v))) = mw md mc (S.setI 42 v) := rfl
theorem mw_I43 {v : Int32} : (mw md mc S).set 0 (md 100, .inr (12, (mObj md S).set 43 (.int v))) = mw md mc (S.setI 43 v) := rfl
theorem mw_I47 {v : Int32} : (mw md mc S).set 0 (md 100, .inr (12, (mObj md S).set 47 (.int v))) = mw md mc (S.setI 47 v) := rfl
theorem mw_I50 {v : Int32} : (mw md mc S).set 0 (md 100, .inr (12, (mObj md S).set 50 (.int v))) = mw md mc (S.setI 50 v) := rfl
theorem mw_I52 {v : Int32} : (mw md mc S).set 0 (md 100, .inr (12, (mObj md S).set 52 (.int v))) = mw md mc (S.setI 52 v) := rfl
theorem mw_I64 {v : Int32} : (mw md mc S).set 0 (md 100, .inr (12, (mObj md S).set 64 (.int v))) = mw md mc (S.setI 64 v) := rfl
theorem mw_I65 {v : Int32} : (mw md mc S).set 0 (md 100, .inr (12, (mObj md S).set 65 (.int v))) = mw md mc (S.setI 65 v) := rfl
theorem mw_I66 {v : Int32} : (mw md mc S).set 0 (md 100, .inr (12, (mObj md S).set 66 (.int v))) = mw md mc (S.setI 66 v) := rfl
theorem mw_I67 {v : Int32} : (mw md mc S).set 0 (md 100, .inr (12, (mObj md S).set 67 (.int v))) = mw md mc (S.setI 67 v) := rfl
theorem mw_I68 {v : Int32} : (mw md mc S).set 0 (md 100, .inr (12, (mObj md S).set 68 (.int v))) = mw md mc (S.setI 68 v) := rfl
theorem mw_I69 {v : Int32} : (mw md mc S).set 0 (md 100, .inr (12, (mObj md S).set 69 (.int v))) = mw md mc (S.setI 69 v) := rfl
theorem mw_I71 {v : Int32} : (mw md mc S).set 0 (md 100, .inr (12, (mObj md S).set 71 (.int v))) = mw md mc (S.setI 71 v) := rfl
theorem mw_I73 {v : Int32} : (mw md mc S).set 0 (md 100, .inr (12, (mObj md S).set 73 (.int v))) = mw md mc (S.setI 73 v) := rfl
theorem mw_I74 {v : Int32} : (mw md mc S).set 0 (md 100, .inr (12, (mObj md S).set 74 (.int v))) = mw md mc (S.setI 74 v) := rfl
theorem mw_I75 {v : Int32} : (mw md mc S).set 0 (md 100, .inr (12, (mObj md S).set 75 (.int v))) = mw md mc (S.setI 75 v) := rfl
theorem mw_I76 {v : Int32} : (mw md mc S).set 0 (md 100, .inr (12, (mObj md S).set 76 (.int v))) = mw md mc (S.setI 76 v) := rfl
theorem mw_A1 {f : Nat → Int32} : (mw md mc S).set 1 (md 1, .inl (mc 1, 8300, .inl f)) = mw md mc (S.setA 1 f) := rfl
theorem mw_A2 {f : Nat → Int32} : (mw md mc S).set 2 (md 2, .inl (mc 1, 8300, .inl f)) = mw md mc (S.setA 2 f) := rfl
theorem mw_A3 {f : Nat → Int32} : (mw md mc S).set 3 (md 3, .inl (mc 1, 8300, .inl f)) = mw md mc (S.setA 3 f) := rfl
theorem mw_A8 {f : Nat → Int32} : (mw md mc S).set 4 (md 8, .inl (mc 0, 4000, .inl f)) = mw md mc (S.setA 8 f) := rfl
theorem mw_A9 {f : Nat → Int32} : (mw md mc S).set 5 (md 9, .inl (mc 0, 4000, .inl f)) = mw md mc (S.setA 9 f) := rfl
theorem mw_A10 {f : Nat → Int32} : (mw md mc S).set 6 (md 10, .inl (mc 0, 4000, .inl f)) = mw md mc (S.setA 10 f) := rfl
theorem mw_A11 {f : Nat → Int32} : (mw md mc S).set 7 (md 11, .inl (mc 0, 4000, .inl f)) = mw md mc (S.setA 11 f) := rfl
theorem mw_A12 {f : Nat → Int32} : (mw md mc S).set 8 (md 12, .inl (mc 0, 4000, .inl f)) = mw md mc (S.setA 12 f) := rfl
theorem mw_A13 {f : Nat → Int32} : (mw md mc S).set 9 (md 13, .inl (mc 0, 4000, .inl f)) = mw md mc (S.setA 13 f) := rfl
theorem mw_A14 {f : Nat → Int32} : (mw md mc S).set 10 (md 14, .inl (mc 0, 4000, .inl f)) = mw md mc (S.setA 14 f) := rfl
theorem mw_A15 {f : Nat → Int32} : (mw md mc S).set 11 (md 15, .inl (mc 0, 4000, .inl f)) = mw md mc (S.setA 15 f) := rfl
theorem mw_A16 {f : Nat → Int32} : (mw md mc S).set 12 (md 16, .inl (mc 0, 4000, .inl f)) = mw md mc (S.setA 16 f) := rfl
theorem mw_A17 {f : Nat → Int32} : (mw md mc S).set 13 (md 17, .inl (mc 0, 4000, .inl f)) = mw md mc (S.setA 17 f) := rfl
theorem mw_A18 {f : Nat → Int32} : (mw md mc S).set 14 (md 18, .inl (mc 0, 4000, .inl f)) = mw md mc (S.setA 18 f) := rfl
theorem mw_A19 {f : Nat → Int32} : (mw md mc S).set 15 (md 19, .inl (mc 0, 4000, .inl f)) = mw md mc (S.setA 19 f) := rfl
theorem mw_A20 {f : Nat → Int32} : (mw md mc S).set 16 (md 20, .inl (mc 2, 4000, .inl f)) = mw md mc (S.setA 20 f) := rfl
theorem mw_A21 {f : Nat → Int32} : (mw md mc S).set 17 (md 21, .inl (mc 2, 4000, .inl f)) = mw md mc (S.setA 21 f) := rfl
theorem mw_A22 {f : Nat → Int64} : (mw md mc S).set 18 (md 22, .inl (mc 3, 4000, .inr (.inl f))) = mw md mc (S.setN 22 f) := rfl
theorem mw_A24 {f : Nat → Int32} : (mw md mc S).set 19 (md 24, .inl (mc 0, 40000, .inl f)) = mw md mc (S.setA 24 f) := rfl
theorem mw_A26 {f : Nat → Int32} : (mw md mc S).set 20 (md 26, .inl (mc 1, 32876, .inl f)) = mw md mc (S.setA 26 f) := rfl
theorem mw_A28 {f : Nat → Int32} : (mw md mc S).set 21 (md 28, .inl (mc 0, 4000, .inl f)) = mw md mc (S.setA 28 f) := rfl
theorem mw_A29 {f : Nat → Int32} : (mw md mc S).set 22 (md 29, .inl (mc 0, 1000, .inl f)) = mw md mc (S.setA 29 f) := rfl
theorem mw_A30 {f : Nat → Int32} : (mw md mc S).set 23 (md 30, .inl (mc 0, 1000, .inl f)) = mw md mc (S.setA 30 f) := rfl
theorem mw_A31 {f : Nat → Int32} : (mw md mc S).set 24 (md 31, .inl (mc 0, 1000, .inl f)) = mw md mc (S.setA 31 f) := rfl
theorem mw_A32 {f : Nat → Int32} : (mw md mc S).set 25 (md 32, .inl (mc 0, 1000, .inl f)) = mw md mc (S.setA 32 f) := rfl
theorem mw_A33 {f : Nat → Int32} : (mw md mc S).set 26 (md 33, .inl (mc 0, 10000, .inl f)) = mw md mc (S.setA 33 f) := rfl
theorem mw_A39 {f : Nat → Int32} : (mw md mc S).set 27 (md 39, .inl (mc 0, 8, .inl f)) = mw md mc (S.setA 39 f) := rfl
theorem mw_A40 {f : Nat → Int32} : (mw md mc S).set 28 (md 40, .inl (mc 1, 800000, .inl f)) = mw md mc (S.setA 40 f) := rfl
theorem mw_A44 {f : Nat → Int32} : (mw md mc S).set 29 (md 44, .inl (mc 2, 1000, .inl f)) = mw md mc (S.setA 44 f) := rfl
theorem mw_A45 {f : Nat → Int32} : (mw md mc S).set 30 (md 45, .inl (mc 2, 4000, .inl f)) = mw md mc (S.setA 45 f) := rfl
theorem mw_A46 {f : Nat → Int32} : (mw md mc S).set 31 (md 46, .inl (mc 0, 4000, .inl f)) = mw md mc (S.setA 46 f) := rfl
theorem mw_A48 {f : Nat → Int32} : (mw md mc S).set 32 (md 48, .inl (mc 0, 4000, .inl f)) = mw md mc (S.setA 48 f) := rfl
theorem mw_A49 {f : Nat → Int32} : (mw md mc S).set 33 (md 49, .inl (mc 0, 4001, .inl f)) = mw md mc (S.setA 49 f) := rfl
theorem mw_A51 {f : Nat → Int32} : (mw md mc S).set 34 (md 51, .inl (mc 2, 4000, .inl f)) = mw md mc (S.setA 51 f) := rfl
theorem mw_A53 {f : Nat → Int32} : (mw md mc S).set 35 (md 53, .inl (mc 0, 501, .inl f)) = mw md mc (S.setA 53 f) := rfl
theorem mw_A54 {f : Nat → Int32} : (mw md mc S).set 36 (md 54, .inl (mc 0, 501, .inl f)) = mw md mc (S.setA 54 f) := rfl
theorem mw_A55 {f : Nat → Int32} : (mw md mc S).set 37 (md 55, .inl (mc 0, 501, .inl f)) = mw md mc (S.setA 55 f) := rfl
theorem mw_A56 {f : Nat → Int32} : (mw md mc S).set 38 (md 56, .inl (mc 0, 501, .inl f)) = mw md mc (S.setA 56 f) := rfl
theorem mw_A57 {f : Nat → Int32} : (mw md mc S).set 39 (md 57, .inl (mc 0, 501, .inl f)) = mw md mc (S.setA 57 f) := rfl
theorem mw_A58 {f : Nat → Int32} : (mw md mc S).set 40 (md 58, .inl (mc 0, 501, .inl f)) = mw md mc (S.setA 58 f) := rfl
theorem mw_A59 {f : Nat → Int32} : (mw md mc S).set 41 (md 59, .inl (mc 0, 501, .inl f)) = mw md mc (S.setA 59 f) := rfl
theorem mw_A60 {f : Nat → Int32} : (mw md mc S).set 42 (md 60, .inl (mc 0, 501, .inl f)) = mw md mc (S.setA 60 f) := rfl
theorem mw_A61 {f : Nat → Int64} : (mw md mc S).set 43 (md 61, .inl (mc 3, 501, .inr (.inl f))) = mw md mc (S.setN 61 f) := rfl
theorem mw_A62 {f : Nat → Int32} : (mw md mc S).set 44 (md 62, .inl (mc 1, 8300, .inl f)) = mw md mc (S.setA 62 f) := rfl
theorem mw_A63 {f : Nat → Int32} : (mw md mc S).set 45 (md 63, .inl (mc 0, 32, .inl f)) = mw md mc (S.setA 63 f) := rfl
theorem mw_A70 {f : Nat → Int32} : (mw md mc S).set 46 (md 70, .inl (mc 0, 4000, .inl f)) = mw md mc (S.setA 70 f) := rfl
theorem mw_A72 {f : Nat → Int32} : (mw md mc S).set 47 (md 72, .inl (mc 0, 12010, .inl f)) = mw md mc (S.setA 72 f) := rfl
/-- where a byte[] that may be given stands -/
def bpos (k : Nat) : Nat := if k = 1 then 1 else if k = 2 then 2 else if k = 3 then 3 else 44
theorem mp_B {k : Nat} (h : k = 1 ∨ k = 2 ∨ k = 3 ∨ k = 62) : (mw md mc S)[bpos k]? = some (md k, .inl (mc 1, 8300, .inl (S.a k))) := by
  rcases h with rfl | rfl | rfl | rfl <;> rfl
theorem mw_B {k : Nat} (h : k = 1 ∨ k = 2 ∨ k = 3 ∨ k = 62) {f : Nat → Int32} : (mw md mc S).set (bpos k) (md k, .inl (mc 1, 8300, .inl f)) = mw md mc (S.setA k f) := by
  rcases h with rfl | rfl | rfl | rfl <;> rfl
theorem mp_R101 {r : Nat} (h : r < 8) : (mw md mc S)[51 + r]? = some (md (101 + r), .inl (mc 2, 1000, .inl (S.a (101 + r)))) := by
  match r, h with
  | 0, _ => rfl
  | 1, _ => rfl
  | 2, _ => rfl
  | 3, _ => rfl
  | 4, _ => rfl
  | 5, _ => rfl
  | 6, _ => rfl
  | 7, _ => rfl
  | n + 8, h => exact absurd h (by omega)
theorem mw_R101 {r : Nat} (h : r < 8) {f : Nat → Int32} : (mw md mc S).set (51 + r) (md (101 + r), .inl (mc 2, 1000, .inl f)) = mw md mc (S.setA (101 + r) f) := by
  match r, h with
  | 0, _ => rfl
  | 1, _ => rfl
  | 2, _ => rfl
  | 3, _ => rfl
  | 4, _ => rfl
  | 5, _ => rfl
  | 6, _ => rfl
  | 7, _ => rfl
  | n + 8, h => exact absurd h (by omega)
theorem mp_R109 {r : Nat} (h : r < 8) : (mw md mc S)[59 + r]? = some (md (109 + r), .inl (mc 2, 1000, .inl (S.a (109 + r)))) := by
  match r, h with
  | 0, _ => rfl
  | 1, _ => rfl
  | 2, _ => rfl
  | 3, _ => rfl
  | 4, _ => rfl
  | 5, _ => rfl
  | 6, _ => rfl
  | 7, _ => rfl
  | n + 8, h => exact absurd h (by omega)
theorem mw_R109 {r : Nat} (h : r < 8) {f : Nat → Int32} : (mw md mc S).set (59 + r) (md (109 + r), .inl (mc 2, 1000, .inl f)) = mw md mc (S.setA (109 + r) f) := by
  match r, h with
  | 0, _ => rfl
  | 1, _ => rfl
  | 2, _ => rfl
  | 3, _ => rfl
  | 4, _ => rfl
  | 5, _ => rfl
  | 6, _ => rfl
  | 7, _ => rfl
  | n + 8, h => exact absurd h (by omega)
theorem mp_R117 {r : Nat} (h : r < 8) : (mw md mc S)[67 + r]? = some (md (117 + r), .inl (mc 2, 1000, .inl (S.a (117 + r)))) := by
  match r, h with
  | 0, _ => rfl
  | 1, _ => rfl
  | 2, _ => rfl
  | 3, _ => rfl
  | 4, _ => rfl
  | 5, _ => rfl
  | 6, _ => rfl
  | 7, _ => rfl
  | n + 8, h => exact absurd h (by omega)
theorem mw_R117 {r : Nat} (h : r < 8) {f : Nat → Int32} : (mw md mc S).set (67 + r) (md (117 + r), .inl (mc 2, 1000, .inl f)) = mw md mc (S.setA (117 + r) f) := by
  match r, h with
  | 0, _ => rfl
  | 1, _ => rfl
  | 2, _ => rfl
  | 3, _ => rfl
  | 4, _ => rfl
  | 5, _ => rfl
  | 6, _ => rfl
  | 7, _ => rfl
  | n + 8, h => exact absurd h (by omega)
end MWL
section ALD2
variable {p : Program} {l : Launch} {e : Env} {R : Room} {s : State} {m : MethodId} {args : Array Value} {below : List Frame} {meth : Method} {c : Code} {H : Heap} {locs : List Loc} {cells slots : Nat} {Q : State → Prop}
variable {cc : ByteArray} {pc : Nat} {ls : Array Slot} {rest : List Value} {D : va_G} {cl : List vw_C} {a : Nat} {tys : List (ClassId × FieldType)} {ws : va_W}
/-- aaload out of an array of arrays -/
theorem tx_ald2 (hexec : p.tables.exec = Jvm.exec) (hb : c.code = cc) (hK : va_K D cl tys s) (hP : va_P D cl ws H) (q0 t0 : Nat) {cA : ClassId} {n : Nat} {f : Nat → Option Nat} (ha : ws[q0]? = some (a, .inl (cA, n, .inr (.inr (.inr (.inr f)))))) (ht : tys[t0]? = some (cA, .array .boolean)) {i : Int32} (hin : vp_in i n) (hdg : decode cc pc = .ok (.aaload, 1))
    (kk : W p l e R s m args below meth c H locs cells slots Q (F0 m (pc + 1) ls (va_rf (f i.toNatClampNeg) :: rest))) : W p l e R s m args below meth c H locs cells slots Q (F0 m pc ls (.int i :: .ref a :: rest)) := by
  have hlt : i.toNatClampNeg < n := Nat.not_le.mp fun q => hin (Or.inr q)
  exact W.aald (v := va_rf (f i.toNatClampNeg)) (ty := .array .boolean) hexec hb (hP q0 _ ha) ((hK.2 t0 _ ht).1 n (fun j => va_rf (f j))) rfl (fun q => by cases q) (by show ¬ (i < 0 ∨ (arrV _ _ _).slots.size ≤ _); rw [arrV_size]; exact hin) (by show (arrV _ _ _).slots[_]? = _; rw [arrV_read _ _ hlt]) rfl rfl hdg kk
end ALD2
