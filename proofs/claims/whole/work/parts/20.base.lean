/-! definitions alone: laid by wip/gen/pure.py, not for the hand-in -/
/-! THE REFERENCE AS FUNCTIONS: its state MS, its world mw; printed functions are built of ob, gd, lp. Printed by wip/gen/ms.py -/
def MS : Type := (Nat → Int32) × (Nat → Nat → Int32) × (Nat → Nat → Int64)
def MS.i (S : MS) : Nat → Int32 := S.1
def MS.a (S : MS) : Nat → Nat → Int32 := S.2.1
def MS.n (S : MS) : Nat → Nat → Int64 := S.2.2
def MS.setI (S : MS) (k : Nat) (v : Int32) : MS := (fun j => if j = k then v else S.i j, S.a, S.n)
def MS.setA (S : MS) (k : Nat) (f : Nat → Int32) : MS := (S.i, fun j => if j = k then f else S.a j, S.n)
def MS.setN (S : MS) (k : Nat) (f : Nat → Int64) : MS := (S.i, S.a, fun j => if j = k then f else S.n j)
/-- how often a printed loop may go round -/
def FU : Nat := 1000000
def ob {α τ : Type} (x : Option α) (f : α → Option τ) : Option τ := match x with
  | none => none
  | some a => f a
def ob2 {α β τ : Type} (x : Option (α × β)) (f : α → β → Option τ) : Option τ := match x with
  | none => none
  | some (a, b) => f a b
def oe {β ρ τ : Type} (x : Option (β ⊕ ρ)) (f : β → Option τ) (g : ρ → Option τ) : Option τ := match x with
  | none => none
  | some (.inl b) => f b
  | some (.inr r) => g r
def gd {τ : Type} (i : Int32) (n : Nat) (k : Option τ) : Option τ := if i < 0 then none else if n ≤ i.toNatClampNeg then none else k
def gB {τ : Type} (k : Nat) (x : Option τ) : Option τ := if k = 1 ∨ k = 2 ∨ k = 3 ∨ k = 62 then x else none
def gR {τ : Type} (k : Nat) (x : Option τ) : Option τ := if k < 8 then x else none
def lp {α ε : Type} (body : α → Option (α ⊕ ε)) : Nat → α → Option ε
  | 0, _ => none
  | n + 1, a => match body a with
    | none => none
    | some (.inl a') => lp body n a'
    | some (.inr e) => some e
def ushr32 (x y : Int32) : Int32 := (x.toUInt32 >>> (y.toUInt32 &&& Int32.toUInt32 31)).toInt32
def ushr64 (x : Int64) (y : Int32) : Int64 := (x.toUInt64 >>> (y.toInt64.toUInt64 &&& Int64.toUInt64 63)).toInt64
theorem ob_some {α τ : Type} {x : Option α} {f : α → Option τ} {o : τ} (h : ob x f = some o) : ∃ a, x = some a ∧ f a = some o := by
  cases x with
  | none => cases h
  | some a => exact ⟨a, rfl, h⟩
theorem ob2_some {α β τ : Type} {x : Option (α × β)} {f : α → β → Option τ} {o : τ} (h : ob2 x f = some o) : ∃ a b, x = some (a, b) ∧ f a b = some o := by
  cases x with
  | none => cases h
  | some a => exact ⟨a.1, a.2, rfl, h⟩
theorem oe_some {β ρ τ : Type} {x : Option (β ⊕ ρ)} {f : β → Option τ} {g : ρ → Option τ} {o : τ} (h : oe x f g = some o) : (∃ b, x = some (.inl b) ∧ f b = some o) ∨ ∃ r, x = some (.inr r) ∧ g r = some o := by
  match x, h with
  | some (.inl b), h => exact Or.inl ⟨b, rfl, h⟩
  | some (.inr r), h => exact Or.inr ⟨r, rfl, h⟩
theorem gd_some {τ : Type} {i : Int32} {n : Nat} {k : Option τ} {o : τ} (h : gd i n k = some o) : vp_in i n ∧ k = some o := by
  unfold gd at h
  split at h
  · cases h
  · split at h
    · cases h
    · rename_i h1 h2
      exact ⟨fun q => q.elim h1 h2, h⟩
theorem gB_some {τ : Type} {k : Nat} {x : Option τ} {o : τ} (h : gB k x = some o) : (k = 1 ∨ k = 2 ∨ k = 3 ∨ k = 62) ∧ x = some o := by
  unfold gB at h
  split at h
  · rename_i h1; exact ⟨h1, h⟩
  · cases h
theorem gR_some {τ : Type} {k : Nat} {x : Option τ} {o : τ} (h : gR k x = some o) : k < 8 ∧ x = some o := by
  unfold gR at h
  split at h
  · rename_i h1; exact ⟨h1, h⟩
  · cases h
/-! TEXTS IN THE CODE: nine literals by number (0 to 2 the reference's, 3 to 5 the reader's, 6 to 8 the writer's). Printed by wip/gen/ss.py -/
def sByt : List (List Int32) := [[110, 117, 108, 108], [102, 97, 108, 115, 101], [116, 114, 117, 101], [110, 117, 108, 108], [102, 97, 108, 115, 101], [116, 114, 117, 101], [110, 117, 108, 108], [102, 97, 108, 115, 101], [116, 114, 117, 101]]
def sLn (i : Nat) : Nat := (sByt.getD i []).length
def sCh (i j : Nat) : Int32 := (sByt.getD i []).getD j 0
def gS {τ : Type} (k : Nat) (x : Option τ) : Option τ := if k < 9 then x else none
/-! THE CLASS AS FUNCTIONS: its state CS by tables (kinds 0 to 11 the classes, 12 int[], 13 byte[], 14 boolean[], 15 Op[], 16 Change[], 17 Replica[], 18 Value[]), its world cw. Printed by wip/gen/cs.py -/
def CS : Type := (Nat → Nat → Nat → Int32) × (Nat → Nat → Nat → Int64) × (Nat → Nat → Nat → Option Nat) × (Nat → Nat → Nat → Int32) × (Nat → Nat → Nat → Option Nat) × (Nat → Nat → Nat)
def CS.i (S : CS) : Nat → Nat → Nat → Int32 := S.1
def CS.l (S : CS) : Nat → Nat → Nat → Int64 := S.2.1
def CS.r (S : CS) : Nat → Nat → Nat → Option Nat := S.2.2.1
def CS.a (S : CS) : Nat → Nat → Nat → Int32 := S.2.2.2.1
def CS.q (S : CS) : Nat → Nat → Nat → Option Nat := S.2.2.2.2.1
def CS.z (S : CS) : Nat → Nat → Nat := S.2.2.2.2.2
def CS.setI (S : CS) (k f j : Nat) (v : Int32) : CS := (fun k1 f1 j1 => if k1 = k ∧ f1 = f ∧ j1 = j then v else S.i k1 f1 j1, S.l, S.r, S.a, S.q, S.z)
def CS.setL (S : CS) (k f j : Nat) (v : Int64) : CS := (S.i, fun k1 f1 j1 => if k1 = k ∧ f1 = f ∧ j1 = j then v else S.l k1 f1 j1, S.r, S.a, S.q, S.z)
def CS.setR (S : CS) (k f j : Nat) (v : Option Nat) : CS := (S.i, S.l, fun k1 f1 j1 => if k1 = k ∧ f1 = f ∧ j1 = j then v else S.r k1 f1 j1, S.a, S.q, S.z)
def CS.setA (S : CS) (k f j : Nat) (v : Int32) : CS := (S.i, S.l, S.r, fun k1 f1 j1 => if k1 = k ∧ f1 = f ∧ j1 = j then v else S.a k1 f1 j1, S.q, S.z)
def CS.setQ (S : CS) (k f j : Nat) (v : Option Nat) : CS := (S.i, S.l, S.r, S.a, fun k1 f1 j1 => if k1 = k ∧ f1 = f ∧ j1 = j then v else S.q k1 f1 j1, S.z)
def CS.setF (S : CS) (k j : Nat) (g : Nat → Int32) : CS := (S.i, S.l, S.r, fun k1 j1 p1 => if k1 = k ∧ j1 = j then g p1 else S.a k1 j1 p1, S.q, S.z)
def cFT : List (List Nat) := [[0, 0, 0, 0, 0, 18, 14], [20, 7, 7, 0, 0, 0, 11, 0, 0, 0], [12, 7], [0, 5, 0, 1, 0, 0, 5, 17, 0, 0, 0, 9, 5, 9, 0], [0, 14, 16, 18, 2, 0, 0, 0, 0, 0], [15, 0, 0], [10, 7, 14, 0, 0, 0], [5, 5, 9], [5, 17, 7, 18, 0, 0], [0, 1, 11, 0, 0, 0, 0, 0, 5, 5], [10, 14, 17, 0, 0], [10, 19, 12, 3, 4, 8, 7, 0, 7, 7, 7, 0, 0]]
def cET (k : Nat) : Nat := if k = 15 then 3 else if k = 16 then 0 else if k = 17 then 4 else 9
def gn {τ : Type} (x : Option Nat) (n : Nat) (k : Nat → Option τ) : Option τ := match x with
  | none => none
  | some j => if j < n then k j else none
def gl {τ : Type} (j n : Nat) (k : Option τ) : Option τ := if j < n then k else none
def gle {τ : Type} (a b : Nat) (k : Option τ) : Option τ := if a ≤ b then k else none
/-- null or in its table -/
def gv {τ : Type} (x : Option Nat) (n : Nat) (k : Option τ) : Option τ := match x with
  | none => k
  | some j => if j < n then k else none
def on {τ : Type} (x : Option Nat) (a : Option τ) (f : Nat → Option τ) : Option τ := match x with
  | none => a
  | some j => f j
/-- the class's own table of the check number -/
def crcT (j : Nat) : Int32 := ([0, 498536548, 997073096, 651767980, 1994146192, 1802195444, 1303535960, 1342533948, (-306674912), (-267414716), (-690576408), (-882789492), (-1687895376), (-2032938284), (-1609899400), (-1111625188)] : List Int32).getD j 0
def Nup (N : Nat → Nat) (k : Nat) : Nat → Nat := fun k1 => if k1 = k then N k + 1 else N k1
/-- an object's fields (k < 12) or an array's length and contents are made new at (k, j) -/
def CS.new (S : CS) (k j n : Nat) : CS :=
  (fun k1 f1 j1 => if k1 = k ∧ j1 = j then 0 else S.i k1 f1 j1, fun k1 f1 j1 => if k1 = k ∧ j1 = j then 0 else S.l k1 f1 j1, fun k1 f1 j1 => if k1 = k ∧ j1 = j then none else S.r k1 f1 j1,
   fun k1 j1 p1 => if k1 = k ∧ j1 = j then 0 else S.a k1 j1 p1, fun k1 j1 p1 => if k1 = k ∧ j1 = j then none else S.q k1 j1 p1, fun k1 j1 => if k1 = k ∧ j1 = j then n else S.z k1 j1)
/-- nothing in the world points at the place that is free next in table k -/
def wfN (N : Nat → Nat) (S : CS) (k : Nat) : Prop :=
  (∀ k1 f1 j1, k1 < 12 → j1 < N k1 → (cFT.getD k1 [])[f1]? = some (k + 2) → S.r k1 f1 j1 ≠ some (N k)) ∧ ∀ k1 j1 p1, 15 ≤ k1 → k1 < 19 → j1 < N k1 → cET k1 = k → S.q k1 j1 p1 ≠ some (N k)
/-! METHODS THAT MAKE OBJECTS: functions that answer also the cells and slots that they use; the address map grows. -/
def al {τ : Type} (c s : Nat) (k : Option (τ × Nat × Nat)) : Option (τ × Nat × Nat) := match k with
  | none => none
  | some (t, a, b) => some (t, a + c, b + s)
def oa {α τ : Type} (x : Option (α × Nat × Nat)) (f : α → Option (τ × Nat × Nat)) : Option (τ × Nat × Nat) := match x with
  | none => none
  | some (o, a, b) => al a b (f o)
/-- behind a function that makes nothing -/
def on0 {τ : Type} (x : Option τ) : Option (τ × Nat × Nat) := match x with
  | none => none
  | some t => some (t, 0, 0)
def lpA {α ε : Type} (body : α → Option ((α ⊕ ε) × Nat × Nat)) : Nat → α → Option (ε × Nat × Nat)
  | 0, _ => none
  | n + 1, a => match body a with
    | none => none
    | some (.inl a', c, s) => al c s (lpA body n a')
    | some (.inr e, c, s) => some (e, c, s)
noncomputable def gW {τ : Type} (N : Nat → Nat) (S : CS) (k : Nat) (x : Option τ) : Option τ := @ite _ (wfN N S k) (Classical.propDecidable _) x none
/-! METHODS THAT MAKE OBJECTS: combinators of the printed functions and rows of the proofs. -/
noncomputable def nw {τ : Type} (z k n : Nat) (N : Nat → Nat) (S : CS) (f : (Nat → Nat) → CS → Nat → Option (τ × Nat × Nat)) : Option (τ × Nat × Nat) := gW N S k (al 1 z (f (Nup N k) (S.new k (N k) n) (N k)))
noncomputable def nwF {τ : Type} (z k n : Nat) (g : Nat → Int32) (N : Nat → Nat) (S : CS) (f : (Nat → Nat) → CS → Nat → Option (τ × Nat × Nat)) : Option (τ × Nat × Nat) := gW N S k (al 1 z (f (Nup N k) ((S.new k (N k) n).setF k (N k) g) (N k)))
def ov {α τ : Type} (x : Option (((Nat → Nat) × α) × Nat × Nat)) (f : (Nat → Nat) → α → Option (τ × Nat × Nat)) : Option (τ × Nat × Nat) := oa x (fun o => f o.1 o.2)
def oq {α τ : Type} (x : Option (((Nat → Nat) × CS × α) × Nat × Nat)) (f : (Nat → Nat) → CS → α → Option (τ × Nat × Nat)) : Option (τ × Nat × Nat) := oa x (fun o => f o.1 o.2.1 o.2.2)
def gA {τ : Type} (n : Int32) (x : Option τ) : Option τ := if n < 0 then none else if n.toNatClampNeg ≤ 1000000 then x else none
abbrev oU (ov : Nat → Int64) (v : Int64) : Nat → Int64 := vp_updL ov ((0 : Int32).toNatClampNeg) v
/-- a method that makes nothing -/
def hR {τ : Type} (cl : τ → CS) (vl : (Nat → Int64) → τ → Nat → Int64) (hd : List (Nat × Int32)) (N : Nat → Nat) (ov : Nat → Int64) (x : Option (τ ⊕ (CS × Nat))) : Option (((Nat → Nat) × CS × (Nat → Int64) × Int32) × Nat × Nat) := match x with
  | none => none
  | some (.inl r) => some ((N, cl r, vl ov r, 0), 0, 0)
  | some (.inr t) => match hd.lookup t.2 with
    | none => none
    | some k => some ((N, t.1, ov, k), 1, 6)
/-- a method that makes objects -/
def hA (hd : List (Nat × Int32)) (ov : Nat → Int64) (x : Option ((((Nat → Nat) × CS × Int32) ⊕ ((Nat → Nat) × CS × Nat)) × Nat × Nat)) : Option (((Nat → Nat) × CS × (Nat → Int64) × Int32) × Nat × Nat) := match x with
  | none => none
  | some (.inl r, a, b) => some ((r.1, r.2.1, oU ov r.2.2.toInt64, 0), a, b)
  | some (.inr t, a, b) => match hd.lookup t.2.2 with
    | none => none
    | some k => some ((t.1, t.2.1, ov, k), a, b)
