/-! THE CLASS: reading through writes. Lemmas printed by a program. -/
theorem CS.i_setI (S : CS) (k f j k1 f1 j1 : Nat) (v : Int32) : (S.setI k f j v).i k1 f1 j1 = if k1 = k ∧ f1 = f ∧ j1 = j then v else S.i k1 f1 j1 := id rfl
theorem CS.l_setI (S : CS) (k f j : Nat) (v : Int32) : (S.setI k f j v).l = S.l := id rfl
theorem CS.r_setI (S : CS) (k f j : Nat) (v : Int32) : (S.setI k f j v).r = S.r := id rfl
theorem CS.a_setI (S : CS) (k f j : Nat) (v : Int32) : (S.setI k f j v).a = S.a := id rfl
theorem CS.q_setI (S : CS) (k f j : Nat) (v : Int32) : (S.setI k f j v).q = S.q := id rfl
theorem CS.z_setI (S : CS) (k f j : Nat) (v : Int32) : (S.setI k f j v).z = S.z := id rfl
theorem CS.i_setL (S : CS) (k f j : Nat) (v : Int64) : (S.setL k f j v).i = S.i := id rfl
theorem CS.l_setL (S : CS) (k f j k1 f1 j1 : Nat) (v : Int64) : (S.setL k f j v).l k1 f1 j1 = if k1 = k ∧ f1 = f ∧ j1 = j then v else S.l k1 f1 j1 := id rfl
theorem CS.r_setL (S : CS) (k f j : Nat) (v : Int64) : (S.setL k f j v).r = S.r := id rfl
theorem CS.a_setL (S : CS) (k f j : Nat) (v : Int64) : (S.setL k f j v).a = S.a := id rfl
theorem CS.q_setL (S : CS) (k f j : Nat) (v : Int64) : (S.setL k f j v).q = S.q := id rfl
theorem CS.z_setL (S : CS) (k f j : Nat) (v : Int64) : (S.setL k f j v).z = S.z := id rfl
theorem CS.i_setR (S : CS) (k f j : Nat) (v : Option Nat) : (S.setR k f j v).i = S.i := id rfl
theorem CS.l_setR (S : CS) (k f j : Nat) (v : Option Nat) : (S.setR k f j v).l = S.l := id rfl
theorem CS.r_setR (S : CS) (k f j k1 f1 j1 : Nat) (v : Option Nat) : (S.setR k f j v).r k1 f1 j1 = if k1 = k ∧ f1 = f ∧ j1 = j then v else S.r k1 f1 j1 := id rfl
theorem CS.a_setR (S : CS) (k f j : Nat) (v : Option Nat) : (S.setR k f j v).a = S.a := id rfl
theorem CS.q_setR (S : CS) (k f j : Nat) (v : Option Nat) : (S.setR k f j v).q = S.q := id rfl
theorem CS.z_setR (S : CS) (k f j : Nat) (v : Option Nat) : (S.setR k f j v).z = S.z := id rfl
theorem CS.i_setA (S : CS) (k f j : Nat) (v : Int32) : (S.setA k f j v).i = S.i := id rfl
theorem CS.l_setA (S : CS) (k f j : Nat) (v : Int32) : (S.setA k f j v).l = S.l := id rfl
theorem CS.r_setA (S : CS) (k f j : Nat) (v : Int32) : (S.setA k f j v).r = S.r := id rfl
theorem CS.a_setA (S : CS) (k f j k1 f1 j1 : Nat) (v : Int32) : (S.setA k f j v).a k1 f1 j1 = if k1 = k ∧ f1 = f ∧ j1 = j then v else S.a k1 f1 j1 := id rfl
theorem CS.q_setA (S : CS) (k f j : Nat) (v : Int32) : (S.setA k f j v).q = S.q := id rfl
theorem CS.z_setA (S : CS) (k f j : Nat) (v : Int32) : (S.setA k f j v).z = S.z := id rfl
theorem CS.i_setQ (S : CS) (k f j : Nat) (v : Option Nat) : (S.setQ k f j v).i = S.i := id rfl
theorem CS.l_setQ (S : CS) (k f j : Nat) (v : Option Nat) : (S.setQ k f j v).l = S.l := id rfl
theorem CS.r_setQ (S : CS) (k f j : Nat) (v : Option Nat) : (S.setQ k f j v).r = S.r := id rfl
theorem CS.a_setQ (S : CS) (k f j : Nat) (v : Option Nat) : (S.setQ k f j v).a = S.a := id rfl
theorem CS.q_setQ (S : CS) (k f j k1 f1 j1 : Nat) (v : Option Nat) : (S.setQ k f j v).q k1 f1 j1 = if k1 = k ∧ f1 = f ∧ j1 = j then v else S.q k1 f1 j1 := id rfl
theorem CS.z_setQ (S : CS) (k f j : Nat) (v : Option Nat) : (S.setQ k f j v).z = S.z := id rfl
theorem CS.i_setF (S : CS) (k j : Nat) (f : Nat → Int32) : (S.setF k j f).i = S.i := id rfl
theorem CS.l_setF (S : CS) (k j : Nat) (f : Nat → Int32) : (S.setF k j f).l = S.l := id rfl
theorem CS.r_setF (S : CS) (k j : Nat) (f : Nat → Int32) : (S.setF k j f).r = S.r := id rfl
theorem CS.a_setF (S : CS) (k j k1 j1 p1 : Nat) (f : Nat → Int32) : (S.setF k j f).a k1 j1 p1 = if k1 = k ∧ j1 = j then f p1 else S.a k1 j1 p1 := id rfl
theorem CS.q_setF (S : CS) (k j : Nat) (f : Nat → Int32) : (S.setF k j f).q = S.q := id rfl
theorem CS.z_setF (S : CS) (k j : Nat) (f : Nat → Int32) : (S.setF k j f).z = S.z := id rfl
theorem CS.i_new (S : CS) (k j n k1 f1 j1 : Nat) : (S.new k j n).i k1 f1 j1 = if k1 = k ∧ j1 = j then 0 else S.i k1 f1 j1 := id rfl
theorem CS.l_new (S : CS) (k j n k1 f1 j1 : Nat) : (S.new k j n).l k1 f1 j1 = if k1 = k ∧ j1 = j then 0 else S.l k1 f1 j1 := id rfl
theorem CS.r_new (S : CS) (k j n k1 f1 j1 : Nat) : (S.new k j n).r k1 f1 j1 = if k1 = k ∧ j1 = j then none else S.r k1 f1 j1 := id rfl
theorem CS.a_new (S : CS) (k j n k1 j1 p1 : Nat) : (S.new k j n).a k1 j1 p1 = if k1 = k ∧ j1 = j then 0 else S.a k1 j1 p1 := id rfl
theorem CS.q_new (S : CS) (k j n k1 j1 p1 : Nat) : (S.new k j n).q k1 j1 p1 = if k1 = k ∧ j1 = j then none else S.q k1 j1 p1 := id rfl
theorem CS.z_new (S : CS) (k j n k1 j1 : Nat) : (S.new k j n).z k1 j1 = if k1 = k ∧ j1 = j then n else S.z k1 j1 := id rfl
theorem gn_s {τ : Type} {j n : Nat} {k : Nat → Option τ} (h : j < n) : gn (some j) n k = k j := if_pos h
theorem gle_ok {τ : Type} {j n : Nat} {k : Option τ} (h : j ≤ n) : gle j n k = k := if_pos h
theorem gv_ok {τ : Type} {j n : Nat} {k : Option τ} (h : j < n) : gv (some j) n k = k := by
  unfold gv
  simp [h]
theorem gv_none {τ : Type} {n : Nat} {k : Option τ} : gv none n k = k := rfl
theorem on_none {τ : Type} {a : Option τ} {f : Nat → Option τ} : on none a f = a := rfl
theorem onSome {τ : Type} {j : Nat} {a : Option τ} {f : Nat → Option τ} : on (some j) a f = f j := rfl
/-- what a replica's view leaves behind is taken out: clock of the view, found, size, round, struck -/
def nz (C : CS) : CS := (fun k f j => if (k = 10 ∧ (f = 3 ∨ f = 4)) ∨ (k = 3 ∧ f = 14) then 0 else C.i k f j, C.l, C.r, fun k j p => if k = 12 ∧ j = 8 then 0 else C.a k j p, fun k j p => if k = 15 ∧ j = 1 then none else C.q k j p, C.z)
theorem CS_ext {C D : CS} (h1 : ∀ k f j, C.i k f j = D.i k f j) (h2 : ∀ k f j, C.l k f j = D.l k f j) (h3 : ∀ k f j, C.r k f j = D.r k f j) (h4 : ∀ k f j, C.a k f j = D.a k f j) (h5 : ∀ k f j, C.q k f j = D.q k f j) (h6 : ∀ k f, C.z k f = D.z k f) : C = D := by
  obtain ⟨a1, a2, a3, a4, a5, a6⟩ := C
  obtain ⟨b1, b2, b3, b4, b5, b6⟩ := D
  have e1 : a1 = b1 := funext fun k => funext fun f => funext fun j => h1 k f j
  have e2 : a2 = b2 := funext fun k => funext fun f => funext fun j => h2 k f j
  have e3 : a3 = b3 := funext fun k => funext fun f => funext fun j => h3 k f j
  have e4 : a4 = b4 := funext fun k => funext fun f => funext fun j => h4 k f j
  have e5 : a5 = b5 := funext fun k => funext fun f => funext fun j => h5 k f j
  have e6 : a6 = b6 := funext fun k => funext fun f => h6 k f
  rw [e1, e2, e3, e4, e5, e6]
theorem nz_size {C : CS} {j : Nat} {v : Int32} : nz (C.setI 10 3 j v) = nz C := by
  apply CS_ext <;> intros <;> try rfl
  show (if _ then _ else (C.setI 10 3 j v).i _ _ _) = (if _ then _ else C.i _ _ _)
  rw [CS.i_setI]
  split
  · rfl
  · rw [if_neg]
    rintro ⟨rfl, rfl, _⟩
    simp_all
theorem nz_round {C : CS} {j : Nat} {v : Int32} : nz (C.setI 10 4 j v) = nz C := by
  apply CS_ext <;> intros <;> try rfl
  show (if _ then _ else (C.setI 10 4 j v).i _ _ _) = (if _ then _ else C.i _ _ _)
  rw [CS.i_setI]
  split
  · rfl
  · rw [if_neg]
    rintro ⟨rfl, rfl, _⟩
    simp_all
theorem nz_struck {C : CS} {j : Nat} {v : Int32} : nz (C.setI 3 14 j v) = nz C := by
  apply CS_ext <;> intros <;> try rfl
  show (if _ then _ else (C.setI 3 14 j v).i _ _ _) = (if _ then _ else C.i _ _ _)
  rw [CS.i_setI]
  split
  · rfl
  · rw [if_neg]
    rintro ⟨rfl, rfl, _⟩
    simp_all
theorem nz_found {C : CS} {p : Nat} {v : Option Nat} : nz (C.setQ 15 1 p v) = nz C := by
  apply CS_ext <;> intros <;> try rfl
  show (if _ then _ else (C.setQ 15 1 p v).q _ _ _) = (if _ then _ else C.q _ _ _)
  rw [CS.q_setQ]
  split
  · rfl
  · rw [if_neg]
    rintro ⟨rfl, rfl, _⟩
    simp_all
theorem nz_clock {C : CS} {p : Nat} {v : Int32} : nz (C.setA 12 8 p v) = nz C := by
  apply CS_ext <;> intros <;> try rfl
  show (if _ then _ else (C.setA 12 8 p v).a _ _ _) = (if _ then _ else C.a _ _ _)
  rw [CS.a_setA]
  split
  · rfl
  · rw [if_neg]
    rintro ⟨rfl, rfl, _⟩
    simp_all
theorem nz_clockF {C : CS} {f : Nat → Int32} : nz (C.setF 12 8 f) = nz C := by
  apply CS_ext <;> intros <;> try rfl
  show (if _ then _ else (C.setF 12 8 f).a _ _ _) = (if _ then _ else C.a _ _ _)
  rw [CS.a_setF]
  split
  · rfl
  · rfl
