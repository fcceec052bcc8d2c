/-! METHODS THAT MAKE OBJECTS: functions that answer also the cells and slots that they use; the address map grows. -/
def al {τ : Type} (c s : Nat) (k : Option (τ × Nat × Nat)) : Option (τ × Nat × Nat) := match k with
  | none => none
  | some (t, a, b) => some (t, a + c, b + s)
theorem al_some {τ : Type} {c s : Nat} {k : Option (τ × Nat × Nat)} {o : τ × Nat × Nat} (h : al c s k = some o) : ∃ a b, k = some (o.1, a, b) ∧ o.2.1 = a + c ∧ o.2.2 = b + s := by
  cases k with
  | none => cases h
  | some x =>
    obtain ⟨t, a, b⟩ := x
    cases h
    exact ⟨a, b, rfl, rfl, rfl⟩
def oa {α τ : Type} (x : Option (α × Nat × Nat)) (f : α → Option (τ × Nat × Nat)) : Option (τ × Nat × Nat) := match x with
  | none => none
  | some (o, a, b) => al a b (f o)
theorem oa_some {α τ : Type} {x : Option (α × Nat × Nat)} {f : α → Option (τ × Nat × Nat)} {o : τ × Nat × Nat} (h : oa x f = some o) : ∃ y a1 b1 a2 b2, x = some (y, a1, b1) ∧ f y = some (o.1, a2, b2) ∧ o.2.1 = a2 + a1 ∧ o.2.2 = b2 + b1 := by
  cases x with
  | none => cases h
  | some x =>
    obtain ⟨y, a1, b1⟩ := x
    obtain ⟨a2, b2, h1, h2, h3⟩ := al_some (show al a1 b1 (f y) = some o from h)
    exact ⟨y, a1, b1, a2, b2, rfl, h1, h2, h3⟩
/-- behind a function that makes nothing -/
def on0 {τ : Type} (x : Option τ) : Option (τ × Nat × Nat) := match x with
  | none => none
  | some t => some (t, 0, 0)
def lpA {α ε : Type} (body : α → Option ((α ⊕ ε) × Nat × Nat)) : Nat → α → Option (ε × Nat × Nat)
  | 0, _ => none
  | n + 1, a => match body a with
    | none => none
    | some (.inl a', c, s) => al c s (lpA body n a')
    | some (.inr e, c, s) => some (e, c, s)
theorem lpA_w {α ε : Type} {body : α → Option ((α ⊕ ε) × Nat × Nat)} {e : ε} {G : α → Nat → Nat → Prop}
    (hb : ∀ a o c s u v, body a = some (o, c, s) → (∀ a', o = .inl a' → ∃ u' v', u = u' + c ∧ v = v' + s ∧ G a' u' v') → (∀ e', o = .inr e' → e' = e ∧ u = c ∧ v = s) → G a u v) : ∀ n a u v, lpA body n a = some (e, u, v) → G a u v := by
  intro n
  induction n with
  | zero => intro a u v h; cases h
  | succ n ih =>
    intro a u v h
    unfold lpA at h
    cases ho : body a with
    | none => rw [ho] at h; cases h
    | some o =>
      obtain ⟨o, c, s⟩ := o
      rw [ho] at h
      cases o with
      | inl a' =>
        obtain ⟨u', v', h1, h2, h3⟩ := al_some h
        exact hb a _ c s u v ho (fun a'' h' => by cases h'; exact ⟨u', v', h2, h3, ih a' u' v' h1⟩) (fun e' h' => by cases h')
      | inr e' =>
        cases h
        exact hb a _ _ _ _ _ ho (fun a'' h' => by cases h') (fun e'' h' => by cases h'; exact ⟨rfl, rfl, rfl⟩)
/-- the address map has grown -/
def Ext (ad0 : Nat → Nat → Nat) (N0 : Nat → Nat) (ad : Nat → Nat → Nat) (N : Nat → Nat) : Prop := (∀ k, N0 k ≤ N k) ∧ ∀ k j, j < N0 k → ad k j = ad0 k j
theorem Ext.rf {ad : Nat → Nat → Nat} {N : Nat → Nat} : Ext ad N ad N := ⟨fun _ => Nat.le_refl _, fun _ _ _ => rfl⟩
theorem Ext.tr {a b c : Nat → Nat → Nat} {N M O : Nat → Nat} (h1 : Ext a N b M) (h2 : Ext b M c O) : Ext a N c O :=
  ⟨fun k => Nat.le_trans (h1.1 k) (h2.1 k), fun k j hj => (h2.2 k j (Nat.lt_of_lt_of_le hj (h1.1 k))).trans (h1.2 k j hj)⟩
theorem Ext.up {ad : Nat → Nat → Nat} {N : Nat → Nat} {k q : Nat} : Ext ad N (adU ad k (N k) q) (Nup N k) := by
  refine ⟨fun k1 => ?_, fun k1 j hj => ?_⟩
  · unfold Nup
    split
    · rename_i h; rw [h]; omega
    · exact Nat.le_refl _
  · exact if_neg (fun z => by rw [z.1, z.2] at hj; omega)
theorem Ext.mp {ad0 ad : Nat → Nat → Nat} {N0 N : Nat → Nat} (h : Ext ad0 N0 ad N) {k : Nat} {x : Option Nat} (hx : ∀ j, x = some j → j < N0 k) : x.map (ad k) = x.map (ad0 k) := by
  cases x with
  | none => rfl
  | some j => exact congrArg some (h.2 k j (hx j rfl))
noncomputable def gW {τ : Type} (N : Nat → Nat) (S : CS) (k : Nat) (x : Option τ) : Option τ := @ite _ (wfN N S k) (Classical.propDecidable _) x none
theorem gW_ok {τ : Type} {N : Nat → Nat} {S : CS} {k : Nat} {x : Option τ} (h : wfN N S k) : gW N S k x = x := if_pos h
theorem gW_some {τ : Type} {N : Nat → Nat} {S : CS} {k : Nat} {x : Option τ} {o : τ} (h : gW N S k x = some o) : wfN N S k ∧ x = some o := by
  by_cases h1 : wfN N S k
  · rw [gW_ok h1] at h
    exact ⟨h1, h⟩
  · rw [show gW N S k x = none from if_neg h1] at h
    cases h
