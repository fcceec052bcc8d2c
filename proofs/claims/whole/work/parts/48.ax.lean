/-! METHODS THAT MAKE OBJECTS: combinators of the printed functions and rows of the proofs. -/
noncomputable def nw {τ : Type} (z k n : Nat) (N : Nat → Nat) (S : CS) (f : (Nat → Nat) → CS → Nat → Option (τ × Nat × Nat)) : Option (τ × Nat × Nat) := gW N S k (al 1 z (f (Nup N k) (S.new k (N k) n) (N k)))
theorem nw_some {τ : Type} {z k n : Nat} {N : Nat → Nat} {S : CS} {f : (Nat → Nat) → CS → Nat → Option (τ × Nat × Nat)} {o : τ} {oc os : Nat} (h : nw z k n N S f = some (o, oc, os)) :
    ∃ N' S' j a b, f N' S' j = some (o, a, b) ∧ oc = a + 1 ∧ os = b + z ∧ wfN N S k ∧ N' = Nup N k ∧ S' = S.new k (N k) n ∧ j = N k := by
  obtain ⟨hw, h1⟩ := gW_some h
  obtain ⟨a, b, h2, h3, h4⟩ := al_some h1
  exact ⟨_, _, _, a, b, h2, h3, h4, hw, rfl, rfl, rfl⟩
noncomputable def nwF {τ : Type} (z k n : Nat) (g : Nat → Int32) (N : Nat → Nat) (S : CS) (f : (Nat → Nat) → CS → Nat → Option (τ × Nat × Nat)) : Option (τ × Nat × Nat) := gW N S k (al 1 z (f (Nup N k) ((S.new k (N k) n).setF k (N k) g) (N k)))
theorem nwF_some {τ : Type} {z k n : Nat} {g : Nat → Int32} {N : Nat → Nat} {S : CS} {f : (Nat → Nat) → CS → Nat → Option (τ × Nat × Nat)} {o : τ} {oc os : Nat} (h : nwF z k n g N S f = some (o, oc, os)) :
    ∃ N' S' j a b, f N' S' j = some (o, a, b) ∧ oc = a + 1 ∧ os = b + z ∧ wfN N S k ∧ N' = Nup N k ∧ S' = (S.new k (N k) n).setF k (N k) g ∧ j = N k := by
  obtain ⟨hw, h1⟩ := gW_some h
  obtain ⟨a, b, h2, h3, h4⟩ := al_some h1
  exact ⟨_, _, _, a, b, h2, h3, h4, hw, rfl, rfl, rfl⟩
def ov {α τ : Type} (x : Option (((Nat → Nat) × α) × Nat × Nat)) (f : (Nat → Nat) → α → Option (τ × Nat × Nat)) : Option (τ × Nat × Nat) := oa x (fun o => f o.1 o.2)
theorem ov_some {α τ : Type} {x : Option (((Nat → Nat) × α) × Nat × Nat)} {f : (Nat → Nat) → α → Option (τ × Nat × Nat)} {o : τ} {oc os : Nat} (h : ov x f = some (o, oc, os)) :
    ∃ N' t a1 b1 a2 b2, x = some ((N', t), a1, b1) ∧ f N' t = some (o, a2, b2) ∧ oc = a2 + a1 ∧ os = b2 + b1 := by
  obtain ⟨y, a1, b1, a2, b2, h1, h2, h3, h4⟩ := oa_some h
  exact ⟨y.1, y.2, a1, b1, a2, b2, h1, h2, h3, h4⟩
def oq {α τ : Type} (x : Option (((Nat → Nat) × CS × α) × Nat × Nat)) (f : (Nat → Nat) → CS → α → Option (τ × Nat × Nat)) : Option (τ × Nat × Nat) := oa x (fun o => f o.1 o.2.1 o.2.2)
theorem oq_some {α τ : Type} {x : Option (((Nat → Nat) × CS × α) × Nat × Nat)} {f : (Nat → Nat) → CS → α → Option (τ × Nat × Nat)} {o : τ} {oc os : Nat} (h : oq x f = some (o, oc, os)) :
    ∃ N' S' v a1 b1 a2 b2, x = some ((N', S', v), a1, b1) ∧ f N' S' v = some (o, a2, b2) ∧ oc = a2 + a1 ∧ os = b2 + b1 := by
  obtain ⟨y, a1, b1, a2, b2, h1, h2, h3, h4⟩ := oa_some h
  exact ⟨y.1, y.2.1, y.2.2, a1, b1, a2, b2, h1, h2, h3, h4⟩
def gA {τ : Type} (n : Int32) (x : Option τ) : Option τ := if n < 0 then none else if n.toNatClampNeg ≤ 1000000 then x else none
theorem gA_some {τ : Type} {n : Int32} {x : Option τ} {o : τ} (h : gA n x = some o) : ¬ n < 0 ∧ n.toNatClampNeg ≤ 1000000 ∧ x = some o := by
  unfold gA at h
  by_cases h1 : n < 0
  · rw [if_pos h1] at h; cases h
  · rw [if_neg h1] at h
    by_cases h2 : n.toNatClampNeg ≤ 1000000
    · rw [if_pos h2] at h; exact ⟨h1, h2, h⟩
    · rw [if_neg h2] at h; cases h
theorem gA_ok {τ : Type} {n : Int32} {x : Option τ} (h1 : ¬ n < 0) (h2 : n.toNatClampNeg ≤ 1000000) : gA n x = x := (if_neg h1).trans (if_pos h2)
theorem Ext.rv {ad0 ad : Nat → Nat → Nat} {N0 N : Nat → Nat} (h : Ext ad0 N0 ad N) {k : Nat} {x : Option Nat} (hx : ∀ j, x = some j → j < N0 k) : rv ad k x = rv ad0 k x := congrArg va_rf (h.mp hx)
theorem ne_rv {ad0 ad : Nat → Nat → Nat} {k : Nat} (h : ∀ k1 j, k1 ≠ k → ad k1 j = ad0 k1 j) (k1 : Nat) (h1 : k1 ≠ k) (x : Option Nat) : rv ad k1 x = rv ad0 k1 x := by
  cases x with
  | none => rfl
  | some j => exact congrArg (fun z => va_rf (some z)) (h k1 j h1)
theorem cA_eq {D : va_G} {cl : List vw_C} {tys : List (ClassId × FieldType)} {cA c0 : ClassId} {ty : FieldType} {s : State} (h : va_K D cl (tys ++ [(cA, ty)]) s) (t0 : Nat) (h0 : tys[t0]? = some (c0, ty)) : cA = c0 := by
  have hl := (List.getElem?_eq_some_iff.mp h0).1
  have h1 := (h.2 t0 (c0, ty) (by rw [List.getElem?_append_left hl]; exact h0)).2
  have h2 := (h.2 tys.length (cA, ty) (by rw [List.getElem?_append_right (Nat.le_refl _), Nat.sub_self]; rfl)).2
  cases ty with
  | object C =>
    obtain ⟨_, _, _, _, _, e1⟩ := h1
    obtain ⟨_, _, _, _, _, e2⟩ := h2
    exact Option.some.inj (e2.symm.trans e1)
  | _ => exact Option.some.inj (Eq.trans (Eq.symm h2) h1)
theorem cw_born2 {A : Nat → Prop} {D : va_G} {H : Heap} {ad : Nat → Nat → Nat} {cc : Nat → ClassId} {N N' : Nat → Nat} {S S' : CS} {k q n j : Nat} {x : Nat × va_E} (hw : wfN N S k) (eN : N' = Nup N k) (eS : S' = S.new k (N k) n) (ej : j = N k) (hk : k < 19) (hx : cCell (adU ad k (N k) q) cc (S.new k (N k) n) k (N k) = x) (hP : va_P D cls (cw ad cc N S ++ [x]) H) (hD : va_D A (cw ad cc N S ++ [x])) :
    ∃ ad' : Nat → Nat → Nat, Ext ad N ad' N' ∧ ad' k j = q ∧ (∀ k1 j1, k1 ≠ k → ad' k1 j1 = ad k1 j1) ∧ j < N' k ∧ va_P D cls (cw ad' cc N' S') H ∧ va_D A (cw ad' cc N' S') := by
  subst eN eS ej
  obtain ⟨ad', h1, h2, h3, h4, h5⟩ := cw_born hw hk hx hP hD
  exact ⟨ad', h1, h2, h3, by unfold Nup; rw [if_pos rfl]; omega, h4, h5⟩
theorem perm_set {α : Type} {ws w2 : List α} {x y : α} {i : Nat} (hp : (ws ++ [x]).Perm w2) (hi : w2[i]? = some x) : (ws ++ [y]).Perm (w2.set i y) := by
  obtain ⟨hl, he⟩ := List.getElem?_eq_some_iff.mp hi
  rw [List.set_eq_take_append_cons_drop, if_pos hl]
  have e2 : w2 = w2.take i ++ x :: w2.drop (i + 1) := by
    have h1 := List.take_append_drop i w2
    rw [List.drop_eq_getElem_cons hl, he] at h1
    exact h1.symm
  have h1 : (x :: ws).Perm (x :: (w2.take i ++ w2.drop (i + 1))) := by
    refine (List.perm_append_singleton x ws).symm.trans (hp.trans ?_)
    rw [e2]
    have hl2 : (w2.take i).length = i := by rw [List.length_take]; omega
    have e3 : (w2.take i ++ x :: w2.drop (i + 1)).take i = w2.take i := by rw [List.take_append_of_le_length (by omega), List.take_of_length_le (by omega)]
    have e4 : (w2.take i ++ x :: w2.drop (i + 1)).drop (i + 1) = w2.drop (i + 1) := by rw [← e2]
    rw [e3, e4]
    exact List.perm_middle
  have h2 := h1.cons_inv
  exact (List.perm_append_singleton y ws).trans ((h2.cons y).trans List.perm_middle.symm)
theorem cw_bornF {A : Nat → Prop} {D : va_G} {H : Heap} {ad : Nat → Nat → Nat} {cc : Nat → ClassId} {N N' : Nat → Nat} {S S' : CS} {k q n j : Nat} {g : Nat → Int32} (hw : wfN N S k) (eN : N' = Nup N k) (eS : S' = (S.new k (N k) n).setF k (N k) g) (ej : j = N k) (hk : 12 ≤ k ∧ k < 15) (hP : va_P D cls (cw ad cc N S ++ [(q, .inl (cc k, n, .inl g))]) H) (hD : va_D A (cw ad cc N S ++ [(q, .inl (cc k, n, .inl g))])) :
    ∃ ad' : Nat → Nat → Nat, Ext ad N ad' N' ∧ ad' k j = q ∧ (∀ k1 j1, k1 ≠ k → ad' k1 j1 = ad k1 j1) ∧ j < N' k ∧ va_P D cls (cw ad' cc N' S') H ∧ va_D A (cw ad' cc N' S') := by
  subst eN eS ej
  have hj : N k < Nup N k k := by unfold Nup; rw [if_pos rfl]; omega
  have h0 := cw_new (ad := ad) (cc := cc) (q := q) (n := n) hw (show k < 19 by omega)
  have hz : (S.new k (N k) n).z k (N k) = n := if_pos ⟨rfl, rfl⟩
  have ha : adU ad k (N k) q k (N k) = q := if_pos ⟨rfl, rfl⟩
  have h1 := perm_set (y := (q, .inl (cc k, n, .inl g))) h0 (i := cPos (Nup N k) k (N k)) (by rw [cw_at (by omega) hj])
  have h2 := cw_setF (ad := adU ad k (N k) q) (cc := cc) (S := S.new k (N k) n) (g := g) hk hj
  rw [hz, ha] at h2
  rw [h2] at h1
  exact ⟨adU ad k (N k) q, Ext.up, ha, fun k1 j1 h => if_neg (fun z => h z.1), hj, p_perm2 h1 hP, d_perm2 h1 hD⟩
theorem lpA_w2 {α ε : Type} {body : α → Option ((α ⊕ ε) × Nat × Nat)} {e : ε} {G : α → Nat → Nat → Prop}
    (hb : ∀ a o c s u v, body a = some (o, c, s) → c ≤ u → s ≤ v → (∀ a', o = .inl a' → ∃ u' v', u = u' + c ∧ v = v' + s ∧ G a' u' v') → (∀ e', o = .inr e' → e' = e ∧ u = c ∧ v = s) → G a u v) : ∀ n a u v, lpA body n a = some (e, u, v) → G a u v := by
  refine lpA_w (G := G) ?_
  intro a o c s u v h1 h2 h3
  refine hb a o c s u v h1 ?_ ?_ h2 h3
  · cases o with
    | inl a' => obtain ⟨u', v', e1, -⟩ := h2 a' rfl; omega
    | inr e' => obtain ⟨-, e1, -⟩ := h3 e' rfl; omega
  · cases o with
    | inl a' => obtain ⟨u', v', -, e1, -⟩ := h2 a' rfl; omega
    | inr e' => obtain ⟨-, -, e1⟩ := h3 e' rfl; omega
theorem cCell_fst {ad : Nat → Nat → Nat} {cc : Nat → ClassId} {S : CS} {k j : Nat} : (cCell ad cc S k j).1 = ad k j := by
  unfold cCell
  split
  · rfl
  · split <;> rfl
theorem cw_fst {ad : Nat → Nat → Nat} {cc : Nat → ClassId} {N : Nat → Nat} (S S' : CS) : (cw ad cc N S).map Prod.fst = (cw ad cc N S').map Prod.fst := by
  have h : ∀ m, (cwF ad cc N S m).map Prod.fst = (cwF ad cc N S' m).map Prod.fst := by
    intro m
    induction m with
    | zero => rfl
    | succ m ih =>
      rw [cwF, cwF, List.map_append, List.map_append, ih]
      congr 1
      unfold cT
      rw [List.map_map, List.map_map]
      congr 1
      funext j
      exact cCell_fst.trans cCell_fst.symm
  exact h 19
theorem d_fst {A : Nat → Prop} {ws ws' : va_W} (h : ws.map Prod.fst = ws'.map Prod.fst) (hD : va_D A ws) : va_D A ws' := by
  have g : ∀ (i : Nat) (p : Nat × va_E), ws'[i]? = some p → ∃ p0 : Nat × va_E, ws[i]? = some p0 ∧ p0.1 = p.1 := by
    intro i p hi
    have h1 : (ws.map Prod.fst)[i]? = some p.1 := by rw [h, List.getElem?_map, hi]; rfl
    rw [List.getElem?_map] at h1
    cases h2 : ws[i]? with
    | none => rw [h2] at h1; cases h1
    | some p0 => rw [h2] at h1; exact ⟨p0, rfl, Option.some.inj h1⟩
  refine ⟨fun i j p q hp hq e => ?_, fun k q hq => ?_⟩
  · obtain ⟨p0, h1, h2⟩ := g i p hp
    obtain ⟨q0, h3, h4⟩ := g j q hq
    exact hD.1 i j p0 q0 h1 h3 (by rw [h2, h4, e])
  · obtain ⟨q0, h3, h4⟩ := g k q hq
    rw [← h4]
    exact hD.2 k q0 h3
theorem d_cw {A : Nat → Prop} {ad : Nat → Nat → Nat} {cc : Nat → ClassId} {N : Nat → Nat} {S : CS} (S' : CS) (hD : va_D A (cw ad cc N S)) : va_D A (cw ad cc N S') := d_fst (cw_fst S S') hD
