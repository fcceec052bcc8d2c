/-! THE LAW'S HELPERS. Printed by wip/gen/hdec.py -/
theorem p_l {D : va_G} {cl : List vw_C} {X Y : va_W} {H : Heap} (h : va_P D cl (X ++ Y) H) : va_P D cl X H := fun k q hk => h k q (by rw [List.getElem?_append_left (List.getElem?_eq_some_iff.mp hk).1]; exact hk)
theorem p_r {D : va_G} {cl : List vw_C} {X Y : va_W} {H : Heap} (h : va_P D cl (X ++ Y) H) : va_P D cl Y H := fun k q hk => h (X.length + k) q (by rw [List.getElem?_append_right (by omega)]; simpa using hk)
theorem d_l {A : Nat → Prop} {X Y : va_W} (h : va_D A (X ++ Y)) : va_D A X :=
  have g : ∀ (k : Nat) (q : Nat × va_E), X[k]? = some q → (X ++ Y)[k]? = some q := fun k q hk => by rw [List.getElem?_append_left (List.getElem?_eq_some_iff.mp hk).1]; exact hk
  ⟨fun i j p q hp hq e => h.1 i j p q (g i p hp) (g j q hq) e, fun k q hk => h.2 k q (g k q hk)⟩
theorem d_r {A : Nat → Prop} {X Y : va_W} (h : va_D A (X ++ Y)) : va_D A Y :=
  have g : ∀ (k : Nat) (q : Nat × va_E), Y[k]? = some q → (X ++ Y)[X.length + k]? = some q := fun k q hk => by rw [List.getElem?_append_right (by omega)]; simpa using hk
  ⟨fun i j p q hp hq e => by have := h.1 _ _ p q (g i p hp) (g j q hq) e; omega, fun k q hk => h.2 _ q (g k q hk)⟩
theorem d_x {A : Nat → Prop} {X Y : va_W} (hD : va_D A (X ++ Y)) : ∀ (i j : Nat) (p q : Nat × va_E), X[i]? = some p → Y[j]? = some q → p.1 ≠ q.1 := by
  intro i j p q hp hq h
  have h1 : (X ++ Y)[i]? = some p := by rw [List.getElem?_append_left (List.getElem?_eq_some_iff.mp hp).1]; exact hp
  have h2 : (X ++ Y)[X.length + j]? = some q := by rw [List.getElem?_append_right (by omega)]; simpa using hq
  have := hD.1 _ _ p q h1 h2 h
  have := (List.getElem?_eq_some_iff.mp hp).1
  omega
/-- behind a run over X that leaves w1 the cells of Y are as they were -/
theorem join_w {A0 : Nat → Prop} {D : va_G} {cl : List vw_C} {X w1 Y : va_W} {H H1 : Heap} (hP : va_P D cl (X ++ Y) H) (hD : va_D A0 (X ++ Y)) (hk : ∀ q : Nat, q < H.size → ¬ va_A X H.size q → H1[q]? = H[q]?) (hF : ∀ q, va_A X H.size q → A0 q) (hP1 : va_P D cl w1 H1) (hD1 : va_D (va_A X H.size) w1) : va_P D cl (w1 ++ Y) H1 ∧ va_D A0 (w1 ++ Y) := by
  have hn : ∀ (k : Nat) (q : Nat × va_E), Y[k]? = some q → ¬ va_A X H.size q.1 := by
    intro k q hq h
    rcases h with ⟨i, e, h⟩ | h
    · exact d_x hD i k (q.1, e) q h hq rfl
    · exact absurd ((p_r hP) k q hq).lt (by omega)
  refine ⟨hP1.app ((p_r hP).kept (fun k q hq => hk q.1 ((p_r hP) k q hq).lt (hn k q hq))), (hD1.weaken (fun k q hq h => hF q.1 h)).app (d_r hD) (fun i j p q hp hq h => hn j q hq ?_)⟩
  rw [← h]
  exact hD1.2 i p hp
/-- the same with the run over the right part -/
theorem join_r {A0 : Nat → Prop} {D : va_G} {cl : List vw_C} {X w1 Y : va_W} {H H1 : Heap} (hP : va_P D cl (Y ++ X) H) (hD : va_D A0 (Y ++ X)) (hk : ∀ q : Nat, q < H.size → ¬ va_A X H.size q → H1[q]? = H[q]?) (hF : ∀ q, va_A X H.size q → A0 q) (hP1 : va_P D cl w1 H1) (hD1 : va_D (va_A X H.size) w1) : va_P D cl (Y ++ w1) H1 ∧ va_D A0 (Y ++ w1) := by
  have hn : ∀ (k : Nat) (q : Nat × va_E), Y[k]? = some q → ¬ va_A X H.size q.1 := by
    intro k q hq h
    rcases h with ⟨i, e, h⟩ | h
    · exact d_x hD k i q (q.1, e) hq h rfl
    · exact absurd ((p_l hP) k q hq).lt (by omega)
  refine ⟨((p_l hP).kept (fun k q hq => hk q.1 ((p_l hP) k q hq).lt (hn k q hq))).app hP1, (d_l hD).app (hD1.weaken (fun k q hq h => hF q.1 h)) (fun i j p q hp hq h => hn i p hp ?_)⟩
  rw [h]
  exact hD1.2 j q hq
theorem at_last {α : Type} {X : List α} {x : α} : (X ++ [x])[X.length]? = some x := by rw [List.getElem?_append_right (Nat.le_refl _), Nat.sub_self]; rfl
theorem set_last {α : Type} {X : List α} {x y : α} : (X ++ [x]).set X.length y = X ++ [y] := by rw [List.set_append_right _ _ (Nat.le_refl _), Nat.sub_self]; rfl
abbrev oA (cL : ClassId) (a : Nat) (ov : Nat → Int64) : Nat × va_E := (a, .inl (cL, 1, .inr (.inl ov)))
def eH (U : State) : Prop := tx_NC e_IB e_IA U ∧ tx_NC e_IB e_IS U ∧ tx_NC e_IB e_NE U ∧ tx_NC e_AE e_IA U ∧ tx_NC e_AE e_IS U
theorem eH.warm {s U : State} (hW : s.WarmedH U.vm) (h : eH s) : eH U := ⟨h.1.moved hW.alike, h.2.1.moved hW.alike, h.2.2.1.moved hW.alike, h.2.2.2.1.moved hW.alike, h.2.2.2.2.moved hW.alike⟩
def hPc (sad sav : Nat → Nat) (D : va_G) (ws : va_W) (ty : List (ClassId × FieldType)) (sz : Nat) (av : List Value) : Array Value → State → Prop :=
  va_Pc av (fun U => U.heap.size = sz ∧ va_P D cls ws U.heap ∧ va_K D cls ty U ∧ va_D (fun _ => True) ws ∧ ev (va_A ws U.heap.size) U ∧ sE sad sav (va_A ws U.heap.size) U ∧ eN U ∧ eH U)
theorem h_blind {sad sav : Nat → Nat} {D : va_G} {ws : va_W} {ty : List (ClassId × FieldType)} {sz : Nat} {av : List Value} : FrameBlind (hPc sad sav D ws ty sz av) := fun a U g mk q => by
  obtain ⟨q0, q1, qP, qK, qD, qV, qE, qN, qH⟩ := q
  exact ⟨q0, q1, qP, va_K.moved (u := U) (U := U.calling g mk a) (Vm.Alike.refl U.vm) qK, qD, qV.calling g mk a, qE.calling g mk a, eN.warm (State.WarmedH.refl U) qN, eH.warm (State.WarmedH.refl U) qH⟩
theorem h_pre {sad sav : Nat → Nat} {D : va_G} {ws : va_W} {ty : List (ClassId × FieldType)} {s U : State} {H : Heap} {A : Nat → Prop} {locs : List Loc} {av : List Value} (hU : U.heap = H) (hW : s.WarmedH U.vm) (hP : va_P D cls ws H) (hK : va_K D cls ty s) (hD : va_D A ws) (hev : ev A s) (hE : sE sad sav A s) (hN : eN s) (hH : eH s) (hNS : tx_NS A s) (hS : va_S A s.heap H locs) (hFc : ∀ q, va_A ws H.size q → A q) : hPc sad sav D ws ty H.size av av.toArray U :=
  ⟨rfl, by rw [hU], by rw [hU]; exact hP, hK.moved hW.alike, hD.weaken (fun _ _ _ _ => trivial), hev.go hNS hS (by rw [hU]; exact hFc) hU hW, hE.go hS (by rw [hU]; exact hFc) hU hW, hN.warm hW, hH.warm hW⟩
abbrev oU (ov : Nat → Int64) (v : Int64) : Nat → Int64 := vp_updL ov ((0 : Int32).toNatClampNeg) v
/-- a method that makes nothing -/
def hR {τ : Type} (cl : τ → CS) (vl : (Nat → Int64) → τ → Nat → Int64) (hd : List (Nat × Int32)) (N : Nat → Nat) (ov : Nat → Int64) (x : Option (τ ⊕ (CS × Nat))) : Option (((Nat → Nat) × CS × (Nat → Int64) × Int32) × Nat × Nat) := match x with
  | none => none
  | some (.inl r) => some ((N, cl r, vl ov r, 0), 0, 0)
  | some (.inr t) => match hd.lookup t.2 with
    | none => none
    | some k => some ((N, t.1, ov, k), 1, 6)
theorem hR_some {τ : Type} {cl : τ → CS} {vl : (Nat → Int64) → τ → Nat → Int64} {hd : List (Nat × Int32)} {N : Nat → Nat} {ov : Nat → Int64} {x : Option (τ ⊕ (CS × Nat))} {o : (Nat → Nat) × CS × (Nat → Int64) × Int32} {oc os : Nat} (h : hR cl vl hd N ov x = some (o, oc, os)) :
    (∃ r, x = some (.inl r) ∧ o = (N, cl r, vl ov r, 0) ∧ oc = 0 ∧ os = 0) ∨ ∃ S k c, x = some (.inr (S, c)) ∧ hd.lookup c = some k ∧ o = (N, S, ov, k) ∧ oc = 1 ∧ os = 6 := by
  rcases x with _ | r | ⟨S, c⟩
  · cases h
  · cases h; exact Or.inl ⟨r, rfl, rfl, rfl, rfl⟩
  · unfold hR at h
    cases hl : hd.lookup c with
    | none => simp [hl] at h
    | some k => simp only [hl] at h; cases h; exact Or.inr ⟨S, k, c, rfl, hl, rfl, rfl, rfl⟩
/-- a method that makes objects -/
def hA (hd : List (Nat × Int32)) (ov : Nat → Int64) (x : Option ((((Nat → Nat) × CS × Int32) ⊕ ((Nat → Nat) × CS × Nat)) × Nat × Nat)) : Option (((Nat → Nat) × CS × (Nat → Int64) × Int32) × Nat × Nat) := match x with
  | none => none
  | some (.inl r, a, b) => some ((r.1, r.2.1, oU ov r.2.2.toInt64, 0), a, b)
  | some (.inr t, a, b) => match hd.lookup t.2.2 with
    | none => none
    | some k => some ((t.1, t.2.1, ov, k), a, b)
theorem hA_some {hd : List (Nat × Int32)} {ov : Nat → Int64} {x : Option ((((Nat → Nat) × CS × Int32) ⊕ ((Nat → Nat) × CS × Nat)) × Nat × Nat)} {o : (Nat → Nat) × CS × (Nat → Int64) × Int32} {oc os : Nat} (h : hA hd ov x = some (o, oc, os)) :
    (∃ N S v, x = some (.inl (N, S, v), oc, os) ∧ o = (N, S, oU ov v.toInt64, 0)) ∨ ∃ N S k c, x = some (.inr (N, S, c), oc, os) ∧ hd.lookup c = some k ∧ o = (N, S, ov, k) := by
  rcases x with _ | ⟨⟨N, S, v⟩ | ⟨N, S, c⟩, a, b⟩
  · cases h
  · cases h; exact Or.inl ⟨N, S, v, rfl, rfl⟩
  · unfold hA at h
    cases hl : hd.lookup c with
    | none => simp [hl] at h
    | some k => simp only [hl] at h; cases h; exact Or.inr ⟨N, S, k, c, rfl, hl, rfl⟩
theorem lk_cons {a c : Nat} {k : Int32} {l : List (Nat × Int32)} {r : Int32} (h : ((a, k) :: l).lookup c = some r) : (c = a ∧ r = k) ∨ l.lookup c = some r := by
  rw [List.lookup_cons] at h
  by_cases e : c = a
  · subst e; simp at h; exact Or.inl ⟨rfl, h.symm⟩
  · rw [show (c == a) = false from by simpa using e] at h; exact Or.inr h
theorem lk_nil {c : Nat} {r : Int32} (h : ([] : List (Nat × Int32)).lookup c = some r) : False := by cases h
