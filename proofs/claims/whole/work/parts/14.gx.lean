/-! CONTRACTS OVER AN EXPLICIT WORLD: their start, and small rows. -/
def gPc (D : va_G) (ws : va_W) (ty : List (ClassId × FieldType)) (sz : Nat) (av : List Value) : Array Value → State → Prop :=
  va_Pc av (fun U => U.heap.size = sz ∧ va_P D cls ws U.heap ∧ va_K D cls ty U ∧ va_D (fun _ => True) ws)
theorem g_blind {D : va_G} {ws : va_W} {ty : List (ClassId × FieldType)} {sz : Nat} {av : List Value} : FrameBlind (gPc D ws ty sz av) := fun a U g mk q => by
  obtain ⟨q0, q1, qP, qK, qD⟩ := q
  exact ⟨q0, q1, qP, va_K.moved (u := U) (U := U.calling g mk a) (Vm.Alike.refl U.vm) qK, qD⟩
theorem g_pre {D : va_G} {ws : va_W} {ty : List (ClassId × FieldType)} {s U : State} {H : Heap} {A : Nat → Prop} {av : List Value} (hU : U.heap = H) (hW : s.WarmedH U.vm) (hP : va_P D cls ws H) (hK : va_K D cls ty s) (hD : va_D A ws) : gPc D ws ty H.size av av.toArray U :=
  ⟨rfl, by rw [hU], by rw [hU]; exact hP, hK.moved hW.alike, hD.weaken (fun _ _ _ _ => trivial)⟩
/-- with the surroundings, for a method that makes references' arrays or calls a nest mate's constructor -/
def gPv (D : va_G) (ws : va_W) (ty : List (ClassId × FieldType)) (sz : Nat) (av : List Value) : Array Value → State → Prop :=
  va_Pc av (fun U => U.heap.size = sz ∧ va_P D cls ws U.heap ∧ va_K D cls ty U ∧ va_D (fun _ => True) ws ∧ ev_v U)
theorem ev_v.calling {U : State} (h : ev_v U) (g : JFrame) (mk : MethodId) (a : Array Value) : ev_v (U.calling g mk a) := h.warm (State.WarmedH.refl U)
theorem gv_blind {D : va_G} {ws : va_W} {ty : List (ClassId × FieldType)} {sz : Nat} {av : List Value} : FrameBlind (gPv D ws ty sz av) := fun a U g mk q => by
  obtain ⟨q0, q1, qP, qK, qD, qE⟩ := q
  exact ⟨q0, q1, qP, va_K.moved (u := U) (U := U.calling g mk a) (Vm.Alike.refl U.vm) qK, qD, qE.calling g mk a⟩
theorem gv_pre {D : va_G} {ws : va_W} {ty : List (ClassId × FieldType)} {s U : State} {H : Heap} {A : Nat → Prop} {av : List Value} (hE : ev_v s) (hU : U.heap = H) (hW : s.WarmedH U.vm) (hP : va_P D cls ws H) (hK : va_K D cls ty s) (hD : va_D A ws) : gPv D ws ty H.size av av.toArray U :=
  ⟨rfl, by rw [hU], by rw [hU]; exact hP, hK.moved hW.alike, hD.weaken (fun _ _ _ _ => trivial), hE.warm hW⟩
/-- with all the surroundings -/
def gPf (D : va_G) (ws : va_W) (ty : List (ClassId × FieldType)) (sz : Nat) (av : List Value) : Array Value → State → Prop :=
  va_Pc av (fun U => U.heap.size = sz ∧ va_P D cls ws U.heap ∧ va_K D cls ty U ∧ va_D (fun _ => True) ws ∧ ev (va_A ws U.heap.size) U)
theorem gf_blind {D : va_G} {ws : va_W} {ty : List (ClassId × FieldType)} {sz : Nat} {av : List Value} : FrameBlind (gPf D ws ty sz av) := fun a U g mk q => by
  obtain ⟨q0, q1, qP, qK, qD, qE⟩ := q
  exact ⟨q0, q1, qP, va_K.moved (u := U) (U := U.calling g mk a) (Vm.Alike.refl U.vm) qK, qD, qE.calling g mk a⟩
theorem gf_pre {D : va_G} {ws : va_W} {ty : List (ClassId × FieldType)} {s U : State} {H : Heap} {A : Nat → Prop} {locs : List Loc} {av : List Value} (hU : U.heap = H) (hW : s.WarmedH U.vm) (hP : va_P D cls ws H) (hK : va_K D cls ty s) (hD : va_D A ws) (hev : ev A s) (hNS : tx_NS A s) (hS : va_S A s.heap H locs) (hFc : ∀ q, va_A ws H.size q → A q) : gPf D ws ty H.size av av.toArray U :=
  ⟨rfl, by rw [hU], by rw [hU]; exact hP, hK.moved hW.alike, hD.weaken (fun _ _ _ _ => trivial), hev.go hNS hS (by rw [hU]; exact hFc) hU hW⟩
abbrev gO (D : va_G) (ws : va_W) (ty : List (ClassId × FieldType)) (A : Nat → Prop) (t : State) : Prop := va_P D cls ws t.heap ∧ va_K D cls ty t ∧ va_D A ws
theorem nI_c (n c : Nat) : nI n + nI c = nI (n + c) := nI_add n c
/-- an array's class is its type's -/
theorem k_same {D : va_G} {cl : List vw_C} {tys : List (ClassId × FieldType)} {s : State} (hK : va_K D cl tys s) (i j : Nat) {c1 c2 : ClassId} {ty : FieldType} (h1 : tys[i]? = some (c1, ty)) (h2 : tys[j]? = some (c2, ty)) : c1 = c2 := by
  have a1 := (hK.2 i _ h1).2
  have a2 := (hK.2 j _ h2).2
  have f : ∀ c : ClassId, va_RA s c ty → s.vm.findClass ("[" ++ ty.toString) = some c := by
    intro c h
    cases ty with
    | object C => obtain ⟨_, _, _, _, _, h4⟩ := h; exact h4
    | _ => exact h
  exact Option.some.inj ((f _ a1).symm.trans (f _ a2))
theorem arrV_congr {cA : ClassId} {n : Nat} {f g : Nat → Value} (h : ∀ j, j < n → f j = g j) : arrV cA n f = arrV cA n g := by
  unfold arrV
  congr 2
  funext j
  exact h j.1 j.2
/-- the contents of an array of references, said otherwise where it has places -/
theorem p_refs {D : va_G} {cl : List vw_C} {ws : va_W} {H : Heap} (hP : va_P D cl ws H) (q0 : Nat) {a : Nat} {cA : ClassId} {n : Nat} {f g : Nat → Option Nat} (he : ws[q0]? = some (a, .inl (cA, n, .inr (.inr (.inr (.inr f)))))) (h : ∀ j, j < n → f j = g j) : va_P D cl (ws.set q0 (a, .inl (cA, n, .inr (.inr (.inr (.inr g)))))) H := by
  intro k q hq
  rw [List.getElem?_set] at hq
  split at hq
  · rename_i hk
    subst hk
    split at hq
    · cases hq
      have h0 : H[a]? = some (vp_cell cA (n, .inr (.inr (.inr (.inr f))))) := hP q0 _ he
      show H[a]? = some (vp_cell cA (n, .inr (.inr (.inr (.inr g)))))
      rw [h0]
      congr 1
      exact arrV_congr (cA := cA) (n := n) (f := fun j => va_rf (f j)) (g := fun j => va_rf (g j)) (fun j hj => by rw [h j hj])
    · cases hq
  · exact hP k q hq
theorem d_refs {A : Nat → Prop} {ws : va_W} {q0 a : Nat} {e e' : va_E} (hD : va_D A ws) (he : ws[q0]? = some (a, e)) : va_D A (ws.set q0 (a, e')) := hD.set he
