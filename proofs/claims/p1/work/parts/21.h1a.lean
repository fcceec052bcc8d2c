/-! THE LAW'S HELPERS on a fresh object. Printed by wip/gen/h1.py -/
theorem p_l {D : va_G} {cl : List vw_C} {X Y : va_W} {H : Heap} (h : va_P D cl (X ++ Y) H) : va_P D cl X H := fun k q hk => h k q (by rw [List.getElem?_append_left (List.getElem?_eq_some_iff.mp hk).1]; exact hk)
theorem p_r {D : va_G} {cl : List vw_C} {X Y : va_W} {H : Heap} (h : va_P D cl (X ++ Y) H) : va_P D cl Y H := fun k q hk => h (X.length + k) q (by rw [List.getElem?_append_right (by omega)]; simpa using hk)
theorem d_l {A : Nat → Prop} {X Y : va_W} (h : va_D A (X ++ Y)) : va_D A X :=
  have g : ∀ (k : Nat) (q : Nat × va_E), X[k]? = some q → (X ++ Y)[k]? = some q := fun k q hk => by rw [List.getElem?_append_left (List.getElem?_eq_some_iff.mp hk).1]; exact hk
  ⟨fun i j p q hp hq e => h.1 i j p q (g i p hp) (g j q hq) e, fun k q hk => h.2 k q (g k q hk)⟩
theorem d_r {A : Nat → Prop} {X Y : va_W} (h : va_D A (X ++ Y)) : va_D A Y :=
  have g : ∀ (k : Nat) (q : Nat × va_E), Y[k]? = some q → (X ++ Y)[X.length + k]? = some q := fun k q hk => by rw [List.getElem?_append_right (by omega)]; simpa using hk
  ⟨fun i j p q hp hq e => by have := h.1 _ _ p q (g i p hp) (g j q hq) e; omega, fun k q hk => h.2 _ q (g k q hk)⟩
/-- behind a call over X the cells of Y are as they were -/
theorem p_keep {D : va_G} {cl : List vw_C} {X Y : va_W} {H H1 : Heap} {A : Nat → Prop} (hP : va_P D cl (X ++ Y) H) (hD : va_D A (X ++ Y)) (hk : ∀ q : Nat, q < H.size → ¬ va_A X H.size q → H1[q]? = H[q]?) : va_P D cl Y H1 := by
  refine (p_r hP).kept fun k x hx => hk x.1 ((p_r hP) k x hx).lt ?_
  rintro (⟨i, e, h⟩ | h)
  · have g1 : (X ++ Y)[i]? = some (x.1, e) := by rw [List.getElem?_append_left (List.getElem?_eq_some_iff.mp h).1]; exact h
    have g2 : (X ++ Y)[X.length + k]? = some x := by rw [List.getElem?_append_right (by omega)]; simpa using hx
    have := hD.1 _ _ _ _ g1 g2 rfl
    have := (List.getElem?_eq_some_iff.mp h).1
    omega
  · exact absurd ((p_r hP) k x hx).lt (by omega)
abbrev oc (ac : Nat → ClassId) (o : Nat) (ov : Nat → Int64) : Nat × va_E := (o, .inl (ac 7, 1, .inr (.inl ov)))
def hPc (D : va_G) (ad : Nat → Nat) (ac : Nat → ClassId) (ck : Nat → Int32) (o : Nat) (ov : Nat → Int64) (sz : Nat) (av : List Value) : Array Value → State → Prop :=
  va_Pc av (fun U => U.heap.size = sz ∧ va_P D cls (fxW ad ac ck ++ [oc ac o ov]) U.heap ∧ va_K D cls (fxT ac) U ∧ va_D (fun _ => True) (fxW ad ac ck ++ [oc ac o ov]) ∧ ev (va_A (fxW ad ac ck ++ [oc ac o ov]) U.heap.size) U)
theorem h_blind {D : va_G} {ad : Nat → Nat} {ac : Nat → ClassId} {ck : Nat → Int32} {o : Nat} {ov : Nat → Int64} {sz : Nat} {av : List Value} : FrameBlind (hPc D ad ac ck o ov sz av) := fun a U g mk q => by
  obtain ⟨q0, q1, qP, qK, qD, qE⟩ := q
  exact ⟨q0, q1, qP, va_K.moved (u := U) (U := U.calling g mk a) (Vm.Alike.refl U.vm) qK, qD, qE.calling g mk a⟩
theorem h_pre {D : va_G} {ad : Nat → Nat} {ac : Nat → ClassId} {ck : Nat → Int32} {o : Nat} {ov : Nat → Int64} {s U : State} {H : Heap} {A : Nat → Prop} {locs : List Loc} {av : List Value} (hU : U.heap = H) (hW : s.WarmedH U.vm) (hP : va_P D cls (fxW ad ac ck ++ [oc ac o ov]) H) (hK : va_K D cls (fxT ac) s) (hD : va_D A (fxW ad ac ck ++ [oc ac o ov])) (hev : ev A s) (hNS : tx_NS A s) (hS : va_S A s.heap H locs) (hFc : ∀ q, va_A (fxW ad ac ck ++ [oc ac o ov]) H.size q → A q) : hPc D ad ac ck o ov H.size av av.toArray U :=
  ⟨rfl, by rw [hU], by rw [hU]; exact hP, hK.moved hW.alike, hD.weaken (fun _ _ _ _ => trivial), hev.go hNS hS (by rw [hU]; exact hFc) hU hW⟩
theorem k_put_c (r o so : Int32) : k_put r o so = 1 ∨ k_put r o so = 3 := by
  unfold k_put
  repeat' split
  all_goals simp
theorem k_era_c (r o i : Int32) : k_era r o i = 1 ∨ k_era r o i = 3 := by
  unfold k_era
  repeat' split
  all_goals simp
theorem k_com_c (r : Int32) : k_com r = 1 ∨ k_com r = 2 := by
  unfold k_com
  repeat' split
  all_goals simp
theorem k_dro_c (r : Int32) : k_dro r = 0 ∨ k_dro r = 1 := by
  unfold k_dro
  repeat' split
  all_goals simp
theorem k_sen_c (f t a : Int32) : k_sen f t a = 1 ∨ k_sen f t a = 3 := by
  unfold k_sen
  repeat' split
  all_goals simp
theorem k_joi_c (f t : Int32) : k_joi f t = 0 ∨ k_joi f t = 1 := by
  unfold k_joi
  repeat' split
  all_goals simp
theorem k_loo_c (r a : Int32) : k_loo r a = 0 ∨ k_loo r a = 1 ∨ k_loo r a = 2 := by
  unfold k_loo
  repeat' split
  all_goals simp
theorem k_obj_c (r o w : Int32) : k_obj r o w = 0 ∨ k_obj r o w = 1 ∨ k_obj r o w = 2 := by
  unfold k_obj
  repeat' split
  all_goals simp
theorem k_key_c (r : Int32) : k_key r = 1 ∨ k_key r = 2 := by
  unfold k_key
  repeat' split
  all_goals simp
theorem k_can_c (r o i w : Int32) : k_can r o i w = 1 ∨ k_can r o i w = 2 := by
  unfold k_can
  repeat' split
  all_goals simp
theorem k_ele_c (r o : Int32) : k_ele r o = 1 ∨ k_ele r o = 2 := by
  unfold k_ele
  repeat' split
  all_goals simp
theorem k_tex_c (r o : Int32) : k_tex r o = 0 ∨ k_tex r o = 3 ∨ k_tex r o = 1 := by
  unfold k_tex
  repeat' split
  all_goals simp
theorem k_har_c (b : Int32) : k_har b = 1 ∨ k_har b = 2 := by
  unfold k_har
  repeat' split
  all_goals simp
theorem k_out_c (i : Int32) : k_out i = 0 ∨ k_out i = 1 := by
  unfold k_out
  repeat' split
  all_goals simp
theorem k_end_c (n : Int32) : k_end n = 0 ∨ k_end n = 1 := by
  unfold k_end
  repeat' split
  all_goals simp
theorem d_h_set_0 : decode method_5_code 0 = .ok (.aload 6, 2) := by decide +kernel
theorem d_h_set_2 : decode method_5_code 2 = .ok (.iconst 0, 1) := by decide +kernel
theorem d_h_set_3 : decode method_5_code 3 = .ok (.aload_n 0, 1) := by decide +kernel
theorem d_h_set_4 : decode method_5_code 4 = .ok (.iload_n 1, 1) := by decide +kernel
theorem d_h_set_5 : decode method_5_code 5 = .ok (.iload_n 2, 1) := by decide +kernel
theorem d_h_set_6 : decode method_5_code 6 = .ok (.iload_n 3, 1) := by decide +kernel
theorem d_h_set_7 : decode method_5_code 7 = .ok (.lload 4, 2) := by decide +kernel
theorem d_h_set_9 : decode method_5_code 9 = .ok (.invokevirtual 21, 3) := by decide +kernel
theorem d_h_set_17 : decode method_5_code 17 = .ok (.astore 7, 2) := by decide +kernel
theorem d_h_set_19 : decode method_5_code 19 = .ok (.iconst 1, 1) := by decide +kernel
theorem d_h_set_20 : decode method_5_code 20 = .ok (.ireturn, 1) := by decide +kernel
set_option maxHeartbeats 4000000 in
set_option maxRecDepth 100000 in
theorem h_set (l : Launch) (hfl : l.flags = flags0) (D : va_G) (ad : Nat → Nat) (ac : Nat → ClassId) (ck : Nat → Int32) (o : Nat) (ov : Nat → Int64) (sz : Nat) (r : Int32) (o0 : Int32) (so : Int32) (n : Int64) : Met l ⟨"JoinedTreesLaw", "set", "(LJoinedTrees;IIIJ[J)I"⟩ (Cond.codeWith ⟨"JoinedTreesLaw", "set", "(LJoinedTrees;IIIJ[J)I"⟩ method_5_code 8 (some .int) [(0, 14, 17, 19), (0, 14, 21, 25), (0, 14, 25, 27), (0, 14, 29, 13)] :: gb) ({ frames := 8, cells := 1, slots := 6, locals := 149 }) (hPc D ad ac ck o ov sz [.ref (ad 0), .int r, .int o0, .int so, .long n, .ref o]) (va_Qi (fun (rz : Int32) (u : Nat → Int64) => rz = 1 ∧ (1 = 0 → u 0 = 0)) (fun u t => gO D [oc ac o u] [(ac 7, .long)] (va_A (fxW ad ac ck ++ [oc ac o ov]) sz) t) (va_A (fxW ad ac ck ++ [oc ac o ov]) sz)) 1 6 (va_A (fxW ad ac ck ++ [oc ac o ov]) sz) := by
  refine tx_ofW (cc := method_5_code) (maxL := 8) (ret := (some .int)) (hs := [(0, 14, 17, 19), (0, 14, 21, 25), (0, 14, 25, 27), (0, 14, 29, 13)]) (by decide) rfl ?_
  intro p e s m args below meth c s₁ B hml htab hv
  obtain ⟨rfl, hsz, hP, hK, hD0, hev⟩ := hv
  have hx := B.exec
  have hb := B.bytes
  have hr := B.returns
  have hts : ∀ w9 ∈ gb, w9.before [.ref (ad 0), .int r, .int o0, .int so, .long n, .ref o].toArray s = true := fun w9 h => atoms_spec (ws := Cond.codeWith ⟨"JoinedTreesLaw", "set", "(LJoinedTrees;IIIJ[J)I"⟩ method_5_code 8 (some .int) [(0, 14, 17, 19), (0, 14, 21, 25), (0, 14, 25, 27), (0, 14, 29, 13)] :: gb) B.pre w9 (List.mem_cons_of_mem _ h)
  have hown : s.vm.findClass "JoinedTreesLaw" = some m.cls := findClass_of_methodNamed B.named
  have hlocks := B.notSynchronized
  subst hsz
  have hNS := ns_of hP
  have hD := hD0.self (sz := s.heap.size)
  generalize hAe : va_A (fxW ad ac ck ++ [oc ac o ov]) s.heap.size = A at hD hev hNS ⊢
  have hA : ∀ q : Nat, s.heap.size ≤ q → A q := fun q h => by rw [← hAe]; exact Or.inr h
  have hS : va_S A s.heap s.heap [] := va_S.rf
  have hl := lv_entry ([.ref (ad 0), .int r, .int o0, .int so, .long n, .ref o]) (n := 8) (Nat.le_of_ble_eq_true rfl)
  rw [lg_entry_eq]
  generalize (lg_sl ([.ref (ad 0), .int r, .int o0, .int so, .long n, .ref o]) ++ List.replicate (8 - (lg_sl ([.ref (ad 0), .int r, .int o0, .int so, .long n, .ref o])).length) Slot.unset).toArray = ls at hl ⊢
  have hl : lv_has ls 8 [(0, .ref (ad 0)), (1, .int r), (2, .int o0), (3, .int so), (4, .long n), (6, .ref o)] := hl
  refine lv_aload hx hb d_h_set_0 (lv_at hl 5 rfl) ?_
  refine lv_iconst (v := 0) hx hb d_h_set_2 (by decide) ?_
  refine lv_aload_n hx hb d_h_set_3 rfl (lv_at hl 0 rfl) ?_
  refine lv_iload_n hx hb d_h_set_4 rfl (lv_at hl 1 rfl) ?_
  refine lv_iload_n hx hb d_h_set_5 rfl (lv_at hl 2 rfl) ?_
  refine lv_iload_n hx hb d_h_set_6 rfl (lv_at hl 3 rfl) ?_
  refine lv_lload hx hb d_h_set_7 (lv_at hl 4 rfl) ?_
  have hPx := p_l hP
  have hDx := d_l hD
  have hFc := fr_all hDx hS hA
  have hq := True.intro
  refine tx_catch (tx_runV (As := [.int r, .int o0, .int so, .long n]) (rest := [.int 0, .ref o]) ⟨hx, hb, hml, hown, hts⟩ (c_set_1 l hfl D ad ac ck s.heap.size r o0 so n) (cw_v 4 hts kw_585 kw_582 kw_583 kw_584 kw_1 rfl rfl (by decide +kernel) ⟨Nat.le_of_ble_eq_true rfl, Nat.le_of_ble_eq_true rfl⟩) ⟨fx_blind, va_recv hK hPx (ci := 11) (q0 := 0) rfl rfl, fun U hU hW => fx_pre hU hW hPx hK hDx hev hNS hS hFc⟩ rfl rfl hl.1 rfl (lv_room (Nat.le_of_ble_eq_true rfl)) d_h_set_9 ⟨Nat.le_of_ble_eq_true rfl, Nat.le_of_ble_eq_true rfl⟩) hown hS hFc htab [] [(0, 14, 21, 25), (0, 14, 25, 27), (0, 14, 29, 13)] (0, 14, 17, 19) rfl (by decide) (by decide) (hts _ kw_553) (va_Nw.use rfl hev.2.2.2.2.2.1.1) (fun y hy => absurd hy List.not_mem_nil) (fun z H locs hz1 hk1 hS => ?_)
  have hPo := p_keep hP hD hk1
  have hDo := d_r hD
  refine W.cs (cells' := 1) (slots' := 6) rfl rfl ?_
  refine lv_astore (lv' := [(7, .ref z), (0, .ref (ad 0)), (1, .int r), (2, .int o0), (3, .int so), (4, .long n), (6, .ref o)]) hx hb d_h_set_17 hl (by decide) rfl (fun ls hl => ?_)
  refine lv_iconst (v := 1) hx hb d_h_set_19 (by decide) ?_
  exact W.iret (v := 1) hx hb hr (fun t ht hW => ⟨⟨1, ov, rfl, ⟨rfl.symm, fun h => absurd (h) (by decide)⟩, by rw [ht]; exact hPo, va_K.moved hW.alike (hK.sub (tys' := [(ac 7, .long)]) [7] rfl), hDo⟩, hS.F ht⟩) hS.2.2 d_h_set_20
theorem d_h_splice_0 : decode method_8_code 0 = .ok (.aload 5, 2) := by decide +kernel
theorem d_h_splice_2 : decode method_8_code 2 = .ok (.iconst 0, 1) := by decide +kernel
theorem d_h_splice_3 : decode method_8_code 3 = .ok (.aload_n 0, 1) := by decide +kernel
theorem d_h_splice_4 : decode method_8_code 4 = .ok (.iload_n 1, 1) := by decide +kernel
theorem d_h_splice_5 : decode method_8_code 5 = .ok (.iload_n 2, 1) := by decide +kernel
theorem d_h_splice_6 : decode method_8_code 6 = .ok (.iload_n 3, 1) := by decide +kernel
theorem d_h_splice_7 : decode method_8_code 7 = .ok (.iload 4, 2) := by decide +kernel
theorem d_h_splice_9 : decode method_8_code 9 = .ok (.invokevirtual 36, 3) := by decide +kernel
theorem d_h_splice_17 : decode method_8_code 17 = .ok (.astore 6, 2) := by decide +kernel
theorem d_h_splice_19 : decode method_8_code 19 = .ok (.iconst 1, 1) := by decide +kernel
theorem d_h_splice_20 : decode method_8_code 20 = .ok (.ireturn, 1) := by decide +kernel
set_option maxHeartbeats 4000000 in
set_option maxRecDepth 100000 in
theorem h_splice (l : Launch) (hfl : l.flags = flags0) (D : va_G) (ad : Nat → Nat) (ac : Nat → ClassId) (ck : Nat → Int32) (o : Nat) (ov : Nat → Int64) (sz : Nat) (r : Int32) (o0 : Int32) (i : Int32) (n : Int32) : Met l ⟨"JoinedTreesLaw", "splice", "(LJoinedTrees;IIII[J)I"⟩ (Cond.codeWith ⟨"JoinedTreesLaw", "splice", "(LJoinedTrees;IIII[J)I"⟩ method_8_code 7 (some .int) [(0, 14, 17, 19), (0, 14, 21, 25), (0, 14, 25, 27), (0, 14, 29, 13)] :: gb) ({ frames := 8, cells := 1, slots := 6, locals := 146 }) (hPc D ad ac ck o ov sz [.ref (ad 0), .int r, .int o0, .int i, .int n, .ref o]) (va_Qi (fun (rz : Int32) (u : Nat → Int64) => rz = 1 ∧ (1 = 0 → u 0 = 0)) (fun u t => gO D [oc ac o u] [(ac 7, .long)] (va_A (fxW ad ac ck ++ [oc ac o ov]) sz) t) (va_A (fxW ad ac ck ++ [oc ac o ov]) sz)) 1 6 (va_A (fxW ad ac ck ++ [oc ac o ov]) sz) := by
  refine tx_ofW (cc := method_8_code) (maxL := 7) (ret := (some .int)) (hs := [(0, 14, 17, 19), (0, 14, 21, 25), (0, 14, 25, 27), (0, 14, 29, 13)]) (by decide) rfl ?_
  intro p e s m args below meth c s₁ B hml htab hv
  obtain ⟨rfl, hsz, hP, hK, hD0, hev⟩ := hv
  have hx := B.exec
  have hb := B.bytes
  have hr := B.returns
  have hts : ∀ w9 ∈ gb, w9.before [.ref (ad 0), .int r, .int o0, .int i, .int n, .ref o].toArray s = true := fun w9 h => atoms_spec (ws := Cond.codeWith ⟨"JoinedTreesLaw", "splice", "(LJoinedTrees;IIII[J)I"⟩ method_8_code 7 (some .int) [(0, 14, 17, 19), (0, 14, 21, 25), (0, 14, 25, 27), (0, 14, 29, 13)] :: gb) B.pre w9 (List.mem_cons_of_mem _ h)
  have hown : s.vm.findClass "JoinedTreesLaw" = some m.cls := findClass_of_methodNamed B.named
  have hlocks := B.notSynchronized
  subst hsz
  have hNS := ns_of hP
  have hD := hD0.self (sz := s.heap.size)
  generalize hAe : va_A (fxW ad ac ck ++ [oc ac o ov]) s.heap.size = A at hD hev hNS ⊢
  have hA : ∀ q : Nat, s.heap.size ≤ q → A q := fun q h => by rw [← hAe]; exact Or.inr h
  have hS : va_S A s.heap s.heap [] := va_S.rf
  have hl := lv_entry ([.ref (ad 0), .int r, .int o0, .int i, .int n, .ref o]) (n := 7) (Nat.le_of_ble_eq_true rfl)
  rw [lg_entry_eq]
  generalize (lg_sl ([.ref (ad 0), .int r, .int o0, .int i, .int n, .ref o]) ++ List.replicate (7 - (lg_sl ([.ref (ad 0), .int r, .int o0, .int i, .int n, .ref o])).length) Slot.unset).toArray = ls at hl ⊢
  have hl : lv_has ls 7 [(0, .ref (ad 0)), (1, .int r), (2, .int o0), (3, .int i), (4, .int n), (5, .ref o)] := hl
  refine lv_aload hx hb d_h_splice_0 (lv_at hl 5 rfl) ?_
  refine lv_iconst (v := 0) hx hb d_h_splice_2 (by decide) ?_
  refine lv_aload_n hx hb d_h_splice_3 rfl (lv_at hl 0 rfl) ?_
  refine lv_iload_n hx hb d_h_splice_4 rfl (lv_at hl 1 rfl) ?_
  refine lv_iload_n hx hb d_h_splice_5 rfl (lv_at hl 2 rfl) ?_
  refine lv_iload_n hx hb d_h_splice_6 rfl (lv_at hl 3 rfl) ?_
  refine lv_iload hx hb d_h_splice_7 (lv_at hl 4 rfl) ?_
  have hPx := p_l hP
  have hDx := d_l hD
  have hFc := fr_all hDx hS hA
  have hq := True.intro
  refine tx_catch (tx_runV (As := [.int r, .int o0, .int i, .int n]) (rest := [.int 0, .ref o]) ⟨hx, hb, hml, hown, hts⟩ (c_splice_1 l hfl D ad ac ck s.heap.size r o0 i n) (cw_v 4 hts kw_815 kw_812 kw_813 kw_814 kw_1 rfl rfl (by decide +kernel) ⟨Nat.le_of_ble_eq_true rfl, Nat.le_of_ble_eq_true rfl⟩) ⟨fx_blind, va_recv hK hPx (ci := 11) (q0 := 0) rfl rfl, fun U hU hW => fx_pre hU hW hPx hK hDx hev hNS hS hFc⟩ rfl rfl hl.1 rfl (lv_room (Nat.le_of_ble_eq_true rfl)) d_h_splice_9 ⟨Nat.le_of_ble_eq_true rfl, Nat.le_of_ble_eq_true rfl⟩) hown hS hFc htab [] [(0, 14, 21, 25), (0, 14, 25, 27), (0, 14, 29, 13)] (0, 14, 17, 19) rfl (by decide) (by decide) (hts _ kw_553) (va_Nw.use rfl hev.2.2.2.2.2.1.1) (fun y hy => absurd hy List.not_mem_nil) (fun z H locs hz1 hk1 hS => ?_)
  have hPo := p_keep hP hD hk1
  have hDo := d_r hD
  refine W.cs (cells' := 1) (slots' := 6) rfl rfl ?_
  refine lv_astore (lv' := [(6, .ref z), (0, .ref (ad 0)), (1, .int r), (2, .int o0), (3, .int i), (4, .int n), (5, .ref o)]) hx hb d_h_splice_17 hl (by decide) rfl (fun ls hl => ?_)
  refine lv_iconst (v := 1) hx hb d_h_splice_19 (by decide) ?_
  exact W.iret (v := 1) hx hb hr (fun t ht hW => ⟨⟨1, ov, rfl, ⟨rfl.symm, fun h => absurd (h) (by decide)⟩, by rw [ht]; exact hPo, va_K.moved hW.alike (hK.sub (tys' := [(ac 7, .long)]) [7] rfl), hDo⟩, hS.F ht⟩) hS.2.2 d_h_splice_20
theorem d_h_read_0 : decode method_11_code 0 = .ok (.aload_n 3, 1) := by decide +kernel
theorem d_h_read_1 : decode method_11_code 1 = .ok (.iconst 0, 1) := by decide +kernel
theorem d_h_read_2 : decode method_11_code 2 = .ok (.aload_n 0, 1) := by decide +kernel
theorem d_h_read_3 : decode method_11_code 3 = .ok (.iload_n 1, 1) := by decide +kernel
theorem d_h_read_4 : decode method_11_code 4 = .ok (.iload_n 2, 1) := by decide +kernel
theorem d_h_read_5 : decode method_11_code 5 = .ok (.invokevirtual 47, 3) := by decide +kernel
theorem d_h_read_13 : decode method_11_code 13 = .ok (.astore 4, 2) := by decide +kernel
theorem d_h_read_15 : decode method_11_code 15 = .ok (.iconst 1, 1) := by decide +kernel
theorem d_h_read_16 : decode method_11_code 16 = .ok (.ireturn, 1) := by decide +kernel
set_option maxHeartbeats 4000000 in
set_option maxRecDepth 100000 in
theorem h_read (l : Launch) (hfl : l.flags = flags0) (D : va_G) (ad : Nat → Nat) (ac : Nat → ClassId) (ck : Nat → Int32) (o : Nat) (ov : Nat → Int64) (sz : Nat) (r : Int32) (o0 : Int32) : Met l ⟨"JoinedTreesLaw", "read", "(LJoinedTrees;II[J)I"⟩ (Cond.codeWith ⟨"JoinedTreesLaw", "read", "(LJoinedTrees;II[J)I"⟩ method_11_code 5 (some .int) [(0, 10, 13, 19), (0, 10, 17, 25), (0, 10, 21, 27), (0, 10, 25, 13)] :: gb) ({ frames := 8, cells := 1, slots := 6, locals := 142 }) (hPc D ad ac ck o ov sz [.ref (ad 0), .int r, .int o0, .ref o]) (va_Qi (fun (rz : Int32) (u : Nat → Int64) => rz = 1 ∧ (1 = 0 → u 0 = 0)) (fun u t => gO D [oc ac o u] [(ac 7, .long)] (va_A (fxW ad ac ck ++ [oc ac o ov]) sz) t) (va_A (fxW ad ac ck ++ [oc ac o ov]) sz)) 1 6 (va_A (fxW ad ac ck ++ [oc ac o ov]) sz) := by
  refine tx_ofW (cc := method_11_code) (maxL := 5) (ret := (some .int)) (hs := [(0, 10, 13, 19), (0, 10, 17, 25), (0, 10, 21, 27), (0, 10, 25, 13)]) (by decide) rfl ?_
  intro p e s m args below meth c s₁ B hml htab hv
  obtain ⟨rfl, hsz, hP, hK, hD0, hev⟩ := hv
  have hx := B.exec
  have hb := B.bytes
  have hr := B.returns
  have hts : ∀ w9 ∈ gb, w9.before [.ref (ad 0), .int r, .int o0, .ref o].toArray s = true := fun w9 h => atoms_spec (ws := Cond.codeWith ⟨"JoinedTreesLaw", "read", "(LJoinedTrees;II[J)I"⟩ method_11_code 5 (some .int) [(0, 10, 13, 19), (0, 10, 17, 25), (0, 10, 21, 27), (0, 10, 25, 13)] :: gb) B.pre w9 (List.mem_cons_of_mem _ h)
  have hown : s.vm.findClass "JoinedTreesLaw" = some m.cls := findClass_of_methodNamed B.named
  have hlocks := B.notSynchronized
  subst hsz
  have hNS := ns_of hP
  have hD := hD0.self (sz := s.heap.size)
  generalize hAe : va_A (fxW ad ac ck ++ [oc ac o ov]) s.heap.size = A at hD hev hNS ⊢
  have hA : ∀ q : Nat, s.heap.size ≤ q → A q := fun q h => by rw [← hAe]; exact Or.inr h
  have hS : va_S A s.heap s.heap [] := va_S.rf
  have hl := lv_entry ([.ref (ad 0), .int r, .int o0, .ref o]) (n := 5) (Nat.le_of_ble_eq_true rfl)
  rw [lg_entry_eq]
  generalize (lg_sl ([.ref (ad 0), .int r, .int o0, .ref o]) ++ List.replicate (5 - (lg_sl ([.ref (ad 0), .int r, .int o0, .ref o])).length) Slot.unset).toArray = ls at hl ⊢
  have hl : lv_has ls 5 [(0, .ref (ad 0)), (1, .int r), (2, .int o0), (3, .ref o)] := hl
  refine lv_aload_n hx hb d_h_read_0 rfl (lv_at hl 3 rfl) ?_
  refine lv_iconst (v := 0) hx hb d_h_read_1 (by decide) ?_
  refine lv_aload_n hx hb d_h_read_2 rfl (lv_at hl 0 rfl) ?_
  refine lv_iload_n hx hb d_h_read_3 rfl (lv_at hl 1 rfl) ?_
  refine lv_iload_n hx hb d_h_read_4 rfl (lv_at hl 2 rfl) ?_
  have hPx := p_l hP
  have hDx := d_l hD
  have hFc := fr_all hDx hS hA
  have hq := True.intro
  refine tx_catch (tx_runV (As := [.int r, .int o0]) (rest := [.int 0, .ref o]) ⟨hx, hb, hml, hown, hts⟩ (c_read_1 l hfl D ad ac ck s.heap.size r o0) (cw_v 2 hts kw_861 kw_858 kw_859 kw_860 kw_1 rfl rfl (by decide +kernel) ⟨Nat.le_of_ble_eq_true rfl, Nat.le_of_ble_eq_true rfl⟩) ⟨fx_blind, va_recv hK hPx (ci := 11) (q0 := 0) rfl rfl, fun U hU hW => fx_pre hU hW hPx hK hDx hev hNS hS hFc⟩ rfl rfl hl.1 rfl (lv_room (Nat.le_of_ble_eq_true rfl)) d_h_read_5 ⟨Nat.le_of_ble_eq_true rfl, Nat.le_of_ble_eq_true rfl⟩) hown hS hFc htab [] [(0, 10, 17, 25), (0, 10, 21, 27), (0, 10, 25, 13)] (0, 10, 13, 19) rfl (by decide) (by decide) (hts _ kw_553) (va_Nw.use rfl hev.2.2.2.2.2.1.1) (fun y hy => absurd hy List.not_mem_nil) (fun z H locs hz1 hk1 hS => ?_)
  have hPo := p_keep hP hD hk1
  have hDo := d_r hD
  refine W.cs (cells' := 1) (slots' := 6) rfl rfl ?_
  refine lv_astore (lv' := [(4, .ref z), (0, .ref (ad 0)), (1, .int r), (2, .int o0), (3, .ref o)]) hx hb d_h_read_13 hl (by decide) rfl (fun ls hl => ?_)
  refine lv_iconst (v := 1) hx hb d_h_read_15 (by decide) ?_
  exact W.iret (v := 1) hx hb hr (fun t ht hW => ⟨⟨1, ov, rfl, ⟨rfl.symm, fun h => absurd (h) (by decide)⟩, by rw [ht]; exact hPo, va_K.moved hW.alike (hK.sub (tys' := [(ac 7, .long)]) [7] rfl), hDo⟩, hS.F ht⟩) hS.2.2 d_h_read_16
theorem d_h_find_0 : decode method_23_code 0 = .ok (.aload_n 2, 1) := by decide +kernel
theorem d_h_find_1 : decode method_23_code 1 = .ok (.iconst 0, 1) := by decide +kernel
theorem d_h_find_2 : decode method_23_code 2 = .ok (.aload_n 0, 1) := by decide +kernel
theorem d_h_find_3 : decode method_23_code 3 = .ok (.iload_n 1, 1) := by decide +kernel
theorem d_h_find_4 : decode method_23_code 4 = .ok (.invokevirtual 85, 3) := by decide +kernel
theorem d_h_find_12 : decode method_23_code 12 = .ok (.astore_n 3, 1) := by decide +kernel
theorem d_h_find_13 : decode method_23_code 13 = .ok (.iconst 1, 1) := by decide +kernel
theorem d_h_find_14 : decode method_23_code 14 = .ok (.ireturn, 1) := by decide +kernel
set_option maxHeartbeats 4000000 in
set_option maxRecDepth 100000 in
theorem h_find (l : Launch) (hfl : l.flags = flags0) (D : va_G) (ad : Nat → Nat) (ac : Nat → ClassId) (ck : Nat → Int32) (o : Nat) (ov : Nat → Int64) (sz : Nat) (r : Int32) : Met l ⟨"JoinedTreesLaw", "find", "(LJoinedTrees;I[J)I"⟩ (Cond.codeWith ⟨"JoinedTreesLaw", "find", "(LJoinedTrees;I[J)I"⟩ method_23_code 4 (some .int) [(0, 9, 12, 19), (0, 9, 15, 27)] :: gb) ({ frames := 8, cells := 1, slots := 6, locals := 143 }) (hPc D ad ac ck o ov sz [.ref (ad 0), .int r, .ref o]) (va_Qi (fun (rz : Int32) (u : Nat → Int64) => rz = 1 ∧ (1 = 0 → u 0 = 0)) (fun u t => gO D [oc ac o u] [(ac 7, .long)] (va_A (fxW ad ac ck ++ [oc ac o ov]) sz) t) (va_A (fxW ad ac ck ++ [oc ac o ov]) sz)) 1 6 (va_A (fxW ad ac ck ++ [oc ac o ov]) sz) := by
  refine tx_ofW (cc := method_23_code) (maxL := 4) (ret := (some .int)) (hs := [(0, 9, 12, 19), (0, 9, 15, 27)]) (by decide) rfl ?_
  intro p e s m args below meth c s₁ B hml htab hv
  obtain ⟨rfl, hsz, hP, hK, hD0, hev⟩ := hv
  have hx := B.exec
  have hb := B.bytes
  have hr := B.returns
  have hts : ∀ w9 ∈ gb, w9.before [.ref (ad 0), .int r, .ref o].toArray s = true := fun w9 h => atoms_spec (ws := Cond.codeWith ⟨"JoinedTreesLaw", "find", "(LJoinedTrees;I[J)I"⟩ method_23_code 4 (some .int) [(0, 9, 12, 19), (0, 9, 15, 27)] :: gb) B.pre w9 (List.mem_cons_of_mem _ h)
  have hown : s.vm.findClass "JoinedTreesLaw" = some m.cls := findClass_of_methodNamed B.named
  have hlocks := B.notSynchronized
  subst hsz
  have hNS := ns_of hP
  have hD := hD0.self (sz := s.heap.size)
  generalize hAe : va_A (fxW ad ac ck ++ [oc ac o ov]) s.heap.size = A at hD hev hNS ⊢
  have hA : ∀ q : Nat, s.heap.size ≤ q → A q := fun q h => by rw [← hAe]; exact Or.inr h
  have hS : va_S A s.heap s.heap [] := va_S.rf
  have hl := lv_entry ([.ref (ad 0), .int r, .ref o]) (n := 4) (Nat.le_of_ble_eq_true rfl)
  rw [lg_entry_eq]
  generalize (lg_sl ([.ref (ad 0), .int r, .ref o]) ++ List.replicate (4 - (lg_sl ([.ref (ad 0), .int r, .ref o])).length) Slot.unset).toArray = ls at hl ⊢
  have hl : lv_has ls 4 [(0, .ref (ad 0)), (1, .int r), (2, .ref o)] := hl
  refine lv_aload_n hx hb d_h_find_0 rfl (lv_at hl 2 rfl) ?_
  refine lv_iconst (v := 0) hx hb d_h_find_1 (by decide) ?_
  refine lv_aload_n hx hb d_h_find_2 rfl (lv_at hl 0 rfl) ?_
  refine lv_iload_n hx hb d_h_find_3 rfl (lv_at hl 1 rfl) ?_
  have hPx := p_l hP
  have hDx := d_l hD
  have hFc := fr_all hDx hS hA
  have hq := True.intro
  refine tx_catch (tx_runV (As := [.int r]) (rest := [.int 0, .ref o]) ⟨hx, hb, hml, hown, hts⟩ (c_find_1 l hfl D ad ac ck s.heap.size r) (cw_v 1 hts kw_1180 kw_1177 kw_1178 kw_1179 kw_1 rfl rfl (by decide +kernel) ⟨Nat.le_of_ble_eq_true rfl, Nat.le_of_ble_eq_true rfl⟩) ⟨fx_blind, va_recv hK hPx (ci := 11) (q0 := 0) rfl rfl, fun U hU hW => fx_pre hU hW hPx hK hDx hev hNS hS hFc⟩ rfl rfl hl.1 rfl (lv_room (Nat.le_of_ble_eq_true rfl)) d_h_find_4 ⟨Nat.le_of_ble_eq_true rfl, Nat.le_of_ble_eq_true rfl⟩) hown hS hFc htab [] [(0, 9, 15, 27)] (0, 9, 12, 19) rfl (by decide) (by decide) (hts _ kw_553) (va_Nw.use rfl hev.2.2.2.2.2.1.1) (fun y hy => absurd hy List.not_mem_nil) (fun z H locs hz1 hk1 hS => ?_)
  have hPo := p_keep hP hD hk1
  have hDo := d_r hD
  refine W.cs (cells' := 1) (slots' := 6) rfl rfl ?_
  refine lv_astore_n (lv' := [(3, .ref z), (0, .ref (ad 0)), (1, .int r), (2, .ref o)]) hx hb d_h_find_12 rfl hl (by decide) rfl (fun ls hl => ?_)
  refine lv_iconst (v := 1) hx hb d_h_find_13 (by decide) ?_
  exact W.iret (v := 1) hx hb hr (fun t ht hW => ⟨⟨1, ov, rfl, ⟨rfl.symm, fun h => absurd (h) (by decide)⟩, by rw [ht]; exact hPo, va_K.moved hW.alike (hK.sub (tys' := [(ac 7, .long)]) [7] rfl), hDo⟩, hS.F ht⟩) hS.2.2 d_h_find_14
theorem d_h_put_0 : decode method_6_code 0 = .ok (.aload 7, 2) := by decide +kernel
theorem d_h_put_2 : decode method_6_code 2 = .ok (.iconst 0, 1) := by decide +kernel
theorem d_h_put_3 : decode method_6_code 3 = .ok (.aload_n 0, 1) := by decide +kernel
theorem d_h_put_4 : decode method_6_code 4 = .ok (.iload_n 1, 1) := by decide +kernel
theorem d_h_put_5 : decode method_6_code 5 = .ok (.iload_n 2, 1) := by decide +kernel
theorem d_h_put_6 : decode method_6_code 6 = .ok (.iload_n 3, 1) := by decide +kernel
theorem d_h_put_7 : decode method_6_code 7 = .ok (.iload 4, 2) := by decide +kernel
theorem d_h_put_9 : decode method_6_code 9 = .ok (.lload 5, 2) := by decide +kernel
theorem d_h_put_11 : decode method_6_code 11 = .ok (.invokevirtual 29, 3) := by decide +kernel
theorem d_h_put_19 : decode method_6_code 19 = .ok (.astore 8, 2) := by decide +kernel
theorem d_h_put_21 : decode method_6_code 21 = .ok (.iconst 1, 1) := by decide +kernel
theorem d_h_put_22 : decode method_6_code 22 = .ok (.ireturn, 1) := by decide +kernel
theorem d_h_put_27 : decode method_6_code 27 = .ok (.astore 8, 2) := by decide +kernel
theorem d_h_put_29 : decode method_6_code 29 = .ok (.iconst 3, 1) := by decide +kernel
theorem d_h_put_30 : decode method_6_code 30 = .ok (.ireturn, 1) := by decide +kernel
set_option maxHeartbeats 4000000 in
set_option maxRecDepth 100000 in
theorem h_put (l : Launch) (hfl : l.flags = flags0) (D : va_G) (ad : Nat → Nat) (ac : Nat → ClassId) (ck : Nat → Int32) (o : Nat) (ov : Nat → Int64) (sz : Nat) (r : Int32) (o0 : Int32) (i : Int32) (so : Int32) (n : Int64) : Met l ⟨"JoinedTreesLaw", "put", "(LJoinedTrees;IIIIJ[J)I"⟩ (Cond.codeWith ⟨"JoinedTreesLaw", "put", "(LJoinedTrees;IIIIJ[J)I"⟩ method_6_code 9 (some .int) [(0, 16, 19, 19), (0, 16, 23, 25), (0, 16, 27, 27), (0, 16, 31, 13)] :: gb) ({ frames := 9, cells := 1, slots := 6, locals := 170 }) (hPc D ad ac ck o ov sz [.ref (ad 0), .int r, .int o0, .int i, .int so, .long n, .ref o]) (va_Qi (fun (rz : Int32) (u : Nat → Int64) => rz = k_put r o0 so ∧ (k_put r o0 so = 0 → u 0 = 0)) (fun u t => gO D [oc ac o u] [(ac 7, .long)] (va_A (fxW ad ac ck ++ [oc ac o ov]) sz) t) (va_A (fxW ad ac ck ++ [oc ac o ov]) sz)) 1 6 (va_A (fxW ad ac ck ++ [oc ac o ov]) sz) := by
  refine tx_ofW (cc := method_6_code) (maxL := 9) (ret := (some .int)) (hs := [(0, 16, 19, 19), (0, 16, 23, 25), (0, 16, 27, 27), (0, 16, 31, 13)]) (by decide) rfl ?_
  intro p e s m args below meth c s₁ B hml htab hv
  obtain ⟨rfl, hsz, hP, hK, hD0, hev⟩ := hv
  have hx := B.exec
  have hb := B.bytes
  have hr := B.returns
  have hts : ∀ w9 ∈ gb, w9.before [.ref (ad 0), .int r, .int o0, .int i, .int so, .long n, .ref o].toArray s = true := fun w9 h => atoms_spec (ws := Cond.codeWith ⟨"JoinedTreesLaw", "put", "(LJoinedTrees;IIIIJ[J)I"⟩ method_6_code 9 (some .int) [(0, 16, 19, 19), (0, 16, 23, 25), (0, 16, 27, 27), (0, 16, 31, 13)] :: gb) B.pre w9 (List.mem_cons_of_mem _ h)
  have hown : s.vm.findClass "JoinedTreesLaw" = some m.cls := findClass_of_methodNamed B.named
  have hlocks := B.notSynchronized
  subst hsz
  have hNS := ns_of hP
  have hD := hD0.self (sz := s.heap.size)
  generalize hAe : va_A (fxW ad ac ck ++ [oc ac o ov]) s.heap.size = A at hD hev hNS ⊢
  have hA : ∀ q : Nat, s.heap.size ≤ q → A q := fun q h => by rw [← hAe]; exact Or.inr h
  have hS : va_S A s.heap s.heap [] := va_S.rf
  have hl := lv_entry ([.ref (ad 0), .int r, .int o0, .int i, .int so, .long n, .ref o]) (n := 9) (Nat.le_of_ble_eq_true rfl)
  rw [lg_entry_eq]
  generalize (lg_sl ([.ref (ad 0), .int r, .int o0, .int i, .int so, .long n, .ref o]) ++ List.replicate (9 - (lg_sl ([.ref (ad 0), .int r, .int o0, .int i, .int so, .long n, .ref o])).length) Slot.unset).toArray = ls at hl ⊢
  have hl : lv_has ls 9 [(0, .ref (ad 0)), (1, .int r), (2, .int o0), (3, .int i), (4, .int so), (5, .long n), (7, .ref o)] := hl
  refine lv_aload hx hb d_h_put_0 (lv_at hl 6 rfl) ?_
  refine lv_iconst (v := 0) hx hb d_h_put_2 (by decide) ?_
  refine lv_aload_n hx hb d_h_put_3 rfl (lv_at hl 0 rfl) ?_
  refine lv_iload_n hx hb d_h_put_4 rfl (lv_at hl 1 rfl) ?_
  refine lv_iload_n hx hb d_h_put_5 rfl (lv_at hl 2 rfl) ?_
  refine lv_iload_n hx hb d_h_put_6 rfl (lv_at hl 3 rfl) ?_
  refine lv_iload hx hb d_h_put_7 (lv_at hl 4 rfl) ?_
  refine lv_lload hx hb d_h_put_9 (lv_at hl 5 rfl) ?_
  have hPx := p_l hP
  have hDx := d_l hD
  have hFc := fr_all hDx hS hA
  rcases k_put_c r o0 so with hq | hq
  · refine tx_catch (tx_runV (As := [.int r, .int o0, .int i, .int so, .long n]) (rest := [.int 0, .ref o]) ⟨hx, hb, hml, hown, hts⟩ (c_put_1 l hfl D ad ac ck s.heap.size r o0 i so n hq) (cw_v 5 hts kw_772 kw_769 kw_770 kw_771 kw_1 rfl rfl (by decide +kernel) ⟨Nat.le_of_ble_eq_true rfl, Nat.le_of_ble_eq_true rfl⟩) ⟨fx_blind, va_recv hK hPx (ci := 11) (q0 := 0) rfl rfl, fun U hU hW => fx_pre hU hW hPx hK hDx hev hNS hS hFc⟩ rfl rfl hl.1 rfl (lv_room (Nat.le_of_ble_eq_true rfl)) d_h_put_11 ⟨Nat.le_of_ble_eq_true rfl, Nat.le_of_ble_eq_true rfl⟩) hown hS hFc htab [] [(0, 16, 23, 25), (0, 16, 27, 27), (0, 16, 31, 13)] (0, 16, 19, 19) rfl (by decide) (by decide) (hts _ kw_553) (va_Nw.use rfl hev.2.2.2.2.2.1.1) (fun y hy => absurd hy List.not_mem_nil) (fun z H locs hz1 hk1 hS => ?_)
    have hPo := p_keep hP hD hk1
    have hDo := d_r hD
    refine W.cs (cells' := 1) (slots' := 6) rfl rfl ?_
    refine lv_astore (lv' := [(8, .ref z), (0, .ref (ad 0)), (1, .int r), (2, .int o0), (3, .int i), (4, .int so), (5, .long n), (7, .ref o)]) hx hb d_h_put_19 hl (by decide) rfl (fun ls hl => ?_)
    refine lv_iconst (v := 1) hx hb d_h_put_21 (by decide) ?_
    exact W.iret (v := 1) hx hb hr (fun t ht hW => ⟨⟨1, ov, rfl, ⟨hq.symm, fun h => absurd (hq.symm.trans h) (by decide)⟩, by rw [ht]; exact hPo, va_K.moved hW.alike (hK.sub (tys' := [(ac 7, .long)]) [7] rfl), hDo⟩, hS.F ht⟩) hS.2.2 d_h_put_22
  · refine tx_catch (tx_runV (As := [.int r, .int o0, .int i, .int so, .long n]) (rest := [.int 0, .ref o]) ⟨hx, hb, hml, hown, hts⟩ (c_put_3 l hfl D ad ac ck s.heap.size r o0 i so n hq) (cw_v 5 hts kw_772 kw_769 kw_770 kw_771 kw_1 rfl rfl (by decide +kernel) ⟨Nat.le_of_ble_eq_true rfl, Nat.le_of_ble_eq_true rfl⟩) ⟨fx_blind, va_recv hK hPx (ci := 11) (q0 := 0) rfl rfl, fun U hU hW => fx_pre hU hW hPx hK hDx hev hNS hS hFc⟩ rfl rfl hl.1 rfl (lv_room (Nat.le_of_ble_eq_true rfl)) d_h_put_11 ⟨Nat.le_of_ble_eq_true rfl, Nat.le_of_ble_eq_true rfl⟩) hown hS hFc htab [(0, 16, 19, 19), (0, 16, 23, 25)] [(0, 16, 31, 13)] (0, 16, 27, 27) rfl (by decide) (by decide) (hts _ kw_581) (va_Nw.use rfl hev.2.2.2.2.2.1.2.2.1) (List.forall_mem_cons.mpr ⟨⟨by decide, by decide, "java/lang/IllegalArgumentException", hts _ kw_553, hev.2.2.2.2.2.2.2.1.1⟩, List.forall_mem_cons.mpr ⟨⟨by decide, by decide, "java/lang/IllegalStateException", hts _ kw_580, hev.2.2.2.2.2.2.2.1.2.1⟩, fun y hy => absurd hy List.not_mem_nil⟩⟩) (fun z H locs hz1 hk1 hS => ?_)
    have hPo := p_keep hP hD hk1
    have hDo := d_r hD
    refine W.cs (cells' := 1) (slots' := 6) rfl rfl ?_
    refine lv_astore (lv' := [(8, .ref z), (0, .ref (ad 0)), (1, .int r), (2, .int o0), (3, .int i), (4, .int so), (5, .long n), (7, .ref o)]) hx hb d_h_put_27 hl (by decide) rfl (fun ls hl => ?_)
    refine lv_iconst (v := 3) hx hb d_h_put_29 (by decide) ?_
    exact W.iret (v := 3) hx hb hr (fun t ht hW => ⟨⟨3, ov, rfl, ⟨hq.symm, fun h => absurd (hq.symm.trans h) (by decide)⟩, by rw [ht]; exact hPo, va_K.moved hW.alike (hK.sub (tys' := [(ac 7, .long)]) [7] rfl), hDo⟩, hS.F ht⟩) hS.2.2 d_h_put_30
theorem d_h_insert_0 : decode method_7_code 0 = .ok (.aload 7, 2) := by decide +kernel
theorem d_h_insert_2 : decode method_7_code 2 = .ok (.iconst 0, 1) := by decide +kernel
theorem d_h_insert_3 : decode method_7_code 3 = .ok (.aload_n 0, 1) := by decide +kernel
theorem d_h_insert_4 : decode method_7_code 4 = .ok (.iload_n 1, 1) := by decide +kernel
theorem d_h_insert_5 : decode method_7_code 5 = .ok (.iload_n 2, 1) := by decide +kernel
theorem d_h_insert_6 : decode method_7_code 6 = .ok (.iload_n 3, 1) := by decide +kernel
theorem d_h_insert_7 : decode method_7_code 7 = .ok (.iload 4, 2) := by decide +kernel
theorem d_h_insert_9 : decode method_7_code 9 = .ok (.lload 5, 2) := by decide +kernel
theorem d_h_insert_11 : decode method_7_code 11 = .ok (.invokevirtual 33, 3) := by decide +kernel
theorem d_h_insert_19 : decode method_7_code 19 = .ok (.astore 8, 2) := by decide +kernel
theorem d_h_insert_21 : decode method_7_code 21 = .ok (.iconst 1, 1) := by decide +kernel
theorem d_h_insert_22 : decode method_7_code 22 = .ok (.ireturn, 1) := by decide +kernel
theorem d_h_insert_27 : decode method_7_code 27 = .ok (.astore 8, 2) := by decide +kernel
theorem d_h_insert_29 : decode method_7_code 29 = .ok (.iconst 3, 1) := by decide +kernel
theorem d_h_insert_30 : decode method_7_code 30 = .ok (.ireturn, 1) := by decide +kernel
set_option maxHeartbeats 4000000 in
set_option maxRecDepth 100000 in
theorem h_insert (l : Launch) (hfl : l.flags = flags0) (D : va_G) (ad : Nat → Nat) (ac : Nat → ClassId) (ck : Nat → Int32) (o : Nat) (ov : Nat → Int64) (sz : Nat) (r : Int32) (o0 : Int32) (i : Int32) (so : Int32) (n : Int64) : Met l ⟨"JoinedTreesLaw", "insert", "(LJoinedTrees;IIIIJ[J)I"⟩ (Cond.codeWith ⟨"JoinedTreesLaw", "insert", "(LJoinedTrees;IIIIJ[J)I"⟩ method_7_code 9 (some .int) [(0, 16, 19, 19), (0, 16, 23, 25), (0, 16, 27, 27), (0, 16, 31, 13)] :: gb) ({ frames := 9, cells := 1, slots := 6, locals := 171 }) (hPc D ad ac ck o ov sz [.ref (ad 0), .int r, .int o0, .int i, .int so, .long n, .ref o]) (va_Qi (fun (rz : Int32) (u : Nat → Int64) => rz = k_put r o0 so ∧ (k_put r o0 so = 0 → u 0 = 0)) (fun u t => gO D [oc ac o u] [(ac 7, .long)] (va_A (fxW ad ac ck ++ [oc ac o ov]) sz) t) (va_A (fxW ad ac ck ++ [oc ac o ov]) sz)) 1 6 (va_A (fxW ad ac ck ++ [oc ac o ov]) sz) := by
  refine tx_ofW (cc := method_7_code) (maxL := 9) (ret := (some .int)) (hs := [(0, 16, 19, 19), (0, 16, 23, 25), (0, 16, 27, 27), (0, 16, 31, 13)]) (by decide) rfl ?_
  intro p e s m args below meth c s₁ B hml htab hv
  obtain ⟨rfl, hsz, hP, hK, hD0, hev⟩ := hv
  have hx := B.exec
  have hb := B.bytes
  have hr := B.returns
  have hts : ∀ w9 ∈ gb, w9.before [.ref (ad 0), .int r, .int o0, .int i, .int so, .long n, .ref o].toArray s = true := fun w9 h => atoms_spec (ws := Cond.codeWith ⟨"JoinedTreesLaw", "insert", "(LJoinedTrees;IIIIJ[J)I"⟩ method_7_code 9 (some .int) [(0, 16, 19, 19), (0, 16, 23, 25), (0, 16, 27, 27), (0, 16, 31, 13)] :: gb) B.pre w9 (List.mem_cons_of_mem _ h)
  have hown : s.vm.findClass "JoinedTreesLaw" = some m.cls := findClass_of_methodNamed B.named
  have hlocks := B.notSynchronized
  subst hsz
  have hNS := ns_of hP
  have hD := hD0.self (sz := s.heap.size)
  generalize hAe : va_A (fxW ad ac ck ++ [oc ac o ov]) s.heap.size = A at hD hev hNS ⊢
  have hA : ∀ q : Nat, s.heap.size ≤ q → A q := fun q h => by rw [← hAe]; exact Or.inr h
  have hS : va_S A s.heap s.heap [] := va_S.rf
  have hl := lv_entry ([.ref (ad 0), .int r, .int o0, .int i, .int so, .long n, .ref o]) (n := 9) (Nat.le_of_ble_eq_true rfl)
  rw [lg_entry_eq]
  generalize (lg_sl ([.ref (ad 0), .int r, .int o0, .int i, .int so, .long n, .ref o]) ++ List.replicate (9 - (lg_sl ([.ref (ad 0), .int r, .int o0, .int i, .int so, .long n, .ref o])).length) Slot.unset).toArray = ls at hl ⊢
  have hl : lv_has ls 9 [(0, .ref (ad 0)), (1, .int r), (2, .int o0), (3, .int i), (4, .int so), (5, .long n), (7, .ref o)] := hl
  refine lv_aload hx hb d_h_insert_0 (lv_at hl 6 rfl) ?_
  refine lv_iconst (v := 0) hx hb d_h_insert_2 (by decide) ?_
  refine lv_aload_n hx hb d_h_insert_3 rfl (lv_at hl 0 rfl) ?_
  refine lv_iload_n hx hb d_h_insert_4 rfl (lv_at hl 1 rfl) ?_
  refine lv_iload_n hx hb d_h_insert_5 rfl (lv_at hl 2 rfl) ?_
  refine lv_iload_n hx hb d_h_insert_6 rfl (lv_at hl 3 rfl) ?_
  refine lv_iload hx hb d_h_insert_7 (lv_at hl 4 rfl) ?_
  refine lv_lload hx hb d_h_insert_9 (lv_at hl 5 rfl) ?_
  have hPx := p_l hP
  have hDx := d_l hD
  have hFc := fr_all hDx hS hA
  rcases k_put_c r o0 so with hq | hq
  · refine tx_catch (tx_runV (As := [.int r, .int o0, .int i, .int so, .long n]) (rest := [.int 0, .ref o]) ⟨hx, hb, hml, hown, hts⟩ (c_insert_1 l hfl D ad ac ck s.heap.size r o0 i so n hq) (cw_v 5 hts kw_796 kw_793 kw_794 kw_795 kw_1 rfl rfl (by decide +kernel) ⟨Nat.le_of_ble_eq_true rfl, Nat.le_of_ble_eq_true rfl⟩) ⟨fx_blind, va_recv hK hPx (ci := 11) (q0 := 0) rfl rfl, fun U hU hW => fx_pre hU hW hPx hK hDx hev hNS hS hFc⟩ rfl rfl hl.1 rfl (lv_room (Nat.le_of_ble_eq_true rfl)) d_h_insert_11 ⟨Nat.le_of_ble_eq_true rfl, Nat.le_of_ble_eq_true rfl⟩) hown hS hFc htab [] [(0, 16, 23, 25), (0, 16, 27, 27), (0, 16, 31, 13)] (0, 16, 19, 19) rfl (by decide) (by decide) (hts _ kw_553) (va_Nw.use rfl hev.2.2.2.2.2.1.1) (fun y hy => absurd hy List.not_mem_nil) (fun z H locs hz1 hk1 hS => ?_)
    have hPo := p_keep hP hD hk1
    have hDo := d_r hD
    refine W.cs (cells' := 1) (slots' := 6) rfl rfl ?_
    refine lv_astore (lv' := [(8, .ref z), (0, .ref (ad 0)), (1, .int r), (2, .int o0), (3, .int i), (4, .int so), (5, .long n), (7, .ref o)]) hx hb d_h_insert_19 hl (by decide) rfl (fun ls hl => ?_)
    refine lv_iconst (v := 1) hx hb d_h_insert_21 (by decide) ?_
    exact W.iret (v := 1) hx hb hr (fun t ht hW => ⟨⟨1, ov, rfl, ⟨hq.symm, fun h => absurd (hq.symm.trans h) (by decide)⟩, by rw [ht]; exact hPo, va_K.moved hW.alike (hK.sub (tys' := [(ac 7, .long)]) [7] rfl), hDo⟩, hS.F ht⟩) hS.2.2 d_h_insert_22
  · refine tx_catch (tx_runV (As := [.int r, .int o0, .int i, .int so, .long n]) (rest := [.int 0, .ref o]) ⟨hx, hb, hml, hown, hts⟩ (c_insert_3 l hfl D ad ac ck s.heap.size r o0 i so n hq) (cw_v 5 hts kw_796 kw_793 kw_794 kw_795 kw_1 rfl rfl (by decide +kernel) ⟨Nat.le_of_ble_eq_true rfl, Nat.le_of_ble_eq_true rfl⟩) ⟨fx_blind, va_recv hK hPx (ci := 11) (q0 := 0) rfl rfl, fun U hU hW => fx_pre hU hW hPx hK hDx hev hNS hS hFc⟩ rfl rfl hl.1 rfl (lv_room (Nat.le_of_ble_eq_true rfl)) d_h_insert_11 ⟨Nat.le_of_ble_eq_true rfl, Nat.le_of_ble_eq_true rfl⟩) hown hS hFc htab [(0, 16, 19, 19), (0, 16, 23, 25)] [(0, 16, 31, 13)] (0, 16, 27, 27) rfl (by decide) (by decide) (hts _ kw_581) (va_Nw.use rfl hev.2.2.2.2.2.1.2.2.1) (List.forall_mem_cons.mpr ⟨⟨by decide, by decide, "java/lang/IllegalArgumentException", hts _ kw_553, hev.2.2.2.2.2.2.2.1.1⟩, List.forall_mem_cons.mpr ⟨⟨by decide, by decide, "java/lang/IllegalStateException", hts _ kw_580, hev.2.2.2.2.2.2.2.1.2.1⟩, fun y hy => absurd hy List.not_mem_nil⟩⟩) (fun z H locs hz1 hk1 hS => ?_)
    have hPo := p_keep hP hD hk1
    have hDo := d_r hD
    refine W.cs (cells' := 1) (slots' := 6) rfl rfl ?_
    refine lv_astore (lv' := [(8, .ref z), (0, .ref (ad 0)), (1, .int r), (2, .int o0), (3, .int i), (4, .int so), (5, .long n), (7, .ref o)]) hx hb d_h_insert_27 hl (by decide) rfl (fun ls hl => ?_)
    refine lv_iconst (v := 3) hx hb d_h_insert_29 (by decide) ?_
    exact W.iret (v := 3) hx hb hr (fun t ht hW => ⟨⟨3, ov, rfl, ⟨hq.symm, fun h => absurd (hq.symm.trans h) (by decide)⟩, by rw [ht]; exact hPo, va_K.moved hW.alike (hK.sub (tys' := [(ac 7, .long)]) [7] rfl), hDo⟩, hS.F ht⟩) hS.2.2 d_h_insert_30
theorem d_h_erase_0 : decode method_9_code 0 = .ok (.aload 4, 2) := by decide +kernel
theorem d_h_erase_2 : decode method_9_code 2 = .ok (.iconst 0, 1) := by decide +kernel
theorem d_h_erase_3 : decode method_9_code 3 = .ok (.aload_n 0, 1) := by decide +kernel
theorem d_h_erase_4 : decode method_9_code 4 = .ok (.iload_n 1, 1) := by decide +kernel
theorem d_h_erase_5 : decode method_9_code 5 = .ok (.iload_n 2, 1) := by decide +kernel
theorem d_h_erase_6 : decode method_9_code 6 = .ok (.iload_n 3, 1) := by decide +kernel
theorem d_h_erase_7 : decode method_9_code 7 = .ok (.invokevirtual 40, 3) := by decide +kernel
theorem d_h_erase_15 : decode method_9_code 15 = .ok (.astore 5, 2) := by decide +kernel
theorem d_h_erase_17 : decode method_9_code 17 = .ok (.iconst 1, 1) := by decide +kernel
theorem d_h_erase_18 : decode method_9_code 18 = .ok (.ireturn, 1) := by decide +kernel
theorem d_h_erase_23 : decode method_9_code 23 = .ok (.astore 5, 2) := by decide +kernel
theorem d_h_erase_25 : decode method_9_code 25 = .ok (.iconst 3, 1) := by decide +kernel
theorem d_h_erase_26 : decode method_9_code 26 = .ok (.ireturn, 1) := by decide +kernel
set_option maxHeartbeats 4000000 in
set_option maxRecDepth 100000 in
theorem h_erase (l : Launch) (hfl : l.flags = flags0) (D : va_G) (ad : Nat → Nat) (ac : Nat → ClassId) (ck : Nat → Int32) (o : Nat) (ov : Nat → Int64) (sz : Nat) (r : Int32) (o0 : Int32) (i : Int32) : Met l ⟨"JoinedTreesLaw", "erase", "(LJoinedTrees;III[J)I"⟩ (Cond.codeWith ⟨"JoinedTreesLaw", "erase", "(LJoinedTrees;III[J)I"⟩ method_9_code 6 (some .int) [(0, 12, 15, 19), (0, 12, 19, 25), (0, 12, 23, 27), (0, 12, 27, 13)] :: gb) ({ frames := 10, cells := 1, slots := 6, locals := 189 }) (hPc D ad ac ck o ov sz [.ref (ad 0), .int r, .int o0, .int i, .ref o]) (va_Qi (fun (rz : Int32) (u : Nat → Int64) => rz = k_era r o0 i ∧ (k_era r o0 i = 0 → u 0 = 0)) (fun u t => gO D [oc ac o u] [(ac 7, .long)] (va_A (fxW ad ac ck ++ [oc ac o ov]) sz) t) (va_A (fxW ad ac ck ++ [oc ac o ov]) sz)) 1 6 (va_A (fxW ad ac ck ++ [oc ac o ov]) sz) := by
  refine tx_ofW (cc := method_9_code) (maxL := 6) (ret := (some .int)) (hs := [(0, 12, 15, 19), (0, 12, 19, 25), (0, 12, 23, 27), (0, 12, 27, 13)]) (by decide) rfl ?_
  intro p e s m args below meth c s₁ B hml htab hv
  obtain ⟨rfl, hsz, hP, hK, hD0, hev⟩ := hv
  have hx := B.exec
  have hb := B.bytes
  have hr := B.returns
  have hts : ∀ w9 ∈ gb, w9.before [.ref (ad 0), .int r, .int o0, .int i, .ref o].toArray s = true := fun w9 h => atoms_spec (ws := Cond.codeWith ⟨"JoinedTreesLaw", "erase", "(LJoinedTrees;III[J)I"⟩ method_9_code 6 (some .int) [(0, 12, 15, 19), (0, 12, 19, 25), (0, 12, 23, 27), (0, 12, 27, 13)] :: gb) B.pre w9 (List.mem_cons_of_mem _ h)
  have hown : s.vm.findClass "JoinedTreesLaw" = some m.cls := findClass_of_methodNamed B.named
  have hlocks := B.notSynchronized
  subst hsz
  have hNS := ns_of hP
  have hD := hD0.self (sz := s.heap.size)
  generalize hAe : va_A (fxW ad ac ck ++ [oc ac o ov]) s.heap.size = A at hD hev hNS ⊢
  have hA : ∀ q : Nat, s.heap.size ≤ q → A q := fun q h => by rw [← hAe]; exact Or.inr h
  have hS : va_S A s.heap s.heap [] := va_S.rf
  have hl := lv_entry ([.ref (ad 0), .int r, .int o0, .int i, .ref o]) (n := 6) (Nat.le_of_ble_eq_true rfl)
  rw [lg_entry_eq]
  generalize (lg_sl ([.ref (ad 0), .int r, .int o0, .int i, .ref o]) ++ List.replicate (6 - (lg_sl ([.ref (ad 0), .int r, .int o0, .int i, .ref o])).length) Slot.unset).toArray = ls at hl ⊢
  have hl : lv_has ls 6 [(0, .ref (ad 0)), (1, .int r), (2, .int o0), (3, .int i), (4, .ref o)] := hl
  refine lv_aload hx hb d_h_erase_0 (lv_at hl 4 rfl) ?_
  refine lv_iconst (v := 0) hx hb d_h_erase_2 (by decide) ?_
  refine lv_aload_n hx hb d_h_erase_3 rfl (lv_at hl 0 rfl) ?_
  refine lv_iload_n hx hb d_h_erase_4 rfl (lv_at hl 1 rfl) ?_
  refine lv_iload_n hx hb d_h_erase_5 rfl (lv_at hl 2 rfl) ?_
  refine lv_iload_n hx hb d_h_erase_6 rfl (lv_at hl 3 rfl) ?_
  have hPx := p_l hP
  have hDx := d_l hD
  have hFc := fr_all hDx hS hA
  rcases k_era_c r o0 i with hq | hq
  · refine tx_catch (tx_runV (As := [.int r, .int o0, .int i]) (rest := [.int 0, .ref o]) ⟨hx, hb, hml, hown, hts⟩ (c_erase_1 l hfl D ad ac ck s.heap.size r o0 i hq) (cw_v 3 hts kw_839 kw_836 kw_837 kw_838 kw_1 rfl rfl (by decide +kernel) ⟨Nat.le_of_ble_eq_true rfl, Nat.le_of_ble_eq_true rfl⟩) ⟨fx_blind, va_recv hK hPx (ci := 11) (q0 := 0) rfl rfl, fun U hU hW => fx_pre hU hW hPx hK hDx hev hNS hS hFc⟩ rfl rfl hl.1 rfl (lv_room (Nat.le_of_ble_eq_true rfl)) d_h_erase_7 ⟨Nat.le_of_ble_eq_true rfl, Nat.le_of_ble_eq_true rfl⟩) hown hS hFc htab [] [(0, 12, 19, 25), (0, 12, 23, 27), (0, 12, 27, 13)] (0, 12, 15, 19) rfl (by decide) (by decide) (hts _ kw_553) (va_Nw.use rfl hev.2.2.2.2.2.1.1) (fun y hy => absurd hy List.not_mem_nil) (fun z H locs hz1 hk1 hS => ?_)
    have hPo := p_keep hP hD hk1
    have hDo := d_r hD
    refine W.cs (cells' := 1) (slots' := 6) rfl rfl ?_
    refine lv_astore (lv' := [(5, .ref z), (0, .ref (ad 0)), (1, .int r), (2, .int o0), (3, .int i), (4, .ref o)]) hx hb d_h_erase_15 hl (by decide) rfl (fun ls hl => ?_)
    refine lv_iconst (v := 1) hx hb d_h_erase_17 (by decide) ?_
    exact W.iret (v := 1) hx hb hr (fun t ht hW => ⟨⟨1, ov, rfl, ⟨hq.symm, fun h => absurd (hq.symm.trans h) (by decide)⟩, by rw [ht]; exact hPo, va_K.moved hW.alike (hK.sub (tys' := [(ac 7, .long)]) [7] rfl), hDo⟩, hS.F ht⟩) hS.2.2 d_h_erase_18
  · refine tx_catch (tx_runV (As := [.int r, .int o0, .int i]) (rest := [.int 0, .ref o]) ⟨hx, hb, hml, hown, hts⟩ (c_erase_3 l hfl D ad ac ck s.heap.size r o0 i hq) (cw_v 3 hts kw_839 kw_836 kw_837 kw_838 kw_1 rfl rfl (by decide +kernel) ⟨Nat.le_of_ble_eq_true rfl, Nat.le_of_ble_eq_true rfl⟩) ⟨fx_blind, va_recv hK hPx (ci := 11) (q0 := 0) rfl rfl, fun U hU hW => fx_pre hU hW hPx hK hDx hev hNS hS hFc⟩ rfl rfl hl.1 rfl (lv_room (Nat.le_of_ble_eq_true rfl)) d_h_erase_7 ⟨Nat.le_of_ble_eq_true rfl, Nat.le_of_ble_eq_true rfl⟩) hown hS hFc htab [(0, 12, 15, 19), (0, 12, 19, 25)] [(0, 12, 27, 13)] (0, 12, 23, 27) rfl (by decide) (by decide) (hts _ kw_581) (va_Nw.use rfl hev.2.2.2.2.2.1.2.2.1) (List.forall_mem_cons.mpr ⟨⟨by decide, by decide, "java/lang/IllegalArgumentException", hts _ kw_553, hev.2.2.2.2.2.2.2.1.1⟩, List.forall_mem_cons.mpr ⟨⟨by decide, by decide, "java/lang/IllegalStateException", hts _ kw_580, hev.2.2.2.2.2.2.2.1.2.1⟩, fun y hy => absurd hy List.not_mem_nil⟩⟩) (fun z H locs hz1 hk1 hS => ?_)
    have hPo := p_keep hP hD hk1
    have hDo := d_r hD
    refine W.cs (cells' := 1) (slots' := 6) rfl rfl ?_
    refine lv_astore (lv' := [(5, .ref z), (0, .ref (ad 0)), (1, .int r), (2, .int o0), (3, .int i), (4, .ref o)]) hx hb d_h_erase_23 hl (by decide) rfl (fun ls hl => ?_)
    refine lv_iconst (v := 3) hx hb d_h_erase_25 (by decide) ?_
    exact W.iret (v := 3) hx hb hr (fun t ht hW => ⟨⟨3, ov, rfl, ⟨hq.symm, fun h => absurd (hq.symm.trans h) (by decide)⟩, by rw [ht]; exact hPo, va_K.moved hW.alike (hK.sub (tys' := [(ac 7, .long)]) [7] rfl), hDo⟩, hS.F ht⟩) hS.2.2 d_h_erase_26
theorem d_h_add_0 : decode method_10_code 0 = .ok (.aload 6, 2) := by decide +kernel
theorem d_h_add_2 : decode method_10_code 2 = .ok (.iconst 0, 1) := by decide +kernel
theorem d_h_add_3 : decode method_10_code 3 = .ok (.aload_n 0, 1) := by decide +kernel
theorem d_h_add_4 : decode method_10_code 4 = .ok (.iload_n 1, 1) := by decide +kernel
theorem d_h_add_5 : decode method_10_code 5 = .ok (.iload_n 2, 1) := by decide +kernel
theorem d_h_add_6 : decode method_10_code 6 = .ok (.iload_n 3, 1) := by decide +kernel
theorem d_h_add_7 : decode method_10_code 7 = .ok (.lload 4, 2) := by decide +kernel
theorem d_h_add_9 : decode method_10_code 9 = .ok (.invokevirtual 44, 3) := by decide +kernel
theorem d_h_add_17 : decode method_10_code 17 = .ok (.astore 7, 2) := by decide +kernel
theorem d_h_add_19 : decode method_10_code 19 = .ok (.iconst 1, 1) := by decide +kernel
theorem d_h_add_20 : decode method_10_code 20 = .ok (.ireturn, 1) := by decide +kernel
theorem d_h_add_25 : decode method_10_code 25 = .ok (.astore 7, 2) := by decide +kernel
theorem d_h_add_27 : decode method_10_code 27 = .ok (.iconst 3, 1) := by decide +kernel
theorem d_h_add_28 : decode method_10_code 28 = .ok (.ireturn, 1) := by decide +kernel
set_option maxHeartbeats 4000000 in
set_option maxRecDepth 100000 in
theorem h_add (l : Launch) (hfl : l.flags = flags0) (D : va_G) (ad : Nat → Nat) (ac : Nat → ClassId) (ck : Nat → Int32) (o : Nat) (ov : Nat → Int64) (sz : Nat) (r : Int32) (o0 : Int32) (i : Int32) (n : Int64) : Met l ⟨"JoinedTreesLaw", "add", "(LJoinedTrees;IIIJ[J)I"⟩ (Cond.codeWith ⟨"JoinedTreesLaw", "add", "(LJoinedTrees;IIIJ[J)I"⟩ method_10_code 8 (some .int) [(0, 14, 17, 19), (0, 14, 21, 25), (0, 14, 25, 27), (0, 14, 29, 13)] :: gb) ({ frames := 10, cells := 1, slots := 6, locals := 191 }) (hPc D ad ac ck o ov sz [.ref (ad 0), .int r, .int o0, .int i, .long n, .ref o]) (va_Qi (fun (rz : Int32) (u : Nat → Int64) => rz = k_era r o0 i ∧ (k_era r o0 i = 0 → u 0 = 0)) (fun u t => gO D [oc ac o u] [(ac 7, .long)] (va_A (fxW ad ac ck ++ [oc ac o ov]) sz) t) (va_A (fxW ad ac ck ++ [oc ac o ov]) sz)) 1 6 (va_A (fxW ad ac ck ++ [oc ac o ov]) sz) := by
  refine tx_ofW (cc := method_10_code) (maxL := 8) (ret := (some .int)) (hs := [(0, 14, 17, 19), (0, 14, 21, 25), (0, 14, 25, 27), (0, 14, 29, 13)]) (by decide) rfl ?_
  intro p e s m args below meth c s₁ B hml htab hv
  obtain ⟨rfl, hsz, hP, hK, hD0, hev⟩ := hv
  have hx := B.exec
  have hb := B.bytes
  have hr := B.returns
  have hts : ∀ w9 ∈ gb, w9.before [.ref (ad 0), .int r, .int o0, .int i, .long n, .ref o].toArray s = true := fun w9 h => atoms_spec (ws := Cond.codeWith ⟨"JoinedTreesLaw", "add", "(LJoinedTrees;IIIJ[J)I"⟩ method_10_code 8 (some .int) [(0, 14, 17, 19), (0, 14, 21, 25), (0, 14, 25, 27), (0, 14, 29, 13)] :: gb) B.pre w9 (List.mem_cons_of_mem _ h)
  have hown : s.vm.findClass "JoinedTreesLaw" = some m.cls := findClass_of_methodNamed B.named
  have hlocks := B.notSynchronized
  subst hsz
  have hNS := ns_of hP
  have hD := hD0.self (sz := s.heap.size)
  generalize hAe : va_A (fxW ad ac ck ++ [oc ac o ov]) s.heap.size = A at hD hev hNS ⊢
  have hA : ∀ q : Nat, s.heap.size ≤ q → A q := fun q h => by rw [← hAe]; exact Or.inr h
  have hS : va_S A s.heap s.heap [] := va_S.rf
  have hl := lv_entry ([.ref (ad 0), .int r, .int o0, .int i, .long n, .ref o]) (n := 8) (Nat.le_of_ble_eq_true rfl)
  rw [lg_entry_eq]
  generalize (lg_sl ([.ref (ad 0), .int r, .int o0, .int i, .long n, .ref o]) ++ List.replicate (8 - (lg_sl ([.ref (ad 0), .int r, .int o0, .int i, .long n, .ref o])).length) Slot.unset).toArray = ls at hl ⊢
  have hl : lv_has ls 8 [(0, .ref (ad 0)), (1, .int r), (2, .int o0), (3, .int i), (4, .long n), (6, .ref o)] := hl
  refine lv_aload hx hb d_h_add_0 (lv_at hl 5 rfl) ?_
  refine lv_iconst (v := 0) hx hb d_h_add_2 (by decide) ?_
  refine lv_aload_n hx hb d_h_add_3 rfl (lv_at hl 0 rfl) ?_
  refine lv_iload_n hx hb d_h_add_4 rfl (lv_at hl 1 rfl) ?_
  refine lv_iload_n hx hb d_h_add_5 rfl (lv_at hl 2 rfl) ?_
  refine lv_iload_n hx hb d_h_add_6 rfl (lv_at hl 3 rfl) ?_
  refine lv_lload hx hb d_h_add_7 (lv_at hl 4 rfl) ?_
  have hPx := p_l hP
  have hDx := d_l hD
  have hFc := fr_all hDx hS hA
  rcases k_era_c r o0 i with hq | hq
  · refine tx_catch (tx_runV (As := [.int r, .int o0, .int i, .long n]) (rest := [.int 0, .ref o]) ⟨hx, hb, hml, hown, hts⟩ (c_add_1 l hfl D ad ac ck s.heap.size r o0 i n hq) (cw_v 4 hts kw_854 kw_851 kw_852 kw_853 kw_1 rfl rfl (by decide +kernel) ⟨Nat.le_of_ble_eq_true rfl, Nat.le_of_ble_eq_true rfl⟩) ⟨fx_blind, va_recv hK hPx (ci := 11) (q0 := 0) rfl rfl, fun U hU hW => fx_pre hU hW hPx hK hDx hev hNS hS hFc⟩ rfl rfl hl.1 rfl (lv_room (Nat.le_of_ble_eq_true rfl)) d_h_add_9 ⟨Nat.le_of_ble_eq_true rfl, Nat.le_of_ble_eq_true rfl⟩) hown hS hFc htab [] [(0, 14, 21, 25), (0, 14, 25, 27), (0, 14, 29, 13)] (0, 14, 17, 19) rfl (by decide) (by decide) (hts _ kw_553) (va_Nw.use rfl hev.2.2.2.2.2.1.1) (fun y hy => absurd hy List.not_mem_nil) (fun z H locs hz1 hk1 hS => ?_)
    have hPo := p_keep hP hD hk1
    have hDo := d_r hD
    refine W.cs (cells' := 1) (slots' := 6) rfl rfl ?_
    refine lv_astore (lv' := [(7, .ref z), (0, .ref (ad 0)), (1, .int r), (2, .int o0), (3, .int i), (4, .long n), (6, .ref o)]) hx hb d_h_add_17 hl (by decide) rfl (fun ls hl => ?_)
    refine lv_iconst (v := 1) hx hb d_h_add_19 (by decide) ?_
    exact W.iret (v := 1) hx hb hr (fun t ht hW => ⟨⟨1, ov, rfl, ⟨hq.symm, fun h => absurd (hq.symm.trans h) (by decide)⟩, by rw [ht]; exact hPo, va_K.moved hW.alike (hK.sub (tys' := [(ac 7, .long)]) [7] rfl), hDo⟩, hS.F ht⟩) hS.2.2 d_h_add_20
  · refine tx_catch (tx_runV (As := [.int r, .int o0, .int i, .long n]) (rest := [.int 0, .ref o]) ⟨hx, hb, hml, hown, hts⟩ (c_add_3 l hfl D ad ac ck s.heap.size r o0 i n hq) (cw_v 4 hts kw_854 kw_851 kw_852 kw_853 kw_1 rfl rfl (by decide +kernel) ⟨Nat.le_of_ble_eq_true rfl, Nat.le_of_ble_eq_true rfl⟩) ⟨fx_blind, va_recv hK hPx (ci := 11) (q0 := 0) rfl rfl, fun U hU hW => fx_pre hU hW hPx hK hDx hev hNS hS hFc⟩ rfl rfl hl.1 rfl (lv_room (Nat.le_of_ble_eq_true rfl)) d_h_add_9 ⟨Nat.le_of_ble_eq_true rfl, Nat.le_of_ble_eq_true rfl⟩) hown hS hFc htab [(0, 14, 17, 19), (0, 14, 21, 25)] [(0, 14, 29, 13)] (0, 14, 25, 27) rfl (by decide) (by decide) (hts _ kw_581) (va_Nw.use rfl hev.2.2.2.2.2.1.2.2.1) (List.forall_mem_cons.mpr ⟨⟨by decide, by decide, "java/lang/IllegalArgumentException", hts _ kw_553, hev.2.2.2.2.2.2.2.1.1⟩, List.forall_mem_cons.mpr ⟨⟨by decide, by decide, "java/lang/IllegalStateException", hts _ kw_580, hev.2.2.2.2.2.2.2.1.2.1⟩, fun y hy => absurd hy List.not_mem_nil⟩⟩) (fun z H locs hz1 hk1 hS => ?_)
    have hPo := p_keep hP hD hk1
    have hDo := d_r hD
    refine W.cs (cells' := 1) (slots' := 6) rfl rfl ?_
    refine lv_astore (lv' := [(7, .ref z), (0, .ref (ad 0)), (1, .int r), (2, .int o0), (3, .int i), (4, .long n), (6, .ref o)]) hx hb d_h_add_25 hl (by decide) rfl (fun ls hl => ?_)
    refine lv_iconst (v := 3) hx hb d_h_add_27 (by decide) ?_
    exact W.iret (v := 3) hx hb hr (fun t ht hW => ⟨⟨3, ov, rfl, ⟨hq.symm, fun h => absurd (hq.symm.trans h) (by decide)⟩, by rw [ht]; exact hPo, va_K.moved hW.alike (hK.sub (tys' := [(ac 7, .long)]) [7] rfl), hDo⟩, hS.F ht⟩) hS.2.2 d_h_add_28
theorem d_h_commit_0 : decode method_12_code 0 = .ok (.aload_n 2, 1) := by decide +kernel
theorem d_h_commit_1 : decode method_12_code 1 = .ok (.iconst 0, 1) := by decide +kernel
theorem d_h_commit_2 : decode method_12_code 2 = .ok (.aload_n 0, 1) := by decide +kernel
theorem d_h_commit_3 : decode method_12_code 3 = .ok (.iload_n 1, 1) := by decide +kernel
theorem d_h_commit_4 : decode method_12_code 4 = .ok (.invokevirtual 51, 3) := by decide +kernel
theorem d_h_commit_12 : decode method_12_code 12 = .ok (.astore_n 3, 1) := by decide +kernel
theorem d_h_commit_13 : decode method_12_code 13 = .ok (.iconst 1, 1) := by decide +kernel
theorem d_h_commit_14 : decode method_12_code 14 = .ok (.ireturn, 1) := by decide +kernel
theorem d_h_commit_15 : decode method_12_code 15 = .ok (.astore_n 3, 1) := by decide +kernel
theorem d_h_commit_16 : decode method_12_code 16 = .ok (.iconst 2, 1) := by decide +kernel
theorem d_h_commit_17 : decode method_12_code 17 = .ok (.ireturn, 1) := by decide +kernel
set_option maxHeartbeats 4000000 in
set_option maxRecDepth 100000 in
theorem h_commit (l : Launch) (hfl : l.flags = flags0) (D : va_G) (ad : Nat → Nat) (ac : Nat → ClassId) (ck : Nat → Int32) (o : Nat) (ov : Nat → Int64) (sz : Nat) (r : Int32) : Met l ⟨"JoinedTreesLaw", "commit", "(LJoinedTrees;I[J)I"⟩ (Cond.codeWith ⟨"JoinedTreesLaw", "commit", "(LJoinedTrees;I[J)I"⟩ method_12_code 4 (some .int) [(0, 9, 12, 19), (0, 9, 15, 25), (0, 9, 18, 13)] :: gb) ({ frames := 8, cells := 1, slots := 6, locals := 139 }) (hPc D ad ac ck o ov sz [.ref (ad 0), .int r, .ref o]) (va_Qi (fun (rz : Int32) (u : Nat → Int64) => rz = k_com r ∧ (k_com r = 0 → u 0 = 0)) (fun u t => gO D [oc ac o u] [(ac 7, .long)] (va_A (fxW ad ac ck ++ [oc ac o ov]) sz) t) (va_A (fxW ad ac ck ++ [oc ac o ov]) sz)) 1 6 (va_A (fxW ad ac ck ++ [oc ac o ov]) sz) := by
  refine tx_ofW (cc := method_12_code) (maxL := 4) (ret := (some .int)) (hs := [(0, 9, 12, 19), (0, 9, 15, 25), (0, 9, 18, 13)]) (by decide) rfl ?_
  intro p e s m args below meth c s₁ B hml htab hv
  obtain ⟨rfl, hsz, hP, hK, hD0, hev⟩ := hv
  have hx := B.exec
  have hb := B.bytes
  have hr := B.returns
  have hts : ∀ w9 ∈ gb, w9.before [.ref (ad 0), .int r, .ref o].toArray s = true := fun w9 h => atoms_spec (ws := Cond.codeWith ⟨"JoinedTreesLaw", "commit", "(LJoinedTrees;I[J)I"⟩ method_12_code 4 (some .int) [(0, 9, 12, 19), (0, 9, 15, 25), (0, 9, 18, 13)] :: gb) B.pre w9 (List.mem_cons_of_mem _ h)
  have hown : s.vm.findClass "JoinedTreesLaw" = some m.cls := findClass_of_methodNamed B.named
  have hlocks := B.notSynchronized
  subst hsz
  have hNS := ns_of hP
  have hD := hD0.self (sz := s.heap.size)
  generalize hAe : va_A (fxW ad ac ck ++ [oc ac o ov]) s.heap.size = A at hD hev hNS ⊢
  have hA : ∀ q : Nat, s.heap.size ≤ q → A q := fun q h => by rw [← hAe]; exact Or.inr h
  have hS : va_S A s.heap s.heap [] := va_S.rf
  have hl := lv_entry ([.ref (ad 0), .int r, .ref o]) (n := 4) (Nat.le_of_ble_eq_true rfl)
  rw [lg_entry_eq]
  generalize (lg_sl ([.ref (ad 0), .int r, .ref o]) ++ List.replicate (4 - (lg_sl ([.ref (ad 0), .int r, .ref o])).length) Slot.unset).toArray = ls at hl ⊢
  have hl : lv_has ls 4 [(0, .ref (ad 0)), (1, .int r), (2, .ref o)] := hl
  refine lv_aload_n hx hb d_h_commit_0 rfl (lv_at hl 2 rfl) ?_
  refine lv_iconst (v := 0) hx hb d_h_commit_1 (by decide) ?_
  refine lv_aload_n hx hb d_h_commit_2 rfl (lv_at hl 0 rfl) ?_
  refine lv_iload_n hx hb d_h_commit_3 rfl (lv_at hl 1 rfl) ?_
  have hPx := p_l hP
  have hDx := d_l hD
  have hFc := fr_all hDx hS hA
  rcases k_com_c r with hq | hq
  · refine tx_catch (tx_runV (As := [.int r]) (rest := [.int 0, .ref o]) ⟨hx, hb, hml, hown, hts⟩ (c_commit_1 l hfl D ad ac ck s.heap.size r hq) (cw_v 1 hts kw_990 kw_987 kw_988 kw_989 kw_1 rfl rfl (by decide +kernel) ⟨Nat.le_of_ble_eq_true rfl, Nat.le_of_ble_eq_true rfl⟩) ⟨fx_blind, va_recv hK hPx (ci := 11) (q0 := 0) rfl rfl, fun U hU hW => fx_pre hU hW hPx hK hDx hev hNS hS hFc⟩ rfl rfl hl.1 rfl (lv_room (Nat.le_of_ble_eq_true rfl)) d_h_commit_4 ⟨Nat.le_of_ble_eq_true rfl, Nat.le_of_ble_eq_true rfl⟩) hown hS hFc htab [] [(0, 9, 15, 25), (0, 9, 18, 13)] (0, 9, 12, 19) rfl (by decide) (by decide) (hts _ kw_553) (va_Nw.use rfl hev.2.2.2.2.2.1.1) (fun y hy => absurd hy List.not_mem_nil) (fun z H locs hz1 hk1 hS => ?_)
    have hPo := p_keep hP hD hk1
    have hDo := d_r hD
    refine W.cs (cells' := 1) (slots' := 6) rfl rfl ?_
    refine lv_astore_n (lv' := [(3, .ref z), (0, .ref (ad 0)), (1, .int r), (2, .ref o)]) hx hb d_h_commit_12 rfl hl (by decide) rfl (fun ls hl => ?_)
    refine lv_iconst (v := 1) hx hb d_h_commit_13 (by decide) ?_
    exact W.iret (v := 1) hx hb hr (fun t ht hW => ⟨⟨1, ov, rfl, ⟨hq.symm, fun h => absurd (hq.symm.trans h) (by decide)⟩, by rw [ht]; exact hPo, va_K.moved hW.alike (hK.sub (tys' := [(ac 7, .long)]) [7] rfl), hDo⟩, hS.F ht⟩) hS.2.2 d_h_commit_14
  · refine tx_catch (tx_runV (As := [.int r]) (rest := [.int 0, .ref o]) ⟨hx, hb, hml, hown, hts⟩ (c_commit_2 l hfl D ad ac ck s.heap.size r hq) (cw_v 1 hts kw_990 kw_987 kw_988 kw_989 kw_1 rfl rfl (by decide +kernel) ⟨Nat.le_of_ble_eq_true rfl, Nat.le_of_ble_eq_true rfl⟩) ⟨fx_blind, va_recv hK hPx (ci := 11) (q0 := 0) rfl rfl, fun U hU hW => fx_pre hU hW hPx hK hDx hev hNS hS hFc⟩ rfl rfl hl.1 rfl (lv_room (Nat.le_of_ble_eq_true rfl)) d_h_commit_4 ⟨Nat.le_of_ble_eq_true rfl, Nat.le_of_ble_eq_true rfl⟩) hown hS hFc htab [(0, 9, 12, 19)] [(0, 9, 18, 13)] (0, 9, 15, 25) rfl (by decide) (by decide) (hts _ kw_580) (va_Nw.use rfl hev.2.2.2.2.2.1.2.1) (List.forall_mem_cons.mpr ⟨⟨by decide, by decide, "java/lang/IllegalArgumentException", hts _ kw_553, hev.2.2.2.2.2.2.2.1.2.2⟩, fun y hy => absurd hy List.not_mem_nil⟩) (fun z H locs hz1 hk1 hS => ?_)
    have hPo := p_keep hP hD hk1
    have hDo := d_r hD
    refine W.cs (cells' := 1) (slots' := 6) rfl rfl ?_
    refine lv_astore_n (lv' := [(3, .ref z), (0, .ref (ad 0)), (1, .int r), (2, .ref o)]) hx hb d_h_commit_15 rfl hl (by decide) rfl (fun ls hl => ?_)
    refine lv_iconst (v := 2) hx hb d_h_commit_16 (by decide) ?_
    exact W.iret (v := 2) hx hb hr (fun t ht hW => ⟨⟨2, ov, rfl, ⟨hq.symm, fun h => absurd (hq.symm.trans h) (by decide)⟩, by rw [ht]; exact hPo, va_K.moved hW.alike (hK.sub (tys' := [(ac 7, .long)]) [7] rfl), hDo⟩, hS.F ht⟩) hS.2.2 d_h_commit_17
theorem d_h_load_0 : decode method_26_code 0 = .ok (.aload_n 2, 1) := by decide +kernel
theorem d_h_load_1 : decode method_26_code 1 = .ok (.iconst 0, 1) := by decide +kernel
theorem d_h_load_2 : decode method_26_code 2 = .ok (.aload_n 0, 1) := by decide +kernel
theorem d_h_load_3 : decode method_26_code 3 = .ok (.iload_n 1, 1) := by decide +kernel
theorem d_h_load_4 : decode method_26_code 4 = .ok (.invokevirtual 94, 3) := by decide +kernel
theorem d_h_load_12 : decode method_26_code 12 = .ok (.astore_n 3, 1) := by decide +kernel
theorem d_h_load_13 : decode method_26_code 13 = .ok (.iconst 1, 1) := by decide +kernel
theorem d_h_load_14 : decode method_26_code 14 = .ok (.ireturn, 1) := by decide +kernel
theorem d_h_load_15 : decode method_26_code 15 = .ok (.astore_n 3, 1) := by decide +kernel
theorem d_h_load_16 : decode method_26_code 16 = .ok (.iconst 2, 1) := by decide +kernel
theorem d_h_load_17 : decode method_26_code 17 = .ok (.ireturn, 1) := by decide +kernel
set_option maxHeartbeats 4000000 in
set_option maxRecDepth 100000 in
theorem h_load (l : Launch) (hfl : l.flags = flags0) (D : va_G) (ad : Nat → Nat) (ac : Nat → ClassId) (ck : Nat → Int32) (o : Nat) (ov : Nat → Int64) (sz : Nat) (r : Int32) : Met l ⟨"JoinedTreesLaw", "load", "(LJoinedTrees;I[J)I"⟩ (Cond.codeWith ⟨"JoinedTreesLaw", "load", "(LJoinedTrees;I[J)I"⟩ method_26_code 4 (some .int) [(0, 9, 12, 19), (0, 9, 15, 25), (0, 9, 18, 97)] :: gb) ({ frames := 8, cells := 1, slots := 6, locals := 141 }) (hPc D ad ac ck o ov sz [.ref (ad 0), .int r, .ref o]) (va_Qi (fun (rz : Int32) (u : Nat → Int64) => rz = k_com r ∧ (k_com r = 0 → u 0 = 0)) (fun u t => gO D [oc ac o u] [(ac 7, .long)] (va_A (fxW ad ac ck ++ [oc ac o ov]) sz) t) (va_A (fxW ad ac ck ++ [oc ac o ov]) sz)) 1 6 (va_A (fxW ad ac ck ++ [oc ac o ov]) sz) := by
  refine tx_ofW (cc := method_26_code) (maxL := 4) (ret := (some .int)) (hs := [(0, 9, 12, 19), (0, 9, 15, 25), (0, 9, 18, 97)]) (by decide) rfl ?_
  intro p e s m args below meth c s₁ B hml htab hv
  obtain ⟨rfl, hsz, hP, hK, hD0, hev⟩ := hv
  have hx := B.exec
  have hb := B.bytes
  have hr := B.returns
  have hts : ∀ w9 ∈ gb, w9.before [.ref (ad 0), .int r, .ref o].toArray s = true := fun w9 h => atoms_spec (ws := Cond.codeWith ⟨"JoinedTreesLaw", "load", "(LJoinedTrees;I[J)I"⟩ method_26_code 4 (some .int) [(0, 9, 12, 19), (0, 9, 15, 25), (0, 9, 18, 97)] :: gb) B.pre w9 (List.mem_cons_of_mem _ h)
  have hown : s.vm.findClass "JoinedTreesLaw" = some m.cls := findClass_of_methodNamed B.named
  have hlocks := B.notSynchronized
  subst hsz
  have hNS := ns_of hP
  have hD := hD0.self (sz := s.heap.size)
  generalize hAe : va_A (fxW ad ac ck ++ [oc ac o ov]) s.heap.size = A at hD hev hNS ⊢
  have hA : ∀ q : Nat, s.heap.size ≤ q → A q := fun q h => by rw [← hAe]; exact Or.inr h
  have hS : va_S A s.heap s.heap [] := va_S.rf
  have hl := lv_entry ([.ref (ad 0), .int r, .ref o]) (n := 4) (Nat.le_of_ble_eq_true rfl)
  rw [lg_entry_eq]
  generalize (lg_sl ([.ref (ad 0), .int r, .ref o]) ++ List.replicate (4 - (lg_sl ([.ref (ad 0), .int r, .ref o])).length) Slot.unset).toArray = ls at hl ⊢
  have hl : lv_has ls 4 [(0, .ref (ad 0)), (1, .int r), (2, .ref o)] := hl
  refine lv_aload_n hx hb d_h_load_0 rfl (lv_at hl 2 rfl) ?_
  refine lv_iconst (v := 0) hx hb d_h_load_1 (by decide) ?_
  refine lv_aload_n hx hb d_h_load_2 rfl (lv_at hl 0 rfl) ?_
  refine lv_iload_n hx hb d_h_load_3 rfl (lv_at hl 1 rfl) ?_
  have hPx := p_l hP
  have hDx := d_l hD
  have hFc := fr_all hDx hS hA
  rcases k_com_c r with hq | hq
  · refine tx_catch (tx_runV (As := [.int r]) (rest := [.int 0, .ref o]) ⟨hx, hb, hml, hown, hts⟩ (c_load_1 l hfl D ad ac ck s.heap.size r hq) (cw_v 1 hts kw_1323 kw_1320 kw_1321 kw_1322 kw_1 rfl rfl (by decide +kernel) ⟨Nat.le_of_ble_eq_true rfl, Nat.le_of_ble_eq_true rfl⟩) ⟨fx_blind, va_recv hK hPx (ci := 11) (q0 := 0) rfl rfl, fun U hU hW => fx_pre hU hW hPx hK hDx hev hNS hS hFc⟩ rfl rfl hl.1 rfl (lv_room (Nat.le_of_ble_eq_true rfl)) d_h_load_4 ⟨Nat.le_of_ble_eq_true rfl, Nat.le_of_ble_eq_true rfl⟩) hown hS hFc htab [] [(0, 9, 15, 25), (0, 9, 18, 97)] (0, 9, 12, 19) rfl (by decide) (by decide) (hts _ kw_553) (va_Nw.use rfl hev.2.2.2.2.2.1.1) (fun y hy => absurd hy List.not_mem_nil) (fun z H locs hz1 hk1 hS => ?_)
    have hPo := p_keep hP hD hk1
    have hDo := d_r hD
    refine W.cs (cells' := 1) (slots' := 6) rfl rfl ?_
    refine lv_astore_n (lv' := [(3, .ref z), (0, .ref (ad 0)), (1, .int r), (2, .ref o)]) hx hb d_h_load_12 rfl hl (by decide) rfl (fun ls hl => ?_)
    refine lv_iconst (v := 1) hx hb d_h_load_13 (by decide) ?_
    exact W.iret (v := 1) hx hb hr (fun t ht hW => ⟨⟨1, ov, rfl, ⟨hq.symm, fun h => absurd (hq.symm.trans h) (by decide)⟩, by rw [ht]; exact hPo, va_K.moved hW.alike (hK.sub (tys' := [(ac 7, .long)]) [7] rfl), hDo⟩, hS.F ht⟩) hS.2.2 d_h_load_14
  · refine tx_catch (tx_runV (As := [.int r]) (rest := [.int 0, .ref o]) ⟨hx, hb, hml, hown, hts⟩ (c_load_2 l hfl D ad ac ck s.heap.size r hq) (cw_v 1 hts kw_1323 kw_1320 kw_1321 kw_1322 kw_1 rfl rfl (by decide +kernel) ⟨Nat.le_of_ble_eq_true rfl, Nat.le_of_ble_eq_true rfl⟩) ⟨fx_blind, va_recv hK hPx (ci := 11) (q0 := 0) rfl rfl, fun U hU hW => fx_pre hU hW hPx hK hDx hev hNS hS hFc⟩ rfl rfl hl.1 rfl (lv_room (Nat.le_of_ble_eq_true rfl)) d_h_load_4 ⟨Nat.le_of_ble_eq_true rfl, Nat.le_of_ble_eq_true rfl⟩) hown hS hFc htab [(0, 9, 12, 19)] [(0, 9, 18, 97)] (0, 9, 15, 25) rfl (by decide) (by decide) (hts _ kw_580) (va_Nw.use rfl hev.2.2.2.2.2.1.2.1) (List.forall_mem_cons.mpr ⟨⟨by decide, by decide, "java/lang/IllegalArgumentException", hts _ kw_553, hev.2.2.2.2.2.2.2.1.2.2⟩, fun y hy => absurd hy List.not_mem_nil⟩) (fun z H locs hz1 hk1 hS => ?_)
    have hPo := p_keep hP hD hk1
    have hDo := d_r hD
    refine W.cs (cells' := 1) (slots' := 6) rfl rfl ?_
    refine lv_astore_n (lv' := [(3, .ref z), (0, .ref (ad 0)), (1, .int r), (2, .ref o)]) hx hb d_h_load_15 rfl hl (by decide) rfl (fun ls hl => ?_)
    refine lv_iconst (v := 2) hx hb d_h_load_16 (by decide) ?_
    exact W.iret (v := 2) hx hb hr (fun t ht hW => ⟨⟨2, ov, rfl, ⟨hq.symm, fun h => absurd (hq.symm.trans h) (by decide)⟩, by rw [ht]; exact hPo, va_K.moved hW.alike (hK.sub (tys' := [(ac 7, .long)]) [7] rfl), hDo⟩, hS.F ht⟩) hS.2.2 d_h_load_17
theorem d_h_drop_0 : decode method_13_code 0 = .ok (.aload_n 2, 1) := by decide +kernel
theorem d_h_drop_1 : decode method_13_code 1 = .ok (.iconst 0, 1) := by decide +kernel
theorem d_h_drop_2 : decode method_13_code 2 = .ok (.aload_n 0, 1) := by decide +kernel
theorem d_h_drop_3 : decode method_13_code 3 = .ok (.iload_n 1, 1) := by decide +kernel
theorem d_h_drop_4 : decode method_13_code 4 = .ok (.invokevirtual 54, 3) := by decide +kernel
theorem d_h_drop_7 : decode method_13_code 7 = .ok (.i2l, 1) := by decide +kernel
theorem d_h_drop_8 : decode method_13_code 8 = .ok (.lastore, 1) := by decide +kernel
theorem d_h_drop_9 : decode method_13_code 9 = .ok (.goto 6, 3) := by decide +kernel
theorem d_h_drop_15 : decode method_13_code 15 = .ok (.iconst 0, 1) := by decide +kernel
theorem d_h_drop_16 : decode method_13_code 16 = .ok (.ireturn, 1) := by decide +kernel
theorem d_h_drop_12 : decode method_13_code 12 = .ok (.astore_n 3, 1) := by decide +kernel
theorem d_h_drop_13 : decode method_13_code 13 = .ok (.iconst 1, 1) := by decide +kernel
theorem d_h_drop_14 : decode method_13_code 14 = .ok (.ireturn, 1) := by decide +kernel
set_option maxHeartbeats 4000000 in
set_option maxRecDepth 100000 in
theorem h_drop (l : Launch) (hfl : l.flags = flags0) (D : va_G) (ad : Nat → Nat) (ac : Nat → ClassId) (ck : Nat → Int32) (o : Nat) (ov : Nat → Int64) (sz : Nat) (r : Int32) : Met l ⟨"JoinedTreesLaw", "drop", "(LJoinedTrees;I[J)I"⟩ (Cond.codeWith ⟨"JoinedTreesLaw", "drop", "(LJoinedTrees;I[J)I"⟩ method_13_code 4 (some .int) [(0, 9, 12, 19)] :: gb) ({ frames := 8, cells := 1, slots := 6, locals := 141 }) (hPc D ad ac ck o ov sz [.ref (ad 0), .int r, .ref o]) (va_Qi (fun (rz : Int32) (u : Nat → Int64) => rz = k_dro r ∧ (k_dro r = 0 → u 0 = 0)) (fun u t => gO D [oc ac o u] [(ac 7, .long)] (va_A (fxW ad ac ck ++ [oc ac o ov]) sz) t) (va_A (fxW ad ac ck ++ [oc ac o ov]) sz)) 1 6 (va_A (fxW ad ac ck ++ [oc ac o ov]) sz) := by
  refine tx_ofW (cc := method_13_code) (maxL := 4) (ret := (some .int)) (hs := [(0, 9, 12, 19)]) (by decide) rfl ?_
  intro p e s m args below meth c s₁ B hml htab hv
  obtain ⟨rfl, hsz, hP, hK, hD0, hev⟩ := hv
  have hx := B.exec
  have hb := B.bytes
  have hr := B.returns
  have hts : ∀ w9 ∈ gb, w9.before [.ref (ad 0), .int r, .ref o].toArray s = true := fun w9 h => atoms_spec (ws := Cond.codeWith ⟨"JoinedTreesLaw", "drop", "(LJoinedTrees;I[J)I"⟩ method_13_code 4 (some .int) [(0, 9, 12, 19)] :: gb) B.pre w9 (List.mem_cons_of_mem _ h)
  have hown : s.vm.findClass "JoinedTreesLaw" = some m.cls := findClass_of_methodNamed B.named
  have hlocks := B.notSynchronized
  subst hsz
  have hNS := ns_of hP
  have hD := hD0.self (sz := s.heap.size)
  generalize hAe : va_A (fxW ad ac ck ++ [oc ac o ov]) s.heap.size = A at hD hev hNS ⊢
  have hA : ∀ q : Nat, s.heap.size ≤ q → A q := fun q h => by rw [← hAe]; exact Or.inr h
  have hS : va_S A s.heap s.heap [] := va_S.rf
  have hl := lv_entry ([.ref (ad 0), .int r, .ref o]) (n := 4) (Nat.le_of_ble_eq_true rfl)
  rw [lg_entry_eq]
  generalize (lg_sl ([.ref (ad 0), .int r, .ref o]) ++ List.replicate (4 - (lg_sl ([.ref (ad 0), .int r, .ref o])).length) Slot.unset).toArray = ls at hl ⊢
  have hl : lv_has ls 4 [(0, .ref (ad 0)), (1, .int r), (2, .ref o)] := hl
  refine lv_aload_n hx hb d_h_drop_0 rfl (lv_at hl 2 rfl) ?_
  refine lv_iconst (v := 0) hx hb d_h_drop_1 (by decide) ?_
  refine lv_aload_n hx hb d_h_drop_2 rfl (lv_at hl 0 rfl) ?_
  refine lv_iload_n hx hb d_h_drop_3 rfl (lv_at hl 1 rfl) ?_
  have hPx := p_l hP
  have hDx := d_l hD
  have hFc := fr_all hDx hS hA
  rcases k_dro_c r with hq | hq
  · refine va_calli (va_runV (As := [.int r]) (rest := [.int 0, .ref o]) ⟨hx, hb, hml, hown, hts⟩ (c_drop_0 l hfl D ad ac ck s.heap.size r hq) (cw_v 1 hts kw_1064 kw_1061 kw_1062 kw_1063 kw_1 rfl rfl (by decide +kernel) ⟨Nat.le_of_ble_eq_true rfl, Nat.le_of_ble_eq_true rfl⟩) ⟨fx_blind, va_recv hK hPx (ci := 11) (q0 := 0) rfl rfl, fun U hU hW => fx_pre hU hW hPx hK hDx hev hNS hS hFc⟩ rfl rfl hl.1 rfl (lv_room (Nat.le_of_ble_eq_true rfl)) d_h_drop_4 ⟨Nat.le_of_ble_eq_true rfl, Nat.le_of_ble_eq_true rfl⟩) hS (fun q _ h => hFc q h) hFc (fun rr u t H locs ht hvm hw hB hz1 hk1 hS => ?_)
    have hPo := p_keep hP hD hk1
    have hDo := d_r hD
    refine W.cs (cells' := 0) (slots' := 0) rfl rfl ?_
    refine lv_i2l hx hb d_h_drop_7 rfl ?_
    refine va_last hx hb hK hPo hDo hS 0 7 rfl rfl (i := 0) (x := rr.toInt64) (vp_in_nI (n := 0) (N := 1) (by decide) (by decide)) d_h_drop_8 (fun H locs hPo hDo hS => ?_)
    refine lv_goto (tgt := 15) hx hb d_h_drop_9 (by decide) ?_
    refine lv_iconst (v := 0) hx hb d_h_drop_15 (by decide) ?_
    refine W.widen (k := 1) (n := 6) (by decide) (by decide) ?_
    exact W.iret (v := 0) hx hb hr (fun t ht hW => ⟨⟨0, (vp_updL ov (0 : Int32).toNatClampNeg rr.toInt64), rfl, ⟨hq.symm, fun _ => (by rw [show (vp_updL ov (0 : Int32).toNatClampNeg rr.toInt64) 0 = rr.toInt64 from pk_uLs, hw] <;> try decide)⟩, by rw [ht]; exact hPo, va_K.moved hW.alike (hK.sub (tys' := [(ac 7, .long)]) [7] rfl), hDo⟩, hS.F ht⟩) hS.2.2 d_h_drop_16
  · refine tx_catch (tx_runV (As := [.int r]) (rest := [.int 0, .ref o]) ⟨hx, hb, hml, hown, hts⟩ (c_drop_1 l hfl D ad ac ck s.heap.size r hq) (cw_v 1 hts kw_1064 kw_1061 kw_1062 kw_1063 kw_1 rfl rfl (by decide +kernel) ⟨Nat.le_of_ble_eq_true rfl, Nat.le_of_ble_eq_true rfl⟩) ⟨fx_blind, va_recv hK hPx (ci := 11) (q0 := 0) rfl rfl, fun U hU hW => fx_pre hU hW hPx hK hDx hev hNS hS hFc⟩ rfl rfl hl.1 rfl (lv_room (Nat.le_of_ble_eq_true rfl)) d_h_drop_4 ⟨Nat.le_of_ble_eq_true rfl, Nat.le_of_ble_eq_true rfl⟩) hown hS hFc htab [] [] (0, 9, 12, 19) rfl (by decide) (by decide) (hts _ kw_553) (va_Nw.use rfl hev.2.2.2.2.2.1.1) (fun y hy => absurd hy List.not_mem_nil) (fun z H locs hz1 hk1 hS => ?_)
    have hPo := p_keep hP hD hk1
    have hDo := d_r hD
    refine W.cs (cells' := 1) (slots' := 6) rfl rfl ?_
    refine lv_astore_n (lv' := [(3, .ref z), (0, .ref (ad 0)), (1, .int r), (2, .ref o)]) hx hb d_h_drop_12 rfl hl (by decide) rfl (fun ls hl => ?_)
    refine lv_iconst (v := 1) hx hb d_h_drop_13 (by decide) ?_
    exact W.iret (v := 1) hx hb hr (fun t ht hW => ⟨⟨1, ov, rfl, ⟨hq.symm, fun h => absurd (hq.symm.trans h) (by decide)⟩, by rw [ht]; exact hPo, va_K.moved hW.alike (hK.sub (tys' := [(ac 7, .long)]) [7] rfl), hDo⟩, hS.F ht⟩) hS.2.2 d_h_drop_14
theorem d_h_send_0 : decode method_14_code 0 = .ok (.aload 5, 2) := by decide +kernel
theorem d_h_send_2 : decode method_14_code 2 = .ok (.iconst 0, 1) := by decide +kernel
theorem d_h_send_3 : decode method_14_code 3 = .ok (.aload_n 0, 1) := by decide +kernel
theorem d_h_send_4 : decode method_14_code 4 = .ok (.iload_n 1, 1) := by decide +kernel
theorem d_h_send_5 : decode method_14_code 5 = .ok (.iload_n 2, 1) := by decide +kernel
theorem d_h_send_6 : decode method_14_code 6 = .ok (.iload_n 3, 1) := by decide +kernel
theorem d_h_send_7 : decode method_14_code 7 = .ok (.iload 4, 2) := by decide +kernel
theorem d_h_send_9 : decode method_14_code 9 = .ok (.invokevirtual 57, 3) := by decide +kernel
theorem d_h_send_17 : decode method_14_code 17 = .ok (.astore 6, 2) := by decide +kernel
theorem d_h_send_19 : decode method_14_code 19 = .ok (.iconst 1, 1) := by decide +kernel
theorem d_h_send_20 : decode method_14_code 20 = .ok (.ireturn, 1) := by decide +kernel
theorem d_h_send_25 : decode method_14_code 25 = .ok (.astore 6, 2) := by decide +kernel
theorem d_h_send_27 : decode method_14_code 27 = .ok (.iconst 3, 1) := by decide +kernel
theorem d_h_send_28 : decode method_14_code 28 = .ok (.ireturn, 1) := by decide +kernel
set_option maxHeartbeats 4000000 in
set_option maxRecDepth 100000 in
theorem h_send (l : Launch) (hfl : l.flags = flags0) (D : va_G) (ad : Nat → Nat) (ac : Nat → ClassId) (ck : Nat → Int32) (o : Nat) (ov : Nat → Int64) (sz : Nat) (f : Int32) (g : Int32) (a : Int32) (n : Int32) : Met l ⟨"JoinedTreesLaw", "send", "(LJoinedTrees;IIII[J)I"⟩ (Cond.codeWith ⟨"JoinedTreesLaw", "send", "(LJoinedTrees;IIII[J)I"⟩ method_14_code 7 (some .int) [(0, 14, 17, 19), (0, 14, 21, 25), (0, 14, 25, 27)] :: gb) ({ frames := 8, cells := 1, slots := 6, locals := 144 }) (hPc D ad ac ck o ov sz [.ref (ad 0), .int f, .int g, .int a, .int n, .ref o]) (va_Qi (fun (rz : Int32) (u : Nat → Int64) => rz = k_sen f g a ∧ (k_sen f g a = 0 → u 0 = 0)) (fun u t => gO D [oc ac o u] [(ac 7, .long)] (va_A (fxW ad ac ck ++ [oc ac o ov]) sz) t) (va_A (fxW ad ac ck ++ [oc ac o ov]) sz)) 1 6 (va_A (fxW ad ac ck ++ [oc ac o ov]) sz) := by
  refine tx_ofW (cc := method_14_code) (maxL := 7) (ret := (some .int)) (hs := [(0, 14, 17, 19), (0, 14, 21, 25), (0, 14, 25, 27)]) (by decide) rfl ?_
  intro p e s m args below meth c s₁ B hml htab hv
  obtain ⟨rfl, hsz, hP, hK, hD0, hev⟩ := hv
  have hx := B.exec
  have hb := B.bytes
  have hr := B.returns
  have hts : ∀ w9 ∈ gb, w9.before [.ref (ad 0), .int f, .int g, .int a, .int n, .ref o].toArray s = true := fun w9 h => atoms_spec (ws := Cond.codeWith ⟨"JoinedTreesLaw", "send", "(LJoinedTrees;IIII[J)I"⟩ method_14_code 7 (some .int) [(0, 14, 17, 19), (0, 14, 21, 25), (0, 14, 25, 27)] :: gb) B.pre w9 (List.mem_cons_of_mem _ h)
  have hown : s.vm.findClass "JoinedTreesLaw" = some m.cls := findClass_of_methodNamed B.named
  have hlocks := B.notSynchronized
  subst hsz
  have hNS := ns_of hP
  have hD := hD0.self (sz := s.heap.size)
  generalize hAe : va_A (fxW ad ac ck ++ [oc ac o ov]) s.heap.size = A at hD hev hNS ⊢
  have hA : ∀ q : Nat, s.heap.size ≤ q → A q := fun q h => by rw [← hAe]; exact Or.inr h
  have hS : va_S A s.heap s.heap [] := va_S.rf
  have hl := lv_entry ([.ref (ad 0), .int f, .int g, .int a, .int n, .ref o]) (n := 7) (Nat.le_of_ble_eq_true rfl)
  rw [lg_entry_eq]
  generalize (lg_sl ([.ref (ad 0), .int f, .int g, .int a, .int n, .ref o]) ++ List.replicate (7 - (lg_sl ([.ref (ad 0), .int f, .int g, .int a, .int n, .ref o])).length) Slot.unset).toArray = ls at hl ⊢
  have hl : lv_has ls 7 [(0, .ref (ad 0)), (1, .int f), (2, .int g), (3, .int a), (4, .int n), (5, .ref o)] := hl
  refine lv_aload hx hb d_h_send_0 (lv_at hl 5 rfl) ?_
  refine lv_iconst (v := 0) hx hb d_h_send_2 (by decide) ?_
  refine lv_aload_n hx hb d_h_send_3 rfl (lv_at hl 0 rfl) ?_
  refine lv_iload_n hx hb d_h_send_4 rfl (lv_at hl 1 rfl) ?_
  refine lv_iload_n hx hb d_h_send_5 rfl (lv_at hl 2 rfl) ?_
  refine lv_iload_n hx hb d_h_send_6 rfl (lv_at hl 3 rfl) ?_
  refine lv_iload hx hb d_h_send_7 (lv_at hl 4 rfl) ?_
  have hPx := p_l hP
  have hDx := d_l hD
  have hFc := fr_all hDx hS hA
  rcases k_sen_c f g a with hq | hq
  · refine tx_catch (tx_runV (As := [.int f, .int g, .int a, .int n]) (rest := [.int 0, .ref o]) ⟨hx, hb, hml, hown, hts⟩ (c_send_1 l hfl D ad ac ck s.heap.size f g a n hq) (cw_v 4 hts kw_1075 kw_1072 kw_1073 kw_1074 kw_1 rfl rfl (by decide +kernel) ⟨Nat.le_of_ble_eq_true rfl, Nat.le_of_ble_eq_true rfl⟩) ⟨fx_blind, va_recv hK hPx (ci := 11) (q0 := 0) rfl rfl, fun U hU hW => fx_pre hU hW hPx hK hDx hev hNS hS hFc⟩ rfl rfl hl.1 rfl (lv_room (Nat.le_of_ble_eq_true rfl)) d_h_send_9 ⟨Nat.le_of_ble_eq_true rfl, Nat.le_of_ble_eq_true rfl⟩) hown hS hFc htab [] [(0, 14, 21, 25), (0, 14, 25, 27)] (0, 14, 17, 19) rfl (by decide) (by decide) (hts _ kw_553) (va_Nw.use rfl hev.2.2.2.2.2.1.1) (fun y hy => absurd hy List.not_mem_nil) (fun z H locs hz1 hk1 hS => ?_)
    have hPo := p_keep hP hD hk1
    have hDo := d_r hD
    refine W.cs (cells' := 1) (slots' := 6) rfl rfl ?_
    refine lv_astore (lv' := [(6, .ref z), (0, .ref (ad 0)), (1, .int f), (2, .int g), (3, .int a), (4, .int n), (5, .ref o)]) hx hb d_h_send_17 hl (by decide) rfl (fun ls hl => ?_)
    refine lv_iconst (v := 1) hx hb d_h_send_19 (by decide) ?_
    exact W.iret (v := 1) hx hb hr (fun t ht hW => ⟨⟨1, ov, rfl, ⟨hq.symm, fun h => absurd (hq.symm.trans h) (by decide)⟩, by rw [ht]; exact hPo, va_K.moved hW.alike (hK.sub (tys' := [(ac 7, .long)]) [7] rfl), hDo⟩, hS.F ht⟩) hS.2.2 d_h_send_20
  · refine tx_catch (tx_runV (As := [.int f, .int g, .int a, .int n]) (rest := [.int 0, .ref o]) ⟨hx, hb, hml, hown, hts⟩ (c_send_3 l hfl D ad ac ck s.heap.size f g a n hq) (cw_v 4 hts kw_1075 kw_1072 kw_1073 kw_1074 kw_1 rfl rfl (by decide +kernel) ⟨Nat.le_of_ble_eq_true rfl, Nat.le_of_ble_eq_true rfl⟩) ⟨fx_blind, va_recv hK hPx (ci := 11) (q0 := 0) rfl rfl, fun U hU hW => fx_pre hU hW hPx hK hDx hev hNS hS hFc⟩ rfl rfl hl.1 rfl (lv_room (Nat.le_of_ble_eq_true rfl)) d_h_send_9 ⟨Nat.le_of_ble_eq_true rfl, Nat.le_of_ble_eq_true rfl⟩) hown hS hFc htab [(0, 14, 17, 19), (0, 14, 21, 25)] [] (0, 14, 25, 27) rfl (by decide) (by decide) (hts _ kw_581) (va_Nw.use rfl hev.2.2.2.2.2.1.2.2.1) (List.forall_mem_cons.mpr ⟨⟨by decide, by decide, "java/lang/IllegalArgumentException", hts _ kw_553, hev.2.2.2.2.2.2.2.1.1⟩, List.forall_mem_cons.mpr ⟨⟨by decide, by decide, "java/lang/IllegalStateException", hts _ kw_580, hev.2.2.2.2.2.2.2.1.2.1⟩, fun y hy => absurd hy List.not_mem_nil⟩⟩) (fun z H locs hz1 hk1 hS => ?_)
    have hPo := p_keep hP hD hk1
    have hDo := d_r hD
    refine W.cs (cells' := 1) (slots' := 6) rfl rfl ?_
    refine lv_astore (lv' := [(6, .ref z), (0, .ref (ad 0)), (1, .int f), (2, .int g), (3, .int a), (4, .int n), (5, .ref o)]) hx hb d_h_send_25 hl (by decide) rfl (fun ls hl => ?_)
    refine lv_iconst (v := 3) hx hb d_h_send_27 (by decide) ?_
    exact W.iret (v := 3) hx hb hr (fun t ht hW => ⟨⟨3, ov, rfl, ⟨hq.symm, fun h => absurd (hq.symm.trans h) (by decide)⟩, by rw [ht]; exact hPo, va_K.moved hW.alike (hK.sub (tys' := [(ac 7, .long)]) [7] rfl), hDo⟩, hS.F ht⟩) hS.2.2 d_h_send_28
theorem d_h_join_0 : decode method_15_code 0 = .ok (.aload_n 3, 1) := by decide +kernel
theorem d_h_join_1 : decode method_15_code 1 = .ok (.iconst 0, 1) := by decide +kernel
theorem d_h_join_2 : decode method_15_code 2 = .ok (.aload_n 0, 1) := by decide +kernel
theorem d_h_join_3 : decode method_15_code 3 = .ok (.iload_n 1, 1) := by decide +kernel
theorem d_h_join_4 : decode method_15_code 4 = .ok (.iload_n 2, 1) := by decide +kernel
theorem d_h_join_5 : decode method_15_code 5 = .ok (.invokevirtual 60, 3) := by decide +kernel
theorem d_h_join_8 : decode method_15_code 8 = .ok (.i2l, 1) := by decide +kernel
theorem d_h_join_9 : decode method_15_code 9 = .ok (.lastore, 1) := by decide +kernel
theorem d_h_join_10 : decode method_15_code 10 = .ok (.goto 11, 3) := by decide +kernel
theorem d_h_join_21 : decode method_15_code 21 = .ok (.iconst 0, 1) := by decide +kernel
theorem d_h_join_22 : decode method_15_code 22 = .ok (.ireturn, 1) := by decide +kernel
theorem d_h_join_13 : decode method_15_code 13 = .ok (.astore 4, 2) := by decide +kernel
theorem d_h_join_15 : decode method_15_code 15 = .ok (.iconst 1, 1) := by decide +kernel
theorem d_h_join_16 : decode method_15_code 16 = .ok (.ireturn, 1) := by decide +kernel
set_option maxHeartbeats 4000000 in
set_option maxRecDepth 100000 in
theorem h_join (l : Launch) (hfl : l.flags = flags0) (D : va_G) (ad : Nat → Nat) (ac : Nat → ClassId) (ck : Nat → Int32) (o : Nat) (ov : Nat → Int64) (sz : Nat) (f : Int32) (g : Int32) : Met l ⟨"JoinedTreesLaw", "join", "(LJoinedTrees;II[J)I"⟩ (Cond.codeWith ⟨"JoinedTreesLaw", "join", "(LJoinedTrees;II[J)I"⟩ method_15_code 5 (some .int) [(0, 10, 13, 19), (0, 10, 17, 25)] :: gb) ({ frames := 8, cells := 1, slots := 6, locals := 143 }) (hPc D ad ac ck o ov sz [.ref (ad 0), .int f, .int g, .ref o]) (va_Qi (fun (rz : Int32) (u : Nat → Int64) => rz = k_joi f g ∧ (k_joi f g = 0 → u 0 = 0)) (fun u t => gO D [oc ac o u] [(ac 7, .long)] (va_A (fxW ad ac ck ++ [oc ac o ov]) sz) t) (va_A (fxW ad ac ck ++ [oc ac o ov]) sz)) 1 6 (va_A (fxW ad ac ck ++ [oc ac o ov]) sz) := by
  refine tx_ofW (cc := method_15_code) (maxL := 5) (ret := (some .int)) (hs := [(0, 10, 13, 19), (0, 10, 17, 25)]) (by decide) rfl ?_
  intro p e s m args below meth c s₁ B hml htab hv
  obtain ⟨rfl, hsz, hP, hK, hD0, hev⟩ := hv
  have hx := B.exec
  have hb := B.bytes
  have hr := B.returns
  have hts : ∀ w9 ∈ gb, w9.before [.ref (ad 0), .int f, .int g, .ref o].toArray s = true := fun w9 h => atoms_spec (ws := Cond.codeWith ⟨"JoinedTreesLaw", "join", "(LJoinedTrees;II[J)I"⟩ method_15_code 5 (some .int) [(0, 10, 13, 19), (0, 10, 17, 25)] :: gb) B.pre w9 (List.mem_cons_of_mem _ h)
  have hown : s.vm.findClass "JoinedTreesLaw" = some m.cls := findClass_of_methodNamed B.named
  have hlocks := B.notSynchronized
  subst hsz
  have hNS := ns_of hP
  have hD := hD0.self (sz := s.heap.size)
  generalize hAe : va_A (fxW ad ac ck ++ [oc ac o ov]) s.heap.size = A at hD hev hNS ⊢
  have hA : ∀ q : Nat, s.heap.size ≤ q → A q := fun q h => by rw [← hAe]; exact Or.inr h
  have hS : va_S A s.heap s.heap [] := va_S.rf
  have hl := lv_entry ([.ref (ad 0), .int f, .int g, .ref o]) (n := 5) (Nat.le_of_ble_eq_true rfl)
  rw [lg_entry_eq]
  generalize (lg_sl ([.ref (ad 0), .int f, .int g, .ref o]) ++ List.replicate (5 - (lg_sl ([.ref (ad 0), .int f, .int g, .ref o])).length) Slot.unset).toArray = ls at hl ⊢
  have hl : lv_has ls 5 [(0, .ref (ad 0)), (1, .int f), (2, .int g), (3, .ref o)] := hl
  refine lv_aload_n hx hb d_h_join_0 rfl (lv_at hl 3 rfl) ?_
  refine lv_iconst (v := 0) hx hb d_h_join_1 (by decide) ?_
  refine lv_aload_n hx hb d_h_join_2 rfl (lv_at hl 0 rfl) ?_
  refine lv_iload_n hx hb d_h_join_3 rfl (lv_at hl 1 rfl) ?_
  refine lv_iload_n hx hb d_h_join_4 rfl (lv_at hl 2 rfl) ?_
  have hPx := p_l hP
  have hDx := d_l hD
  have hFc := fr_all hDx hS hA
  rcases k_joi_c f g with hq | hq
  · refine va_calli (va_runV (As := [.int f, .int g]) (rest := [.int 0, .ref o]) ⟨hx, hb, hml, hown, hts⟩ (c_join_0 l hfl D ad ac ck s.heap.size f g hq) (cw_v 2 hts kw_1110 kw_1107 kw_1108 kw_1109 kw_1 rfl rfl (by decide +kernel) ⟨Nat.le_of_ble_eq_true rfl, Nat.le_of_ble_eq_true rfl⟩) ⟨fx_blind, va_recv hK hPx (ci := 11) (q0 := 0) rfl rfl, fun U hU hW => fx_pre hU hW hPx hK hDx hev hNS hS hFc⟩ rfl rfl hl.1 rfl (lv_room (Nat.le_of_ble_eq_true rfl)) d_h_join_5 ⟨Nat.le_of_ble_eq_true rfl, Nat.le_of_ble_eq_true rfl⟩) hS (fun q _ h => hFc q h) hFc (fun rr u t H locs ht hvm hw hB hz1 hk1 hS => ?_)
    have hPo := p_keep hP hD hk1
    have hDo := d_r hD
    refine W.cs (cells' := 0) (slots' := 0) rfl rfl ?_
    refine lv_i2l hx hb d_h_join_8 rfl ?_
    refine va_last hx hb hK hPo hDo hS 0 7 rfl rfl (i := 0) (x := rr.toInt64) (vp_in_nI (n := 0) (N := 1) (by decide) (by decide)) d_h_join_9 (fun H locs hPo hDo hS => ?_)
    refine lv_goto (tgt := 21) hx hb d_h_join_10 (by decide) ?_
    refine lv_iconst (v := 0) hx hb d_h_join_21 (by decide) ?_
    refine W.widen (k := 1) (n := 6) (by decide) (by decide) ?_
    exact W.iret (v := 0) hx hb hr (fun t ht hW => ⟨⟨0, (vp_updL ov (0 : Int32).toNatClampNeg rr.toInt64), rfl, ⟨hq.symm, fun _ => (by rw [show (vp_updL ov (0 : Int32).toNatClampNeg rr.toInt64) 0 = rr.toInt64 from pk_uLs, hw] <;> try decide)⟩, by rw [ht]; exact hPo, va_K.moved hW.alike (hK.sub (tys' := [(ac 7, .long)]) [7] rfl), hDo⟩, hS.F ht⟩) hS.2.2 d_h_join_22
  · refine tx_catch (tx_runV (As := [.int f, .int g]) (rest := [.int 0, .ref o]) ⟨hx, hb, hml, hown, hts⟩ (c_join_1 l hfl D ad ac ck s.heap.size f g hq) (cw_v 2 hts kw_1110 kw_1107 kw_1108 kw_1109 kw_1 rfl rfl (by decide +kernel) ⟨Nat.le_of_ble_eq_true rfl, Nat.le_of_ble_eq_true rfl⟩) ⟨fx_blind, va_recv hK hPx (ci := 11) (q0 := 0) rfl rfl, fun U hU hW => fx_pre hU hW hPx hK hDx hev hNS hS hFc⟩ rfl rfl hl.1 rfl (lv_room (Nat.le_of_ble_eq_true rfl)) d_h_join_5 ⟨Nat.le_of_ble_eq_true rfl, Nat.le_of_ble_eq_true rfl⟩) hown hS hFc htab [] [(0, 10, 17, 25)] (0, 10, 13, 19) rfl (by decide) (by decide) (hts _ kw_553) (va_Nw.use rfl hev.2.2.2.2.2.1.1) (fun y hy => absurd hy List.not_mem_nil) (fun z H locs hz1 hk1 hS => ?_)
    have hPo := p_keep hP hD hk1
    have hDo := d_r hD
    refine W.cs (cells' := 1) (slots' := 6) rfl rfl ?_
    refine lv_astore (lv' := [(4, .ref z), (0, .ref (ad 0)), (1, .int f), (2, .int g), (3, .ref o)]) hx hb d_h_join_13 hl (by decide) rfl (fun ls hl => ?_)
    refine lv_iconst (v := 1) hx hb d_h_join_15 (by decide) ?_
    exact W.iret (v := 1) hx hb hr (fun t ht hW => ⟨⟨1, ov, rfl, ⟨hq.symm, fun h => absurd (hq.symm.trans h) (by decide)⟩, by rw [ht]; exact hPo, va_K.moved hW.alike (hK.sub (tys' := [(ac 7, .long)]) [7] rfl), hDo⟩, hS.F ht⟩) hS.2.2 d_h_join_16
