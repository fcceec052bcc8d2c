theorem d_h_look_0 : decode method_16_code 0 = .ok (.aload 4, 2) := by decide +kernel
theorem d_h_look_2 : decode method_16_code 2 = .ok (.iconst 0, 1) := by decide +kernel
theorem d_h_look_3 : decode method_16_code 3 = .ok (.aload_n 0, 1) := by decide +kernel
theorem d_h_look_4 : decode method_16_code 4 = .ok (.iload_n 1, 1) := by decide +kernel
theorem d_h_look_5 : decode method_16_code 5 = .ok (.iload_n 2, 1) := by decide +kernel
theorem d_h_look_6 : decode method_16_code 6 = .ok (.iload_n 3, 1) := by decide +kernel
theorem d_h_look_7 : decode method_16_code 7 = .ok (.invokevirtual 63, 3) := by decide +kernel
theorem d_h_look_10 : decode method_16_code 10 = .ok (.i2l, 1) := by decide +kernel
theorem d_h_look_11 : decode method_16_code 11 = .ok (.lastore, 1) := by decide +kernel
theorem d_h_look_12 : decode method_16_code 12 = .ok (.goto 11, 3) := by decide +kernel
theorem d_h_look_23 : decode method_16_code 23 = .ok (.iconst 0, 1) := by decide +kernel
theorem d_h_look_24 : decode method_16_code 24 = .ok (.ireturn, 1) := by decide +kernel
theorem d_h_look_15 : decode method_16_code 15 = .ok (.astore 5, 2) := by decide +kernel
theorem d_h_look_17 : decode method_16_code 17 = .ok (.iconst 1, 1) := by decide +kernel
theorem d_h_look_18 : decode method_16_code 18 = .ok (.ireturn, 1) := by decide +kernel
theorem d_h_look_19 : decode method_16_code 19 = .ok (.astore 5, 2) := by decide +kernel
theorem d_h_look_21 : decode method_16_code 21 = .ok (.iconst 2, 1) := by decide +kernel
theorem d_h_look_22 : decode method_16_code 22 = .ok (.ireturn, 1) := by decide +kernel
set_option maxHeartbeats 4000000 in
set_option maxRecDepth 100000 in
theorem h_look (l : Launch) (hfl : l.flags = flags0) (D : va_G) (ad : Nat → Nat) (ac : Nat → ClassId) (ck : Nat → Int32) (o : Nat) (ov : Nat → Int64) (sz : Nat) (r : Int32) (a : Int32) (n : Int32) : Met l ⟨"JoinedTreesLaw", "look", "(LJoinedTrees;III[J)I"⟩ (Cond.codeWith ⟨"JoinedTreesLaw", "look", "(LJoinedTrees;III[J)I"⟩ method_16_code 6 (some .int) [(0, 12, 15, 19), (0, 12, 19, 27)] :: gb) ({ frames := 8, cells := 1, slots := 6, locals := 142 }) (hPc D ad ac ck o ov sz [.ref (ad 0), .int r, .int a, .int n, .ref o]) (va_Qi (fun (rz : Int32) (u : Nat → Int64) => rz = k_loo r a ∧ (k_loo r a = 0 → u 0 = 0)) (fun u t => gO D [oc ac o u] [(ac 7, .long)] (va_A (fxW ad ac ck ++ [oc ac o ov]) sz) t) (va_A (fxW ad ac ck ++ [oc ac o ov]) sz)) 1 6 (va_A (fxW ad ac ck ++ [oc ac o ov]) sz) := by
  refine tx_ofW (cc := method_16_code) (maxL := 6) (ret := (some .int)) (hs := [(0, 12, 15, 19), (0, 12, 19, 27)]) (by decide) rfl ?_
  intro p e s m args below meth c s₁ B hml htab hv
  obtain ⟨rfl, hsz, hP, hK, hD0, hev⟩ := hv
  have hx := B.exec
  have hb := B.bytes
  have hr := B.returns
  have hts : ∀ w9 ∈ gb, w9.before [.ref (ad 0), .int r, .int a, .int n, .ref o].toArray s = true := fun w9 h => atoms_spec (ws := Cond.codeWith ⟨"JoinedTreesLaw", "look", "(LJoinedTrees;III[J)I"⟩ method_16_code 6 (some .int) [(0, 12, 15, 19), (0, 12, 19, 27)] :: gb) B.pre w9 (List.mem_cons_of_mem _ h)
  have hown : s.vm.findClass "JoinedTreesLaw" = some m.cls := findClass_of_methodNamed B.named
  have hlocks := B.notSynchronized
  subst hsz
  have hNS := ns_of hP
  have hD := hD0.self (sz := s.heap.size)
  generalize hAe : va_A (fxW ad ac ck ++ [oc ac o ov]) s.heap.size = A at hD hev hNS ⊢
  have hA : ∀ q : Nat, s.heap.size ≤ q → A q := fun q h => by rw [← hAe]; exact Or.inr h
  have hS : va_S A s.heap s.heap [] := va_S.rf
  have hl := lv_entry ([.ref (ad 0), .int r, .int a, .int n, .ref o]) (n := 6) (Nat.le_of_ble_eq_true rfl)
  rw [lg_entry_eq]
  generalize (lg_sl ([.ref (ad 0), .int r, .int a, .int n, .ref o]) ++ List.replicate (6 - (lg_sl ([.ref (ad 0), .int r, .int a, .int n, .ref o])).length) Slot.unset).toArray = ls at hl ⊢
  have hl : lv_has ls 6 [(0, .ref (ad 0)), (1, .int r), (2, .int a), (3, .int n), (4, .ref o)] := hl
  refine lv_aload hx hb d_h_look_0 (lv_at hl 4 rfl) ?_
  refine lv_iconst (v := 0) hx hb d_h_look_2 (by decide) ?_
  refine lv_aload_n hx hb d_h_look_3 rfl (lv_at hl 0 rfl) ?_
  refine lv_iload_n hx hb d_h_look_4 rfl (lv_at hl 1 rfl) ?_
  refine lv_iload_n hx hb d_h_look_5 rfl (lv_at hl 2 rfl) ?_
  refine lv_iload_n hx hb d_h_look_6 rfl (lv_at hl 3 rfl) ?_
  have hPx := p_l hP
  have hDx := d_l hD
  have hFc := fr_all hDx hS hA
  rcases k_loo_c r a with hq | hq | hq
  · refine va_calli (va_runV (As := [.int r, .int a, .int n]) (rest := [.int 0, .ref o]) ⟨hx, hb, hml, hown, hts⟩ (c_look_0 l hfl D ad ac ck s.heap.size r a n hq) (cw_v 3 hts kw_1117 kw_1114 kw_1115 kw_1116 kw_1 rfl rfl (by decide +kernel) ⟨Nat.le_of_ble_eq_true rfl, Nat.le_of_ble_eq_true rfl⟩) ⟨fx_blind, va_recv hK hPx (ci := 11) (q0 := 0) rfl rfl, fun U hU hW => fx_pre hU hW hPx hK hDx hev hNS hS hFc⟩ rfl rfl hl.1 rfl (lv_room (Nat.le_of_ble_eq_true rfl)) d_h_look_7 ⟨Nat.le_of_ble_eq_true rfl, Nat.le_of_ble_eq_true rfl⟩) hS (fun q _ h => hFc q h) hFc (fun rr u t H locs ht hvm hw hB hz1 hk1 hS => ?_)
    have hPo := p_keep hP hD hk1
    have hDo := d_r hD
    refine W.cs (cells' := 0) (slots' := 0) rfl rfl ?_
    refine lv_i2l hx hb d_h_look_10 rfl ?_
    refine va_last hx hb hK hPo hDo hS 0 7 rfl rfl (i := 0) (x := rr.toInt64) (vp_in_nI (n := 0) (N := 1) (by decide) (by decide)) d_h_look_11 (fun H locs hPo hDo hS => ?_)
    refine lv_goto (tgt := 23) hx hb d_h_look_12 (by decide) ?_
    refine lv_iconst (v := 0) hx hb d_h_look_23 (by decide) ?_
    refine W.widen (k := 1) (n := 6) (by decide) (by decide) ?_
    exact W.iret (v := 0) hx hb hr (fun t ht hW => ⟨⟨0, (vp_updL ov (0 : Int32).toNatClampNeg rr.toInt64), rfl, ⟨hq.symm, fun _ => (by rw [show (vp_updL ov (0 : Int32).toNatClampNeg rr.toInt64) 0 = rr.toInt64 from pk_uLs, hw] <;> try decide)⟩, by rw [ht]; exact hPo, va_K.moved hW.alike (hK.sub (tys' := [(ac 7, .long)]) [7] rfl), hDo⟩, hS.F ht⟩) hS.2.2 d_h_look_24
  · refine tx_catch (tx_runV (As := [.int r, .int a, .int n]) (rest := [.int 0, .ref o]) ⟨hx, hb, hml, hown, hts⟩ (c_look_1 l hfl D ad ac ck s.heap.size r a n hq) (cw_v 3 hts kw_1117 kw_1114 kw_1115 kw_1116 kw_1 rfl rfl (by decide +kernel) ⟨Nat.le_of_ble_eq_true rfl, Nat.le_of_ble_eq_true rfl⟩) ⟨fx_blind, va_recv hK hPx (ci := 11) (q0 := 0) rfl rfl, fun U hU hW => fx_pre hU hW hPx hK hDx hev hNS hS hFc⟩ rfl rfl hl.1 rfl (lv_room (Nat.le_of_ble_eq_true rfl)) d_h_look_7 ⟨Nat.le_of_ble_eq_true rfl, Nat.le_of_ble_eq_true rfl⟩) hown hS hFc htab [] [(0, 12, 19, 27)] (0, 12, 15, 19) rfl (by decide) (by decide) (hts _ kw_553) (va_Nw.use rfl hev.2.2.2.2.2.1.1) (fun y hy => absurd hy List.not_mem_nil) (fun z H locs hz1 hk1 hS => ?_)
    have hPo := p_keep hP hD hk1
    have hDo := d_r hD
    refine W.cs (cells' := 1) (slots' := 6) rfl rfl ?_
    refine lv_astore (lv' := [(5, .ref z), (0, .ref (ad 0)), (1, .int r), (2, .int a), (3, .int n), (4, .ref o)]) hx hb d_h_look_15 hl (by decide) rfl (fun ls hl => ?_)
    refine lv_iconst (v := 1) hx hb d_h_look_17 (by decide) ?_
    exact W.iret (v := 1) hx hb hr (fun t ht hW => ⟨⟨1, ov, rfl, ⟨hq.symm, fun h => absurd (hq.symm.trans h) (by decide)⟩, by rw [ht]; exact hPo, va_K.moved hW.alike (hK.sub (tys' := [(ac 7, .long)]) [7] rfl), hDo⟩, hS.F ht⟩) hS.2.2 d_h_look_18
  · refine tx_catch (tx_runV (As := [.int r, .int a, .int n]) (rest := [.int 0, .ref o]) ⟨hx, hb, hml, hown, hts⟩ (c_look_2 l hfl D ad ac ck s.heap.size r a n hq) (cw_v 3 hts kw_1117 kw_1114 kw_1115 kw_1116 kw_1 rfl rfl (by decide +kernel) ⟨Nat.le_of_ble_eq_true rfl, Nat.le_of_ble_eq_true rfl⟩) ⟨fx_blind, va_recv hK hPx (ci := 11) (q0 := 0) rfl rfl, fun U hU hW => fx_pre hU hW hPx hK hDx hev hNS hS hFc⟩ rfl rfl hl.1 rfl (lv_room (Nat.le_of_ble_eq_true rfl)) d_h_look_7 ⟨Nat.le_of_ble_eq_true rfl, Nat.le_of_ble_eq_true rfl⟩) hown hS hFc htab [(0, 12, 15, 19)] [] (0, 12, 19, 27) rfl (by decide) (by decide) (hts _ kw_581) (va_Nw.use rfl hev.2.2.2.2.2.1.2.2.1) (List.forall_mem_cons.mpr ⟨⟨by decide, by decide, "java/lang/IllegalArgumentException", hts _ kw_553, hev.2.2.2.2.2.2.2.1.1⟩, fun y hy => absurd hy List.not_mem_nil⟩) (fun z H locs hz1 hk1 hS => ?_)
    have hPo := p_keep hP hD hk1
    have hDo := d_r hD
    refine W.cs (cells' := 1) (slots' := 6) rfl rfl ?_
    refine lv_astore (lv' := [(5, .ref z), (0, .ref (ad 0)), (1, .int r), (2, .int a), (3, .int n), (4, .ref o)]) hx hb d_h_look_19 hl (by decide) rfl (fun ls hl => ?_)
    refine lv_iconst (v := 2) hx hb d_h_look_21 (by decide) ?_
    exact W.iret (v := 2) hx hb hr (fun t ht hW => ⟨⟨2, ov, rfl, ⟨hq.symm, fun h => absurd (hq.symm.trans h) (by decide)⟩, by rw [ht]; exact hPo, va_K.moved hW.alike (hK.sub (tys' := [(ac 7, .long)]) [7] rfl), hDo⟩, hS.F ht⟩) hS.2.2 d_h_look_22
theorem d_h_object_0 : decode method_17_code 0 = .ok (.aload 4, 2) := by decide +kernel
theorem d_h_object_2 : decode method_17_code 2 = .ok (.iconst 0, 1) := by decide +kernel
theorem d_h_object_3 : decode method_17_code 3 = .ok (.aload_n 0, 1) := by decide +kernel
theorem d_h_object_4 : decode method_17_code 4 = .ok (.iload_n 1, 1) := by decide +kernel
theorem d_h_object_5 : decode method_17_code 5 = .ok (.iload_n 2, 1) := by decide +kernel
theorem d_h_object_6 : decode method_17_code 6 = .ok (.iload_n 3, 1) := by decide +kernel
theorem d_h_object_7 : decode method_17_code 7 = .ok (.invokevirtual 66, 3) := by decide +kernel
theorem d_h_object_10 : decode method_17_code 10 = .ok (.i2l, 1) := by decide +kernel
theorem d_h_object_11 : decode method_17_code 11 = .ok (.lastore, 1) := by decide +kernel
theorem d_h_object_12 : decode method_17_code 12 = .ok (.goto 11, 3) := by decide +kernel
theorem d_h_object_23 : decode method_17_code 23 = .ok (.iconst 0, 1) := by decide +kernel
theorem d_h_object_24 : decode method_17_code 24 = .ok (.ireturn, 1) := by decide +kernel
theorem d_h_object_15 : decode method_17_code 15 = .ok (.astore 5, 2) := by decide +kernel
theorem d_h_object_17 : decode method_17_code 17 = .ok (.iconst 1, 1) := by decide +kernel
theorem d_h_object_18 : decode method_17_code 18 = .ok (.ireturn, 1) := by decide +kernel
theorem d_h_object_19 : decode method_17_code 19 = .ok (.astore 5, 2) := by decide +kernel
theorem d_h_object_21 : decode method_17_code 21 = .ok (.iconst 2, 1) := by decide +kernel
theorem d_h_object_22 : decode method_17_code 22 = .ok (.ireturn, 1) := by decide +kernel
set_option maxHeartbeats 4000000 in
set_option maxRecDepth 100000 in
theorem h_object (l : Launch) (hfl : l.flags = flags0) (D : va_G) (ad : Nat → Nat) (ac : Nat → ClassId) (ck : Nat → Int32) (o : Nat) (ov : Nat → Int64) (sz : Nat) (r : Int32) (o0 : Int32) (w : Int32) : Met l ⟨"JoinedTreesLaw", "object", "(LJoinedTrees;III[J)I"⟩ (Cond.codeWith ⟨"JoinedTreesLaw", "object", "(LJoinedTrees;III[J)I"⟩ method_17_code 6 (some .int) [(0, 12, 15, 19), (0, 12, 19, 27)] :: gb) ({ frames := 8, cells := 1, slots := 6, locals := 142 }) (hPc D ad ac ck o ov sz [.ref (ad 0), .int r, .int o0, .int w, .ref o]) (va_Qi (fun (rz : Int32) (u : Nat → Int64) => rz = k_obj r o0 w ∧ (k_obj r o0 w = 0 → u 0 = (if w = 0 then 6 else 0 : Int32).toInt64)) (fun u t => gO D [oc ac o u] [(ac 7, .long)] (va_A (fxW ad ac ck ++ [oc ac o ov]) sz) t) (va_A (fxW ad ac ck ++ [oc ac o ov]) sz)) 1 6 (va_A (fxW ad ac ck ++ [oc ac o ov]) sz) := by
  refine tx_ofW (cc := method_17_code) (maxL := 6) (ret := (some .int)) (hs := [(0, 12, 15, 19), (0, 12, 19, 27)]) (by decide) rfl ?_
  intro p e s m args below meth c s₁ B hml htab hv
  obtain ⟨rfl, hsz, hP, hK, hD0, hev⟩ := hv
  have hx := B.exec
  have hb := B.bytes
  have hr := B.returns
  have hts : ∀ w9 ∈ gb, w9.before [.ref (ad 0), .int r, .int o0, .int w, .ref o].toArray s = true := fun w9 h => atoms_spec (ws := Cond.codeWith ⟨"JoinedTreesLaw", "object", "(LJoinedTrees;III[J)I"⟩ method_17_code 6 (some .int) [(0, 12, 15, 19), (0, 12, 19, 27)] :: gb) B.pre w9 (List.mem_cons_of_mem _ h)
  have hown : s.vm.findClass "JoinedTreesLaw" = some m.cls := findClass_of_methodNamed B.named
  have hlocks := B.notSynchronized
  subst hsz
  have hNS := ns_of hP
  have hD := hD0.self (sz := s.heap.size)
  generalize hAe : va_A (fxW ad ac ck ++ [oc ac o ov]) s.heap.size = A at hD hev hNS ⊢
  have hA : ∀ q : Nat, s.heap.size ≤ q → A q := fun q h => by rw [← hAe]; exact Or.inr h
  have hS : va_S A s.heap s.heap [] := va_S.rf
  have hl := lv_entry ([.ref (ad 0), .int r, .int o0, .int w, .ref o]) (n := 6) (Nat.le_of_ble_eq_true rfl)
  rw [lg_entry_eq]
  generalize (lg_sl ([.ref (ad 0), .int r, .int o0, .int w, .ref o]) ++ List.replicate (6 - (lg_sl ([.ref (ad 0), .int r, .int o0, .int w, .ref o])).length) Slot.unset).toArray = ls at hl ⊢
  have hl : lv_has ls 6 [(0, .ref (ad 0)), (1, .int r), (2, .int o0), (3, .int w), (4, .ref o)] := hl
  refine lv_aload hx hb d_h_object_0 (lv_at hl 4 rfl) ?_
  refine lv_iconst (v := 0) hx hb d_h_object_2 (by decide) ?_
  refine lv_aload_n hx hb d_h_object_3 rfl (lv_at hl 0 rfl) ?_
  refine lv_iload_n hx hb d_h_object_4 rfl (lv_at hl 1 rfl) ?_
  refine lv_iload_n hx hb d_h_object_5 rfl (lv_at hl 2 rfl) ?_
  refine lv_iload_n hx hb d_h_object_6 rfl (lv_at hl 3 rfl) ?_
  have hPx := p_l hP
  have hDx := d_l hD
  have hFc := fr_all hDx hS hA
  rcases k_obj_c r o0 w with hq | hq | hq
  · refine va_calli (va_runV (As := [.int r, .int o0, .int w]) (rest := [.int 0, .ref o]) ⟨hx, hb, hml, hown, hts⟩ (c_object_0 l hfl D ad ac ck s.heap.size r o0 w hq) (cw_v 3 hts kw_1128 kw_1125 kw_1126 kw_1127 kw_1 rfl rfl (by decide +kernel) ⟨Nat.le_of_ble_eq_true rfl, Nat.le_of_ble_eq_true rfl⟩) ⟨fx_blind, va_recv hK hPx (ci := 11) (q0 := 0) rfl rfl, fun U hU hW => fx_pre hU hW hPx hK hDx hev hNS hS hFc⟩ rfl rfl hl.1 rfl (lv_room (Nat.le_of_ble_eq_true rfl)) d_h_object_7 ⟨Nat.le_of_ble_eq_true rfl, Nat.le_of_ble_eq_true rfl⟩) hS (fun q _ h => hFc q h) hFc (fun rr u t H locs ht hvm hw hB hz1 hk1 hS => ?_)
    have hPo := p_keep hP hD hk1
    have hDo := d_r hD
    refine W.cs (cells' := 0) (slots' := 0) rfl rfl ?_
    refine lv_i2l hx hb d_h_object_10 rfl ?_
    refine va_last hx hb hK hPo hDo hS 0 7 rfl rfl (i := 0) (x := rr.toInt64) (vp_in_nI (n := 0) (N := 1) (by decide) (by decide)) d_h_object_11 (fun H locs hPo hDo hS => ?_)
    refine lv_goto (tgt := 23) hx hb d_h_object_12 (by decide) ?_
    refine lv_iconst (v := 0) hx hb d_h_object_23 (by decide) ?_
    refine W.widen (k := 1) (n := 6) (by decide) (by decide) ?_
    exact W.iret (v := 0) hx hb hr (fun t ht hW => ⟨⟨0, (vp_updL ov (0 : Int32).toNatClampNeg rr.toInt64), rfl, ⟨hq.symm, fun _ => (by rw [show (vp_updL ov (0 : Int32).toNatClampNeg rr.toInt64) 0 = rr.toInt64 from pk_uLs, hw] <;> try decide)⟩, by rw [ht]; exact hPo, va_K.moved hW.alike (hK.sub (tys' := [(ac 7, .long)]) [7] rfl), hDo⟩, hS.F ht⟩) hS.2.2 d_h_object_24
  · refine tx_catch (tx_runV (As := [.int r, .int o0, .int w]) (rest := [.int 0, .ref o]) ⟨hx, hb, hml, hown, hts⟩ (c_object_1 l hfl D ad ac ck s.heap.size r o0 w hq) (cw_v 3 hts kw_1128 kw_1125 kw_1126 kw_1127 kw_1 rfl rfl (by decide +kernel) ⟨Nat.le_of_ble_eq_true rfl, Nat.le_of_ble_eq_true rfl⟩) ⟨fx_blind, va_recv hK hPx (ci := 11) (q0 := 0) rfl rfl, fun U hU hW => fx_pre hU hW hPx hK hDx hev hNS hS hFc⟩ rfl rfl hl.1 rfl (lv_room (Nat.le_of_ble_eq_true rfl)) d_h_object_7 ⟨Nat.le_of_ble_eq_true rfl, Nat.le_of_ble_eq_true rfl⟩) hown hS hFc htab [] [(0, 12, 19, 27)] (0, 12, 15, 19) rfl (by decide) (by decide) (hts _ kw_553) (va_Nw.use rfl hev.2.2.2.2.2.1.1) (fun y hy => absurd hy List.not_mem_nil) (fun z H locs hz1 hk1 hS => ?_)
    have hPo := p_keep hP hD hk1
    have hDo := d_r hD
    refine W.cs (cells' := 1) (slots' := 6) rfl rfl ?_
    refine lv_astore (lv' := [(5, .ref z), (0, .ref (ad 0)), (1, .int r), (2, .int o0), (3, .int w), (4, .ref o)]) hx hb d_h_object_15 hl (by decide) rfl (fun ls hl => ?_)
    refine lv_iconst (v := 1) hx hb d_h_object_17 (by decide) ?_
    exact W.iret (v := 1) hx hb hr (fun t ht hW => ⟨⟨1, ov, rfl, ⟨hq.symm, fun h => absurd (hq.symm.trans h) (by decide)⟩, by rw [ht]; exact hPo, va_K.moved hW.alike (hK.sub (tys' := [(ac 7, .long)]) [7] rfl), hDo⟩, hS.F ht⟩) hS.2.2 d_h_object_18
  · refine tx_catch (tx_runV (As := [.int r, .int o0, .int w]) (rest := [.int 0, .ref o]) ⟨hx, hb, hml, hown, hts⟩ (c_object_2 l hfl D ad ac ck s.heap.size r o0 w hq) (cw_v 3 hts kw_1128 kw_1125 kw_1126 kw_1127 kw_1 rfl rfl (by decide +kernel) ⟨Nat.le_of_ble_eq_true rfl, Nat.le_of_ble_eq_true rfl⟩) ⟨fx_blind, va_recv hK hPx (ci := 11) (q0 := 0) rfl rfl, fun U hU hW => fx_pre hU hW hPx hK hDx hev hNS hS hFc⟩ rfl rfl hl.1 rfl (lv_room (Nat.le_of_ble_eq_true rfl)) d_h_object_7 ⟨Nat.le_of_ble_eq_true rfl, Nat.le_of_ble_eq_true rfl⟩) hown hS hFc htab [(0, 12, 15, 19)] [] (0, 12, 19, 27) rfl (by decide) (by decide) (hts _ kw_581) (va_Nw.use rfl hev.2.2.2.2.2.1.2.2.1) (List.forall_mem_cons.mpr ⟨⟨by decide, by decide, "java/lang/IllegalArgumentException", hts _ kw_553, hev.2.2.2.2.2.2.2.1.1⟩, fun y hy => absurd hy List.not_mem_nil⟩) (fun z H locs hz1 hk1 hS => ?_)
    have hPo := p_keep hP hD hk1
    have hDo := d_r hD
    refine W.cs (cells' := 1) (slots' := 6) rfl rfl ?_
    refine lv_astore (lv' := [(5, .ref z), (0, .ref (ad 0)), (1, .int r), (2, .int o0), (3, .int w), (4, .ref o)]) hx hb d_h_object_19 hl (by decide) rfl (fun ls hl => ?_)
    refine lv_iconst (v := 2) hx hb d_h_object_21 (by decide) ?_
    exact W.iret (v := 2) hx hb hr (fun t ht hW => ⟨⟨2, ov, rfl, ⟨hq.symm, fun h => absurd (hq.symm.trans h) (by decide)⟩, by rw [ht]; exact hPo, va_K.moved hW.alike (hK.sub (tys' := [(ac 7, .long)]) [7] rfl), hDo⟩, hS.F ht⟩) hS.2.2 d_h_object_22
theorem d_h_key_0 : decode method_18_code 0 = .ok (.aload 5, 2) := by decide +kernel
theorem d_h_key_2 : decode method_18_code 2 = .ok (.iconst 0, 1) := by decide +kernel
theorem d_h_key_3 : decode method_18_code 3 = .ok (.aload_n 0, 1) := by decide +kernel
theorem d_h_key_4 : decode method_18_code 4 = .ok (.iload_n 1, 1) := by decide +kernel
theorem d_h_key_5 : decode method_18_code 5 = .ok (.iload_n 2, 1) := by decide +kernel
theorem d_h_key_6 : decode method_18_code 6 = .ok (.iload_n 3, 1) := by decide +kernel
theorem d_h_key_7 : decode method_18_code 7 = .ok (.iload 4, 2) := by decide +kernel
theorem d_h_key_9 : decode method_18_code 9 = .ok (.invokevirtual 69, 3) := by decide +kernel
theorem d_h_key_17 : decode method_18_code 17 = .ok (.astore 6, 2) := by decide +kernel
theorem d_h_key_19 : decode method_18_code 19 = .ok (.iconst 1, 1) := by decide +kernel
theorem d_h_key_20 : decode method_18_code 20 = .ok (.ireturn, 1) := by decide +kernel
theorem d_h_key_21 : decode method_18_code 21 = .ok (.astore 6, 2) := by decide +kernel
theorem d_h_key_23 : decode method_18_code 23 = .ok (.iconst 2, 1) := by decide +kernel
theorem d_h_key_24 : decode method_18_code 24 = .ok (.ireturn, 1) := by decide +kernel
set_option maxHeartbeats 4000000 in
set_option maxRecDepth 100000 in
theorem h_key (l : Launch) (hfl : l.flags = flags0) (D : va_G) (ad : Nat → Nat) (ac : Nat → ClassId) (ck : Nat → Int32) (o : Nat) (ov : Nat → Int64) (sz : Nat) (r : Int32) (o0 : Int32) (i : Int32) (q : Int32) : Met l ⟨"JoinedTreesLaw", "key", "(LJoinedTrees;IIII[J)I"⟩ (Cond.codeWith ⟨"JoinedTreesLaw", "key", "(LJoinedTrees;IIII[J)I"⟩ method_18_code 7 (some .int) [(0, 14, 17, 19), (0, 14, 21, 27)] :: gb) ({ frames := 9, cells := 1, slots := 6, locals := 166 }) (hPc D ad ac ck o ov sz [.ref (ad 0), .int r, .int o0, .int i, .int q, .ref o]) (va_Qi (fun (rz : Int32) (u : Nat → Int64) => rz = k_key r ∧ (k_key r = 0 → u 0 = 0)) (fun u t => gO D [oc ac o u] [(ac 7, .long)] (va_A (fxW ad ac ck ++ [oc ac o ov]) sz) t) (va_A (fxW ad ac ck ++ [oc ac o ov]) sz)) 1 6 (va_A (fxW ad ac ck ++ [oc ac o ov]) sz) := by
  refine tx_ofW (cc := method_18_code) (maxL := 7) (ret := (some .int)) (hs := [(0, 14, 17, 19), (0, 14, 21, 27)]) (by decide) rfl ?_
  intro p e s m args below meth c s₁ B hml htab hv
  obtain ⟨rfl, hsz, hP, hK, hD0, hev⟩ := hv
  have hx := B.exec
  have hb := B.bytes
  have hr := B.returns
  have hts : ∀ w9 ∈ gb, w9.before [.ref (ad 0), .int r, .int o0, .int i, .int q, .ref o].toArray s = true := fun w9 h => atoms_spec (ws := Cond.codeWith ⟨"JoinedTreesLaw", "key", "(LJoinedTrees;IIII[J)I"⟩ method_18_code 7 (some .int) [(0, 14, 17, 19), (0, 14, 21, 27)] :: gb) B.pre w9 (List.mem_cons_of_mem _ h)
  have hown : s.vm.findClass "JoinedTreesLaw" = some m.cls := findClass_of_methodNamed B.named
  have hlocks := B.notSynchronized
  subst hsz
  have hNS := ns_of hP
  have hD := hD0.self (sz := s.heap.size)
  generalize hAe : va_A (fxW ad ac ck ++ [oc ac o ov]) s.heap.size = A at hD hev hNS ⊢
  have hA : ∀ q : Nat, s.heap.size ≤ q → A q := fun q h => by rw [← hAe]; exact Or.inr h
  have hS : va_S A s.heap s.heap [] := va_S.rf
  have hl := lv_entry ([.ref (ad 0), .int r, .int o0, .int i, .int q, .ref o]) (n := 7) (Nat.le_of_ble_eq_true rfl)
  rw [lg_entry_eq]
  generalize (lg_sl ([.ref (ad 0), .int r, .int o0, .int i, .int q, .ref o]) ++ List.replicate (7 - (lg_sl ([.ref (ad 0), .int r, .int o0, .int i, .int q, .ref o])).length) Slot.unset).toArray = ls at hl ⊢
  have hl : lv_has ls 7 [(0, .ref (ad 0)), (1, .int r), (2, .int o0), (3, .int i), (4, .int q), (5, .ref o)] := hl
  refine lv_aload hx hb d_h_key_0 (lv_at hl 5 rfl) ?_
  refine lv_iconst (v := 0) hx hb d_h_key_2 (by decide) ?_
  refine lv_aload_n hx hb d_h_key_3 rfl (lv_at hl 0 rfl) ?_
  refine lv_iload_n hx hb d_h_key_4 rfl (lv_at hl 1 rfl) ?_
  refine lv_iload_n hx hb d_h_key_5 rfl (lv_at hl 2 rfl) ?_
  refine lv_iload_n hx hb d_h_key_6 rfl (lv_at hl 3 rfl) ?_
  refine lv_iload hx hb d_h_key_7 (lv_at hl 4 rfl) ?_
  have hPx := p_l hP
  have hDx := d_l hD
  have hFc := fr_all hDx hS hA
  rcases k_key_c r with hq | hq
  · refine tx_catch (tx_runV (As := [.int r, .int o0, .int i, .int q]) (rest := [.int 0, .ref o]) ⟨hx, hb, hml, hown, hts⟩ (c_key_1 l hfl D ad ac ck s.heap.size r o0 i q hq) (cw_v 4 hts kw_1135 kw_1132 kw_1133 kw_1134 kw_1 rfl rfl (by decide +kernel) ⟨Nat.le_of_ble_eq_true rfl, Nat.le_of_ble_eq_true rfl⟩) ⟨fx_blind, va_recv hK hPx (ci := 11) (q0 := 0) rfl rfl, fun U hU hW => fx_pre hU hW hPx hK hDx hev hNS hS hFc⟩ rfl rfl hl.1 rfl (lv_room (Nat.le_of_ble_eq_true rfl)) d_h_key_9 ⟨Nat.le_of_ble_eq_true rfl, Nat.le_of_ble_eq_true rfl⟩) hown hS hFc htab [] [(0, 14, 21, 27)] (0, 14, 17, 19) rfl (by decide) (by decide) (hts _ kw_553) (va_Nw.use rfl hev.2.2.2.2.2.1.1) (fun y hy => absurd hy List.not_mem_nil) (fun z H locs hz1 hk1 hS => ?_)
    have hPo := p_keep hP hD hk1
    have hDo := d_r hD
    refine W.cs (cells' := 1) (slots' := 6) rfl rfl ?_
    refine lv_astore (lv' := [(6, .ref z), (0, .ref (ad 0)), (1, .int r), (2, .int o0), (3, .int i), (4, .int q), (5, .ref o)]) hx hb d_h_key_17 hl (by decide) rfl (fun ls hl => ?_)
    refine lv_iconst (v := 1) hx hb d_h_key_19 (by decide) ?_
    exact W.iret (v := 1) hx hb hr (fun t ht hW => ⟨⟨1, ov, rfl, ⟨hq.symm, fun h => absurd (hq.symm.trans h) (by decide)⟩, by rw [ht]; exact hPo, va_K.moved hW.alike (hK.sub (tys' := [(ac 7, .long)]) [7] rfl), hDo⟩, hS.F ht⟩) hS.2.2 d_h_key_20
  · refine tx_catch (tx_runV (As := [.int r, .int o0, .int i, .int q]) (rest := [.int 0, .ref o]) ⟨hx, hb, hml, hown, hts⟩ (c_key_2 l hfl D ad ac ck s.heap.size r o0 i q hq) (cw_v 4 hts kw_1135 kw_1132 kw_1133 kw_1134 kw_1 rfl rfl (by decide +kernel) ⟨Nat.le_of_ble_eq_true rfl, Nat.le_of_ble_eq_true rfl⟩) ⟨fx_blind, va_recv hK hPx (ci := 11) (q0 := 0) rfl rfl, fun U hU hW => fx_pre hU hW hPx hK hDx hev hNS hS hFc⟩ rfl rfl hl.1 rfl (lv_room (Nat.le_of_ble_eq_true rfl)) d_h_key_9 ⟨Nat.le_of_ble_eq_true rfl, Nat.le_of_ble_eq_true rfl⟩) hown hS hFc htab [(0, 14, 17, 19)] [] (0, 14, 21, 27) rfl (by decide) (by decide) (hts _ kw_581) (va_Nw.use rfl hev.2.2.2.2.2.1.2.2.1) (List.forall_mem_cons.mpr ⟨⟨by decide, by decide, "java/lang/IllegalArgumentException", hts _ kw_553, hev.2.2.2.2.2.2.2.1.1⟩, fun y hy => absurd hy List.not_mem_nil⟩) (fun z H locs hz1 hk1 hS => ?_)
    have hPo := p_keep hP hD hk1
    have hDo := d_r hD
    refine W.cs (cells' := 1) (slots' := 6) rfl rfl ?_
    refine lv_astore (lv' := [(6, .ref z), (0, .ref (ad 0)), (1, .int r), (2, .int o0), (3, .int i), (4, .int q), (5, .ref o)]) hx hb d_h_key_21 hl (by decide) rfl (fun ls hl => ?_)
    refine lv_iconst (v := 2) hx hb d_h_key_23 (by decide) ?_
    exact W.iret (v := 2) hx hb hr (fun t ht hW => ⟨⟨2, ov, rfl, ⟨hq.symm, fun h => absurd (hq.symm.trans h) (by decide)⟩, by rw [ht]; exact hPo, va_K.moved hW.alike (hK.sub (tys' := [(ac 7, .long)]) [7] rfl), hDo⟩, hS.F ht⟩) hS.2.2 d_h_key_24
theorem d_h_candidate_0 : decode method_19_code 0 = .ok (.aload 6, 2) := by decide +kernel
theorem d_h_candidate_2 : decode method_19_code 2 = .ok (.iconst 0, 1) := by decide +kernel
theorem d_h_candidate_3 : decode method_19_code 3 = .ok (.aload_n 0, 1) := by decide +kernel
theorem d_h_candidate_4 : decode method_19_code 4 = .ok (.iload_n 1, 1) := by decide +kernel
theorem d_h_candidate_5 : decode method_19_code 5 = .ok (.iload_n 2, 1) := by decide +kernel
theorem d_h_candidate_6 : decode method_19_code 6 = .ok (.iload_n 3, 1) := by decide +kernel
theorem d_h_candidate_7 : decode method_19_code 7 = .ok (.iload 4, 2) := by decide +kernel
theorem d_h_candidate_9 : decode method_19_code 9 = .ok (.iload 5, 2) := by decide +kernel
theorem d_h_candidate_11 : decode method_19_code 11 = .ok (.invokevirtual 72, 3) := by decide +kernel
theorem d_h_candidate_18 : decode method_19_code 18 = .ok (.astore 7, 2) := by decide +kernel
theorem d_h_candidate_20 : decode method_19_code 20 = .ok (.iconst 1, 1) := by decide +kernel
theorem d_h_candidate_21 : decode method_19_code 21 = .ok (.ireturn, 1) := by decide +kernel
theorem d_h_candidate_22 : decode method_19_code 22 = .ok (.astore 7, 2) := by decide +kernel
theorem d_h_candidate_24 : decode method_19_code 24 = .ok (.iconst 2, 1) := by decide +kernel
theorem d_h_candidate_25 : decode method_19_code 25 = .ok (.ireturn, 1) := by decide +kernel
set_option maxHeartbeats 4000000 in
set_option maxRecDepth 100000 in
theorem h_candidate (l : Launch) (hfl : l.flags = flags0) (D : va_G) (ad : Nat → Nat) (ac : Nat → ClassId) (ck : Nat → Int32) (o : Nat) (ov : Nat → Int64) (sz : Nat) (r : Int32) (o0 : Int32) (i : Int32) (q : Int32) (w : Int32) : Met l ⟨"JoinedTreesLaw", "candidate", "(LJoinedTrees;IIIII[J)I"⟩ (Cond.codeWith ⟨"JoinedTreesLaw", "candidate", "(LJoinedTrees;IIIII[J)I"⟩ method_19_code 8 (some .int) [(0, 15, 18, 19), (0, 15, 22, 27)] :: gb) ({ frames := 10, cells := 1, slots := 6, locals := 190 }) (hPc D ad ac ck o ov sz [.ref (ad 0), .int r, .int o0, .int i, .int q, .int w, .ref o]) (va_Qi (fun (rz : Int32) (u : Nat → Int64) => rz = k_can r o0 i w ∧ (k_can r o0 i w = 0 → u 0 = 0)) (fun u t => gO D [oc ac o u] [(ac 7, .long)] (va_A (fxW ad ac ck ++ [oc ac o ov]) sz) t) (va_A (fxW ad ac ck ++ [oc ac o ov]) sz)) 1 6 (va_A (fxW ad ac ck ++ [oc ac o ov]) sz) := by
  refine tx_ofW (cc := method_19_code) (maxL := 8) (ret := (some .int)) (hs := [(0, 15, 18, 19), (0, 15, 22, 27)]) (by decide) rfl ?_
  intro p e s m args below meth c s₁ B hml htab hv
  obtain ⟨rfl, hsz, hP, hK, hD0, hev⟩ := hv
  have hx := B.exec
  have hb := B.bytes
  have hr := B.returns
  have hts : ∀ w9 ∈ gb, w9.before [.ref (ad 0), .int r, .int o0, .int i, .int q, .int w, .ref o].toArray s = true := fun w9 h => atoms_spec (ws := Cond.codeWith ⟨"JoinedTreesLaw", "candidate", "(LJoinedTrees;IIIII[J)I"⟩ method_19_code 8 (some .int) [(0, 15, 18, 19), (0, 15, 22, 27)] :: gb) B.pre w9 (List.mem_cons_of_mem _ h)
  have hown : s.vm.findClass "JoinedTreesLaw" = some m.cls := findClass_of_methodNamed B.named
  have hlocks := B.notSynchronized
  subst hsz
  have hNS := ns_of hP
  have hD := hD0.self (sz := s.heap.size)
  generalize hAe : va_A (fxW ad ac ck ++ [oc ac o ov]) s.heap.size = A at hD hev hNS ⊢
  have hA : ∀ q : Nat, s.heap.size ≤ q → A q := fun q h => by rw [← hAe]; exact Or.inr h
  have hS : va_S A s.heap s.heap [] := va_S.rf
  have hl := lv_entry ([.ref (ad 0), .int r, .int o0, .int i, .int q, .int w, .ref o]) (n := 8) (Nat.le_of_ble_eq_true rfl)
  rw [lg_entry_eq]
  generalize (lg_sl ([.ref (ad 0), .int r, .int o0, .int i, .int q, .int w, .ref o]) ++ List.replicate (8 - (lg_sl ([.ref (ad 0), .int r, .int o0, .int i, .int q, .int w, .ref o])).length) Slot.unset).toArray = ls at hl ⊢
  have hl : lv_has ls 8 [(0, .ref (ad 0)), (1, .int r), (2, .int o0), (3, .int i), (4, .int q), (5, .int w), (6, .ref o)] := hl
  refine lv_aload hx hb d_h_candidate_0 (lv_at hl 6 rfl) ?_
  refine lv_iconst (v := 0) hx hb d_h_candidate_2 (by decide) ?_
  refine lv_aload_n hx hb d_h_candidate_3 rfl (lv_at hl 0 rfl) ?_
  refine lv_iload_n hx hb d_h_candidate_4 rfl (lv_at hl 1 rfl) ?_
  refine lv_iload_n hx hb d_h_candidate_5 rfl (lv_at hl 2 rfl) ?_
  refine lv_iload_n hx hb d_h_candidate_6 rfl (lv_at hl 3 rfl) ?_
  refine lv_iload hx hb d_h_candidate_7 (lv_at hl 4 rfl) ?_
  refine lv_iload hx hb d_h_candidate_9 (lv_at hl 5 rfl) ?_
  have hPx := p_l hP
  have hDx := d_l hD
  have hFc := fr_all hDx hS hA
  rcases k_can_c r o0 i w with hq | hq
  · refine tx_catch (tx_runV (As := [.int r, .int o0, .int i, .int q, .int w]) (rest := [.int 0, .ref o]) ⟨hx, hb, hml, hown, hts⟩ (c_candidate_1 l hfl D ad ac ck s.heap.size r o0 i q w hq) (cw_v 5 hts kw_1143 kw_1140 kw_1141 kw_1142 kw_1 rfl rfl (by decide +kernel) ⟨Nat.le_of_ble_eq_true rfl, Nat.le_of_ble_eq_true rfl⟩) ⟨fx_blind, va_recv hK hPx (ci := 11) (q0 := 0) rfl rfl, fun U hU hW => fx_pre hU hW hPx hK hDx hev hNS hS hFc⟩ rfl rfl hl.1 rfl (lv_room (Nat.le_of_ble_eq_true rfl)) d_h_candidate_11 ⟨Nat.le_of_ble_eq_true rfl, Nat.le_of_ble_eq_true rfl⟩) hown hS hFc htab [] [(0, 15, 22, 27)] (0, 15, 18, 19) rfl (by decide) (by decide) (hts _ kw_553) (va_Nw.use rfl hev.2.2.2.2.2.1.1) (fun y hy => absurd hy List.not_mem_nil) (fun z H locs hz1 hk1 hS => ?_)
    have hPo := p_keep hP hD hk1
    have hDo := d_r hD
    refine W.cs (cells' := 1) (slots' := 6) rfl rfl ?_
    refine lv_astore (lv' := [(7, .ref z), (0, .ref (ad 0)), (1, .int r), (2, .int o0), (3, .int i), (4, .int q), (5, .int w), (6, .ref o)]) hx hb d_h_candidate_18 hl (by decide) rfl (fun ls hl => ?_)
    refine lv_iconst (v := 1) hx hb d_h_candidate_20 (by decide) ?_
    exact W.iret (v := 1) hx hb hr (fun t ht hW => ⟨⟨1, ov, rfl, ⟨hq.symm, fun h => absurd (hq.symm.trans h) (by decide)⟩, by rw [ht]; exact hPo, va_K.moved hW.alike (hK.sub (tys' := [(ac 7, .long)]) [7] rfl), hDo⟩, hS.F ht⟩) hS.2.2 d_h_candidate_21
  · refine tx_catch (tx_runV (As := [.int r, .int o0, .int i, .int q, .int w]) (rest := [.int 0, .ref o]) ⟨hx, hb, hml, hown, hts⟩ (c_candidate_2 l hfl D ad ac ck s.heap.size r o0 i q w hq) (cw_v 5 hts kw_1143 kw_1140 kw_1141 kw_1142 kw_1 rfl rfl (by decide +kernel) ⟨Nat.le_of_ble_eq_true rfl, Nat.le_of_ble_eq_true rfl⟩) ⟨fx_blind, va_recv hK hPx (ci := 11) (q0 := 0) rfl rfl, fun U hU hW => fx_pre hU hW hPx hK hDx hev hNS hS hFc⟩ rfl rfl hl.1 rfl (lv_room (Nat.le_of_ble_eq_true rfl)) d_h_candidate_11 ⟨Nat.le_of_ble_eq_true rfl, Nat.le_of_ble_eq_true rfl⟩) hown hS hFc htab [(0, 15, 18, 19)] [] (0, 15, 22, 27) rfl (by decide) (by decide) (hts _ kw_581) (va_Nw.use rfl hev.2.2.2.2.2.1.2.2.1) (List.forall_mem_cons.mpr ⟨⟨by decide, by decide, "java/lang/IllegalArgumentException", hts _ kw_553, hev.2.2.2.2.2.2.2.1.1⟩, fun y hy => absurd hy List.not_mem_nil⟩) (fun z H locs hz1 hk1 hS => ?_)
    have hPo := p_keep hP hD hk1
    have hDo := d_r hD
    refine W.cs (cells' := 1) (slots' := 6) rfl rfl ?_
    refine lv_astore (lv' := [(7, .ref z), (0, .ref (ad 0)), (1, .int r), (2, .int o0), (3, .int i), (4, .int q), (5, .int w), (6, .ref o)]) hx hb d_h_candidate_22 hl (by decide) rfl (fun ls hl => ?_)
    refine lv_iconst (v := 2) hx hb d_h_candidate_24 (by decide) ?_
    exact W.iret (v := 2) hx hb hr (fun t ht hW => ⟨⟨2, ov, rfl, ⟨hq.symm, fun h => absurd (hq.symm.trans h) (by decide)⟩, by rw [ht]; exact hPo, va_K.moved hW.alike (hK.sub (tys' := [(ac 7, .long)]) [7] rfl), hDo⟩, hS.F ht⟩) hS.2.2 d_h_candidate_25
theorem d_h_letter_0 : decode method_20_code 0 = .ok (.aload 4, 2) := by decide +kernel
theorem d_h_letter_2 : decode method_20_code 2 = .ok (.iconst 0, 1) := by decide +kernel
theorem d_h_letter_3 : decode method_20_code 3 = .ok (.aload_n 0, 1) := by decide +kernel
theorem d_h_letter_4 : decode method_20_code 4 = .ok (.iload_n 1, 1) := by decide +kernel
theorem d_h_letter_5 : decode method_20_code 5 = .ok (.iload_n 2, 1) := by decide +kernel
theorem d_h_letter_6 : decode method_20_code 6 = .ok (.iload_n 3, 1) := by decide +kernel
theorem d_h_letter_7 : decode method_20_code 7 = .ok (.invokevirtual 76, 3) := by decide +kernel
theorem d_h_letter_15 : decode method_20_code 15 = .ok (.astore 5, 2) := by decide +kernel
theorem d_h_letter_17 : decode method_20_code 17 = .ok (.iconst 1, 1) := by decide +kernel
theorem d_h_letter_18 : decode method_20_code 18 = .ok (.ireturn, 1) := by decide +kernel
theorem d_h_letter_19 : decode method_20_code 19 = .ok (.astore 5, 2) := by decide +kernel
theorem d_h_letter_21 : decode method_20_code 21 = .ok (.iconst 2, 1) := by decide +kernel
theorem d_h_letter_22 : decode method_20_code 22 = .ok (.ireturn, 1) := by decide +kernel
set_option maxHeartbeats 4000000 in
set_option maxRecDepth 100000 in
theorem h_letter (l : Launch) (hfl : l.flags = flags0) (D : va_G) (ad : Nat → Nat) (ac : Nat → ClassId) (ck : Nat → Int32) (o : Nat) (ov : Nat → Int64) (sz : Nat) (r : Int32) (o0 : Int32) (q : Int32) : Met l ⟨"JoinedTreesLaw", "letter", "(LJoinedTrees;III[J)I"⟩ (Cond.codeWith ⟨"JoinedTreesLaw", "letter", "(LJoinedTrees;III[J)I"⟩ method_20_code 6 (some .int) [(0, 12, 15, 19), (0, 12, 19, 27)] :: gb) ({ frames := 8, cells := 1, slots := 6, locals := 141 }) (hPc D ad ac ck o ov sz [.ref (ad 0), .int r, .int o0, .int q, .ref o]) (va_Qi (fun (rz : Int32) (u : Nat → Int64) => rz = k_key r ∧ (k_key r = 0 → u 0 = 0)) (fun u t => gO D [oc ac o u] [(ac 7, .long)] (va_A (fxW ad ac ck ++ [oc ac o ov]) sz) t) (va_A (fxW ad ac ck ++ [oc ac o ov]) sz)) 1 6 (va_A (fxW ad ac ck ++ [oc ac o ov]) sz) := by
  refine tx_ofW (cc := method_20_code) (maxL := 6) (ret := (some .int)) (hs := [(0, 12, 15, 19), (0, 12, 19, 27)]) (by decide) rfl ?_
  intro p e s m args below meth c s₁ B hml htab hv
  obtain ⟨rfl, hsz, hP, hK, hD0, hev⟩ := hv
  have hx := B.exec
  have hb := B.bytes
  have hr := B.returns
  have hts : ∀ w9 ∈ gb, w9.before [.ref (ad 0), .int r, .int o0, .int q, .ref o].toArray s = true := fun w9 h => atoms_spec (ws := Cond.codeWith ⟨"JoinedTreesLaw", "letter", "(LJoinedTrees;III[J)I"⟩ method_20_code 6 (some .int) [(0, 12, 15, 19), (0, 12, 19, 27)] :: gb) B.pre w9 (List.mem_cons_of_mem _ h)
  have hown : s.vm.findClass "JoinedTreesLaw" = some m.cls := findClass_of_methodNamed B.named
  have hlocks := B.notSynchronized
  subst hsz
  have hNS := ns_of hP
  have hD := hD0.self (sz := s.heap.size)
  generalize hAe : va_A (fxW ad ac ck ++ [oc ac o ov]) s.heap.size = A at hD hev hNS ⊢
  have hA : ∀ q : Nat, s.heap.size ≤ q → A q := fun q h => by rw [← hAe]; exact Or.inr h
  have hS : va_S A s.heap s.heap [] := va_S.rf
  have hl := lv_entry ([.ref (ad 0), .int r, .int o0, .int q, .ref o]) (n := 6) (Nat.le_of_ble_eq_true rfl)
  rw [lg_entry_eq]
  generalize (lg_sl ([.ref (ad 0), .int r, .int o0, .int q, .ref o]) ++ List.replicate (6 - (lg_sl ([.ref (ad 0), .int r, .int o0, .int q, .ref o])).length) Slot.unset).toArray = ls at hl ⊢
  have hl : lv_has ls 6 [(0, .ref (ad 0)), (1, .int r), (2, .int o0), (3, .int q), (4, .ref o)] := hl
  refine lv_aload hx hb d_h_letter_0 (lv_at hl 4 rfl) ?_
  refine lv_iconst (v := 0) hx hb d_h_letter_2 (by decide) ?_
  refine lv_aload_n hx hb d_h_letter_3 rfl (lv_at hl 0 rfl) ?_
  refine lv_iload_n hx hb d_h_letter_4 rfl (lv_at hl 1 rfl) ?_
  refine lv_iload_n hx hb d_h_letter_5 rfl (lv_at hl 2 rfl) ?_
  refine lv_iload_n hx hb d_h_letter_6 rfl (lv_at hl 3 rfl) ?_
  have hPx := p_l hP
  have hDx := d_l hD
  have hFc := fr_all hDx hS hA
  rcases k_key_c r with hq | hq
  · refine tx_catch (tx_runV (As := [.int r, .int o0, .int q]) (rest := [.int 0, .ref o]) ⟨hx, hb, hml, hown, hts⟩ (c_letter_1 l hfl D ad ac ck s.heap.size r o0 q hq) (cw_v 3 hts kw_1158 kw_1155 kw_1156 kw_1157 kw_1 rfl rfl (by decide +kernel) ⟨Nat.le_of_ble_eq_true rfl, Nat.le_of_ble_eq_true rfl⟩) ⟨fx_blind, va_recv hK hPx (ci := 11) (q0 := 0) rfl rfl, fun U hU hW => fx_pre hU hW hPx hK hDx hev hNS hS hFc⟩ rfl rfl hl.1 rfl (lv_room (Nat.le_of_ble_eq_true rfl)) d_h_letter_7 ⟨Nat.le_of_ble_eq_true rfl, Nat.le_of_ble_eq_true rfl⟩) hown hS hFc htab [] [(0, 12, 19, 27)] (0, 12, 15, 19) rfl (by decide) (by decide) (hts _ kw_553) (va_Nw.use rfl hev.2.2.2.2.2.1.1) (fun y hy => absurd hy List.not_mem_nil) (fun z H locs hz1 hk1 hS => ?_)
    have hPo := p_keep hP hD hk1
    have hDo := d_r hD
    refine W.cs (cells' := 1) (slots' := 6) rfl rfl ?_
    refine lv_astore (lv' := [(5, .ref z), (0, .ref (ad 0)), (1, .int r), (2, .int o0), (3, .int q), (4, .ref o)]) hx hb d_h_letter_15 hl (by decide) rfl (fun ls hl => ?_)
    refine lv_iconst (v := 1) hx hb d_h_letter_17 (by decide) ?_
    exact W.iret (v := 1) hx hb hr (fun t ht hW => ⟨⟨1, ov, rfl, ⟨hq.symm, fun h => absurd (hq.symm.trans h) (by decide)⟩, by rw [ht]; exact hPo, va_K.moved hW.alike (hK.sub (tys' := [(ac 7, .long)]) [7] rfl), hDo⟩, hS.F ht⟩) hS.2.2 d_h_letter_18
  · refine tx_catch (tx_runV (As := [.int r, .int o0, .int q]) (rest := [.int 0, .ref o]) ⟨hx, hb, hml, hown, hts⟩ (c_letter_2 l hfl D ad ac ck s.heap.size r o0 q hq) (cw_v 3 hts kw_1158 kw_1155 kw_1156 kw_1157 kw_1 rfl rfl (by decide +kernel) ⟨Nat.le_of_ble_eq_true rfl, Nat.le_of_ble_eq_true rfl⟩) ⟨fx_blind, va_recv hK hPx (ci := 11) (q0 := 0) rfl rfl, fun U hU hW => fx_pre hU hW hPx hK hDx hev hNS hS hFc⟩ rfl rfl hl.1 rfl (lv_room (Nat.le_of_ble_eq_true rfl)) d_h_letter_7 ⟨Nat.le_of_ble_eq_true rfl, Nat.le_of_ble_eq_true rfl⟩) hown hS hFc htab [(0, 12, 15, 19)] [] (0, 12, 19, 27) rfl (by decide) (by decide) (hts _ kw_581) (va_Nw.use rfl hev.2.2.2.2.2.1.2.2.1) (List.forall_mem_cons.mpr ⟨⟨by decide, by decide, "java/lang/IllegalArgumentException", hts _ kw_553, hev.2.2.2.2.2.2.2.1.1⟩, fun y hy => absurd hy List.not_mem_nil⟩) (fun z H locs hz1 hk1 hS => ?_)
    have hPo := p_keep hP hD hk1
    have hDo := d_r hD
    refine W.cs (cells' := 1) (slots' := 6) rfl rfl ?_
    refine lv_astore (lv' := [(5, .ref z), (0, .ref (ad 0)), (1, .int r), (2, .int o0), (3, .int q), (4, .ref o)]) hx hb d_h_letter_19 hl (by decide) rfl (fun ls hl => ?_)
    refine lv_iconst (v := 2) hx hb d_h_letter_21 (by decide) ?_
    exact W.iret (v := 2) hx hb hr (fun t ht hW => ⟨⟨2, ov, rfl, ⟨hq.symm, fun h => absurd (hq.symm.trans h) (by decide)⟩, by rw [ht]; exact hPo, va_K.moved hW.alike (hK.sub (tys' := [(ac 7, .long)]) [7] rfl), hDo⟩, hS.F ht⟩) hS.2.2 d_h_letter_22
theorem d_h_element_0 : decode method_21_code 0 = .ok (.aload 4, 2) := by decide +kernel
theorem d_h_element_2 : decode method_21_code 2 = .ok (.iconst 0, 1) := by decide +kernel
theorem d_h_element_3 : decode method_21_code 3 = .ok (.aload_n 0, 1) := by decide +kernel
theorem d_h_element_4 : decode method_21_code 4 = .ok (.iload_n 1, 1) := by decide +kernel
theorem d_h_element_5 : decode method_21_code 5 = .ok (.iload_n 2, 1) := by decide +kernel
theorem d_h_element_6 : decode method_21_code 6 = .ok (.iload_n 3, 1) := by decide +kernel
theorem d_h_element_7 : decode method_21_code 7 = .ok (.invokevirtual 79, 3) := by decide +kernel
theorem d_h_element_15 : decode method_21_code 15 = .ok (.astore 5, 2) := by decide +kernel
theorem d_h_element_17 : decode method_21_code 17 = .ok (.iconst 1, 1) := by decide +kernel
theorem d_h_element_18 : decode method_21_code 18 = .ok (.ireturn, 1) := by decide +kernel
theorem d_h_element_19 : decode method_21_code 19 = .ok (.astore 5, 2) := by decide +kernel
theorem d_h_element_21 : decode method_21_code 21 = .ok (.iconst 2, 1) := by decide +kernel
theorem d_h_element_22 : decode method_21_code 22 = .ok (.ireturn, 1) := by decide +kernel
set_option maxHeartbeats 4000000 in
set_option maxRecDepth 100000 in
theorem h_element (l : Launch) (hfl : l.flags = flags0) (D : va_G) (ad : Nat → Nat) (ac : Nat → ClassId) (ck : Nat → Int32) (o : Nat) (ov : Nat → Int64) (sz : Nat) (r : Int32) (o0 : Int32) (i : Int32) : Met l ⟨"JoinedTreesLaw", "element", "(LJoinedTrees;III[J)I"⟩ (Cond.codeWith ⟨"JoinedTreesLaw", "element", "(LJoinedTrees;III[J)I"⟩ method_21_code 6 (some .int) [(0, 12, 15, 19), (0, 12, 19, 27)] :: gb) ({ frames := 9, cells := 1, slots := 6, locals := 164 }) (hPc D ad ac ck o ov sz [.ref (ad 0), .int r, .int o0, .int i, .ref o]) (va_Qi (fun (rz : Int32) (u : Nat → Int64) => rz = k_ele r o0 ∧ (k_ele r o0 = 0 → u 0 = 0)) (fun u t => gO D [oc ac o u] [(ac 7, .long)] (va_A (fxW ad ac ck ++ [oc ac o ov]) sz) t) (va_A (fxW ad ac ck ++ [oc ac o ov]) sz)) 1 6 (va_A (fxW ad ac ck ++ [oc ac o ov]) sz) := by
  refine tx_ofW (cc := method_21_code) (maxL := 6) (ret := (some .int)) (hs := [(0, 12, 15, 19), (0, 12, 19, 27)]) (by decide) rfl ?_
  intro p e s m args below meth c s₁ B hml htab hv
  obtain ⟨rfl, hsz, hP, hK, hD0, hev⟩ := hv
  have hx := B.exec
  have hb := B.bytes
  have hr := B.returns
  have hts : ∀ w9 ∈ gb, w9.before [.ref (ad 0), .int r, .int o0, .int i, .ref o].toArray s = true := fun w9 h => atoms_spec (ws := Cond.codeWith ⟨"JoinedTreesLaw", "element", "(LJoinedTrees;III[J)I"⟩ method_21_code 6 (some .int) [(0, 12, 15, 19), (0, 12, 19, 27)] :: gb) B.pre w9 (List.mem_cons_of_mem _ h)
  have hown : s.vm.findClass "JoinedTreesLaw" = some m.cls := findClass_of_methodNamed B.named
  have hlocks := B.notSynchronized
  subst hsz
  have hNS := ns_of hP
  have hD := hD0.self (sz := s.heap.size)
  generalize hAe : va_A (fxW ad ac ck ++ [oc ac o ov]) s.heap.size = A at hD hev hNS ⊢
  have hA : ∀ q : Nat, s.heap.size ≤ q → A q := fun q h => by rw [← hAe]; exact Or.inr h
  have hS : va_S A s.heap s.heap [] := va_S.rf
  have hl := lv_entry ([.ref (ad 0), .int r, .int o0, .int i, .ref o]) (n := 6) (Nat.le_of_ble_eq_true rfl)
  rw [lg_entry_eq]
  generalize (lg_sl ([.ref (ad 0), .int r, .int o0, .int i, .ref o]) ++ List.replicate (6 - (lg_sl ([.ref (ad 0), .int r, .int o0, .int i, .ref o])).length) Slot.unset).toArray = ls at hl ⊢
  have hl : lv_has ls 6 [(0, .ref (ad 0)), (1, .int r), (2, .int o0), (3, .int i), (4, .ref o)] := hl
  refine lv_aload hx hb d_h_element_0 (lv_at hl 4 rfl) ?_
  refine lv_iconst (v := 0) hx hb d_h_element_2 (by decide) ?_
  refine lv_aload_n hx hb d_h_element_3 rfl (lv_at hl 0 rfl) ?_
  refine lv_iload_n hx hb d_h_element_4 rfl (lv_at hl 1 rfl) ?_
  refine lv_iload_n hx hb d_h_element_5 rfl (lv_at hl 2 rfl) ?_
  refine lv_iload_n hx hb d_h_element_6 rfl (lv_at hl 3 rfl) ?_
  have hPx := p_l hP
  have hDx := d_l hD
  have hFc := fr_all hDx hS hA
  rcases k_ele_c r o0 with hq | hq
  · refine tx_catch (tx_runV (As := [.int r, .int o0, .int i]) (rest := [.int 0, .ref o]) ⟨hx, hb, hml, hown, hts⟩ (c_element_1 l hfl D ad ac ck s.heap.size r o0 i hq) (cw_v 3 hts kw_1165 kw_1162 kw_1163 kw_1164 kw_1 rfl rfl (by decide +kernel) ⟨Nat.le_of_ble_eq_true rfl, Nat.le_of_ble_eq_true rfl⟩) ⟨fx_blind, va_recv hK hPx (ci := 11) (q0 := 0) rfl rfl, fun U hU hW => fx_pre hU hW hPx hK hDx hev hNS hS hFc⟩ rfl rfl hl.1 rfl (lv_room (Nat.le_of_ble_eq_true rfl)) d_h_element_7 ⟨Nat.le_of_ble_eq_true rfl, Nat.le_of_ble_eq_true rfl⟩) hown hS hFc htab [] [(0, 12, 19, 27)] (0, 12, 15, 19) rfl (by decide) (by decide) (hts _ kw_553) (va_Nw.use rfl hev.2.2.2.2.2.1.1) (fun y hy => absurd hy List.not_mem_nil) (fun z H locs hz1 hk1 hS => ?_)
    have hPo := p_keep hP hD hk1
    have hDo := d_r hD
    refine W.cs (cells' := 1) (slots' := 6) rfl rfl ?_
    refine lv_astore (lv' := [(5, .ref z), (0, .ref (ad 0)), (1, .int r), (2, .int o0), (3, .int i), (4, .ref o)]) hx hb d_h_element_15 hl (by decide) rfl (fun ls hl => ?_)
    refine lv_iconst (v := 1) hx hb d_h_element_17 (by decide) ?_
    exact W.iret (v := 1) hx hb hr (fun t ht hW => ⟨⟨1, ov, rfl, ⟨hq.symm, fun h => absurd (hq.symm.trans h) (by decide)⟩, by rw [ht]; exact hPo, va_K.moved hW.alike (hK.sub (tys' := [(ac 7, .long)]) [7] rfl), hDo⟩, hS.F ht⟩) hS.2.2 d_h_element_18
  · refine tx_catch (tx_runV (As := [.int r, .int o0, .int i]) (rest := [.int 0, .ref o]) ⟨hx, hb, hml, hown, hts⟩ (c_element_2 l hfl D ad ac ck s.heap.size r o0 i hq) (cw_v 3 hts kw_1165 kw_1162 kw_1163 kw_1164 kw_1 rfl rfl (by decide +kernel) ⟨Nat.le_of_ble_eq_true rfl, Nat.le_of_ble_eq_true rfl⟩) ⟨fx_blind, va_recv hK hPx (ci := 11) (q0 := 0) rfl rfl, fun U hU hW => fx_pre hU hW hPx hK hDx hev hNS hS hFc⟩ rfl rfl hl.1 rfl (lv_room (Nat.le_of_ble_eq_true rfl)) d_h_element_7 ⟨Nat.le_of_ble_eq_true rfl, Nat.le_of_ble_eq_true rfl⟩) hown hS hFc htab [(0, 12, 15, 19)] [] (0, 12, 19, 27) rfl (by decide) (by decide) (hts _ kw_581) (va_Nw.use rfl hev.2.2.2.2.2.1.2.2.1) (List.forall_mem_cons.mpr ⟨⟨by decide, by decide, "java/lang/IllegalArgumentException", hts _ kw_553, hev.2.2.2.2.2.2.2.1.1⟩, fun y hy => absurd hy List.not_mem_nil⟩) (fun z H locs hz1 hk1 hS => ?_)
    have hPo := p_keep hP hD hk1
    have hDo := d_r hD
    refine W.cs (cells' := 1) (slots' := 6) rfl rfl ?_
    refine lv_astore (lv' := [(5, .ref z), (0, .ref (ad 0)), (1, .int r), (2, .int o0), (3, .int i), (4, .ref o)]) hx hb d_h_element_19 hl (by decide) rfl (fun ls hl => ?_)
    refine lv_iconst (v := 2) hx hb d_h_element_21 (by decide) ?_
    exact W.iret (v := 2) hx hb hr (fun t ht hW => ⟨⟨2, ov, rfl, ⟨hq.symm, fun h => absurd (hq.symm.trans h) (by decide)⟩, by rw [ht]; exact hPo, va_K.moved hW.alike (hK.sub (tys' := [(ac 7, .long)]) [7] rfl), hDo⟩, hS.F ht⟩) hS.2.2 d_h_element_22
theorem d_h_index_0 : decode method_22_code 0 = .ok (.aload 4, 2) := by decide +kernel
theorem d_h_index_2 : decode method_22_code 2 = .ok (.iconst 0, 1) := by decide +kernel
theorem d_h_index_3 : decode method_22_code 3 = .ok (.aload_n 0, 1) := by decide +kernel
theorem d_h_index_4 : decode method_22_code 4 = .ok (.iload_n 1, 1) := by decide +kernel
theorem d_h_index_5 : decode method_22_code 5 = .ok (.iload_n 2, 1) := by decide +kernel
theorem d_h_index_6 : decode method_22_code 6 = .ok (.iload_n 3, 1) := by decide +kernel
theorem d_h_index_7 : decode method_22_code 7 = .ok (.invokevirtual 82, 3) := by decide +kernel
theorem d_h_index_15 : decode method_22_code 15 = .ok (.astore 5, 2) := by decide +kernel
theorem d_h_index_17 : decode method_22_code 17 = .ok (.iconst 1, 1) := by decide +kernel
theorem d_h_index_18 : decode method_22_code 18 = .ok (.ireturn, 1) := by decide +kernel
theorem d_h_index_19 : decode method_22_code 19 = .ok (.astore 5, 2) := by decide +kernel
theorem d_h_index_21 : decode method_22_code 21 = .ok (.iconst 2, 1) := by decide +kernel
theorem d_h_index_22 : decode method_22_code 22 = .ok (.ireturn, 1) := by decide +kernel
set_option maxHeartbeats 4000000 in
set_option maxRecDepth 100000 in
theorem h_index (l : Launch) (hfl : l.flags = flags0) (D : va_G) (ad : Nat → Nat) (ac : Nat → ClassId) (ck : Nat → Int32) (o : Nat) (ov : Nat → Int64) (sz : Nat) (r : Int32) (o0 : Int32) (i : Int32) : Met l ⟨"JoinedTreesLaw", "index", "(LJoinedTrees;III[J)I"⟩ (Cond.codeWith ⟨"JoinedTreesLaw", "index", "(LJoinedTrees;III[J)I"⟩ method_22_code 6 (some .int) [(0, 12, 15, 19), (0, 12, 19, 27)] :: gb) ({ frames := 9, cells := 1, slots := 6, locals := 165 }) (hPc D ad ac ck o ov sz [.ref (ad 0), .int r, .int o0, .int i, .ref o]) (va_Qi (fun (rz : Int32) (u : Nat → Int64) => rz = k_ele r o0 ∧ (k_ele r o0 = 0 → u 0 = 0)) (fun u t => gO D [oc ac o u] [(ac 7, .long)] (va_A (fxW ad ac ck ++ [oc ac o ov]) sz) t) (va_A (fxW ad ac ck ++ [oc ac o ov]) sz)) 1 6 (va_A (fxW ad ac ck ++ [oc ac o ov]) sz) := by
  refine tx_ofW (cc := method_22_code) (maxL := 6) (ret := (some .int)) (hs := [(0, 12, 15, 19), (0, 12, 19, 27)]) (by decide) rfl ?_
  intro p e s m args below meth c s₁ B hml htab hv
  obtain ⟨rfl, hsz, hP, hK, hD0, hev⟩ := hv
  have hx := B.exec
  have hb := B.bytes
  have hr := B.returns
  have hts : ∀ w9 ∈ gb, w9.before [.ref (ad 0), .int r, .int o0, .int i, .ref o].toArray s = true := fun w9 h => atoms_spec (ws := Cond.codeWith ⟨"JoinedTreesLaw", "index", "(LJoinedTrees;III[J)I"⟩ method_22_code 6 (some .int) [(0, 12, 15, 19), (0, 12, 19, 27)] :: gb) B.pre w9 (List.mem_cons_of_mem _ h)
  have hown : s.vm.findClass "JoinedTreesLaw" = some m.cls := findClass_of_methodNamed B.named
  have hlocks := B.notSynchronized
  subst hsz
  have hNS := ns_of hP
  have hD := hD0.self (sz := s.heap.size)
  generalize hAe : va_A (fxW ad ac ck ++ [oc ac o ov]) s.heap.size = A at hD hev hNS ⊢
  have hA : ∀ q : Nat, s.heap.size ≤ q → A q := fun q h => by rw [← hAe]; exact Or.inr h
  have hS : va_S A s.heap s.heap [] := va_S.rf
  have hl := lv_entry ([.ref (ad 0), .int r, .int o0, .int i, .ref o]) (n := 6) (Nat.le_of_ble_eq_true rfl)
  rw [lg_entry_eq]
  generalize (lg_sl ([.ref (ad 0), .int r, .int o0, .int i, .ref o]) ++ List.replicate (6 - (lg_sl ([.ref (ad 0), .int r, .int o0, .int i, .ref o])).length) Slot.unset).toArray = ls at hl ⊢
  have hl : lv_has ls 6 [(0, .ref (ad 0)), (1, .int r), (2, .int o0), (3, .int i), (4, .ref o)] := hl
  refine lv_aload hx hb d_h_index_0 (lv_at hl 4 rfl) ?_
  refine lv_iconst (v := 0) hx hb d_h_index_2 (by decide) ?_
  refine lv_aload_n hx hb d_h_index_3 rfl (lv_at hl 0 rfl) ?_
  refine lv_iload_n hx hb d_h_index_4 rfl (lv_at hl 1 rfl) ?_
  refine lv_iload_n hx hb d_h_index_5 rfl (lv_at hl 2 rfl) ?_
  refine lv_iload_n hx hb d_h_index_6 rfl (lv_at hl 3 rfl) ?_
  have hPx := p_l hP
  have hDx := d_l hD
  have hFc := fr_all hDx hS hA
  rcases k_ele_c r o0 with hq | hq
  · refine tx_catch (tx_runV (As := [.int r, .int o0, .int i]) (rest := [.int 0, .ref o]) ⟨hx, hb, hml, hown, hts⟩ (c_index_1 l hfl D ad ac ck s.heap.size r o0 i hq) (cw_v 3 hts kw_1172 kw_1169 kw_1170 kw_1171 kw_1 rfl rfl (by decide +kernel) ⟨Nat.le_of_ble_eq_true rfl, Nat.le_of_ble_eq_true rfl⟩) ⟨fx_blind, va_recv hK hPx (ci := 11) (q0 := 0) rfl rfl, fun U hU hW => fx_pre hU hW hPx hK hDx hev hNS hS hFc⟩ rfl rfl hl.1 rfl (lv_room (Nat.le_of_ble_eq_true rfl)) d_h_index_7 ⟨Nat.le_of_ble_eq_true rfl, Nat.le_of_ble_eq_true rfl⟩) hown hS hFc htab [] [(0, 12, 19, 27)] (0, 12, 15, 19) rfl (by decide) (by decide) (hts _ kw_553) (va_Nw.use rfl hev.2.2.2.2.2.1.1) (fun y hy => absurd hy List.not_mem_nil) (fun z H locs hz1 hk1 hS => ?_)
    have hPo := p_keep hP hD hk1
    have hDo := d_r hD
    refine W.cs (cells' := 1) (slots' := 6) rfl rfl ?_
    refine lv_astore (lv' := [(5, .ref z), (0, .ref (ad 0)), (1, .int r), (2, .int o0), (3, .int i), (4, .ref o)]) hx hb d_h_index_15 hl (by decide) rfl (fun ls hl => ?_)
    refine lv_iconst (v := 1) hx hb d_h_index_17 (by decide) ?_
    exact W.iret (v := 1) hx hb hr (fun t ht hW => ⟨⟨1, ov, rfl, ⟨hq.symm, fun h => absurd (hq.symm.trans h) (by decide)⟩, by rw [ht]; exact hPo, va_K.moved hW.alike (hK.sub (tys' := [(ac 7, .long)]) [7] rfl), hDo⟩, hS.F ht⟩) hS.2.2 d_h_index_18
  · refine tx_catch (tx_runV (As := [.int r, .int o0, .int i]) (rest := [.int 0, .ref o]) ⟨hx, hb, hml, hown, hts⟩ (c_index_2 l hfl D ad ac ck s.heap.size r o0 i hq) (cw_v 3 hts kw_1172 kw_1169 kw_1170 kw_1171 kw_1 rfl rfl (by decide +kernel) ⟨Nat.le_of_ble_eq_true rfl, Nat.le_of_ble_eq_true rfl⟩) ⟨fx_blind, va_recv hK hPx (ci := 11) (q0 := 0) rfl rfl, fun U hU hW => fx_pre hU hW hPx hK hDx hev hNS hS hFc⟩ rfl rfl hl.1 rfl (lv_room (Nat.le_of_ble_eq_true rfl)) d_h_index_7 ⟨Nat.le_of_ble_eq_true rfl, Nat.le_of_ble_eq_true rfl⟩) hown hS hFc htab [(0, 12, 15, 19)] [] (0, 12, 19, 27) rfl (by decide) (by decide) (hts _ kw_581) (va_Nw.use rfl hev.2.2.2.2.2.1.2.2.1) (List.forall_mem_cons.mpr ⟨⟨by decide, by decide, "java/lang/IllegalArgumentException", hts _ kw_553, hev.2.2.2.2.2.2.2.1.1⟩, fun y hy => absurd hy List.not_mem_nil⟩) (fun z H locs hz1 hk1 hS => ?_)
    have hPo := p_keep hP hD hk1
    have hDo := d_r hD
    refine W.cs (cells' := 1) (slots' := 6) rfl rfl ?_
    refine lv_astore (lv' := [(5, .ref z), (0, .ref (ad 0)), (1, .int r), (2, .int o0), (3, .int i), (4, .ref o)]) hx hb d_h_index_19 hl (by decide) rfl (fun ls hl => ?_)
    refine lv_iconst (v := 2) hx hb d_h_index_21 (by decide) ?_
    exact W.iret (v := 2) hx hb hr (fun t ht hW => ⟨⟨2, ov, rfl, ⟨hq.symm, fun h => absurd (hq.symm.trans h) (by decide)⟩, by rw [ht]; exact hPo, va_K.moved hW.alike (hK.sub (tys' := [(ac 7, .long)]) [7] rfl), hDo⟩, hS.F ht⟩) hS.2.2 d_h_index_22
