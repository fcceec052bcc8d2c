theorem d_h_count_0 : decode method_29_code 0 = .ok (.aload_n 3, 1) := by decide +kernel
theorem d_h_count_1 : decode method_29_code 1 = .ok (.iconst 0, 1) := by decide +kernel
theorem d_h_count_2 : decode method_29_code 2 = .ok (.aload_n 0, 1) := by decide +kernel
theorem d_h_count_3 : decode method_29_code 3 = .ok (.iload_n 1, 1) := by decide +kernel
theorem d_h_count_4 : decode method_29_code 4 = .ok (.iload_n 2, 1) := by decide +kernel
theorem d_h_count_5 : decode method_29_code 5 = .ok (.invokevirtual 107, 3) := by decide +kernel
theorem d_h_count_8 : decode method_29_code 8 = .ok (.i2l, 1) := by decide +kernel
theorem d_h_count_9 : decode method_29_code 9 = .ok (.lastore, 1) := by decide +kernel
theorem d_h_count_10 : decode method_29_code 10 = .ok (.goto 7, 3) := by decide +kernel
theorem d_h_count_17 : decode method_29_code 17 = .ok (.iconst 0, 1) := by decide +kernel
theorem d_h_count_18 : decode method_29_code 18 = .ok (.ireturn, 1) := by decide +kernel
theorem d_h_count_13 : decode method_29_code 13 = .ok (.astore 4, 2) := by decide +kernel
theorem d_h_count_15 : decode method_29_code 15 = .ok (.iconst 1, 1) := by decide +kernel
theorem d_h_count_16 : decode method_29_code 16 = .ok (.ireturn, 1) := by decide +kernel
set_option maxHeartbeats 4000000 in
set_option maxRecDepth 100000 in
theorem h_count (l : Launch) (hfl : l.flags = flags0) (D : va_G) (ad : Nat → Nat) (ac : Nat → ClassId) (ck : Nat → Int32) (o : Nat) (ov : Nat → Int64) (sz : Nat) (r : Int32) (w : Int32) : Met l ⟨"JoinedTreesLaw", "count", "(LJoinedTrees;II[J)I"⟩ (Cond.codeWith ⟨"JoinedTreesLaw", "count", "(LJoinedTrees;II[J)I"⟩ method_29_code 5 (some .int) [(0, 10, 13, 19)] :: gb) ({ frames := 8, cells := 1, slots := 6, locals := 140 }) (hPc D ad ac ck o ov sz [.ref (ad 0), .int r, .int w, .ref o]) (va_Qi (fun (rz : Int32) (u : Nat → Int64) => rz = k_dro r ∧ (k_dro r = 0 → u 0 = (v_cou2 w).toInt64)) (fun u t => gO D [oc ac o u] [(ac 7, .long)] (va_A (fxW ad ac ck ++ [oc ac o ov]) sz) t) (va_A (fxW ad ac ck ++ [oc ac o ov]) sz)) 1 6 (va_A (fxW ad ac ck ++ [oc ac o ov]) sz) := by
  refine tx_ofW (cc := method_29_code) (maxL := 5) (ret := (some .int)) (hs := [(0, 10, 13, 19)]) (by decide) rfl ?_
  intro p e s m args below meth c s₁ B hml htab hv
  obtain ⟨rfl, hsz, hP, hK, hD0, hev⟩ := hv
  have hx := B.exec
  have hb := B.bytes
  have hr := B.returns
  have hts : ∀ w9 ∈ gb, w9.before [.ref (ad 0), .int r, .int w, .ref o].toArray s = true := fun w9 h => atoms_spec (ws := Cond.codeWith ⟨"JoinedTreesLaw", "count", "(LJoinedTrees;II[J)I"⟩ method_29_code 5 (some .int) [(0, 10, 13, 19)] :: gb) B.pre w9 (List.mem_cons_of_mem _ h)
  have hown : s.vm.findClass "JoinedTreesLaw" = some m.cls := findClass_of_methodNamed B.named
  have hlocks := B.notSynchronized
  subst hsz
  have hNS := ns_of hP
  have hD := hD0.self (sz := s.heap.size)
  generalize hAe : va_A (fxW ad ac ck ++ [oc ac o ov]) s.heap.size = A at hD hev hNS ⊢
  have hA : ∀ q : Nat, s.heap.size ≤ q → A q := fun q h => by rw [← hAe]; exact Or.inr h
  have hS : va_S A s.heap s.heap [] := va_S.rf
  have hl := lv_entry ([.ref (ad 0), .int r, .int w, .ref o]) (n := 5) (Nat.le_of_ble_eq_true rfl)
  rw [lg_entry_eq]
  generalize (lg_sl ([.ref (ad 0), .int r, .int w, .ref o]) ++ List.replicate (5 - (lg_sl ([.ref (ad 0), .int r, .int w, .ref o])).length) Slot.unset).toArray = ls at hl ⊢
  have hl : lv_has ls 5 [(0, .ref (ad 0)), (1, .int r), (2, .int w), (3, .ref o)] := hl
  refine lv_aload_n hx hb d_h_count_0 rfl (lv_at hl 3 rfl) ?_
  refine lv_iconst (v := 0) hx hb d_h_count_1 (by decide) ?_
  refine lv_aload_n hx hb d_h_count_2 rfl (lv_at hl 0 rfl) ?_
  refine lv_iload_n hx hb d_h_count_3 rfl (lv_at hl 1 rfl) ?_
  refine lv_iload_n hx hb d_h_count_4 rfl (lv_at hl 2 rfl) ?_
  have hPx := p_l hP
  have hDx := d_l hD
  have hFc := fr_all hDx hS hA
  rcases k_dro_c r with hq | hq
  · refine va_calli (va_runV (As := [.int r, .int w]) (rest := [.int 0, .ref o]) ⟨hx, hb, hml, hown, hts⟩ (c_count_0 l hfl D ad ac ck s.heap.size r w hq) (cw_v 2 hts kw_1368 kw_1365 kw_1366 kw_1367 kw_1 rfl rfl (by decide +kernel) ⟨Nat.le_of_ble_eq_true rfl, Nat.le_of_ble_eq_true rfl⟩) ⟨fx_blind, va_recv hK hPx (ci := 11) (q0 := 0) rfl rfl, fun U hU hW => fx_pre hU hW hPx hK hDx hev hNS hS hFc⟩ rfl rfl hl.1 rfl (lv_room (Nat.le_of_ble_eq_true rfl)) d_h_count_5 ⟨Nat.le_of_ble_eq_true rfl, Nat.le_of_ble_eq_true rfl⟩) hS (fun q _ h => hFc q h) hFc (fun rr u t H locs ht hvm hw hB hz1 hk1 hS => ?_)
    have hPo := p_keep hP hD hk1
    have hDo := d_r hD
    refine W.cs (cells' := 0) (slots' := 0) rfl rfl ?_
    refine lv_i2l hx hb d_h_count_8 rfl ?_
    refine va_last hx hb hK hPo hDo hS 0 7 rfl rfl (i := 0) (x := rr.toInt64) (vp_in_nI (n := 0) (N := 1) (by decide) (by decide)) d_h_count_9 (fun H locs hPo hDo hS => ?_)
    refine lv_goto (tgt := 17) hx hb d_h_count_10 (by decide) ?_
    refine lv_iconst (v := 0) hx hb d_h_count_17 (by decide) ?_
    refine W.widen (k := 1) (n := 6) (by decide) (by decide) ?_
    exact W.iret (v := 0) hx hb hr (fun t ht hW => ⟨⟨0, (vp_updL ov (0 : Int32).toNatClampNeg rr.toInt64), rfl, ⟨hq.symm, fun _ => (by rw [show (vp_updL ov (0 : Int32).toNatClampNeg rr.toInt64) 0 = rr.toInt64 from pk_uLs, hw] <;> try decide)⟩, by rw [ht]; exact hPo, va_K.moved hW.alike (hK.sub (tys' := [(ac 7, .long)]) [7] rfl), hDo⟩, hS.F ht⟩) hS.2.2 d_h_count_18
  · refine tx_catch (tx_runV (As := [.int r, .int w]) (rest := [.int 0, .ref o]) ⟨hx, hb, hml, hown, hts⟩ (c_count_1 l hfl D ad ac ck s.heap.size r w hq) (cw_v 2 hts kw_1368 kw_1365 kw_1366 kw_1367 kw_1 rfl rfl (by decide +kernel) ⟨Nat.le_of_ble_eq_true rfl, Nat.le_of_ble_eq_true rfl⟩) ⟨fx_blind, va_recv hK hPx (ci := 11) (q0 := 0) rfl rfl, fun U hU hW => fx_pre hU hW hPx hK hDx hev hNS hS hFc⟩ rfl rfl hl.1 rfl (lv_room (Nat.le_of_ble_eq_true rfl)) d_h_count_5 ⟨Nat.le_of_ble_eq_true rfl, Nat.le_of_ble_eq_true rfl⟩) hown hS hFc htab [] [] (0, 10, 13, 19) rfl (by decide) (by decide) (hts _ kw_553) (va_Nw.use rfl hev.2.2.2.2.2.1.1) (fun y hy => absurd hy List.not_mem_nil) (fun z H locs hz1 hk1 hS => ?_)
    have hPo := p_keep hP hD hk1
    have hDo := d_r hD
    refine W.cs (cells' := 1) (slots' := 6) rfl rfl ?_
    refine lv_astore (lv' := [(4, .ref z), (0, .ref (ad 0)), (1, .int r), (2, .int w), (3, .ref o)]) hx hb d_h_count_13 hl (by decide) rfl (fun ls hl => ?_)
    refine lv_iconst (v := 1) hx hb d_h_count_15 (by decide) ?_
    exact W.iret (v := 1) hx hb hr (fun t ht hW => ⟨⟨1, ov, rfl, ⟨hq.symm, fun h => absurd (hq.symm.trans h) (by decide)⟩, by rw [ht]; exact hPo, va_K.moved hW.alike (hK.sub (tys' := [(ac 7, .long)]) [7] rfl), hDo⟩, hS.F ht⟩) hS.2.2 d_h_count_16
theorem d_h_harm_0 : decode method_27_code 0 = .ok (.aload_n 0, 1) := by decide +kernel
theorem d_h_harm_1 : decode method_27_code 1 = .ok (.iload_n 1, 1) := by decide +kernel
theorem d_h_harm_2 : decode method_27_code 2 = .ok (.iload_n 2, 1) := by decide +kernel
theorem d_h_harm_3 : decode method_27_code 3 = .ok (.invokevirtual 99, 3) := by decide +kernel
theorem d_h_harm_9 : decode method_27_code 9 = .ok (.astore_n 3, 1) := by decide +kernel
theorem d_h_harm_10 : decode method_27_code 10 = .ok (.iconst 1, 1) := by decide +kernel
theorem d_h_harm_11 : decode method_27_code 11 = .ok (.ireturn, 1) := by decide +kernel
theorem d_h_harm_12 : decode method_27_code 12 = .ok (.astore_n 3, 1) := by decide +kernel
theorem d_h_harm_13 : decode method_27_code 13 = .ok (.iconst 2, 1) := by decide +kernel
theorem d_h_harm_14 : decode method_27_code 14 = .ok (.ireturn, 1) := by decide +kernel
set_option maxHeartbeats 4000000 in
set_option maxRecDepth 100000 in
theorem h_harm (l : Launch) (hfl : l.flags = flags0) (D : va_G) (ad : Nat → Nat) (ac : Nat → ClassId) (ck : Nat → Int32) (o : Nat) (ov : Nat → Int64) (sz : Nat) (i : Int32) (bt : Int32) : Met l ⟨"JoinedTreesLaw", "harm", "(LJoinedTrees;II)I"⟩ (Cond.codeWith ⟨"JoinedTreesLaw", "harm", "(LJoinedTrees;II)I"⟩ method_27_code 4 (some .int) [(0, 6, 9, 19), (0, 6, 12, 27)] :: gb) ({ frames := 7, cells := 1, slots := 6, locals := 118 }) (hPc D ad ac ck o ov sz [.ref (ad 0), .int i, .int bt]) (va_Qi (fun (rz : Int32) (u : Nat → Int64) => rz = k_har bt ∧ (k_har bt = 0 → True)) (fun u t => gO D [oc ac o u] [(ac 7, .long)] (va_A (fxW ad ac ck ++ [oc ac o ov]) sz) t) (va_A (fxW ad ac ck ++ [oc ac o ov]) sz)) 1 6 (va_A (fxW ad ac ck ++ [oc ac o ov]) sz) := by
  refine tx_ofW (cc := method_27_code) (maxL := 4) (ret := (some .int)) (hs := [(0, 6, 9, 19), (0, 6, 12, 27)]) (by decide) rfl ?_
  intro p e s m args below meth c s₁ B hml htab hv
  obtain ⟨rfl, hsz, hP, hK, hD0, hev⟩ := hv
  have hx := B.exec
  have hb := B.bytes
  have hr := B.returns
  have hts : ∀ w9 ∈ gb, w9.before [.ref (ad 0), .int i, .int bt].toArray s = true := fun w9 h => atoms_spec (ws := Cond.codeWith ⟨"JoinedTreesLaw", "harm", "(LJoinedTrees;II)I"⟩ method_27_code 4 (some .int) [(0, 6, 9, 19), (0, 6, 12, 27)] :: gb) B.pre w9 (List.mem_cons_of_mem _ h)
  have hown : s.vm.findClass "JoinedTreesLaw" = some m.cls := findClass_of_methodNamed B.named
  have hlocks := B.notSynchronized
  subst hsz
  have hNS := ns_of hP
  have hD := hD0.self (sz := s.heap.size)
  generalize hAe : va_A (fxW ad ac ck ++ [oc ac o ov]) s.heap.size = A at hD hev hNS ⊢
  have hA : ∀ q : Nat, s.heap.size ≤ q → A q := fun q h => by rw [← hAe]; exact Or.inr h
  have hS : va_S A s.heap s.heap [] := va_S.rf
  have hl := lv_entry ([.ref (ad 0), .int i, .int bt]) (n := 4) (Nat.le_of_ble_eq_true rfl)
  rw [lg_entry_eq]
  generalize (lg_sl ([.ref (ad 0), .int i, .int bt]) ++ List.replicate (4 - (lg_sl ([.ref (ad 0), .int i, .int bt])).length) Slot.unset).toArray = ls at hl ⊢
  have hl : lv_has ls 4 [(0, .ref (ad 0)), (1, .int i), (2, .int bt)] := hl
  refine lv_aload_n hx hb d_h_harm_0 rfl (lv_at hl 0 rfl) ?_
  refine lv_iload_n hx hb d_h_harm_1 rfl (lv_at hl 1 rfl) ?_
  refine lv_iload_n hx hb d_h_harm_2 rfl (lv_at hl 2 rfl) ?_
  have hPx := p_l hP
  have hDx := d_l hD
  have hFc := fr_all hDx hS hA
  rcases k_har_c bt with hq | hq
  · refine tx_catch (tx_runV (As := [.int i, .int bt]) (rest := []) ⟨hx, hb, hml, hown, hts⟩ (c_harm_1 l hfl D ad ac ck s.heap.size i bt hq) (cw_v 2 hts kw_1353 kw_1350 kw_1351 kw_1352 kw_1 rfl rfl (by decide +kernel) ⟨Nat.le_of_ble_eq_true rfl, Nat.le_of_ble_eq_true rfl⟩) ⟨fx_blind, va_recv hK hPx (ci := 11) (q0 := 0) rfl rfl, fun U hU hW => fx_pre hU hW hPx hK hDx hev hNS hS hFc⟩ rfl rfl hl.1 rfl (lv_room (Nat.le_of_ble_eq_true rfl)) d_h_harm_3 ⟨Nat.le_of_ble_eq_true rfl, Nat.le_of_ble_eq_true rfl⟩) hown hS hFc htab [] [(0, 6, 12, 27)] (0, 6, 9, 19) rfl (by decide) (by decide) (hts _ kw_553) (va_Nw.use rfl hev.2.2.2.2.2.1.1) (fun y hy => absurd hy List.not_mem_nil) (fun z H locs hz1 hk1 hS => ?_)
    have hPo := p_keep hP hD hk1
    have hDo := d_r hD
    refine W.cs (cells' := 1) (slots' := 6) rfl rfl ?_
    refine lv_astore_n (lv' := [(3, .ref z), (0, .ref (ad 0)), (1, .int i), (2, .int bt)]) hx hb d_h_harm_9 rfl hl (by decide) rfl (fun ls hl => ?_)
    refine lv_iconst (v := 1) hx hb d_h_harm_10 (by decide) ?_
    exact W.iret (v := 1) hx hb hr (fun t ht hW => ⟨⟨1, ov, rfl, ⟨hq.symm, fun h => absurd (hq.symm.trans h) (by decide)⟩, by rw [ht]; exact hPo, va_K.moved hW.alike (hK.sub (tys' := [(ac 7, .long)]) [7] rfl), hDo⟩, hS.F ht⟩) hS.2.2 d_h_harm_11
  · refine tx_catch (tx_runV (As := [.int i, .int bt]) (rest := []) ⟨hx, hb, hml, hown, hts⟩ (c_harm_2 l hfl D ad ac ck s.heap.size i bt hq) (cw_v 2 hts kw_1353 kw_1350 kw_1351 kw_1352 kw_1 rfl rfl (by decide +kernel) ⟨Nat.le_of_ble_eq_true rfl, Nat.le_of_ble_eq_true rfl⟩) ⟨fx_blind, va_recv hK hPx (ci := 11) (q0 := 0) rfl rfl, fun U hU hW => fx_pre hU hW hPx hK hDx hev hNS hS hFc⟩ rfl rfl hl.1 rfl (lv_room (Nat.le_of_ble_eq_true rfl)) d_h_harm_3 ⟨Nat.le_of_ble_eq_true rfl, Nat.le_of_ble_eq_true rfl⟩) hown hS hFc htab [(0, 6, 9, 19)] [] (0, 6, 12, 27) rfl (by decide) (by decide) (hts _ kw_581) (va_Nw.use rfl hev.2.2.2.2.2.1.2.2.1) (List.forall_mem_cons.mpr ⟨⟨by decide, by decide, "java/lang/IllegalArgumentException", hts _ kw_553, hev.2.2.2.2.2.2.2.1.1⟩, fun y hy => absurd hy List.not_mem_nil⟩) (fun z H locs hz1 hk1 hS => ?_)
    have hPo := p_keep hP hD hk1
    have hDo := d_r hD
    refine W.cs (cells' := 1) (slots' := 6) rfl rfl ?_
    refine lv_astore_n (lv' := [(3, .ref z), (0, .ref (ad 0)), (1, .int i), (2, .int bt)]) hx hb d_h_harm_12 rfl hl (by decide) rfl (fun ls hl => ?_)
    refine lv_iconst (v := 2) hx hb d_h_harm_13 (by decide) ?_
    exact W.iret (v := 2) hx hb hr (fun t ht hW => ⟨⟨2, ov, rfl, ⟨hq.symm, fun h => absurd (hq.symm.trans h) (by decide)⟩, by rw [ht]; exact hPo, va_K.moved hW.alike (hK.sub (tys' := [(ac 7, .long)]) [7] rfl), hDo⟩, hS.F ht⟩) hS.2.2 d_h_harm_14
theorem d_h_out_0 : decode method_28_code 0 = .ok (.aload_n 2, 1) := by decide +kernel
theorem d_h_out_1 : decode method_28_code 1 = .ok (.iconst 0, 1) := by decide +kernel
theorem d_h_out_2 : decode method_28_code 2 = .ok (.aload_n 0, 1) := by decide +kernel
theorem d_h_out_3 : decode method_28_code 3 = .ok (.iload_n 1, 1) := by decide +kernel
theorem d_h_out_4 : decode method_28_code 4 = .ok (.invokevirtual 103, 3) := by decide +kernel
theorem d_h_out_7 : decode method_28_code 7 = .ok (.lastore, 1) := by decide +kernel
theorem d_h_out_8 : decode method_28_code 8 = .ok (.goto 6, 3) := by decide +kernel
theorem d_h_out_14 : decode method_28_code 14 = .ok (.iconst 0, 1) := by decide +kernel
theorem d_h_out_15 : decode method_28_code 15 = .ok (.ireturn, 1) := by decide +kernel
theorem d_h_out_11 : decode method_28_code 11 = .ok (.astore_n 3, 1) := by decide +kernel
theorem d_h_out_12 : decode method_28_code 12 = .ok (.iconst 1, 1) := by decide +kernel
theorem d_h_out_13 : decode method_28_code 13 = .ok (.ireturn, 1) := by decide +kernel
set_option maxHeartbeats 4000000 in
set_option maxRecDepth 100000 in
theorem h_out (l : Launch) (hfl : l.flags = flags0) (D : va_G) (ad : Nat → Nat) (ac : Nat → ClassId) (ck : Nat → Int32) (o : Nat) (ov : Nat → Int64) (sz : Nat) (i : Int32) : Met l ⟨"JoinedTreesLaw", "out", "(LJoinedTrees;I[J)I"⟩ (Cond.codeWith ⟨"JoinedTreesLaw", "out", "(LJoinedTrees;I[J)I"⟩ method_28_code 4 (some .int) [(0, 8, 11, 19)] :: gb) ({ frames := 7, cells := 1, slots := 6, locals := 120 }) (hPc D ad ac ck o ov sz [.ref (ad 0), .int i, .ref o]) (va_Qi (fun (rz : Int32) (u : Nat → Int64) => rz = k_out i ∧ (k_out i = 0 → u 0 = 0)) (fun u t => gO D [oc ac o u] [(ac 7, .long)] (va_A (fxW ad ac ck ++ [oc ac o ov]) sz) t) (va_A (fxW ad ac ck ++ [oc ac o ov]) sz)) 1 6 (va_A (fxW ad ac ck ++ [oc ac o ov]) sz) := by
  refine tx_ofW (cc := method_28_code) (maxL := 4) (ret := (some .int)) (hs := [(0, 8, 11, 19)]) (by decide) rfl ?_
  intro p e s m args below meth c s₁ B hml htab hv
  obtain ⟨rfl, hsz, hP, hK, hD0, hev⟩ := hv
  have hx := B.exec
  have hb := B.bytes
  have hr := B.returns
  have hts : ∀ w9 ∈ gb, w9.before [.ref (ad 0), .int i, .ref o].toArray s = true := fun w9 h => atoms_spec (ws := Cond.codeWith ⟨"JoinedTreesLaw", "out", "(LJoinedTrees;I[J)I"⟩ method_28_code 4 (some .int) [(0, 8, 11, 19)] :: gb) B.pre w9 (List.mem_cons_of_mem _ h)
  have hown : s.vm.findClass "JoinedTreesLaw" = some m.cls := findClass_of_methodNamed B.named
  have hlocks := B.notSynchronized
  subst hsz
  have hNS := ns_of hP
  have hD := hD0.self (sz := s.heap.size)
  generalize hAe : va_A (fxW ad ac ck ++ [oc ac o ov]) s.heap.size = A at hD hev hNS ⊢
  have hA : ∀ q : Nat, s.heap.size ≤ q → A q := fun q h => by rw [← hAe]; exact Or.inr h
  have hS : va_S A s.heap s.heap [] := va_S.rf
  have hl := lv_entry ([.ref (ad 0), .int i, .ref o]) (n := 4) (Nat.le_of_ble_eq_true rfl)
  rw [lg_entry_eq]
  generalize (lg_sl ([.ref (ad 0), .int i, .ref o]) ++ List.replicate (4 - (lg_sl ([.ref (ad 0), .int i, .ref o])).length) Slot.unset).toArray = ls at hl ⊢
  have hl : lv_has ls 4 [(0, .ref (ad 0)), (1, .int i), (2, .ref o)] := hl
  refine lv_aload_n hx hb d_h_out_0 rfl (lv_at hl 2 rfl) ?_
  refine lv_iconst (v := 0) hx hb d_h_out_1 (by decide) ?_
  refine lv_aload_n hx hb d_h_out_2 rfl (lv_at hl 0 rfl) ?_
  refine lv_iload_n hx hb d_h_out_3 rfl (lv_at hl 1 rfl) ?_
  have hPx := p_l hP
  have hDx := d_l hD
  have hFc := fr_all hDx hS hA
  rcases k_out_c i with hq | hq
  · refine va_calll (va_runV (As := [.int i]) (rest := [.int 0, .ref o]) ⟨hx, hb, hml, hown, hts⟩ (c_out_0 l hfl D ad ac ck s.heap.size i hq) (cw_v 1 hts kw_1360 kw_1357 kw_1358 kw_1359 kw_1 rfl rfl (by decide +kernel) ⟨Nat.le_of_ble_eq_true rfl, Nat.le_of_ble_eq_true rfl⟩) ⟨fx_blind, va_recv hK hPx (ci := 11) (q0 := 0) rfl rfl, fun U hU hW => fx_pre hU hW hPx hK hDx hev hNS hS hFc⟩ rfl rfl hl.1 rfl (lv_room (Nat.le_of_ble_eq_true rfl)) d_h_out_4 ⟨Nat.le_of_ble_eq_true rfl, Nat.le_of_ble_eq_true rfl⟩) hS (fun q _ h => hFc q h) hFc (fun rr u t H locs ht hvm hw hB hz1 hk1 hS => ?_)
    have hPo := p_keep hP hD hk1
    have hDo := d_r hD
    refine W.cs (cells' := 0) (slots' := 0) rfl rfl ?_
    refine va_last hx hb hK hPo hDo hS 0 7 rfl rfl (i := 0) (x := rr) (vp_in_nI (n := 0) (N := 1) (by decide) (by decide)) d_h_out_7 (fun H locs hPo hDo hS => ?_)
    refine lv_goto (tgt := 14) hx hb d_h_out_8 (by decide) ?_
    refine lv_iconst (v := 0) hx hb d_h_out_14 (by decide) ?_
    refine W.widen (k := 1) (n := 6) (by decide) (by decide) ?_
    exact W.iret (v := 0) hx hb hr (fun t ht hW => ⟨⟨0, (vp_updL ov (0 : Int32).toNatClampNeg rr), rfl, ⟨hq.symm, fun _ => (by rw [show (vp_updL ov (0 : Int32).toNatClampNeg rr) 0 = rr from pk_uLs, hw] <;> try decide)⟩, by rw [ht]; exact hPo, va_K.moved hW.alike (hK.sub (tys' := [(ac 7, .long)]) [7] rfl), hDo⟩, hS.F ht⟩) hS.2.2 d_h_out_15
  · refine tx_catch (tx_runV (As := [.int i]) (rest := [.int 0, .ref o]) ⟨hx, hb, hml, hown, hts⟩ (c_out_1 l hfl D ad ac ck s.heap.size i hq) (cw_v 1 hts kw_1360 kw_1357 kw_1358 kw_1359 kw_1 rfl rfl (by decide +kernel) ⟨Nat.le_of_ble_eq_true rfl, Nat.le_of_ble_eq_true rfl⟩) ⟨fx_blind, va_recv hK hPx (ci := 11) (q0 := 0) rfl rfl, fun U hU hW => fx_pre hU hW hPx hK hDx hev hNS hS hFc⟩ rfl rfl hl.1 rfl (lv_room (Nat.le_of_ble_eq_true rfl)) d_h_out_4 ⟨Nat.le_of_ble_eq_true rfl, Nat.le_of_ble_eq_true rfl⟩) hown hS hFc htab [] [] (0, 8, 11, 19) rfl (by decide) (by decide) (hts _ kw_553) (va_Nw.use rfl hev.2.2.2.2.2.1.1) (fun y hy => absurd hy List.not_mem_nil) (fun z H locs hz1 hk1 hS => ?_)
    have hPo := p_keep hP hD hk1
    have hDo := d_r hD
    refine W.cs (cells' := 1) (slots' := 6) rfl rfl ?_
    refine lv_astore_n (lv' := [(3, .ref z), (0, .ref (ad 0)), (1, .int i), (2, .ref o)]) hx hb d_h_out_11 rfl hl (by decide) rfl (fun ls hl => ?_)
    refine lv_iconst (v := 1) hx hb d_h_out_12 (by decide) ?_
    exact W.iret (v := 1) hx hb hr (fun t ht hW => ⟨⟨1, ov, rfl, ⟨hq.symm, fun h => absurd (hq.symm.trans h) (by decide)⟩, by rw [ht]; exact hPo, va_K.moved hW.alike (hK.sub (tys' := [(ac 7, .long)]) [7] rfl), hDo⟩, hS.F ht⟩) hS.2.2 d_h_out_13
