theorem d_send_59 : decode prog_1_method_13_code 59 = .ok (.new 178, 3) := by decide +kernel
theorem d_send_62 : decode prog_1_method_13_code 62 = .ok (.dup, 1) := by decide +kernel
theorem d_send_63 : decode prog_1_method_13_code 63 = .ok (.invokespecial 180, 3) := by decide +kernel
theorem d_send_66 : decode prog_1_method_13_code 66 = .ok (.athrow, 1) := by decide +kernel
set_option maxHeartbeats 4000000 in
set_option maxRecDepth 100000 in
theorem c_send_3 (l : Launch) (hfl : l.flags = flags0) (D : va_G) (ad : Nat → Nat) (ac : Nat → ClassId) (ck : Nat → Int32) (sz : Nat) (f tt a n : Int32) (hq : k_sen f tt a = 3) : MeT l ⟨"JoinedTrees", "send", "(IIII)I"⟩ (Cond.code ⟨"JoinedTrees", "send", "(IIII)I"⟩ prog_1_method_13_code 8 (some .int) :: gb) ({ frames := 6, cells := 1, slots := 6, locals := 103 }) (fxPc D ad ac ck sz [.ref (ad 0), .int f, .int tt, .int a, .int n]) e_NE (va_A (fxW ad ac ck) sz) 1 6 := by
  refine MeT.ofW (cc := prog_1_method_13_code) (maxL := 8) (ret := (some .int)) (by decide) rfl ?_
  intro p e s m args below meth c s₁ B hml hno hv
  obtain ⟨rfl, hsz, hP, hK, hD0, hev⟩ := hv
  have hx := B.exec
  have hb := B.bytes
  have hr := B.returns
  have hts : ∀ w9 ∈ gb, w9.before [.ref (ad 0), .int f, .int tt, .int a, .int n].toArray s = true := fun w9 h => atoms_spec (ws := Cond.code ⟨"JoinedTrees", "send", "(IIII)I"⟩ prog_1_method_13_code 8 (some .int) :: gb) B.pre w9 (List.mem_cons_of_mem _ h)
  have hown : s.vm.findClass "JoinedTrees" = some m.cls := findClass_of_methodNamed B.named
  have hlocks := B.notSynchronized
  subst hsz
  have hNS := ns_of hP
  have hD := hD0.self (sz := s.heap.size)
  generalize hAe : va_A (fxW ad ac ck) s.heap.size = A at hD hev hNS ⊢
  have hA : ∀ q : Nat, s.heap.size ≤ q → A q := fun q h => by rw [← hAe]; exact Or.inr h
  have hS : va_S A s.heap s.heap [] := va_S.rf
  have hP : va_P D cls (fxW ad ac ck) s.heap := hP
  have hl := lv_entry ([.ref (ad 0), .int f, .int tt, .int a, .int n]) (n := 8) (Nat.le_of_ble_eq_true rfl)
  rw [lg_entry_eq]
  generalize (lg_sl ([.ref (ad 0), .int f, .int tt, .int a, .int n]) ++ List.replicate (8 - (lg_sl ([.ref (ad 0), .int f, .int tt, .int a, .int n])).length) Slot.unset).toArray = ls at hl ⊢
  have hl : lv_has ls 8 [(0, .ref (ad 0)), (1, .int f), (2, .int tt), (3, .int a), (4, .int n)] := hl
  refine lv_aload_n hx hb d_send_0 rfl (lv_at hl 0 rfl) ?_
  refine lv_iload_n hx hb d_send_1 rfl (lv_at hl 1 rfl) ?_
  by_cases c_2 : f < 0
  · first | exact absurd hq (by simp [k_sen, c_2]) | (exfalso; simp_all [k_sen])
  · by_cases c_3 : f < 8
    · obtain ⟨j_1, hj_1, rfl⟩ := of8 c_2 c_3
      have hFc := fr_all hD hS hA
      refine va_callq (va_runV (As := [.int (nI j_1)]) (rest := []) ⟨hx, hb, hml, hown, hts⟩ (c_shown l hfl D ad ac ck s.heap.size j_1 hj_1) (cw_v 1 hts kw_593 kw_590 kw_592 kp_3 kw_1 rfl rfl (by decide +kernel) ⟨Nat.le_of_ble_eq_true rfl, Nat.le_of_ble_eq_true rfl⟩) ⟨fx_blind, va_recv hK hP (ci := 11) (q0 := 0) rfl rfl, fun U hU hW => fx_pre hU hW hP hK hD hev hNS hS hFc⟩ rfl rfl hl.1 rfl (lv_room (Nat.le_of_ble_eq_true rfl)) d_send_2 ⟨Nat.le_of_ble_eq_true rfl, Nat.le_of_ble_eq_true rfl⟩) hS (fun q _ h => hFc q h) hFc (fun r_4 u_5 t H1 locs ht hvm hw hB hz1 hk1 hS => ?_)
      obtain ⟨hP, -, hD1⟩ := hB
      rw [ht] at hP
      have hD := hD1.weaken (fun _ q _ h => hFc q.1 h)
      generalize H1 = H at hP hS ⊢
      refine W.cs (cells' := 0) (slots' := 0) rfl rfl ?_
      subst hw
      refine w_v (y := .ref (ad (18 + j_1))) rfl ?_
      refine lv_astore (lv' := [(5, .ref (ad (18 + j_1))), (0, .ref (ad 0)), (1, .int (nI j_1)), (2, .int tt), (3, .int a), (4, .int n)]) hx hb d_send_5 hl (by decide) rfl (fun ls hl => ?_)
      refine lv_aload_n hx hb d_send_7 rfl (lv_at hl 1 rfl) ?_
      refine lv_iload_n hx hb d_send_8 rfl (lv_at hl 3 rfl) ?_
      by_cases c_7 : tt < 0
      · first | exact absurd hq (by simp [k_sen, c_2, c_3, c_7]) | (exfalso; simp_all [k_sen])
      · by_cases c_8 : tt < 8
        · obtain ⟨j_6, hj_6, rfl⟩ := of8 c_7 c_8
          have hFc := fr_all hD hS hA
          refine va_callq (va_runV (As := [.int (nI j_6)]) (rest := []) ⟨hx, hb, hml, hown, hts⟩ (c_shown l hfl D ad ac u_5 H.size j_6 hj_6) (cw_v 1 hts kw_593 kw_590 kw_592 kp_3 kw_1 rfl rfl (by decide +kernel) ⟨Nat.le_of_ble_eq_true rfl, Nat.le_of_ble_eq_true rfl⟩) ⟨fx_blind, va_recv hK hP (ci := 11) (q0 := 0) rfl rfl, fun U hU hW => fx_pre hU hW hP hK hD hev hNS hS hFc⟩ rfl rfl hl.1 rfl (lv_room (Nat.le_of_ble_eq_true rfl)) d_send_9 ⟨Nat.le_of_ble_eq_true rfl, Nat.le_of_ble_eq_true rfl⟩) hS (fun q _ h => hFc q h) hFc (fun r_9 u_10 t H1 locs ht hvm hw hB hz1 hk1 hS => ?_)
          obtain ⟨hP, -, hD1⟩ := hB
          rw [ht] at hP
          have hD := hD1.weaken (fun _ q _ h => hFc q.1 h)
          generalize H1 = H at hP hS ⊢
          refine W.cs (cells' := 0) (slots' := 0) rfl rfl ?_
          subst hw
          refine w_v (y := .ref (ad (18 + j_6))) rfl ?_
          refine lv_astore (lv' := [(6, .ref (ad (18 + j_6))), (5, .ref (ad (18 + j_1))), (0, .ref (ad 0)), (1, .int (nI j_1)), (2, .int (nI j_6)), (3, .int a), (4, .int n)]) hx hb d_send_12 hl (by decide) rfl (fun ls hl => ?_)
          refine lv_iload_n hx hb d_send_14 rfl (lv_at hl 5 rfl) ?_
          refine lv_if_lt (tgt := 24) hx hb d_send_15 (by decide) (fun c_11 => ?_) (fun c_11 => ?_)
          · first | exact absurd hq (by simp [k_sen, c_2, c_3, c_7, c_8, c_11]) | (exfalso; simp_all [k_sen])
          · refine lv_iload_n hx hb d_send_18 rfl (lv_at hl 5 rfl) ?_
            refine lv_bipush (v := 8) hx hb d_send_19 (by decide) ?_
            refine lv_icmp_lt (tgt := 32) hx hb d_send_21 (by decide) (fun c_12 => ?_) (fun c_12 => ?_)
            · refine lv_aload_n hx hb d_send_32 rfl (lv_at hl 2 rfl) ?_
              refine va_get (D := D) (ci := 11) (v := .ref (ad 1)) (C := R_JT) (T := F_JT) (N := 13) hx hb hts i_JT hown hK hP 0 rfl rfl 0 (by decide) (hts _ kw_421) (fun _ h9 => h9) rfl d_send_33 ?_
              refine lv_iload_n hx hb d_send_36 rfl (lv_at hl 5 rfl) ?_
              refine lv_iload hx hb d_send_37 (lv_at hl 6 rfl) ?_
              have hFc := fr_all hD hS hA
              refine va_callq (va_runV (As := [.int a, .int n]) (rest := []) ⟨hx, hb, hml, hown, hts⟩ (c_chAt l hfl D ad ac u_10 H.size a n) (cw_v 2 hts kw_1079 kw_1076 kw_1077 kw_1078 kw_2 rfl rfl (by decide +kernel) ⟨Nat.le_of_ble_eq_true rfl, Nat.le_of_ble_eq_true rfl⟩) ⟨fx_blind, va_recv hK hP (ci := 8) (q0 := 1) rfl rfl, fun U hU hW => fx_pre hU hW hP hK hD hev hNS hS hFc⟩ rfl rfl hl.1 rfl (lv_room (Nat.le_of_ble_eq_true rfl)) d_send_39 ⟨Nat.le_of_ble_eq_true rfl, Nat.le_of_ble_eq_true rfl⟩) hS (fun q _ h => hFc q h) hFc (fun r_13 u_14 t H1 locs ht hvm hw hB hz1 hk1 hS => ?_)
              obtain ⟨hP, -, hD1⟩ := hB
              rw [ht] at hP
              have hD := hD1.weaken (fun _ q _ h => hFc q.1 h)
              generalize H1 = H at hP hS ⊢
              refine W.cs (cells' := 0) (slots' := 0) rfl rfl ?_
              subst hw
              refine w_v (y := .null) rfl ?_
              refine lv_astoreN (lv' := [(7, .null), (6, .ref (ad (18 + j_6))), (5, .ref (ad (18 + j_1))), (0, .ref (ad 0)), (1, .int (nI j_1)), (2, .int (nI j_6)), (3, .int a), (4, .int n)]) hx hb d_send_42 hl (by decide) rfl (fun ls hl => ?_)
              refine lv_aloadN hx hb d_send_44 (lv_at hl 0 rfl) ?_
              refine lv_ifnullN (tgt := 59) hx hb d_send_46 (by decide) ?_
              exact tx_throw (own := "JoinedTrees") (E := e_NE) (names := at_n) (ia := 178) (ic := 180) hfl hx hb hno hlocks hown (by decide +kernel) (by decide +kernel) (hev.atoms hts hev.2.2.2.2.2.1.2.2.1 at_NE) (hts _ kw_629) (hts _ kw_18) d_send_59 d_send_62 d_send_63 d_send_66 (hl.1.trans hml.symm) hS hA hNS (Nat.le_of_ble_eq_true rfl) (Nat.le_of_ble_eq_true rfl) (Nat.le_of_ble_eq_true rfl) (Nat.le_of_ble_eq_true rfl)
            · first | exact absurd hq (by simp [k_sen, c_2, c_3, c_7, c_8, c_11, c_12]) | (exfalso; simp_all [k_sen])
        · first | exact absurd hq (by simp [k_sen, c_2, c_3, c_7, c_8]) | (exfalso; simp_all [k_sen])
    · first | exact absurd hq (by simp [k_sen, c_2, c_3]) | (exfalso; simp_all [k_sen])
theorem d_join_0 : decode prog_1_method_14_code 0 = .ok (.aload_n 0, 1) := by decide +kernel
theorem d_join_1 : decode prog_1_method_14_code 1 = .ok (.iload_n 1, 1) := by decide +kernel
theorem d_join_2 : decode prog_1_method_14_code 2 = .ok (.invokevirtual 105, 3) := by decide +kernel
theorem d_join_5 : decode prog_1_method_14_code 5 = .ok (.astore_n 3, 1) := by decide +kernel
theorem d_join_6 : decode prog_1_method_14_code 6 = .ok (.aload_n 0, 1) := by decide +kernel
theorem d_join_7 : decode prog_1_method_14_code 7 = .ok (.iload_n 2, 1) := by decide +kernel
theorem d_join_8 : decode prog_1_method_14_code 8 = .ok (.invokevirtual 105, 3) := by decide +kernel
theorem d_join_11 : decode prog_1_method_14_code 11 = .ok (.astore 4, 2) := by decide +kernel
theorem d_join_13 : decode prog_1_method_14_code 13 = .ok (.aload_n 0, 1) := by decide +kernel
theorem d_join_14 : decode prog_1_method_14_code 14 = .ok (.aload 4, 2) := by decide +kernel
theorem d_join_16 : decode prog_1_method_14_code 16 = .ok (.invokevirtual 253, 3) := by decide +kernel
theorem d_join_19 : decode prog_1_method_14_code 19 = .ok (.iconst 0, 1) := by decide +kernel
theorem d_join_20 : decode prog_1_method_14_code 20 = .ok (.istore 5, 2) := by decide +kernel
theorem d_join_22 : decode prog_1_method_14_code 22 = .ok (.iload 5, 2) := by decide +kernel
theorem d_join_24 : decode prog_1_method_14_code 24 = .ok (.aload_n 0, 1) := by decide +kernel
theorem d_join_25 : decode prog_1_method_14_code 25 = .ok (.getfield 12, 3) := by decide +kernel
theorem d_join_28 : decode prog_1_method_14_code 28 = .ok (.getfield 226, 3) := by decide +kernel
theorem d_join_31 : decode prog_1_method_14_code 31 = .ok (.if_icmp .ge 47, 3) := by decide +kernel
theorem d_join_78 : decode prog_1_method_14_code 78 = .ok (.aload_n 0, 1) := by decide +kernel
theorem d_join_79 : decode prog_1_method_14_code 79 = .ok (.getfield 12, 3) := by decide +kernel
theorem d_join_82 : decode prog_1_method_14_code 82 = .ok (.aload 4, 2) := by decide +kernel
theorem d_join_84 : decode prog_1_method_14_code 84 = .ok (.invokevirtual 260, 3) := by decide +kernel
set_option maxHeartbeats 4000000 in
set_option maxRecDepth 100000 in
theorem c_join_1 (l : Launch) (hfl : l.flags = flags0) (D : va_G) (ad : Nat → Nat) (ac : Nat → ClassId) (ck : Nat → Int32) (sz : Nat) (f tt : Int32) (hq : k_joi f tt = 1) : MeT l ⟨"JoinedTrees", "join", "(II)I"⟩ (Cond.code ⟨"JoinedTrees", "join", "(II)I"⟩ prog_1_method_14_code 7 (some .int) :: gb) ({ frames := 7, cells := 1, slots := 6, locals := 117 }) (fxPc D ad ac ck sz [.ref (ad 0), .int f, .int tt]) e_IA (va_A (fxW ad ac ck) sz) 1 6 := by
  refine MeT.ofW (cc := prog_1_method_14_code) (maxL := 7) (ret := (some .int)) (by decide) rfl ?_
  intro p e s m args below meth c s₁ B hml hno hv
  obtain ⟨rfl, hsz, hP, hK, hD0, hev⟩ := hv
  have hx := B.exec
  have hb := B.bytes
  have hr := B.returns
  have hts : ∀ w9 ∈ gb, w9.before [.ref (ad 0), .int f, .int tt].toArray s = true := fun w9 h => atoms_spec (ws := Cond.code ⟨"JoinedTrees", "join", "(II)I"⟩ prog_1_method_14_code 7 (some .int) :: gb) B.pre w9 (List.mem_cons_of_mem _ h)
  have hown : s.vm.findClass "JoinedTrees" = some m.cls := findClass_of_methodNamed B.named
  have hlocks := B.notSynchronized
  subst hsz
  have hNS := ns_of hP
  have hD := hD0.self (sz := s.heap.size)
  generalize hAe : va_A (fxW ad ac ck) s.heap.size = A at hD hev hNS ⊢
  have hA : ∀ q : Nat, s.heap.size ≤ q → A q := fun q h => by rw [← hAe]; exact Or.inr h
  have hS : va_S A s.heap s.heap [] := va_S.rf
  have hP : va_P D cls (fxW ad ac ck) s.heap := hP
  have hl := lv_entry ([.ref (ad 0), .int f, .int tt]) (n := 7) (Nat.le_of_ble_eq_true rfl)
  rw [lg_entry_eq]
  generalize (lg_sl ([.ref (ad 0), .int f, .int tt]) ++ List.replicate (7 - (lg_sl ([.ref (ad 0), .int f, .int tt])).length) Slot.unset).toArray = ls at hl ⊢
  have hl : lv_has ls 7 [(0, .ref (ad 0)), (1, .int f), (2, .int tt)] := hl
  refine lv_aload_n hx hb d_join_0 rfl (lv_at hl 0 rfl) ?_
  refine lv_iload_n hx hb d_join_1 rfl (lv_at hl 1 rfl) ?_
  by_cases c_2 : f < 0
  · have hFc := fr_all hD hS hA
    exact tx_on (tx_runV (As := [.int f]) (rest := []) ⟨hx, hb, hml, hown, hts⟩ (c_shown_T l hfl D ad ac ck s.heap.size f (Or.inl c_2)) (cw_v 1 hts kw_593 kw_590 kw_592 kp_3 kw_1 rfl rfl (by decide +kernel) ⟨Nat.le_of_ble_eq_true rfl, Nat.le_of_ble_eq_true rfl⟩) ⟨fx_blind, va_recv hK hP (ci := 11) (q0 := 0) rfl rfl, fun U hU hW => fx_pre hU hW hP hK hD hev hNS hS hFc⟩ rfl rfl hl.1 rfl (lv_room (Nat.le_of_ble_eq_true rfl)) d_join_2 ⟨Nat.le_of_ble_eq_true rfl, Nat.le_of_ble_eq_true rfl⟩) hno hlocks hS hFc
  · by_cases c_3 : f < 8
    · obtain ⟨j_1, hj_1, rfl⟩ := of8 c_2 c_3
      have hFc := fr_all hD hS hA
      refine va_callq (va_runV (As := [.int (nI j_1)]) (rest := []) ⟨hx, hb, hml, hown, hts⟩ (c_shown l hfl D ad ac ck s.heap.size j_1 hj_1) (cw_v 1 hts kw_593 kw_590 kw_592 kp_3 kw_1 rfl rfl (by decide +kernel) ⟨Nat.le_of_ble_eq_true rfl, Nat.le_of_ble_eq_true rfl⟩) ⟨fx_blind, va_recv hK hP (ci := 11) (q0 := 0) rfl rfl, fun U hU hW => fx_pre hU hW hP hK hD hev hNS hS hFc⟩ rfl rfl hl.1 rfl (lv_room (Nat.le_of_ble_eq_true rfl)) d_join_2 ⟨Nat.le_of_ble_eq_true rfl, Nat.le_of_ble_eq_true rfl⟩) hS (fun q _ h => hFc q h) hFc (fun r_4 u_5 t H1 locs ht hvm hw hB hz1 hk1 hS => ?_)
      obtain ⟨hP, -, hD1⟩ := hB
      rw [ht] at hP
      have hD := hD1.weaken (fun _ q _ h => hFc q.1 h)
      generalize H1 = H at hP hS ⊢
      refine W.cs (cells' := 0) (slots' := 0) rfl rfl ?_
      subst hw
      refine w_v (y := .ref (ad (18 + j_1))) rfl ?_
      refine lv_astore_n (lv' := [(3, .ref (ad (18 + j_1))), (0, .ref (ad 0)), (1, .int (nI j_1)), (2, .int tt)]) hx hb d_join_5 rfl hl (by decide) rfl (fun ls hl => ?_)
      refine lv_aload_n hx hb d_join_6 rfl (lv_at hl 1 rfl) ?_
      refine lv_iload_n hx hb d_join_7 rfl (lv_at hl 3 rfl) ?_
      by_cases c_7 : tt < 0
      · have hFc := fr_all hD hS hA
        exact tx_on (tx_runV (As := [.int tt]) (rest := []) ⟨hx, hb, hml, hown, hts⟩ (c_shown_T l hfl D ad ac u_5 H.size tt (Or.inl c_7)) (cw_v 1 hts kw_593 kw_590 kw_592 kp_3 kw_1 rfl rfl (by decide +kernel) ⟨Nat.le_of_ble_eq_true rfl, Nat.le_of_ble_eq_true rfl⟩) ⟨fx_blind, va_recv hK hP (ci := 11) (q0 := 0) rfl rfl, fun U hU hW => fx_pre hU hW hP hK hD hev hNS hS hFc⟩ rfl rfl hl.1 rfl (lv_room (Nat.le_of_ble_eq_true rfl)) d_join_8 ⟨Nat.le_of_ble_eq_true rfl, Nat.le_of_ble_eq_true rfl⟩) hno hlocks hS hFc
      · by_cases c_8 : tt < 8
        · obtain ⟨j_6, hj_6, rfl⟩ := of8 c_7 c_8
          have hFc := fr_all hD hS hA
          refine va_callq (va_runV (As := [.int (nI j_6)]) (rest := []) ⟨hx, hb, hml, hown, hts⟩ (c_shown l hfl D ad ac u_5 H.size j_6 hj_6) (cw_v 1 hts kw_593 kw_590 kw_592 kp_3 kw_1 rfl rfl (by decide +kernel) ⟨Nat.le_of_ble_eq_true rfl, Nat.le_of_ble_eq_true rfl⟩) ⟨fx_blind, va_recv hK hP (ci := 11) (q0 := 0) rfl rfl, fun U hU hW => fx_pre hU hW hP hK hD hev hNS hS hFc⟩ rfl rfl hl.1 rfl (lv_room (Nat.le_of_ble_eq_true rfl)) d_join_8 ⟨Nat.le_of_ble_eq_true rfl, Nat.le_of_ble_eq_true rfl⟩) hS (fun q _ h => hFc q h) hFc (fun r_9 u_10 t H1 locs ht hvm hw hB hz1 hk1 hS => ?_)
          obtain ⟨hP, -, hD1⟩ := hB
          rw [ht] at hP
          have hD := hD1.weaken (fun _ q _ h => hFc q.1 h)
          generalize H1 = H at hP hS ⊢
          refine W.cs (cells' := 0) (slots' := 0) rfl rfl ?_
          subst hw
          refine w_v (y := .ref (ad (18 + j_6))) rfl ?_
          refine lv_astore (lv' := [(4, .ref (ad (18 + j_6))), (3, .ref (ad (18 + j_1))), (0, .ref (ad 0)), (1, .int (nI j_1)), (2, .int (nI j_6))]) hx hb d_join_11 hl (by decide) rfl (fun ls hl => ?_)
          refine lv_aload_n hx hb d_join_13 rfl (lv_at hl 2 rfl) ?_
          refine lv_aload hx hb d_join_14 (lv_at hl 0 rfl) ?_
          have hFc := fr_all hD hS hA
          refine va_callv (va_runV (As := [.ref (ad (18 + j_6))]) (rest := []) ⟨hx, hb, hml, hown, hts⟩ (c_nno l hfl D ad ac u_10 H.size j_6 hj_6) (cw_v 1 hts kw_1087 kw_1084 kw_1086 kp_22 kw_1 rfl rfl (by decide +kernel) ⟨Nat.le_of_ble_eq_true rfl, Nat.le_of_ble_eq_true rfl⟩) ⟨fx_blind, va_recv hK hP (ci := 11) (q0 := 0) rfl rfl, fun U hU hW => fx_pre hU hW hP hK hD hev hNS hS hFc⟩ rfl rfl hl.1 rfl (lv_room (Nat.le_of_ble_eq_true rfl)) d_join_16 ⟨Nat.le_of_ble_eq_true rfl, Nat.le_of_ble_eq_true rfl⟩) hS (fun q _ h => hFc q h) hFc (fun u_12 t H1 locs ht hvm hw hB hz1 hk1 hS => ?_)
          obtain ⟨hP, -, hD1⟩ := hB
          rw [ht] at hP
          have hD := hD1.weaken (fun _ q _ h => hFc q.1 h)
          generalize H1 = H at hP hS ⊢
          refine W.cs (cells' := 0) (slots' := 0) rfl rfl ?_
          refine lv_iconst (v := 0) hx hb d_join_19 (by decide) ?_
          refine lv_istore (lv' := [(5, .int 0), (4, .ref (ad (18 + j_6))), (3, .ref (ad (18 + j_1))), (0, .ref (ad 0)), (1, .int (nI j_1)), (2, .int (nI j_6))]) hx hb d_join_20 hl (by decide) rfl (fun ls hl => ?_)
          refine lv_iload hx hb d_join_22 (lv_at hl 0 rfl) ?_
          refine lv_aload_n hx hb d_join_24 rfl (lv_at hl 3 rfl) ?_
          refine va_get (D := D) (ci := 11) (v := .ref (ad 1)) (C := R_JT) (T := F_JT) (N := 13) hx hb hts i_JT hown hK hP 0 rfl rfl 0 (by decide) (hts _ kw_421) (fun _ h9 => h9) rfl d_join_25 ?_
          refine va_get (D := D) (ci := 8) (v := .int 0) (C := R_St) (T := F_St) (N := 6) hx hb hts i_St hown hK hP 1 rfl rfl 4 (by decide) (hts _ kw_176) (fun _ h9 => h9) rfl d_join_28 ?_
          refine lv_icmp_ge (tgt := 78) hx hb d_join_31 (by decide) (fun _ => ?_) (fun h => absurd h (by decide))
          refine lv_aload_n hx hb d_join_78 rfl (lv_at hl 3 rfl) ?_
          refine va_get (D := D) (ci := 11) (v := .ref (ad 1)) (C := R_JT) (T := F_JT) (N := 13) hx hb hts i_JT hown hK hP 0 rfl rfl 0 (by decide) (hts _ kw_421) (fun _ h9 => h9) rfl d_join_79 ?_
          refine lv_aload hx hb d_join_82 (lv_at hl 1 rfl) ?_
          have hFc := fr_all hD hS hA
          refine va_calli (va_runV (As := [.ref (ad (18 + j_6))]) (rest := []) ⟨hx, hb, hml, hown, hts⟩ (c_settle l hfl D ad ac u_12 H.size j_6 hj_6) (cw_v 1 hts kw_1096 kw_1093 kw_1094 kw_1095 kw_2 rfl rfl (by decide +kernel) ⟨Nat.le_of_ble_eq_true rfl, Nat.le_of_ble_eq_true rfl⟩) ⟨fx_blind, va_recv hK hP (ci := 8) (q0 := 1) rfl rfl, fun U hU hW => fx_pre hU hW hP hK hD hev hNS hS hFc⟩ rfl rfl hl.1 rfl (lv_room (Nat.le_of_ble_eq_true rfl)) d_join_84 ⟨Nat.le_of_ble_eq_true rfl, Nat.le_of_ble_eq_true rfl⟩) hS (fun q _ h => hFc q h) hFc (fun r_13 u_14 t H1 locs ht hvm hw hB hz1 hk1 hS => ?_)
          obtain ⟨hP, -, hD1⟩ := hB
          rw [ht] at hP
          have hD := hD1.weaken (fun _ q _ h => hFc q.1 h)
          generalize H1 = H at hP hS ⊢
          refine W.cs (cells' := 0) (slots' := 0) rfl rfl ?_
          subst hw
          first | exact absurd hq (by simp [k_joi, c_2, c_3, c_7, c_8]) | (exfalso; simp_all [k_joi])
        · have hFc := fr_all hD hS hA
          exact tx_on (tx_runV (As := [.int tt]) (rest := []) ⟨hx, hb, hml, hown, hts⟩ (c_shown_T l hfl D ad ac u_5 H.size tt (Or.inr c_8)) (cw_v 1 hts kw_593 kw_590 kw_592 kp_3 kw_1 rfl rfl (by decide +kernel) ⟨Nat.le_of_ble_eq_true rfl, Nat.le_of_ble_eq_true rfl⟩) ⟨fx_blind, va_recv hK hP (ci := 11) (q0 := 0) rfl rfl, fun U hU hW => fx_pre hU hW hP hK hD hev hNS hS hFc⟩ rfl rfl hl.1 rfl (lv_room (Nat.le_of_ble_eq_true rfl)) d_join_8 ⟨Nat.le_of_ble_eq_true rfl, Nat.le_of_ble_eq_true rfl⟩) hno hlocks hS hFc
    · have hFc := fr_all hD hS hA
      exact tx_on (tx_runV (As := [.int f]) (rest := []) ⟨hx, hb, hml, hown, hts⟩ (c_shown_T l hfl D ad ac ck s.heap.size f (Or.inr c_3)) (cw_v 1 hts kw_593 kw_590 kw_592 kp_3 kw_1 rfl rfl (by decide +kernel) ⟨Nat.le_of_ble_eq_true rfl, Nat.le_of_ble_eq_true rfl⟩) ⟨fx_blind, va_recv hK hP (ci := 11) (q0 := 0) rfl rfl, fun U hU hW => fx_pre hU hW hP hK hD hev hNS hS hFc⟩ rfl rfl hl.1 rfl (lv_room (Nat.le_of_ble_eq_true rfl)) d_join_2 ⟨Nat.le_of_ble_eq_true rfl, Nat.le_of_ble_eq_true rfl⟩) hno hlocks hS hFc
theorem d_join_87 : decode prog_1_method_14_code 87 = .ok (.ireturn, 1) := by decide +kernel
set_option maxHeartbeats 4000000 in
set_option maxRecDepth 100000 in
theorem c_join_0 (l : Launch) (hfl : l.flags = flags0) (D : va_G) (ad : Nat → Nat) (ac : Nat → ClassId) (ck : Nat → Int32) (sz : Nat) (f tt : Int32) (hq : k_joi f tt = 0) : Met l ⟨"JoinedTrees", "join", "(II)I"⟩ (Cond.code ⟨"JoinedTrees", "join", "(II)I"⟩ prog_1_method_14_code 7 (some .int) :: gb) ({ frames := 3, cells := 0, slots := 0, locals := 103 }) (fxPc D ad ac ck sz [.ref (ad 0), .int f, .int tt]) (va_Qi (fun (r : Int32) (_ : Unit) => r = 0) (fun _ _ => True) (va_A (fxW ad ac ck) sz)) 0 0 (va_A (fxW ad ac ck) sz) := by
  refine Met.ofW (cc := prog_1_method_14_code) (maxL := 7) (ret := (some .int)) (by decide) rfl ?_
  intro p e s m args below meth c s₁ B hml hv
  obtain ⟨rfl, hsz, hP, hK, hD0, hev⟩ := hv
  have hx := B.exec
  have hb := B.bytes
  have hr := B.returns
  have hts : ∀ w9 ∈ gb, w9.before [.ref (ad 0), .int f, .int tt].toArray s = true := fun w9 h => atoms_spec (ws := Cond.code ⟨"JoinedTrees", "join", "(II)I"⟩ prog_1_method_14_code 7 (some .int) :: gb) B.pre w9 (List.mem_cons_of_mem _ h)
  have hown : s.vm.findClass "JoinedTrees" = some m.cls := findClass_of_methodNamed B.named
  have hlocks := B.notSynchronized
  subst hsz
  have hNS := ns_of hP
  have hD := hD0.self (sz := s.heap.size)
  generalize hAe : va_A (fxW ad ac ck) s.heap.size = A at hD hev hNS ⊢
  have hA : ∀ q : Nat, s.heap.size ≤ q → A q := fun q h => by rw [← hAe]; exact Or.inr h
  have hS : va_S A s.heap s.heap [] := va_S.rf
  have hP : va_P D cls (fxW ad ac ck) s.heap := hP
  have hl := lv_entry ([.ref (ad 0), .int f, .int tt]) (n := 7) (Nat.le_of_ble_eq_true rfl)
  rw [lg_entry_eq]
  generalize (lg_sl ([.ref (ad 0), .int f, .int tt]) ++ List.replicate (7 - (lg_sl ([.ref (ad 0), .int f, .int tt])).length) Slot.unset).toArray = ls at hl ⊢
  have hl : lv_has ls 7 [(0, .ref (ad 0)), (1, .int f), (2, .int tt)] := hl
  refine lv_aload_n hx hb d_join_0 rfl (lv_at hl 0 rfl) ?_
  refine lv_iload_n hx hb d_join_1 rfl (lv_at hl 1 rfl) ?_
  by_cases c_2 : f < 0
  · first | exact absurd hq (by simp [k_joi, c_2]) | (exfalso; simp_all [k_joi])
  · by_cases c_3 : f < 8
    · obtain ⟨j_1, hj_1, rfl⟩ := of8 c_2 c_3
      have hFc := fr_all hD hS hA
      refine va_callq (va_runV (As := [.int (nI j_1)]) (rest := []) ⟨hx, hb, hml, hown, hts⟩ (c_shown l hfl D ad ac ck s.heap.size j_1 hj_1) (cw_v 1 hts kw_593 kw_590 kw_592 kp_3 kw_1 rfl rfl (by decide +kernel) ⟨Nat.le_of_ble_eq_true rfl, Nat.le_of_ble_eq_true rfl⟩) ⟨fx_blind, va_recv hK hP (ci := 11) (q0 := 0) rfl rfl, fun U hU hW => fx_pre hU hW hP hK hD hev hNS hS hFc⟩ rfl rfl hl.1 rfl (lv_room (Nat.le_of_ble_eq_true rfl)) d_join_2 ⟨Nat.le_of_ble_eq_true rfl, Nat.le_of_ble_eq_true rfl⟩) hS (fun q _ h => hFc q h) hFc (fun r_4 u_5 t H1 locs ht hvm hw hB hz1 hk1 hS => ?_)
      obtain ⟨hP, -, hD1⟩ := hB
      rw [ht] at hP
      have hD := hD1.weaken (fun _ q _ h => hFc q.1 h)
      generalize H1 = H at hP hS ⊢
      refine W.cs (cells' := 0) (slots' := 0) rfl rfl ?_
      subst hw
      refine w_v (y := .ref (ad (18 + j_1))) rfl ?_
      refine lv_astore_n (lv' := [(3, .ref (ad (18 + j_1))), (0, .ref (ad 0)), (1, .int (nI j_1)), (2, .int tt)]) hx hb d_join_5 rfl hl (by decide) rfl (fun ls hl => ?_)
      refine lv_aload_n hx hb d_join_6 rfl (lv_at hl 1 rfl) ?_
      refine lv_iload_n hx hb d_join_7 rfl (lv_at hl 3 rfl) ?_
      by_cases c_7 : tt < 0
      · first | exact absurd hq (by simp [k_joi, c_2, c_3, c_7]) | (exfalso; simp_all [k_joi])
      · by_cases c_8 : tt < 8
        · obtain ⟨j_6, hj_6, rfl⟩ := of8 c_7 c_8
          have hFc := fr_all hD hS hA
          refine va_callq (va_runV (As := [.int (nI j_6)]) (rest := []) ⟨hx, hb, hml, hown, hts⟩ (c_shown l hfl D ad ac u_5 H.size j_6 hj_6) (cw_v 1 hts kw_593 kw_590 kw_592 kp_3 kw_1 rfl rfl (by decide +kernel) ⟨Nat.le_of_ble_eq_true rfl, Nat.le_of_ble_eq_true rfl⟩) ⟨fx_blind, va_recv hK hP (ci := 11) (q0 := 0) rfl rfl, fun U hU hW => fx_pre hU hW hP hK hD hev hNS hS hFc⟩ rfl rfl hl.1 rfl (lv_room (Nat.le_of_ble_eq_true rfl)) d_join_8 ⟨Nat.le_of_ble_eq_true rfl, Nat.le_of_ble_eq_true rfl⟩) hS (fun q _ h => hFc q h) hFc (fun r_9 u_10 t H1 locs ht hvm hw hB hz1 hk1 hS => ?_)
          obtain ⟨hP, -, hD1⟩ := hB
          rw [ht] at hP
          have hD := hD1.weaken (fun _ q _ h => hFc q.1 h)
          generalize H1 = H at hP hS ⊢
          refine W.cs (cells' := 0) (slots' := 0) rfl rfl ?_
          subst hw
          refine w_v (y := .ref (ad (18 + j_6))) rfl ?_
          refine lv_astore (lv' := [(4, .ref (ad (18 + j_6))), (3, .ref (ad (18 + j_1))), (0, .ref (ad 0)), (1, .int (nI j_1)), (2, .int (nI j_6))]) hx hb d_join_11 hl (by decide) rfl (fun ls hl => ?_)
          refine lv_aload_n hx hb d_join_13 rfl (lv_at hl 2 rfl) ?_
          refine lv_aload hx hb d_join_14 (lv_at hl 0 rfl) ?_
          have hFc := fr_all hD hS hA
          refine va_callv (va_runV (As := [.ref (ad (18 + j_6))]) (rest := []) ⟨hx, hb, hml, hown, hts⟩ (c_nno l hfl D ad ac u_10 H.size j_6 hj_6) (cw_v 1 hts kw_1087 kw_1084 kw_1086 kp_22 kw_1 rfl rfl (by decide +kernel) ⟨Nat.le_of_ble_eq_true rfl, Nat.le_of_ble_eq_true rfl⟩) ⟨fx_blind, va_recv hK hP (ci := 11) (q0 := 0) rfl rfl, fun U hU hW => fx_pre hU hW hP hK hD hev hNS hS hFc⟩ rfl rfl hl.1 rfl (lv_room (Nat.le_of_ble_eq_true rfl)) d_join_16 ⟨Nat.le_of_ble_eq_true rfl, Nat.le_of_ble_eq_true rfl⟩) hS (fun q _ h => hFc q h) hFc (fun u_12 t H1 locs ht hvm hw hB hz1 hk1 hS => ?_)
          obtain ⟨hP, -, hD1⟩ := hB
          rw [ht] at hP
          have hD := hD1.weaken (fun _ q _ h => hFc q.1 h)
          generalize H1 = H at hP hS ⊢
          refine W.cs (cells' := 0) (slots' := 0) rfl rfl ?_
          refine lv_iconst (v := 0) hx hb d_join_19 (by decide) ?_
          refine lv_istore (lv' := [(5, .int 0), (4, .ref (ad (18 + j_6))), (3, .ref (ad (18 + j_1))), (0, .ref (ad 0)), (1, .int (nI j_1)), (2, .int (nI j_6))]) hx hb d_join_20 hl (by decide) rfl (fun ls hl => ?_)
          refine lv_iload hx hb d_join_22 (lv_at hl 0 rfl) ?_
          refine lv_aload_n hx hb d_join_24 rfl (lv_at hl 3 rfl) ?_
          refine va_get (D := D) (ci := 11) (v := .ref (ad 1)) (C := R_JT) (T := F_JT) (N := 13) hx hb hts i_JT hown hK hP 0 rfl rfl 0 (by decide) (hts _ kw_421) (fun _ h9 => h9) rfl d_join_25 ?_
          refine va_get (D := D) (ci := 8) (v := .int 0) (C := R_St) (T := F_St) (N := 6) hx hb hts i_St hown hK hP 1 rfl rfl 4 (by decide) (hts _ kw_176) (fun _ h9 => h9) rfl d_join_28 ?_
          refine lv_icmp_ge (tgt := 78) hx hb d_join_31 (by decide) (fun _ => ?_) (fun h => absurd h (by decide))
          refine lv_aload_n hx hb d_join_78 rfl (lv_at hl 3 rfl) ?_
          refine va_get (D := D) (ci := 11) (v := .ref (ad 1)) (C := R_JT) (T := F_JT) (N := 13) hx hb hts i_JT hown hK hP 0 rfl rfl 0 (by decide) (hts _ kw_421) (fun _ h9 => h9) rfl d_join_79 ?_
          refine lv_aload hx hb d_join_82 (lv_at hl 1 rfl) ?_
          have hFc := fr_all hD hS hA
          refine va_calli (va_runV (As := [.ref (ad (18 + j_6))]) (rest := []) ⟨hx, hb, hml, hown, hts⟩ (c_settle l hfl D ad ac u_12 H.size j_6 hj_6) (cw_v 1 hts kw_1096 kw_1093 kw_1094 kw_1095 kw_2 rfl rfl (by decide +kernel) ⟨Nat.le_of_ble_eq_true rfl, Nat.le_of_ble_eq_true rfl⟩) ⟨fx_blind, va_recv hK hP (ci := 8) (q0 := 1) rfl rfl, fun U hU hW => fx_pre hU hW hP hK hD hev hNS hS hFc⟩ rfl rfl hl.1 rfl (lv_room (Nat.le_of_ble_eq_true rfl)) d_join_84 ⟨Nat.le_of_ble_eq_true rfl, Nat.le_of_ble_eq_true rfl⟩) hS (fun q _ h => hFc q h) hFc (fun r_13 u_14 t H1 locs ht hvm hw hB hz1 hk1 hS => ?_)
          obtain ⟨hP, -, hD1⟩ := hB
          rw [ht] at hP
          have hD := hD1.weaken (fun _ q _ h => hFc q.1 h)
          generalize H1 = H at hP hS ⊢
          refine W.cs (cells' := 0) (slots' := 0) rfl rfl ?_
          subst hw
          exact W.iret (v := 0) hx hb hr (fun t ht hW => ⟨⟨0, (), rfl, rfl, trivial⟩, hS.F ht⟩) hS.2.2 d_join_87
        · first | exact absurd hq (by simp [k_joi, c_2, c_3, c_7, c_8]) | (exfalso; simp_all [k_joi])
    · first | exact absurd hq (by simp [k_joi, c_2, c_3]) | (exfalso; simp_all [k_joi])
theorem d_look_0 : decode prog_1_method_15_code 0 = .ok (.aload_n 0, 1) := by decide +kernel
theorem d_look_1 : decode prog_1_method_15_code 1 = .ok (.iload_n 1, 1) := by decide +kernel
theorem d_look_2 : decode prog_1_method_15_code 2 = .ok (.invokevirtual 105, 3) := by decide +kernel
theorem d_look_5 : decode prog_1_method_15_code 5 = .ok (.astore 4, 2) := by decide +kernel
theorem d_look_7 : decode prog_1_method_15_code 7 = .ok (.iload_n 2, 1) := by decide +kernel
theorem d_look_8 : decode prog_1_method_15_code 8 = .ok (.iconst (-1), 1) := by decide +kernel
theorem d_look_9 : decode prog_1_method_15_code 9 = .ok (.if_icmp .lt 9, 3) := by decide +kernel
theorem d_look_18 : decode prog_1_method_15_code 18 = .ok (.new 93, 3) := by decide +kernel
theorem d_look_21 : decode prog_1_method_15_code 21 = .ok (.dup, 1) := by decide +kernel
theorem d_look_22 : decode prog_1_method_15_code 22 = .ok (.invokespecial 95, 3) := by decide +kernel
theorem d_look_25 : decode prog_1_method_15_code 25 = .ok (.athrow, 1) := by decide +kernel
theorem d_look_12 : decode prog_1_method_15_code 12 = .ok (.iload_n 2, 1) := by decide +kernel
theorem d_look_13 : decode prog_1_method_15_code 13 = .ok (.bipush 8, 2) := by decide +kernel
theorem d_look_15 : decode prog_1_method_15_code 15 = .ok (.if_icmp .lt 11, 3) := by decide +kernel
theorem d_look_26 : decode prog_1_method_15_code 26 = .ok (.aconst_null, 1) := by decide +kernel
theorem d_look_27 : decode prog_1_method_15_code 27 = .ok (.astore 5, 2) := by decide +kernel
theorem d_look_29 : decode prog_1_method_15_code 29 = .ok (.iload_n 2, 1) := by decide +kernel
theorem d_look_30 : decode prog_1_method_15_code 30 = .ok (.ifCond .lt 37, 3) := by decide +kernel
theorem d_look_67 : decode prog_1_method_15_code 67 = .ok (.aload 4, 2) := by decide +kernel
theorem d_look_69 : decode prog_1_method_15_code 69 = .ok (.aload 5, 2) := by decide +kernel
theorem d_look_71 : decode prog_1_method_15_code 71 = .ok (.putfield 271, 3) := by decide +kernel
theorem d_look_74 : decode prog_1_method_15_code 74 = .ok (.aload 4, 2) := by decide +kernel
theorem d_look_76 : decode prog_1_method_15_code 76 = .ok (.invokevirtual 275, 3) := by decide +kernel
theorem d_look_33 : decode prog_1_method_15_code 33 = .ok (.aload_n 0, 1) := by decide +kernel
theorem d_look_34 : decode prog_1_method_15_code 34 = .ok (.getfield 12, 3) := by decide +kernel
theorem d_look_37 : decode prog_1_method_15_code 37 = .ok (.iload_n 2, 1) := by decide +kernel
theorem d_look_38 : decode prog_1_method_15_code 38 = .ok (.iload_n 3, 1) := by decide +kernel
theorem d_look_39 : decode prog_1_method_15_code 39 = .ok (.invokevirtual 245, 3) := by decide +kernel
theorem d_look_42 : decode prog_1_method_15_code 42 = .ok (.astore 5, 2) := by decide +kernel
theorem d_look_44 : decode prog_1_method_15_code 44 = .ok (.aload 5, 2) := by decide +kernel
theorem d_look_46 : decode prog_1_method_15_code 46 = .ok (.ifnull 13, 3) := by decide +kernel
set_option maxHeartbeats 4000000 in
set_option maxRecDepth 100000 in
theorem c_look_1 (l : Launch) (hfl : l.flags = flags0) (D : va_G) (ad : Nat → Nat) (ac : Nat → ClassId) (ck : Nat → Int32) (sz : Nat) (r a n : Int32) (hq : k_loo r a = 1) : MeT l ⟨"JoinedTrees", "look", "(III)I"⟩ (Cond.code ⟨"JoinedTrees", "look", "(III)I"⟩ prog_1_method_15_code 6 (some .int) :: gb) ({ frames := 7, cells := 1, slots := 6, locals := 117 }) (fxPc D ad ac ck sz [.ref (ad 0), .int r, .int a, .int n]) e_IA (va_A (fxW ad ac ck) sz) 1 6 := by
  refine MeT.ofW (cc := prog_1_method_15_code) (maxL := 6) (ret := (some .int)) (by decide) rfl ?_
  intro p e s m args below meth c s₁ B hml hno hv
  obtain ⟨rfl, hsz, hP, hK, hD0, hev⟩ := hv
  have hx := B.exec
  have hb := B.bytes
  have hr := B.returns
  have hts : ∀ w9 ∈ gb, w9.before [.ref (ad 0), .int r, .int a, .int n].toArray s = true := fun w9 h => atoms_spec (ws := Cond.code ⟨"JoinedTrees", "look", "(III)I"⟩ prog_1_method_15_code 6 (some .int) :: gb) B.pre w9 (List.mem_cons_of_mem _ h)
  have hown : s.vm.findClass "JoinedTrees" = some m.cls := findClass_of_methodNamed B.named
  have hlocks := B.notSynchronized
  subst hsz
  have hNS := ns_of hP
  have hD := hD0.self (sz := s.heap.size)
  generalize hAe : va_A (fxW ad ac ck) s.heap.size = A at hD hev hNS ⊢
  have hA : ∀ q : Nat, s.heap.size ≤ q → A q := fun q h => by rw [← hAe]; exact Or.inr h
  have hS : va_S A s.heap s.heap [] := va_S.rf
  have hP : va_P D cls (fxW ad ac ck) s.heap := hP
  have hl := lv_entry ([.ref (ad 0), .int r, .int a, .int n]) (n := 6) (Nat.le_of_ble_eq_true rfl)
  rw [lg_entry_eq]
  generalize (lg_sl ([.ref (ad 0), .int r, .int a, .int n]) ++ List.replicate (6 - (lg_sl ([.ref (ad 0), .int r, .int a, .int n])).length) Slot.unset).toArray = ls at hl ⊢
  have hl : lv_has ls 6 [(0, .ref (ad 0)), (1, .int r), (2, .int a), (3, .int n)] := hl
  refine lv_aload_n hx hb d_look_0 rfl (lv_at hl 0 rfl) ?_
  refine lv_iload_n hx hb d_look_1 rfl (lv_at hl 1 rfl) ?_
  by_cases c_2 : r < 0
  · have hFc := fr_all hD hS hA
    exact tx_on (tx_runV (As := [.int r]) (rest := []) ⟨hx, hb, hml, hown, hts⟩ (c_shown_T l hfl D ad ac ck s.heap.size r (Or.inl c_2)) (cw_v 1 hts kw_593 kw_590 kw_592 kp_3 kw_1 rfl rfl (by decide +kernel) ⟨Nat.le_of_ble_eq_true rfl, Nat.le_of_ble_eq_true rfl⟩) ⟨fx_blind, va_recv hK hP (ci := 11) (q0 := 0) rfl rfl, fun U hU hW => fx_pre hU hW hP hK hD hev hNS hS hFc⟩ rfl rfl hl.1 rfl (lv_room (Nat.le_of_ble_eq_true rfl)) d_look_2 ⟨Nat.le_of_ble_eq_true rfl, Nat.le_of_ble_eq_true rfl⟩) hno hlocks hS hFc
  · by_cases c_3 : r < 8
    · obtain ⟨j_1, hj_1, rfl⟩ := of8 c_2 c_3
      have hFc := fr_all hD hS hA
      refine va_callq (va_runV (As := [.int (nI j_1)]) (rest := []) ⟨hx, hb, hml, hown, hts⟩ (c_shown l hfl D ad ac ck s.heap.size j_1 hj_1) (cw_v 1 hts kw_593 kw_590 kw_592 kp_3 kw_1 rfl rfl (by decide +kernel) ⟨Nat.le_of_ble_eq_true rfl, Nat.le_of_ble_eq_true rfl⟩) ⟨fx_blind, va_recv hK hP (ci := 11) (q0 := 0) rfl rfl, fun U hU hW => fx_pre hU hW hP hK hD hev hNS hS hFc⟩ rfl rfl hl.1 rfl (lv_room (Nat.le_of_ble_eq_true rfl)) d_look_2 ⟨Nat.le_of_ble_eq_true rfl, Nat.le_of_ble_eq_true rfl⟩) hS (fun q _ h => hFc q h) hFc (fun r_4 u_5 t H1 locs ht hvm hw hB hz1 hk1 hS => ?_)
      obtain ⟨hP, -, hD1⟩ := hB
      rw [ht] at hP
      have hD := hD1.weaken (fun _ q _ h => hFc q.1 h)
      generalize H1 = H at hP hS ⊢
      refine W.cs (cells' := 0) (slots' := 0) rfl rfl ?_
      subst hw
      refine w_v (y := .ref (ad (18 + j_1))) rfl ?_
      refine lv_astore (lv' := [(4, .ref (ad (18 + j_1))), (0, .ref (ad 0)), (1, .int (nI j_1)), (2, .int a), (3, .int n)]) hx hb d_look_5 hl (by decide) rfl (fun ls hl => ?_)
      refine lv_iload_n hx hb d_look_7 rfl (lv_at hl 3 rfl) ?_
      refine lv_iconst (v := (-1)) hx hb d_look_8 (by decide) ?_
      refine lv_icmp_lt (tgt := 18) hx hb d_look_9 (by decide) (fun c_6 => ?_) (fun c_6 => ?_)
      · exact tx_throw (own := "JoinedTrees") (E := e_IA) (names := at_n) (ia := 93) (ic := 95) hfl hx hb hno hlocks hown (by decide +kernel) (by decide +kernel) (hev.atoms hts hev.2.2.2.2.2.1.1 at_IA) (hts _ kw_558) (hts _ kw_16) d_look_18 d_look_21 d_look_22 d_look_25 (hl.1.trans hml.symm) hS hA hNS (Nat.le_of_ble_eq_true rfl) (Nat.le_of_ble_eq_true rfl) (Nat.le_of_ble_eq_true rfl) (Nat.le_of_ble_eq_true rfl)
      · refine lv_iload_n hx hb d_look_12 rfl (lv_at hl 3 rfl) ?_
        refine lv_bipush (v := 8) hx hb d_look_13 (by decide) ?_
        refine lv_icmp_lt (tgt := 26) hx hb d_look_15 (by decide) (fun c_7 => ?_) (fun c_7 => ?_)
        · refine lv_null hx hb d_look_26 ?_
          refine lv_astoreN (lv' := [(5, .null), (4, .ref (ad (18 + j_1))), (0, .ref (ad 0)), (1, .int (nI j_1)), (2, .int a), (3, .int n)]) hx hb d_look_27 hl (by decide) rfl (fun ls hl => ?_)
          refine lv_iload_n hx hb d_look_29 rfl (lv_at hl 4 rfl) ?_
          refine lv_if_lt (tgt := 67) hx hb d_look_30 (by decide) (fun c_8 => ?_) (fun c_8 => ?_)
          · refine lv_aload hx hb d_look_67 (lv_at hl 1 rfl) ?_
            refine lv_aloadN hx hb d_look_69 (lv_at hl 0 rfl) ?_
            refine w_putS (D := D) (ci := 4) (v := .null) (ty := .object "JoinedTrees$Change") (C := R_Rp) (T := F_Rp) (N := 10) hx hb hts i_Rp t_Rp t_Rp_ok n_Rp hown hK hP hD hS (18 + j_1) (fx_rep ad ac u_5 j_1 hj_1) rfl 4 (by decide) (hts _ kw_216) (fun _ h9 => h9) rfl (by decide +kernel) rfl rfl (Nat.le_of_ble_eq_true rfl) rfl d_look_71 (fun H locs hP hD hS => ?_)
            refine lv_aload hx hb d_look_74 (lv_at hl 1 rfl) ?_
            have hFc := fr_all hD hS hA
            refine va_calli (va_runV (As := []) (rest := []) ⟨hx, hb, hml, hown, hts⟩ (c_civ l hfl D ad ac u_5 H.size j_1 hj_1) (cw_v 0 hts kw_1121 kw_1118 kw_1119 kw_1120 kw_5 rfl rfl (by decide +kernel) ⟨Nat.le_of_ble_eq_true rfl, Nat.le_of_ble_eq_true rfl⟩) ⟨fx_blind, va_recv hK hP (ci := 4) (q0 := (18 + j_1)) rfl (fx_rep ad ac u_5 j_1 hj_1), fun U hU hW => fx_pre hU hW hP hK hD hev hNS hS hFc⟩ rfl rfl hl.1 rfl (lv_room (Nat.le_of_ble_eq_true rfl)) d_look_76 ⟨Nat.le_of_ble_eq_true rfl, Nat.le_of_ble_eq_true rfl⟩) hS (fun q _ h => hFc q h) hFc (fun r_9 u_10 t H1 locs ht hvm hw hB hz1 hk1 hS => ?_)
            obtain ⟨hP, -, hD1⟩ := hB
            rw [ht] at hP
            have hD := hD1.weaken (fun _ q _ h => hFc q.1 h)
            generalize H1 = H at hP hS ⊢
            refine W.cs (cells' := 0) (slots' := 0) rfl rfl ?_
            subst hw
            first | exact absurd hq (by simp [k_loo, c_2, c_3, c_6, c_7, c_8]) | (exfalso; simp_all [k_loo])
          · refine lv_aload_n hx hb d_look_33 rfl (lv_at hl 2 rfl) ?_
            refine va_get (D := D) (ci := 11) (v := .ref (ad 1)) (C := R_JT) (T := F_JT) (N := 13) hx hb hts i_JT hown hK hP 0 rfl rfl 0 (by decide) (hts _ kw_421) (fun _ h9 => h9) rfl d_look_34 ?_
            refine lv_iload_n hx hb d_look_37 rfl (lv_at hl 4 rfl) ?_
            refine lv_iload_n hx hb d_look_38 rfl (lv_at hl 5 rfl) ?_
            have hFc := fr_all hD hS hA
            refine va_callq (va_runV (As := [.int a, .int n]) (rest := []) ⟨hx, hb, hml, hown, hts⟩ (c_chAt l hfl D ad ac u_5 H.size a n) (cw_v 2 hts kw_1079 kw_1076 kw_1077 kw_1078 kw_2 rfl rfl (by decide +kernel) ⟨Nat.le_of_ble_eq_true rfl, Nat.le_of_ble_eq_true rfl⟩) ⟨fx_blind, va_recv hK hP (ci := 8) (q0 := 1) rfl rfl, fun U hU hW => fx_pre hU hW hP hK hD hev hNS hS hFc⟩ rfl rfl hl.1 rfl (lv_room (Nat.le_of_ble_eq_true rfl)) d_look_39 ⟨Nat.le_of_ble_eq_true rfl, Nat.le_of_ble_eq_true rfl⟩) hS (fun q _ h => hFc q h) hFc (fun r_11 u_12 t H1 locs ht hvm hw hB hz1 hk1 hS => ?_)
            obtain ⟨hP, -, hD1⟩ := hB
            rw [ht] at hP
            have hD := hD1.weaken (fun _ q _ h => hFc q.1 h)
            generalize H1 = H at hP hS ⊢
            refine W.cs (cells' := 0) (slots' := 0) rfl rfl ?_
            subst hw
            refine w_v (y := .null) rfl ?_
            refine lv_astoreN (lv' := [(5, .null), (4, .ref (ad (18 + j_1))), (0, .ref (ad 0)), (1, .int (nI j_1)), (2, .int a), (3, .int n)]) hx hb d_look_42 hl (by decide) rfl (fun ls hl => ?_)
            refine lv_aloadN hx hb d_look_44 (lv_at hl 0 rfl) ?_
            refine lv_ifnullN (tgt := 59) hx hb d_look_46 (by decide) ?_
            first | exact absurd hq (by simp [k_loo, c_2, c_3, c_6, c_7, c_8]) | (exfalso; simp_all [k_loo])
        · exact tx_throw (own := "JoinedTrees") (E := e_IA) (names := at_n) (ia := 93) (ic := 95) hfl hx hb hno hlocks hown (by decide +kernel) (by decide +kernel) (hev.atoms hts hev.2.2.2.2.2.1.1 at_IA) (hts _ kw_558) (hts _ kw_16) d_look_18 d_look_21 d_look_22 d_look_25 (hl.1.trans hml.symm) hS hA hNS (Nat.le_of_ble_eq_true rfl) (Nat.le_of_ble_eq_true rfl) (Nat.le_of_ble_eq_true rfl) (Nat.le_of_ble_eq_true rfl)
    · have hFc := fr_all hD hS hA
      exact tx_on (tx_runV (As := [.int r]) (rest := []) ⟨hx, hb, hml, hown, hts⟩ (c_shown_T l hfl D ad ac ck s.heap.size r (Or.inr c_3)) (cw_v 1 hts kw_593 kw_590 kw_592 kp_3 kw_1 rfl rfl (by decide +kernel) ⟨Nat.le_of_ble_eq_true rfl, Nat.le_of_ble_eq_true rfl⟩) ⟨fx_blind, va_recv hK hP (ci := 11) (q0 := 0) rfl rfl, fun U hU hW => fx_pre hU hW hP hK hD hev hNS hS hFc⟩ rfl rfl hl.1 rfl (lv_room (Nat.le_of_ble_eq_true rfl)) d_look_2 ⟨Nat.le_of_ble_eq_true rfl, Nat.le_of_ble_eq_true rfl⟩) hno hlocks hS hFc
theorem d_look_59 : decode prog_1_method_15_code 59 = .ok (.new 178, 3) := by decide +kernel
theorem d_look_62 : decode prog_1_method_15_code 62 = .ok (.dup, 1) := by decide +kernel
theorem d_look_63 : decode prog_1_method_15_code 63 = .ok (.invokespecial 180, 3) := by decide +kernel
theorem d_look_66 : decode prog_1_method_15_code 66 = .ok (.athrow, 1) := by decide +kernel
set_option maxHeartbeats 4000000 in
set_option maxRecDepth 100000 in
theorem c_look_2 (l : Launch) (hfl : l.flags = flags0) (D : va_G) (ad : Nat → Nat) (ac : Nat → ClassId) (ck : Nat → Int32) (sz : Nat) (r a n : Int32) (hq : k_loo r a = 2) : MeT l ⟨"JoinedTrees", "look", "(III)I"⟩ (Cond.code ⟨"JoinedTrees", "look", "(III)I"⟩ prog_1_method_15_code 6 (some .int) :: gb) ({ frames := 6, cells := 1, slots := 6, locals := 103 }) (fxPc D ad ac ck sz [.ref (ad 0), .int r, .int a, .int n]) e_NE (va_A (fxW ad ac ck) sz) 1 6 := by
  refine MeT.ofW (cc := prog_1_method_15_code) (maxL := 6) (ret := (some .int)) (by decide) rfl ?_
  intro p e s m args below meth c s₁ B hml hno hv
  obtain ⟨rfl, hsz, hP, hK, hD0, hev⟩ := hv
  have hx := B.exec
  have hb := B.bytes
  have hr := B.returns
  have hts : ∀ w9 ∈ gb, w9.before [.ref (ad 0), .int r, .int a, .int n].toArray s = true := fun w9 h => atoms_spec (ws := Cond.code ⟨"JoinedTrees", "look", "(III)I"⟩ prog_1_method_15_code 6 (some .int) :: gb) B.pre w9 (List.mem_cons_of_mem _ h)
  have hown : s.vm.findClass "JoinedTrees" = some m.cls := findClass_of_methodNamed B.named
  have hlocks := B.notSynchronized
  subst hsz
  have hNS := ns_of hP
  have hD := hD0.self (sz := s.heap.size)
  generalize hAe : va_A (fxW ad ac ck) s.heap.size = A at hD hev hNS ⊢
  have hA : ∀ q : Nat, s.heap.size ≤ q → A q := fun q h => by rw [← hAe]; exact Or.inr h
  have hS : va_S A s.heap s.heap [] := va_S.rf
  have hP : va_P D cls (fxW ad ac ck) s.heap := hP
  have hl := lv_entry ([.ref (ad 0), .int r, .int a, .int n]) (n := 6) (Nat.le_of_ble_eq_true rfl)
  rw [lg_entry_eq]
  generalize (lg_sl ([.ref (ad 0), .int r, .int a, .int n]) ++ List.replicate (6 - (lg_sl ([.ref (ad 0), .int r, .int a, .int n])).length) Slot.unset).toArray = ls at hl ⊢
  have hl : lv_has ls 6 [(0, .ref (ad 0)), (1, .int r), (2, .int a), (3, .int n)] := hl
  refine lv_aload_n hx hb d_look_0 rfl (lv_at hl 0 rfl) ?_
  refine lv_iload_n hx hb d_look_1 rfl (lv_at hl 1 rfl) ?_
  by_cases c_2 : r < 0
  · first | exact absurd hq (by simp [k_loo, c_2]) | (exfalso; simp_all [k_loo])
  · by_cases c_3 : r < 8
    · obtain ⟨j_1, hj_1, rfl⟩ := of8 c_2 c_3
      have hFc := fr_all hD hS hA
      refine va_callq (va_runV (As := [.int (nI j_1)]) (rest := []) ⟨hx, hb, hml, hown, hts⟩ (c_shown l hfl D ad ac ck s.heap.size j_1 hj_1) (cw_v 1 hts kw_593 kw_590 kw_592 kp_3 kw_1 rfl rfl (by decide +kernel) ⟨Nat.le_of_ble_eq_true rfl, Nat.le_of_ble_eq_true rfl⟩) ⟨fx_blind, va_recv hK hP (ci := 11) (q0 := 0) rfl rfl, fun U hU hW => fx_pre hU hW hP hK hD hev hNS hS hFc⟩ rfl rfl hl.1 rfl (lv_room (Nat.le_of_ble_eq_true rfl)) d_look_2 ⟨Nat.le_of_ble_eq_true rfl, Nat.le_of_ble_eq_true rfl⟩) hS (fun q _ h => hFc q h) hFc (fun r_4 u_5 t H1 locs ht hvm hw hB hz1 hk1 hS => ?_)
      obtain ⟨hP, -, hD1⟩ := hB
      rw [ht] at hP
      have hD := hD1.weaken (fun _ q _ h => hFc q.1 h)
      generalize H1 = H at hP hS ⊢
      refine W.cs (cells' := 0) (slots' := 0) rfl rfl ?_
      subst hw
      refine w_v (y := .ref (ad (18 + j_1))) rfl ?_
      refine lv_astore (lv' := [(4, .ref (ad (18 + j_1))), (0, .ref (ad 0)), (1, .int (nI j_1)), (2, .int a), (3, .int n)]) hx hb d_look_5 hl (by decide) rfl (fun ls hl => ?_)
      refine lv_iload_n hx hb d_look_7 rfl (lv_at hl 3 rfl) ?_
      refine lv_iconst (v := (-1)) hx hb d_look_8 (by decide) ?_
      refine lv_icmp_lt (tgt := 18) hx hb d_look_9 (by decide) (fun c_6 => ?_) (fun c_6 => ?_)
      · first | exact absurd hq (by simp [k_loo, c_2, c_3, c_6]) | (exfalso; simp_all [k_loo])
      · refine lv_iload_n hx hb d_look_12 rfl (lv_at hl 3 rfl) ?_
        refine lv_bipush (v := 8) hx hb d_look_13 (by decide) ?_
        refine lv_icmp_lt (tgt := 26) hx hb d_look_15 (by decide) (fun c_7 => ?_) (fun c_7 => ?_)
        · refine lv_null hx hb d_look_26 ?_
          refine lv_astoreN (lv' := [(5, .null), (4, .ref (ad (18 + j_1))), (0, .ref (ad 0)), (1, .int (nI j_1)), (2, .int a), (3, .int n)]) hx hb d_look_27 hl (by decide) rfl (fun ls hl => ?_)
          refine lv_iload_n hx hb d_look_29 rfl (lv_at hl 4 rfl) ?_
          refine lv_if_lt (tgt := 67) hx hb d_look_30 (by decide) (fun c_8 => ?_) (fun c_8 => ?_)
          · refine lv_aload hx hb d_look_67 (lv_at hl 1 rfl) ?_
            refine lv_aloadN hx hb d_look_69 (lv_at hl 0 rfl) ?_
            refine w_putS (D := D) (ci := 4) (v := .null) (ty := .object "JoinedTrees$Change") (C := R_Rp) (T := F_Rp) (N := 10) hx hb hts i_Rp t_Rp t_Rp_ok n_Rp hown hK hP hD hS (18 + j_1) (fx_rep ad ac u_5 j_1 hj_1) rfl 4 (by decide) (hts _ kw_216) (fun _ h9 => h9) rfl (by decide +kernel) rfl rfl (Nat.le_of_ble_eq_true rfl) rfl d_look_71 (fun H locs hP hD hS => ?_)
            refine lv_aload hx hb d_look_74 (lv_at hl 1 rfl) ?_
            have hFc := fr_all hD hS hA
            refine va_calli (va_runV (As := []) (rest := []) ⟨hx, hb, hml, hown, hts⟩ (c_civ l hfl D ad ac u_5 H.size j_1 hj_1) (cw_v 0 hts kw_1121 kw_1118 kw_1119 kw_1120 kw_5 rfl rfl (by decide +kernel) ⟨Nat.le_of_ble_eq_true rfl, Nat.le_of_ble_eq_true rfl⟩) ⟨fx_blind, va_recv hK hP (ci := 4) (q0 := (18 + j_1)) rfl (fx_rep ad ac u_5 j_1 hj_1), fun U hU hW => fx_pre hU hW hP hK hD hev hNS hS hFc⟩ rfl rfl hl.1 rfl (lv_room (Nat.le_of_ble_eq_true rfl)) d_look_76 ⟨Nat.le_of_ble_eq_true rfl, Nat.le_of_ble_eq_true rfl⟩) hS (fun q _ h => hFc q h) hFc (fun r_9 u_10 t H1 locs ht hvm hw hB hz1 hk1 hS => ?_)
            obtain ⟨hP, -, hD1⟩ := hB
            rw [ht] at hP
            have hD := hD1.weaken (fun _ q _ h => hFc q.1 h)
            generalize H1 = H at hP hS ⊢
            refine W.cs (cells' := 0) (slots' := 0) rfl rfl ?_
            subst hw
            first | exact absurd hq (by simp [k_loo, c_2, c_3, c_6, c_7, c_8]) | (exfalso; simp_all [k_loo])
          · refine lv_aload_n hx hb d_look_33 rfl (lv_at hl 2 rfl) ?_
            refine va_get (D := D) (ci := 11) (v := .ref (ad 1)) (C := R_JT) (T := F_JT) (N := 13) hx hb hts i_JT hown hK hP 0 rfl rfl 0 (by decide) (hts _ kw_421) (fun _ h9 => h9) rfl d_look_34 ?_
            refine lv_iload_n hx hb d_look_37 rfl (lv_at hl 4 rfl) ?_
            refine lv_iload_n hx hb d_look_38 rfl (lv_at hl 5 rfl) ?_
            have hFc := fr_all hD hS hA
            refine va_callq (va_runV (As := [.int a, .int n]) (rest := []) ⟨hx, hb, hml, hown, hts⟩ (c_chAt l hfl D ad ac u_5 H.size a n) (cw_v 2 hts kw_1079 kw_1076 kw_1077 kw_1078 kw_2 rfl rfl (by decide +kernel) ⟨Nat.le_of_ble_eq_true rfl, Nat.le_of_ble_eq_true rfl⟩) ⟨fx_blind, va_recv hK hP (ci := 8) (q0 := 1) rfl rfl, fun U hU hW => fx_pre hU hW hP hK hD hev hNS hS hFc⟩ rfl rfl hl.1 rfl (lv_room (Nat.le_of_ble_eq_true rfl)) d_look_39 ⟨Nat.le_of_ble_eq_true rfl, Nat.le_of_ble_eq_true rfl⟩) hS (fun q _ h => hFc q h) hFc (fun r_11 u_12 t H1 locs ht hvm hw hB hz1 hk1 hS => ?_)
            obtain ⟨hP, -, hD1⟩ := hB
            rw [ht] at hP
            have hD := hD1.weaken (fun _ q _ h => hFc q.1 h)
            generalize H1 = H at hP hS ⊢
            refine W.cs (cells' := 0) (slots' := 0) rfl rfl ?_
            subst hw
            refine w_v (y := .null) rfl ?_
            refine lv_astoreN (lv' := [(5, .null), (4, .ref (ad (18 + j_1))), (0, .ref (ad 0)), (1, .int (nI j_1)), (2, .int a), (3, .int n)]) hx hb d_look_42 hl (by decide) rfl (fun ls hl => ?_)
            refine lv_aloadN hx hb d_look_44 (lv_at hl 0 rfl) ?_
            refine lv_ifnullN (tgt := 59) hx hb d_look_46 (by decide) ?_
            exact tx_throw (own := "JoinedTrees") (E := e_NE) (names := at_n) (ia := 178) (ic := 180) hfl hx hb hno hlocks hown (by decide +kernel) (by decide +kernel) (hev.atoms hts hev.2.2.2.2.2.1.2.2.1 at_NE) (hts _ kw_629) (hts _ kw_18) d_look_59 d_look_62 d_look_63 d_look_66 (hl.1.trans hml.symm) hS hA hNS (Nat.le_of_ble_eq_true rfl) (Nat.le_of_ble_eq_true rfl) (Nat.le_of_ble_eq_true rfl) (Nat.le_of_ble_eq_true rfl)
        · first | exact absurd hq (by simp [k_loo, c_2, c_3, c_6, c_7]) | (exfalso; simp_all [k_loo])
    · first | exact absurd hq (by simp [k_loo, c_2, c_3]) | (exfalso; simp_all [k_loo])
theorem d_look_79 : decode prog_1_method_15_code 79 = .ok (.ireturn, 1) := by decide +kernel
set_option maxHeartbeats 4000000 in
set_option maxRecDepth 100000 in
theorem c_look_0 (l : Launch) (hfl : l.flags = flags0) (D : va_G) (ad : Nat → Nat) (ac : Nat → ClassId) (ck : Nat → Int32) (sz : Nat) (r a n : Int32) (hq : k_loo r a = 0) : Met l ⟨"JoinedTrees", "look", "(III)I"⟩ (Cond.code ⟨"JoinedTrees", "look", "(III)I"⟩ prog_1_method_15_code 6 (some .int) :: gb) ({ frames := 3, cells := 0, slots := 0, locals := 103 }) (fxPc D ad ac ck sz [.ref (ad 0), .int r, .int a, .int n]) (va_Qi (fun (r : Int32) (_ : Unit) => r = 0) (fun _ _ => True) (va_A (fxW ad ac ck) sz)) 0 0 (va_A (fxW ad ac ck) sz) := by
  refine Met.ofW (cc := prog_1_method_15_code) (maxL := 6) (ret := (some .int)) (by decide) rfl ?_
  intro p e s m args below meth c s₁ B hml hv
  obtain ⟨rfl, hsz, hP, hK, hD0, hev⟩ := hv
  have hx := B.exec
  have hb := B.bytes
  have hr := B.returns
  have hts : ∀ w9 ∈ gb, w9.before [.ref (ad 0), .int r, .int a, .int n].toArray s = true := fun w9 h => atoms_spec (ws := Cond.code ⟨"JoinedTrees", "look", "(III)I"⟩ prog_1_method_15_code 6 (some .int) :: gb) B.pre w9 (List.mem_cons_of_mem _ h)
  have hown : s.vm.findClass "JoinedTrees" = some m.cls := findClass_of_methodNamed B.named
  have hlocks := B.notSynchronized
  subst hsz
  have hNS := ns_of hP
  have hD := hD0.self (sz := s.heap.size)
  generalize hAe : va_A (fxW ad ac ck) s.heap.size = A at hD hev hNS ⊢
  have hA : ∀ q : Nat, s.heap.size ≤ q → A q := fun q h => by rw [← hAe]; exact Or.inr h
  have hS : va_S A s.heap s.heap [] := va_S.rf
  have hP : va_P D cls (fxW ad ac ck) s.heap := hP
  have hl := lv_entry ([.ref (ad 0), .int r, .int a, .int n]) (n := 6) (Nat.le_of_ble_eq_true rfl)
  rw [lg_entry_eq]
  generalize (lg_sl ([.ref (ad 0), .int r, .int a, .int n]) ++ List.replicate (6 - (lg_sl ([.ref (ad 0), .int r, .int a, .int n])).length) Slot.unset).toArray = ls at hl ⊢
  have hl : lv_has ls 6 [(0, .ref (ad 0)), (1, .int r), (2, .int a), (3, .int n)] := hl
  refine lv_aload_n hx hb d_look_0 rfl (lv_at hl 0 rfl) ?_
  refine lv_iload_n hx hb d_look_1 rfl (lv_at hl 1 rfl) ?_
  by_cases c_2 : r < 0
  · first | exact absurd hq (by simp [k_loo, c_2]) | (exfalso; simp_all [k_loo])
  · by_cases c_3 : r < 8
    · obtain ⟨j_1, hj_1, rfl⟩ := of8 c_2 c_3
      have hFc := fr_all hD hS hA
      refine va_callq (va_runV (As := [.int (nI j_1)]) (rest := []) ⟨hx, hb, hml, hown, hts⟩ (c_shown l hfl D ad ac ck s.heap.size j_1 hj_1) (cw_v 1 hts kw_593 kw_590 kw_592 kp_3 kw_1 rfl rfl (by decide +kernel) ⟨Nat.le_of_ble_eq_true rfl, Nat.le_of_ble_eq_true rfl⟩) ⟨fx_blind, va_recv hK hP (ci := 11) (q0 := 0) rfl rfl, fun U hU hW => fx_pre hU hW hP hK hD hev hNS hS hFc⟩ rfl rfl hl.1 rfl (lv_room (Nat.le_of_ble_eq_true rfl)) d_look_2 ⟨Nat.le_of_ble_eq_true rfl, Nat.le_of_ble_eq_true rfl⟩) hS (fun q _ h => hFc q h) hFc (fun r_4 u_5 t H1 locs ht hvm hw hB hz1 hk1 hS => ?_)
      obtain ⟨hP, -, hD1⟩ := hB
      rw [ht] at hP
      have hD := hD1.weaken (fun _ q _ h => hFc q.1 h)
      generalize H1 = H at hP hS ⊢
      refine W.cs (cells' := 0) (slots' := 0) rfl rfl ?_
      subst hw
      refine w_v (y := .ref (ad (18 + j_1))) rfl ?_
      refine lv_astore (lv' := [(4, .ref (ad (18 + j_1))), (0, .ref (ad 0)), (1, .int (nI j_1)), (2, .int a), (3, .int n)]) hx hb d_look_5 hl (by decide) rfl (fun ls hl => ?_)
      refine lv_iload_n hx hb d_look_7 rfl (lv_at hl 3 rfl) ?_
      refine lv_iconst (v := (-1)) hx hb d_look_8 (by decide) ?_
      refine lv_icmp_lt (tgt := 18) hx hb d_look_9 (by decide) (fun c_6 => ?_) (fun c_6 => ?_)
      · first | exact absurd hq (by simp [k_loo, c_2, c_3, c_6]) | (exfalso; simp_all [k_loo])
      · refine lv_iload_n hx hb d_look_12 rfl (lv_at hl 3 rfl) ?_
        refine lv_bipush (v := 8) hx hb d_look_13 (by decide) ?_
        refine lv_icmp_lt (tgt := 26) hx hb d_look_15 (by decide) (fun c_7 => ?_) (fun c_7 => ?_)
        · refine lv_null hx hb d_look_26 ?_
          refine lv_astoreN (lv' := [(5, .null), (4, .ref (ad (18 + j_1))), (0, .ref (ad 0)), (1, .int (nI j_1)), (2, .int a), (3, .int n)]) hx hb d_look_27 hl (by decide) rfl (fun ls hl => ?_)
          refine lv_iload_n hx hb d_look_29 rfl (lv_at hl 4 rfl) ?_
          refine lv_if_lt (tgt := 67) hx hb d_look_30 (by decide) (fun c_8 => ?_) (fun c_8 => ?_)
          · refine lv_aload hx hb d_look_67 (lv_at hl 1 rfl) ?_
            refine lv_aloadN hx hb d_look_69 (lv_at hl 0 rfl) ?_
            refine w_putS (D := D) (ci := 4) (v := .null) (ty := .object "JoinedTrees$Change") (C := R_Rp) (T := F_Rp) (N := 10) hx hb hts i_Rp t_Rp t_Rp_ok n_Rp hown hK hP hD hS (18 + j_1) (fx_rep ad ac u_5 j_1 hj_1) rfl 4 (by decide) (hts _ kw_216) (fun _ h9 => h9) rfl (by decide +kernel) rfl rfl (Nat.le_of_ble_eq_true rfl) rfl d_look_71 (fun H locs hP hD hS => ?_)
            refine lv_aload hx hb d_look_74 (lv_at hl 1 rfl) ?_
            have hFc := fr_all hD hS hA
            refine va_calli (va_runV (As := []) (rest := []) ⟨hx, hb, hml, hown, hts⟩ (c_civ l hfl D ad ac u_5 H.size j_1 hj_1) (cw_v 0 hts kw_1121 kw_1118 kw_1119 kw_1120 kw_5 rfl rfl (by decide +kernel) ⟨Nat.le_of_ble_eq_true rfl, Nat.le_of_ble_eq_true rfl⟩) ⟨fx_blind, va_recv hK hP (ci := 4) (q0 := (18 + j_1)) rfl (fx_rep ad ac u_5 j_1 hj_1), fun U hU hW => fx_pre hU hW hP hK hD hev hNS hS hFc⟩ rfl rfl hl.1 rfl (lv_room (Nat.le_of_ble_eq_true rfl)) d_look_76 ⟨Nat.le_of_ble_eq_true rfl, Nat.le_of_ble_eq_true rfl⟩) hS (fun q _ h => hFc q h) hFc (fun r_9 u_10 t H1 locs ht hvm hw hB hz1 hk1 hS => ?_)
            obtain ⟨hP, -, hD1⟩ := hB
            rw [ht] at hP
            have hD := hD1.weaken (fun _ q _ h => hFc q.1 h)
            generalize H1 = H at hP hS ⊢
            refine W.cs (cells' := 0) (slots' := 0) rfl rfl ?_
            subst hw
            exact W.iret (v := 0) hx hb hr (fun t ht hW => ⟨⟨0, (), rfl, rfl, trivial⟩, hS.F ht⟩) hS.2.2 d_look_79
          · refine lv_aload_n hx hb d_look_33 rfl (lv_at hl 2 rfl) ?_
            refine va_get (D := D) (ci := 11) (v := .ref (ad 1)) (C := R_JT) (T := F_JT) (N := 13) hx hb hts i_JT hown hK hP 0 rfl rfl 0 (by decide) (hts _ kw_421) (fun _ h9 => h9) rfl d_look_34 ?_
            refine lv_iload_n hx hb d_look_37 rfl (lv_at hl 4 rfl) ?_
            refine lv_iload_n hx hb d_look_38 rfl (lv_at hl 5 rfl) ?_
            have hFc := fr_all hD hS hA
            refine va_callq (va_runV (As := [.int a, .int n]) (rest := []) ⟨hx, hb, hml, hown, hts⟩ (c_chAt l hfl D ad ac u_5 H.size a n) (cw_v 2 hts kw_1079 kw_1076 kw_1077 kw_1078 kw_2 rfl rfl (by decide +kernel) ⟨Nat.le_of_ble_eq_true rfl, Nat.le_of_ble_eq_true rfl⟩) ⟨fx_blind, va_recv hK hP (ci := 8) (q0 := 1) rfl rfl, fun U hU hW => fx_pre hU hW hP hK hD hev hNS hS hFc⟩ rfl rfl hl.1 rfl (lv_room (Nat.le_of_ble_eq_true rfl)) d_look_39 ⟨Nat.le_of_ble_eq_true rfl, Nat.le_of_ble_eq_true rfl⟩) hS (fun q _ h => hFc q h) hFc (fun r_11 u_12 t H1 locs ht hvm hw hB hz1 hk1 hS => ?_)
            obtain ⟨hP, -, hD1⟩ := hB
            rw [ht] at hP
            have hD := hD1.weaken (fun _ q _ h => hFc q.1 h)
            generalize H1 = H at hP hS ⊢
            refine W.cs (cells' := 0) (slots' := 0) rfl rfl ?_
            subst hw
            refine w_v (y := .null) rfl ?_
            refine lv_astoreN (lv' := [(5, .null), (4, .ref (ad (18 + j_1))), (0, .ref (ad 0)), (1, .int (nI j_1)), (2, .int a), (3, .int n)]) hx hb d_look_42 hl (by decide) rfl (fun ls hl => ?_)
            refine lv_aloadN hx hb d_look_44 (lv_at hl 0 rfl) ?_
            refine lv_ifnullN (tgt := 59) hx hb d_look_46 (by decide) ?_
            first | exact absurd hq (by simp [k_loo, c_2, c_3, c_6, c_7, c_8]) | (exfalso; simp_all [k_loo])
        · first | exact absurd hq (by simp [k_loo, c_2, c_3, c_6, c_7]) | (exfalso; simp_all [k_loo])
    · first | exact absurd hq (by simp [k_loo, c_2, c_3]) | (exfalso; simp_all [k_loo])
theorem d_object_0 : decode prog_1_method_16_code 0 = .ok (.aload_n 0, 1) := by decide +kernel
theorem d_object_1 : decode prog_1_method_16_code 1 = .ok (.iload_n 1, 1) := by decide +kernel
theorem d_object_2 : decode prog_1_method_16_code 2 = .ok (.invokevirtual 105, 3) := by decide +kernel
theorem d_object_5 : decode prog_1_method_16_code 5 = .ok (.pop, 1) := by decide +kernel
theorem d_object_6 : decode prog_1_method_16_code 6 = .ok (.iload_n 3, 1) := by decide +kernel
theorem d_object_7 : decode prog_1_method_16_code 7 = .ok (.ifCond .lt 8, 3) := by decide +kernel
theorem d_object_15 : decode prog_1_method_16_code 15 = .ok (.new 93, 3) := by decide +kernel
theorem d_object_18 : decode prog_1_method_16_code 18 = .ok (.dup, 1) := by decide +kernel
theorem d_object_19 : decode prog_1_method_16_code 19 = .ok (.invokespecial 95, 3) := by decide +kernel
theorem d_object_22 : decode prog_1_method_16_code 22 = .ok (.athrow, 1) := by decide +kernel
theorem d_object_10 : decode prog_1_method_16_code 10 = .ok (.iload_n 3, 1) := by decide +kernel
theorem d_object_11 : decode prog_1_method_16_code 11 = .ok (.iconst 1, 1) := by decide +kernel
theorem d_object_12 : decode prog_1_method_16_code 12 = .ok (.if_icmp .le 11, 3) := by decide +kernel
theorem d_object_23 : decode prog_1_method_16_code 23 = .ok (.aload_n 0, 1) := by decide +kernel
theorem d_object_24 : decode prog_1_method_16_code 24 = .ok (.iload_n 2, 1) := by decide +kernel
theorem d_object_25 : decode prog_1_method_16_code 25 = .ok (.invokevirtual 168, 3) := by decide +kernel
theorem d_object_28 : decode prog_1_method_16_code 28 = .ok (.astore 4, 2) := by decide +kernel
theorem d_object_30 : decode prog_1_method_16_code 30 = .ok (.iload_n 3, 1) := by decide +kernel
theorem d_object_31 : decode prog_1_method_16_code 31 = .ok (.ifCond .ne 11, 3) := by decide +kernel
theorem d_object_42 : decode prog_1_method_16_code 42 = .ok (.aload_n 0, 1) := by decide +kernel
theorem d_object_43 : decode prog_1_method_16_code 43 = .ok (.getfield 30, 3) := by decide +kernel
theorem d_object_46 : decode prog_1_method_16_code 46 = .ok (.aload 4, 2) := by decide +kernel
theorem d_object_48 : decode prog_1_method_16_code 48 = .ok (.invokevirtual 174, 3) := by decide +kernel
theorem d_object_34 : decode prog_1_method_16_code 34 = .ok (.aload 4, 2) := by decide +kernel
theorem d_object_36 : decode prog_1_method_16_code 36 = .ok (.getfield 171, 3) := by decide +kernel
theorem d_object_39 : decode prog_1_method_16_code 39 = .ok (.goto 12, 3) := by decide +kernel
set_option maxHeartbeats 4000000 in
set_option maxRecDepth 100000 in
theorem c_object_1 (l : Launch) (hfl : l.flags = flags0) (D : va_G) (ad : Nat → Nat) (ac : Nat → ClassId) (ck : Nat → Int32) (sz : Nat) (r o w : Int32) (hq : k_obj r o w = 1) : MeT l ⟨"JoinedTrees", "object", "(III)I"⟩ (Cond.code ⟨"JoinedTrees", "object", "(III)I"⟩ prog_1_method_16_code 5 (some .int) :: gb) ({ frames := 7, cells := 1, slots := 6, locals := 117 }) (fxPc D ad ac ck sz [.ref (ad 0), .int r, .int o, .int w]) e_IA (va_A (fxW ad ac ck) sz) 1 6 := by
  refine MeT.ofW (cc := prog_1_method_16_code) (maxL := 5) (ret := (some .int)) (by decide) rfl ?_
  intro p e s m args below meth c s₁ B hml hno hv
  obtain ⟨rfl, hsz, hP, hK, hD0, hev⟩ := hv
  have hx := B.exec
  have hb := B.bytes
  have hr := B.returns
  have hts : ∀ w9 ∈ gb, w9.before [.ref (ad 0), .int r, .int o, .int w].toArray s = true := fun w9 h => atoms_spec (ws := Cond.code ⟨"JoinedTrees", "object", "(III)I"⟩ prog_1_method_16_code 5 (some .int) :: gb) B.pre w9 (List.mem_cons_of_mem _ h)
  have hown : s.vm.findClass "JoinedTrees" = some m.cls := findClass_of_methodNamed B.named
  have hlocks := B.notSynchronized
  subst hsz
  have hNS := ns_of hP
  have hD := hD0.self (sz := s.heap.size)
  generalize hAe : va_A (fxW ad ac ck) s.heap.size = A at hD hev hNS ⊢
  have hA : ∀ q : Nat, s.heap.size ≤ q → A q := fun q h => by rw [← hAe]; exact Or.inr h
  have hS : va_S A s.heap s.heap [] := va_S.rf
  have hP : va_P D cls (fxW ad ac ck) s.heap := hP
  have hl := lv_entry ([.ref (ad 0), .int r, .int o, .int w]) (n := 5) (Nat.le_of_ble_eq_true rfl)
  rw [lg_entry_eq]
  generalize (lg_sl ([.ref (ad 0), .int r, .int o, .int w]) ++ List.replicate (5 - (lg_sl ([.ref (ad 0), .int r, .int o, .int w])).length) Slot.unset).toArray = ls at hl ⊢
  have hl : lv_has ls 5 [(0, .ref (ad 0)), (1, .int r), (2, .int o), (3, .int w)] := hl
  refine lv_aload_n hx hb d_object_0 rfl (lv_at hl 0 rfl) ?_
  refine lv_iload_n hx hb d_object_1 rfl (lv_at hl 1 rfl) ?_
  by_cases c_2 : r < 0
  · have hFc := fr_all hD hS hA
    exact tx_on (tx_runV (As := [.int r]) (rest := []) ⟨hx, hb, hml, hown, hts⟩ (c_shown_T l hfl D ad ac ck s.heap.size r (Or.inl c_2)) (cw_v 1 hts kw_593 kw_590 kw_592 kp_3 kw_1 rfl rfl (by decide +kernel) ⟨Nat.le_of_ble_eq_true rfl, Nat.le_of_ble_eq_true rfl⟩) ⟨fx_blind, va_recv hK hP (ci := 11) (q0 := 0) rfl rfl, fun U hU hW => fx_pre hU hW hP hK hD hev hNS hS hFc⟩ rfl rfl hl.1 rfl (lv_room (Nat.le_of_ble_eq_true rfl)) d_object_2 ⟨Nat.le_of_ble_eq_true rfl, Nat.le_of_ble_eq_true rfl⟩) hno hlocks hS hFc
  · by_cases c_3 : r < 8
    · obtain ⟨j_1, hj_1, rfl⟩ := of8 c_2 c_3
      have hFc := fr_all hD hS hA
      refine va_callq (va_runV (As := [.int (nI j_1)]) (rest := []) ⟨hx, hb, hml, hown, hts⟩ (c_shown l hfl D ad ac ck s.heap.size j_1 hj_1) (cw_v 1 hts kw_593 kw_590 kw_592 kp_3 kw_1 rfl rfl (by decide +kernel) ⟨Nat.le_of_ble_eq_true rfl, Nat.le_of_ble_eq_true rfl⟩) ⟨fx_blind, va_recv hK hP (ci := 11) (q0 := 0) rfl rfl, fun U hU hW => fx_pre hU hW hP hK hD hev hNS hS hFc⟩ rfl rfl hl.1 rfl (lv_room (Nat.le_of_ble_eq_true rfl)) d_object_2 ⟨Nat.le_of_ble_eq_true rfl, Nat.le_of_ble_eq_true rfl⟩) hS (fun q _ h => hFc q h) hFc (fun r_4 u_5 t H1 locs ht hvm hw hB hz1 hk1 hS => ?_)
      obtain ⟨hP, -, hD1⟩ := hB
      rw [ht] at hP
      have hD := hD1.weaken (fun _ q _ h => hFc q.1 h)
      generalize H1 = H at hP hS ⊢
      refine W.cs (cells' := 0) (slots' := 0) rfl rfl ?_
      subst hw
      refine w_v (y := .ref (ad (18 + j_1))) rfl ?_
      refine lv_pop hx hb d_object_5 rfl ?_
      refine lv_iload_n hx hb d_object_6 rfl (lv_at hl 3 rfl) ?_
      refine lv_if_lt (tgt := 15) hx hb d_object_7 (by decide) (fun c_6 => ?_) (fun c_6 => ?_)
      · exact tx_throw (own := "JoinedTrees") (E := e_IA) (names := at_n) (ia := 93) (ic := 95) hfl hx hb hno hlocks hown (by decide +kernel) (by decide +kernel) (hev.atoms hts hev.2.2.2.2.2.1.1 at_IA) (hts _ kw_558) (hts _ kw_16) d_object_15 d_object_18 d_object_19 d_object_22 (hl.1.trans hml.symm) hS hA hNS (Nat.le_of_ble_eq_true rfl) (Nat.le_of_ble_eq_true rfl) (Nat.le_of_ble_eq_true rfl) (Nat.le_of_ble_eq_true rfl)
      · refine lv_iload_n hx hb d_object_10 rfl (lv_at hl 3 rfl) ?_
        refine lv_iconst (v := 1) hx hb d_object_11 (by decide) ?_
        refine lv_icmp_le (tgt := 23) hx hb d_object_12 (by decide) (fun c_7 => ?_) (fun c_7 => ?_)
        · refine lv_aload_n hx hb d_object_23 rfl (lv_at hl 0 rfl) ?_
          refine lv_iload_n hx hb d_object_24 rfl (lv_at hl 2 rfl) ?_
          by_cases c_8 : o = 0
          · subst c_8
            have hFc := fr_all hD hS hA
            refine va_callq (va_runV (As := [.int 0]) (rest := []) ⟨hx, hb, hml, hown, hts⟩ (c_objAt0 l hfl D ad ac u_5 H.size) (cw_v 1 hts kw_616 kw_613 kw_615 kp_7 kw_1 rfl rfl (by decide +kernel) ⟨Nat.le_of_ble_eq_true rfl, Nat.le_of_ble_eq_true rfl⟩) ⟨fx_blind, va_recv hK hP (ci := 11) (q0 := 0) rfl rfl, fun U hU hW => fx_pre hU hW hP hK hD hev hNS hS hFc⟩ rfl rfl hl.1 rfl (lv_room (Nat.le_of_ble_eq_true rfl)) d_object_25 ⟨Nat.le_of_ble_eq_true rfl, Nat.le_of_ble_eq_true rfl⟩) hS (fun q _ h => hFc q h) hFc (fun r_9 u_10 t H1 locs ht hvm hw hB hz1 hk1 hS => ?_)
            obtain ⟨hP, -, hD1⟩ := hB
            rw [ht] at hP
            have hD := hD1.weaken (fun _ q _ h => hFc q.1 h)
            generalize H1 = H at hP hS ⊢
            refine W.cs (cells' := 0) (slots' := 0) rfl rfl ?_
            subst hw
            refine w_v (y := .ref (ad 5)) rfl ?_
            refine lv_astore (lv' := [(4, .ref (ad 5)), (0, .ref (ad 0)), (1, .int (nI j_1)), (2, .int 0), (3, .int w)]) hx hb d_object_28 hl (by decide) rfl (fun ls hl => ?_)
            refine lv_iload_n hx hb d_object_30 rfl (lv_at hl 4 rfl) ?_
            refine lv_if_ne (tgt := 42) hx hb d_object_31 (by decide) (fun c_11 => ?_) (fun c_11 => ?_)
            · refine lv_aload_n hx hb d_object_42 rfl (lv_at hl 1 rfl) ?_
              refine va_get (D := D) (ci := 11) (v := .ref (ad 3)) (C := R_JT) (T := F_JT) (N := 13) hx hb hts i_JT hown hK hP 0 rfl rfl 2 (by decide) (hts _ kw_423) (fun _ h9 => h9) rfl d_object_43 ?_
              refine lv_aload hx hb d_object_46 (lv_at hl 0 rfl) ?_
              have hFc := fr_all hD hS hA
              refine va_calli (va_runV (As := [.ref (ad 5)]) (rest := []) ⟨hx, hb, hml, hown, hts⟩ (c_fillI l hfl D ad ac u_10 H.size) (cw_v 1 hts kw_819 kw_816 kw_817 kw_818 kw_6 rfl rfl (by decide +kernel) ⟨Nat.le_of_ble_eq_true rfl, Nat.le_of_ble_eq_true rfl⟩) ⟨fx_blind, va_recv hK hP (ci := 10) (q0 := 3) rfl rfl, fun U hU hW => fx_pre hU hW hP hK hD hev hNS hS hFc⟩ rfl rfl hl.1 rfl (lv_room (Nat.le_of_ble_eq_true rfl)) d_object_48 ⟨Nat.le_of_ble_eq_true rfl, Nat.le_of_ble_eq_true rfl⟩) hS (fun q _ h => hFc q h) hFc (fun r_12 u_13 t H1 locs ht hvm hw hB hz1 hk1 hS => ?_)
              obtain ⟨hP, -, hD1⟩ := hB
              rw [ht] at hP
              have hD := hD1.weaken (fun _ q _ h => hFc q.1 h)
              generalize H1 = H at hP hS ⊢
              refine W.cs (cells' := 0) (slots' := 0) rfl rfl ?_
              subst hw
              first | exact absurd hq (by simp [k_obj, c_2, c_3, c_6, c_7, c_11]) | (exfalso; simp_all [k_obj])
            · refine lv_aload hx hb d_object_34 (lv_at hl 0 rfl) ?_
              refine va_get (D := D) (ci := 3) (v := .int 6) (C := R_Op) (T := F_Op) (N := 15) hx hb hts i_Op hown hK hP 5 rfl rfl 2 (by decide) (hts _ kw_62) (fun _ h9 => h9) rfl d_object_36 ?_
              refine lv_goto (tgt := 51) hx hb d_object_39 (by decide) ?_
              first | exact absurd hq (by simp [k_obj, c_2, c_3, c_6, c_7, c_11]) | (exfalso; simp_all [k_obj])
          · first | exact absurd hq (by simp [k_obj, c_2, c_3, c_6, c_7, c_8]) | (exfalso; simp_all [k_obj])
        · exact tx_throw (own := "JoinedTrees") (E := e_IA) (names := at_n) (ia := 93) (ic := 95) hfl hx hb hno hlocks hown (by decide +kernel) (by decide +kernel) (hev.atoms hts hev.2.2.2.2.2.1.1 at_IA) (hts _ kw_558) (hts _ kw_16) d_object_15 d_object_18 d_object_19 d_object_22 (hl.1.trans hml.symm) hS hA hNS (Nat.le_of_ble_eq_true rfl) (Nat.le_of_ble_eq_true rfl) (Nat.le_of_ble_eq_true rfl) (Nat.le_of_ble_eq_true rfl)
    · have hFc := fr_all hD hS hA
      exact tx_on (tx_runV (As := [.int r]) (rest := []) ⟨hx, hb, hml, hown, hts⟩ (c_shown_T l hfl D ad ac ck s.heap.size r (Or.inr c_3)) (cw_v 1 hts kw_593 kw_590 kw_592 kp_3 kw_1 rfl rfl (by decide +kernel) ⟨Nat.le_of_ble_eq_true rfl, Nat.le_of_ble_eq_true rfl⟩) ⟨fx_blind, va_recv hK hP (ci := 11) (q0 := 0) rfl rfl, fun U hU hW => fx_pre hU hW hP hK hD hev hNS hS hFc⟩ rfl rfl hl.1 rfl (lv_room (Nat.le_of_ble_eq_true rfl)) d_object_2 ⟨Nat.le_of_ble_eq_true rfl, Nat.le_of_ble_eq_true rfl⟩) hno hlocks hS hFc
set_option maxHeartbeats 4000000 in
set_option maxRecDepth 100000 in
theorem c_object_2 (l : Launch) (hfl : l.flags = flags0) (D : va_G) (ad : Nat → Nat) (ac : Nat → ClassId) (ck : Nat → Int32) (sz : Nat) (r o w : Int32) (hq : k_obj r o w = 2) : MeT l ⟨"JoinedTrees", "object", "(III)I"⟩ (Cond.code ⟨"JoinedTrees", "object", "(III)I"⟩ prog_1_method_16_code 5 (some .int) :: gb) ({ frames := 7, cells := 1, slots := 6, locals := 118 }) (fxPc D ad ac ck sz [.ref (ad 0), .int r, .int o, .int w]) e_NE (va_A (fxW ad ac ck) sz) 1 6 := by
  refine MeT.ofW (cc := prog_1_method_16_code) (maxL := 5) (ret := (some .int)) (by decide) rfl ?_
  intro p e s m args below meth c s₁ B hml hno hv
  obtain ⟨rfl, hsz, hP, hK, hD0, hev⟩ := hv
  have hx := B.exec
  have hb := B.bytes
  have hr := B.returns
  have hts : ∀ w9 ∈ gb, w9.before [.ref (ad 0), .int r, .int o, .int w].toArray s = true := fun w9 h => atoms_spec (ws := Cond.code ⟨"JoinedTrees", "object", "(III)I"⟩ prog_1_method_16_code 5 (some .int) :: gb) B.pre w9 (List.mem_cons_of_mem _ h)
  have hown : s.vm.findClass "JoinedTrees" = some m.cls := findClass_of_methodNamed B.named
  have hlocks := B.notSynchronized
  subst hsz
  have hNS := ns_of hP
  have hD := hD0.self (sz := s.heap.size)
  generalize hAe : va_A (fxW ad ac ck) s.heap.size = A at hD hev hNS ⊢
  have hA : ∀ q : Nat, s.heap.size ≤ q → A q := fun q h => by rw [← hAe]; exact Or.inr h
  have hS : va_S A s.heap s.heap [] := va_S.rf
  have hP : va_P D cls (fxW ad ac ck) s.heap := hP
  have hl := lv_entry ([.ref (ad 0), .int r, .int o, .int w]) (n := 5) (Nat.le_of_ble_eq_true rfl)
  rw [lg_entry_eq]
  generalize (lg_sl ([.ref (ad 0), .int r, .int o, .int w]) ++ List.replicate (5 - (lg_sl ([.ref (ad 0), .int r, .int o, .int w])).length) Slot.unset).toArray = ls at hl ⊢
  have hl : lv_has ls 5 [(0, .ref (ad 0)), (1, .int r), (2, .int o), (3, .int w)] := hl
  refine lv_aload_n hx hb d_object_0 rfl (lv_at hl 0 rfl) ?_
  refine lv_iload_n hx hb d_object_1 rfl (lv_at hl 1 rfl) ?_
  by_cases c_2 : r < 0
  · first | exact absurd hq (by simp [k_obj, c_2]) | (exfalso; simp_all [k_obj])
  · by_cases c_3 : r < 8
    · obtain ⟨j_1, hj_1, rfl⟩ := of8 c_2 c_3
      have hFc := fr_all hD hS hA
      refine va_callq (va_runV (As := [.int (nI j_1)]) (rest := []) ⟨hx, hb, hml, hown, hts⟩ (c_shown l hfl D ad ac ck s.heap.size j_1 hj_1) (cw_v 1 hts kw_593 kw_590 kw_592 kp_3 kw_1 rfl rfl (by decide +kernel) ⟨Nat.le_of_ble_eq_true rfl, Nat.le_of_ble_eq_true rfl⟩) ⟨fx_blind, va_recv hK hP (ci := 11) (q0 := 0) rfl rfl, fun U hU hW => fx_pre hU hW hP hK hD hev hNS hS hFc⟩ rfl rfl hl.1 rfl (lv_room (Nat.le_of_ble_eq_true rfl)) d_object_2 ⟨Nat.le_of_ble_eq_true rfl, Nat.le_of_ble_eq_true rfl⟩) hS (fun q _ h => hFc q h) hFc (fun r_4 u_5 t H1 locs ht hvm hw hB hz1 hk1 hS => ?_)
      obtain ⟨hP, -, hD1⟩ := hB
      rw [ht] at hP
      have hD := hD1.weaken (fun _ q _ h => hFc q.1 h)
      generalize H1 = H at hP hS ⊢
      refine W.cs (cells' := 0) (slots' := 0) rfl rfl ?_
      subst hw
      refine w_v (y := .ref (ad (18 + j_1))) rfl ?_
      refine lv_pop hx hb d_object_5 rfl ?_
      refine lv_iload_n hx hb d_object_6 rfl (lv_at hl 3 rfl) ?_
      refine lv_if_lt (tgt := 15) hx hb d_object_7 (by decide) (fun c_6 => ?_) (fun c_6 => ?_)
      · first | exact absurd hq (by simp [k_obj, c_2, c_3, c_6]) | (exfalso; simp_all [k_obj])
      · refine lv_iload_n hx hb d_object_10 rfl (lv_at hl 3 rfl) ?_
        refine lv_iconst (v := 1) hx hb d_object_11 (by decide) ?_
        refine lv_icmp_le (tgt := 23) hx hb d_object_12 (by decide) (fun c_7 => ?_) (fun c_7 => ?_)
        · refine lv_aload_n hx hb d_object_23 rfl (lv_at hl 0 rfl) ?_
          refine lv_iload_n hx hb d_object_24 rfl (lv_at hl 2 rfl) ?_
          by_cases c_8 : o = 0
          · subst c_8
            have hFc := fr_all hD hS hA
            refine va_callq (va_runV (As := [.int 0]) (rest := []) ⟨hx, hb, hml, hown, hts⟩ (c_objAt0 l hfl D ad ac u_5 H.size) (cw_v 1 hts kw_616 kw_613 kw_615 kp_7 kw_1 rfl rfl (by decide +kernel) ⟨Nat.le_of_ble_eq_true rfl, Nat.le_of_ble_eq_true rfl⟩) ⟨fx_blind, va_recv hK hP (ci := 11) (q0 := 0) rfl rfl, fun U hU hW => fx_pre hU hW hP hK hD hev hNS hS hFc⟩ rfl rfl hl.1 rfl (lv_room (Nat.le_of_ble_eq_true rfl)) d_object_25 ⟨Nat.le_of_ble_eq_true rfl, Nat.le_of_ble_eq_true rfl⟩) hS (fun q _ h => hFc q h) hFc (fun r_9 u_10 t H1 locs ht hvm hw hB hz1 hk1 hS => ?_)
            obtain ⟨hP, -, hD1⟩ := hB
            rw [ht] at hP
            have hD := hD1.weaken (fun _ q _ h => hFc q.1 h)
            generalize H1 = H at hP hS ⊢
            refine W.cs (cells' := 0) (slots' := 0) rfl rfl ?_
            subst hw
            refine w_v (y := .ref (ad 5)) rfl ?_
            refine lv_astore (lv' := [(4, .ref (ad 5)), (0, .ref (ad 0)), (1, .int (nI j_1)), (2, .int 0), (3, .int w)]) hx hb d_object_28 hl (by decide) rfl (fun ls hl => ?_)
            refine lv_iload_n hx hb d_object_30 rfl (lv_at hl 4 rfl) ?_
            refine lv_if_ne (tgt := 42) hx hb d_object_31 (by decide) (fun c_11 => ?_) (fun c_11 => ?_)
            · refine lv_aload_n hx hb d_object_42 rfl (lv_at hl 1 rfl) ?_
              refine va_get (D := D) (ci := 11) (v := .ref (ad 3)) (C := R_JT) (T := F_JT) (N := 13) hx hb hts i_JT hown hK hP 0 rfl rfl 2 (by decide) (hts _ kw_423) (fun _ h9 => h9) rfl d_object_43 ?_
              refine lv_aload hx hb d_object_46 (lv_at hl 0 rfl) ?_
              have hFc := fr_all hD hS hA
              refine va_calli (va_runV (As := [.ref (ad 5)]) (rest := []) ⟨hx, hb, hml, hown, hts⟩ (c_fillI l hfl D ad ac u_10 H.size) (cw_v 1 hts kw_819 kw_816 kw_817 kw_818 kw_6 rfl rfl (by decide +kernel) ⟨Nat.le_of_ble_eq_true rfl, Nat.le_of_ble_eq_true rfl⟩) ⟨fx_blind, va_recv hK hP (ci := 10) (q0 := 3) rfl rfl, fun U hU hW => fx_pre hU hW hP hK hD hev hNS hS hFc⟩ rfl rfl hl.1 rfl (lv_room (Nat.le_of_ble_eq_true rfl)) d_object_48 ⟨Nat.le_of_ble_eq_true rfl, Nat.le_of_ble_eq_true rfl⟩) hS (fun q _ h => hFc q h) hFc (fun r_12 u_13 t H1 locs ht hvm hw hB hz1 hk1 hS => ?_)
              obtain ⟨hP, -, hD1⟩ := hB
              rw [ht] at hP
              have hD := hD1.weaken (fun _ q _ h => hFc q.1 h)
              generalize H1 = H at hP hS ⊢
              refine W.cs (cells' := 0) (slots' := 0) rfl rfl ?_
              subst hw
              first | exact absurd hq (by simp [k_obj, c_2, c_3, c_6, c_7, c_11]) | (exfalso; simp_all [k_obj])
            · refine lv_aload hx hb d_object_34 (lv_at hl 0 rfl) ?_
              refine va_get (D := D) (ci := 3) (v := .int 6) (C := R_Op) (T := F_Op) (N := 15) hx hb hts i_Op hown hK hP 5 rfl rfl 2 (by decide) (hts _ kw_62) (fun _ h9 => h9) rfl d_object_36 ?_
              refine lv_goto (tgt := 51) hx hb d_object_39 (by decide) ?_
              first | exact absurd hq (by simp [k_obj, c_2, c_3, c_6, c_7, c_11]) | (exfalso; simp_all [k_obj])
          · have hFc := fr_all hD hS hA
            exact tx_on (tx_runV (As := [.int o]) (rest := []) ⟨hx, hb, hml, hown, hts⟩ (c_objAtN l hfl D ad ac u_5 H.size o c_8) (cw_v 1 hts kw_616 kw_613 kw_615 kp_7 kw_1 rfl rfl (by decide +kernel) ⟨Nat.le_of_ble_eq_true rfl, Nat.le_of_ble_eq_true rfl⟩) ⟨fx_blind, va_recv hK hP (ci := 11) (q0 := 0) rfl rfl, fun U hU hW => fx_pre hU hW hP hK hD hev hNS hS hFc⟩ rfl rfl hl.1 rfl (lv_room (Nat.le_of_ble_eq_true rfl)) d_object_25 ⟨Nat.le_of_ble_eq_true rfl, Nat.le_of_ble_eq_true rfl⟩) hno hlocks hS hFc
        · first | exact absurd hq (by simp [k_obj, c_2, c_3, c_6, c_7]) | (exfalso; simp_all [k_obj])
    · first | exact absurd hq (by simp [k_obj, c_2, c_3]) | (exfalso; simp_all [k_obj])
