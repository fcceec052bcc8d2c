theorem d_object_51 : decode prog_1_method_16_code 51 = .ok (.ireturn, 1) := by decide +kernel
set_option maxHeartbeats 4000000 in
set_option maxRecDepth 100000 in
theorem c_object_0 (l : Launch) (hfl : l.flags = flags0) (D : va_G) (ad : Nat → Nat) (ac : Nat → ClassId) (ck : Nat → Int32) (sz : Nat) (r o w : Int32) (hq : k_obj r o w = 0) : Met l ⟨"JoinedTrees", "object", "(III)I"⟩ (Cond.code ⟨"JoinedTrees", "object", "(III)I"⟩ prog_1_method_16_code 5 (some .int) :: gb) ({ frames := 3, cells := 0, slots := 0, locals := 103 }) (fxPc D ad ac ck sz [.ref (ad 0), .int r, .int o, .int w]) (va_Qi (fun (r : Int32) (_ : Unit) => r = (if w = 0 then 6 else 0)) (fun _ _ => True) (va_A (fxW ad ac ck) sz)) 0 0 (va_A (fxW ad ac ck) sz) := by
  refine Met.ofW (cc := prog_1_method_16_code) (maxL := 5) (ret := (some .int)) (by decide) rfl ?_
  intro p e s m args below meth c s₁ B hml hv
  obtain ⟨rfl, hsz, hP, hK, hD0, hev⟩ := hv
  have hx := B.exec
  have hb := B.bytes
  have hr := B.returns
  have hts : ∀ w9 ∈ gb, w9.before [.ref (ad 0), .int r, .int o, .int w].toArray s = true := fun w9 h => atoms_spec (ws := Cond.code ⟨"JoinedTrees", "object", "(III)I"⟩ prog_1_method_16_code 5 (some .int) :: gb) B.pre w9 (List.mem_cons_of_mem _ h)
  have hown : s.vm.findClass "JoinedTrees" = some m.cls := findClass_of_methodNamed B.named
  have hlocks := B.notSynchronized
  subst hsz
  have hNS := ns_of hP
  have hD := hD0.self (sz := s.heap.size)
  generalize hAe : va_A (fxW ad ac ck) s.heap.size = A at hD hev hNS ⊢
  have hA : ∀ q : Nat, s.heap.size ≤ q → A q := fun q h => by rw [← hAe]; exact Or.inr h
  have hS : va_S A s.heap s.heap [] := va_S.rf
  have hP : va_P D cls (fxW ad ac ck) s.heap := hP
  have hl := lv_entry ([.ref (ad 0), .int r, .int o, .int w]) (n := 5) (Nat.le_of_ble_eq_true rfl)
  rw [lg_entry_eq]
  generalize (lg_sl ([.ref (ad 0), .int r, .int o, .int w]) ++ List.replicate (5 - (lg_sl ([.ref (ad 0), .int r, .int o, .int w])).length) Slot.unset).toArray = ls at hl ⊢
  have hl : lv_has ls 5 [(0, .ref (ad 0)), (1, .int r), (2, .int o), (3, .int w)] := hl
  refine lv_aload_n hx hb d_object_0 rfl (lv_at hl 0 rfl) ?_
  refine lv_iload_n hx hb d_object_1 rfl (lv_at hl 1 rfl) ?_
  by_cases c_2 : r < 0
  · first | exact absurd hq (by simp [k_obj, c_2]) | (exfalso; simp_all [k_obj])
  · by_cases c_3 : r < 8
    · obtain ⟨j_1, hj_1, rfl⟩ := of8 c_2 c_3
      have hFc := fr_all hD hS hA
      refine va_callq (va_runV (As := [.int (nI j_1)]) (rest := []) ⟨hx, hb, hml, hown, hts⟩ (c_shown l hfl D ad ac ck s.heap.size j_1 hj_1) (cw_v 1 hts kw_593 kw_590 kw_592 kp_3 kw_1 rfl rfl (by decide +kernel) ⟨Nat.le_of_ble_eq_true rfl, Nat.le_of_ble_eq_true rfl⟩) ⟨fx_blind, va_recv hK hP (ci := 11) (q0 := 0) rfl rfl, fun U hU hW => fx_pre hU hW hP hK hD hev hNS hS hFc⟩ rfl rfl hl.1 rfl (lv_room (Nat.le_of_ble_eq_true rfl)) d_object_2 ⟨Nat.le_of_ble_eq_true rfl, Nat.le_of_ble_eq_true rfl⟩) hS (fun q _ h => hFc q h) hFc (fun r_4 u_5 t H1 locs ht hvm hw hB hz1 hk1 hS => ?_)
      obtain ⟨hP, -, hD1⟩ := hB
      rw [ht] at hP
      have hD := hD1.weaken (fun _ q _ h => hFc q.1 h)
      generalize H1 = H at hP hS ⊢
      refine W.cs (cells' := 0) (slots' := 0) rfl rfl ?_
      subst hw
      refine w_v (y := .ref (ad (18 + j_1))) rfl ?_
      refine lv_pop hx hb d_object_5 rfl ?_
      refine lv_iload_n hx hb d_object_6 rfl (lv_at hl 3 rfl) ?_
      refine lv_if_lt (tgt := 15) hx hb d_object_7 (by decide) (fun c_6 => ?_) (fun c_6 => ?_)
      · first | exact absurd hq (by simp [k_obj, c_2, c_3, c_6]) | (exfalso; simp_all [k_obj])
      · refine lv_iload_n hx hb d_object_10 rfl (lv_at hl 3 rfl) ?_
        refine lv_iconst (v := 1) hx hb d_object_11 (by decide) ?_
        refine lv_icmp_le (tgt := 23) hx hb d_object_12 (by decide) (fun c_7 => ?_) (fun c_7 => ?_)
        · refine lv_aload_n hx hb d_object_23 rfl (lv_at hl 0 rfl) ?_
          refine lv_iload_n hx hb d_object_24 rfl (lv_at hl 2 rfl) ?_
          by_cases c_8 : o = 0
          · subst c_8
            have hFc := fr_all hD hS hA
            refine va_callq (va_runV (As := [.int 0]) (rest := []) ⟨hx, hb, hml, hown, hts⟩ (c_objAt0 l hfl D ad ac u_5 H.size) (cw_v 1 hts kw_616 kw_613 kw_615 kp_7 kw_1 rfl rfl (by decide +kernel) ⟨Nat.le_of_ble_eq_true rfl, Nat.le_of_ble_eq_true rfl⟩) ⟨fx_blind, va_recv hK hP (ci := 11) (q0 := 0) rfl rfl, fun U hU hW => fx_pre hU hW hP hK hD hev hNS hS hFc⟩ rfl rfl hl.1 rfl (lv_room (Nat.le_of_ble_eq_true rfl)) d_object_25 ⟨Nat.le_of_ble_eq_true rfl, Nat.le_of_ble_eq_true rfl⟩) hS (fun q _ h => hFc q h) hFc (fun r_9 u_10 t H1 locs ht hvm hw hB hz1 hk1 hS => ?_)
            obtain ⟨hP, -, hD1⟩ := hB
            rw [ht] at hP
            have hD := hD1.weaken (fun _ q _ h => hFc q.1 h)
            generalize H1 = H at hP hS ⊢
            refine W.cs (cells' := 0) (slots' := 0) rfl rfl ?_
            subst hw
            refine w_v (y := .ref (ad 5)) rfl ?_
            refine lv_astore (lv' := [(4, .ref (ad 5)), (0, .ref (ad 0)), (1, .int (nI j_1)), (2, .int 0), (3, .int w)]) hx hb d_object_28 hl (by decide) rfl (fun ls hl => ?_)
            refine lv_iload_n hx hb d_object_30 rfl (lv_at hl 4 rfl) ?_
            refine lv_if_ne (tgt := 42) hx hb d_object_31 (by decide) (fun c_11 => ?_) (fun c_11 => ?_)
            · refine lv_aload_n hx hb d_object_42 rfl (lv_at hl 1 rfl) ?_
              refine va_get (D := D) (ci := 11) (v := .ref (ad 3)) (C := R_JT) (T := F_JT) (N := 13) hx hb hts i_JT hown hK hP 0 rfl rfl 2 (by decide) (hts _ kw_423) (fun _ h9 => h9) rfl d_object_43 ?_
              refine lv_aload hx hb d_object_46 (lv_at hl 0 rfl) ?_
              have hFc := fr_all hD hS hA
              refine va_calli (va_runV (As := [.ref (ad 5)]) (rest := []) ⟨hx, hb, hml, hown, hts⟩ (c_fillI l hfl D ad ac u_10 H.size) (cw_v 1 hts kw_819 kw_816 kw_817 kw_818 kw_6 rfl rfl (by decide +kernel) ⟨Nat.le_of_ble_eq_true rfl, Nat.le_of_ble_eq_true rfl⟩) ⟨fx_blind, va_recv hK hP (ci := 10) (q0 := 3) rfl rfl, fun U hU hW => fx_pre hU hW hP hK hD hev hNS hS hFc⟩ rfl rfl hl.1 rfl (lv_room (Nat.le_of_ble_eq_true rfl)) d_object_48 ⟨Nat.le_of_ble_eq_true rfl, Nat.le_of_ble_eq_true rfl⟩) hS (fun q _ h => hFc q h) hFc (fun r_12 u_13 t H1 locs ht hvm hw hB hz1 hk1 hS => ?_)
              obtain ⟨hP, -, hD1⟩ := hB
              rw [ht] at hP
              have hD := hD1.weaken (fun _ q _ h => hFc q.1 h)
              generalize H1 = H at hP hS ⊢
              refine W.cs (cells' := 0) (slots' := 0) rfl rfl ?_
              subst hw
              exact W.iret (v := 0) hx hb hr (fun t ht hW => ⟨⟨0, (), rfl, (by simp_all), trivial⟩, hS.F ht⟩) hS.2.2 d_object_51
            · refine lv_aload hx hb d_object_34 (lv_at hl 0 rfl) ?_
              refine va_get (D := D) (ci := 3) (v := .int 6) (C := R_Op) (T := F_Op) (N := 15) hx hb hts i_Op hown hK hP 5 rfl rfl 2 (by decide) (hts _ kw_62) (fun _ h9 => h9) rfl d_object_36 ?_
              refine lv_goto (tgt := 51) hx hb d_object_39 (by decide) ?_
              exact W.iret (v := 6) hx hb hr (fun t ht hW => ⟨⟨6, (), rfl, (by simp_all), trivial⟩, hS.F ht⟩) hS.2.2 d_object_51
          · first | exact absurd hq (by simp [k_obj, c_2, c_3, c_6, c_7, c_8]) | (exfalso; simp_all [k_obj])
        · first | exact absurd hq (by simp [k_obj, c_2, c_3, c_6, c_7]) | (exfalso; simp_all [k_obj])
    · first | exact absurd hq (by simp [k_obj, c_2, c_3]) | (exfalso; simp_all [k_obj])
theorem d_key_0 : decode prog_1_method_17_code 0 = .ok (.aload_n 0, 1) := by decide +kernel
theorem d_key_1 : decode prog_1_method_17_code 1 = .ok (.iload_n 1, 1) := by decide +kernel
theorem d_key_2 : decode prog_1_method_17_code 2 = .ok (.invokevirtual 105, 3) := by decide +kernel
theorem d_key_5 : decode prog_1_method_17_code 5 = .ok (.pop, 1) := by decide +kernel
theorem d_key_6 : decode prog_1_method_17_code 6 = .ok (.aload_n 0, 1) := by decide +kernel
theorem d_key_7 : decode prog_1_method_17_code 7 = .ok (.getfield 30, 3) := by decide +kernel
theorem d_key_10 : decode prog_1_method_17_code 10 = .ok (.aload_n 0, 1) := by decide +kernel
theorem d_key_11 : decode prog_1_method_17_code 11 = .ok (.iload_n 2, 1) := by decide +kernel
theorem d_key_12 : decode prog_1_method_17_code 12 = .ok (.invokevirtual 116, 3) := by decide +kernel
theorem d_key_15 : decode prog_1_method_17_code 15 = .ok (.iload_n 3, 1) := by decide +kernel
theorem d_key_16 : decode prog_1_method_17_code 16 = .ok (.invokevirtual 148, 3) := by decide +kernel
theorem d_key_19 : decode prog_1_method_17_code 19 = .ok (.astore 5, 2) := by decide +kernel
theorem d_key_21 : decode prog_1_method_17_code 21 = .ok (.aload_n 0, 1) := by decide +kernel
theorem d_key_22 : decode prog_1_method_17_code 22 = .ok (.aload 5, 2) := by decide +kernel
set_option maxHeartbeats 4000000 in
set_option maxRecDepth 100000 in
theorem c_key_1 (l : Launch) (hfl : l.flags = flags0) (D : va_G) (ad : Nat → Nat) (ac : Nat → ClassId) (ck : Nat → Int32) (sz : Nat) (r o i q : Int32) (hq : k_key r = 1) : MeT l ⟨"JoinedTrees", "key", "(IIII)I"⟩ (Cond.code ⟨"JoinedTrees", "key", "(IIII)I"⟩ prog_1_method_17_code 7 (some .int) :: gb) ({ frames := 7, cells := 1, slots := 6, locals := 117 }) (fxPc D ad ac ck sz [.ref (ad 0), .int r, .int o, .int i, .int q]) e_IA (va_A (fxW ad ac ck) sz) 1 6 := by
  refine MeT.ofW (cc := prog_1_method_17_code) (maxL := 7) (ret := (some .int)) (by decide) rfl ?_
  intro p e s m args below meth c s₁ B hml hno hv
  obtain ⟨rfl, hsz, hP, hK, hD0, hev⟩ := hv
  have hx := B.exec
  have hb := B.bytes
  have hr := B.returns
  have hts : ∀ w9 ∈ gb, w9.before [.ref (ad 0), .int r, .int o, .int i, .int q].toArray s = true := fun w9 h => atoms_spec (ws := Cond.code ⟨"JoinedTrees", "key", "(IIII)I"⟩ prog_1_method_17_code 7 (some .int) :: gb) B.pre w9 (List.mem_cons_of_mem _ h)
  have hown : s.vm.findClass "JoinedTrees" = some m.cls := findClass_of_methodNamed B.named
  have hlocks := B.notSynchronized
  subst hsz
  have hNS := ns_of hP
  have hD := hD0.self (sz := s.heap.size)
  generalize hAe : va_A (fxW ad ac ck) s.heap.size = A at hD hev hNS ⊢
  have hA : ∀ q : Nat, s.heap.size ≤ q → A q := fun q h => by rw [← hAe]; exact Or.inr h
  have hS : va_S A s.heap s.heap [] := va_S.rf
  have hP : va_P D cls (fxW ad ac ck) s.heap := hP
  have hl := lv_entry ([.ref (ad 0), .int r, .int o, .int i, .int q]) (n := 7) (Nat.le_of_ble_eq_true rfl)
  rw [lg_entry_eq]
  generalize (lg_sl ([.ref (ad 0), .int r, .int o, .int i, .int q]) ++ List.replicate (7 - (lg_sl ([.ref (ad 0), .int r, .int o, .int i, .int q])).length) Slot.unset).toArray = ls at hl ⊢
  have hl : lv_has ls 7 [(0, .ref (ad 0)), (1, .int r), (2, .int o), (3, .int i), (4, .int q)] := hl
  refine lv_aload_n hx hb d_key_0 rfl (lv_at hl 0 rfl) ?_
  refine lv_iload_n hx hb d_key_1 rfl (lv_at hl 1 rfl) ?_
  by_cases c_2 : r < 0
  · have hFc := fr_all hD hS hA
    exact tx_on (tx_runV (As := [.int r]) (rest := []) ⟨hx, hb, hml, hown, hts⟩ (c_shown_T l hfl D ad ac ck s.heap.size r (Or.inl c_2)) (cw_v 1 hts kw_593 kw_590 kw_592 kp_3 kw_1 rfl rfl (by decide +kernel) ⟨Nat.le_of_ble_eq_true rfl, Nat.le_of_ble_eq_true rfl⟩) ⟨fx_blind, va_recv hK hP (ci := 11) (q0 := 0) rfl rfl, fun U hU hW => fx_pre hU hW hP hK hD hev hNS hS hFc⟩ rfl rfl hl.1 rfl (lv_room (Nat.le_of_ble_eq_true rfl)) d_key_2 ⟨Nat.le_of_ble_eq_true rfl, Nat.le_of_ble_eq_true rfl⟩) hno hlocks hS hFc
  · by_cases c_3 : r < 8
    · obtain ⟨j_1, hj_1, rfl⟩ := of8 c_2 c_3
      have hFc := fr_all hD hS hA
      refine va_callq (va_runV (As := [.int (nI j_1)]) (rest := []) ⟨hx, hb, hml, hown, hts⟩ (c_shown l hfl D ad ac ck s.heap.size j_1 hj_1) (cw_v 1 hts kw_593 kw_590 kw_592 kp_3 kw_1 rfl rfl (by decide +kernel) ⟨Nat.le_of_ble_eq_true rfl, Nat.le_of_ble_eq_true rfl⟩) ⟨fx_blind, va_recv hK hP (ci := 11) (q0 := 0) rfl rfl, fun U hU hW => fx_pre hU hW hP hK hD hev hNS hS hFc⟩ rfl rfl hl.1 rfl (lv_room (Nat.le_of_ble_eq_true rfl)) d_key_2 ⟨Nat.le_of_ble_eq_true rfl, Nat.le_of_ble_eq_true rfl⟩) hS (fun q _ h => hFc q h) hFc (fun r_4 u_5 t H1 locs ht hvm hw hB hz1 hk1 hS => ?_)
      obtain ⟨hP, -, hD1⟩ := hB
      rw [ht] at hP
      have hD := hD1.weaken (fun _ q _ h => hFc q.1 h)
      generalize H1 = H at hP hS ⊢
      refine W.cs (cells' := 0) (slots' := 0) rfl rfl ?_
      subst hw
      refine w_v (y := .ref (ad (18 + j_1))) rfl ?_
      refine lv_pop hx hb d_key_5 rfl ?_
      refine lv_aload_n hx hb d_key_6 rfl (lv_at hl 0 rfl) ?_
      refine va_get (D := D) (ci := 11) (v := .ref (ad 3)) (C := R_JT) (T := F_JT) (N := 13) hx hb hts i_JT hown hK hP 0 rfl rfl 2 (by decide) (hts _ kw_423) (fun _ h9 => h9) rfl d_key_7 ?_
      refine lv_aload_n hx hb d_key_10 rfl (lv_at hl 0 rfl) ?_
      refine lv_iload_n hx hb d_key_11 rfl (lv_at hl 2 rfl) ?_
      by_cases c_6 : o = 0
      · subst c_6
        have hFc := fr_all hD hS hA
        refine va_callq (va_runV (As := [.int 0]) (rest := [.ref (ad 3)]) ⟨hx, hb, hml, hown, hts⟩ (c_mapAt0 l hfl D ad ac u_5 H.size) (cw_v 1 hts kw_612 kw_609 kw_611 kp_6 kw_1 rfl rfl (by decide +kernel) ⟨Nat.le_of_ble_eq_true rfl, Nat.le_of_ble_eq_true rfl⟩) ⟨fx_blind, va_recv hK hP (ci := 11) (q0 := 0) rfl rfl, fun U hU hW => fx_pre hU hW hP hK hD hev hNS hS hFc⟩ rfl rfl hl.1 rfl (lv_room (Nat.le_of_ble_eq_true rfl)) d_key_12 ⟨Nat.le_of_ble_eq_true rfl, Nat.le_of_ble_eq_true rfl⟩) hS (fun q _ h => hFc q h) hFc (fun r_7 u_8 t H1 locs ht hvm hw hB hz1 hk1 hS => ?_)
        obtain ⟨hP, -, hD1⟩ := hB
        rw [ht] at hP
        have hD := hD1.weaken (fun _ q _ h => hFc q.1 h)
        generalize H1 = H at hP hS ⊢
        refine W.cs (cells' := 0) (slots' := 0) rfl rfl ?_
        subst hw
        refine w_v (y := .ref (ad 5)) rfl ?_
        refine lv_iload_n hx hb d_key_15 rfl (lv_at hl 3 rfl) ?_
        have hFc := fr_all hD hS hA
        refine va_callq (va_runV (As := [.ref (ad 5), .int i]) (rest := []) ⟨hx, hb, hml, hown, hts⟩ (c_spotAt l hfl D ad ac u_8 H.size i) (cw_v 2 hts kw_780 kw_777 kw_778 kw_779 kw_6 rfl rfl (by decide +kernel) ⟨Nat.le_of_ble_eq_true rfl, Nat.le_of_ble_eq_true rfl⟩) ⟨fx_blind, va_recv hK hP (ci := 10) (q0 := 3) rfl rfl, fun U hU hW => fx_pre hU hW hP hK hD hev hNS hS hFc⟩ rfl rfl hl.1 rfl (lv_room (Nat.le_of_ble_eq_true rfl)) d_key_16 ⟨Nat.le_of_ble_eq_true rfl, Nat.le_of_ble_eq_true rfl⟩) hS (fun q _ h => hFc q h) hFc (fun r_9 u_10 t H1 locs ht hvm hw hB hz1 hk1 hS => ?_)
        obtain ⟨hP, -, hD1⟩ := hB
        rw [ht] at hP
        have hD := hD1.weaken (fun _ q _ h => hFc q.1 h)
        generalize H1 = H at hP hS ⊢
        refine W.cs (cells' := 0) (slots' := 0) rfl rfl ?_
        subst hw
        refine w_v (y := .null) rfl ?_
        refine lv_astoreN (lv' := [(5, .null), (0, .ref (ad 0)), (1, .int (nI j_1)), (2, .int 0), (3, .int i), (4, .int q)]) hx hb d_key_19 hl (by decide) rfl (fun ls hl => ?_)
        refine lv_aload_n hx hb d_key_21 rfl (lv_at hl 1 rfl) ?_
        refine lv_aloadN hx hb d_key_22 (lv_at hl 0 rfl) ?_
        first | exact absurd hq (by simp [k_key, c_2, c_3]) | (exfalso; simp_all [k_key])
      · first | exact absurd hq (by simp [k_key, c_2, c_3, c_6]) | (exfalso; simp_all [k_key])
    · have hFc := fr_all hD hS hA
      exact tx_on (tx_runV (As := [.int r]) (rest := []) ⟨hx, hb, hml, hown, hts⟩ (c_shown_T l hfl D ad ac ck s.heap.size r (Or.inr c_3)) (cw_v 1 hts kw_593 kw_590 kw_592 kp_3 kw_1 rfl rfl (by decide +kernel) ⟨Nat.le_of_ble_eq_true rfl, Nat.le_of_ble_eq_true rfl⟩) ⟨fx_blind, va_recv hK hP (ci := 11) (q0 := 0) rfl rfl, fun U hU hW => fx_pre hU hW hP hK hD hev hNS hS hFc⟩ rfl rfl hl.1 rfl (lv_room (Nat.le_of_ble_eq_true rfl)) d_key_2 ⟨Nat.le_of_ble_eq_true rfl, Nat.le_of_ble_eq_true rfl⟩) hno hlocks hS hFc
theorem d_candidate_0 : decode prog_1_method_18_code 0 = .ok (.aload_n 0, 1) := by decide +kernel
theorem d_candidate_1 : decode prog_1_method_18_code 1 = .ok (.invokevirtual 102, 3) := by decide +kernel
theorem d_candidate_4 : decode prog_1_method_18_code 4 = .ok (.istore 6, 2) := by decide +kernel
theorem d_candidate_6 : decode prog_1_method_18_code 6 = .ok (.aload_n 0, 1) := by decide +kernel
theorem d_candidate_7 : decode prog_1_method_18_code 7 = .ok (.iload_n 1, 1) := by decide +kernel
theorem d_candidate_8 : decode prog_1_method_18_code 8 = .ok (.invokevirtual 105, 3) := by decide +kernel
theorem d_candidate_11 : decode prog_1_method_18_code 11 = .ok (.pop, 1) := by decide +kernel
theorem d_candidate_12 : decode prog_1_method_18_code 12 = .ok (.aload_n 0, 1) := by decide +kernel
theorem d_candidate_13 : decode prog_1_method_18_code 13 = .ok (.iload 6, 2) := by decide +kernel
theorem d_candidate_15 : decode prog_1_method_18_code 15 = .ok (.iload_n 3, 1) := by decide +kernel
theorem d_candidate_16 : decode prog_1_method_18_code 16 = .ok (.invokevirtual 189, 3) := by decide +kernel
theorem d_candidate_19 : decode prog_1_method_18_code 19 = .ok (.iload 5, 2) := by decide +kernel
theorem d_candidate_21 : decode prog_1_method_18_code 21 = .ok (.ifCond .lt 9, 3) := by decide +kernel
theorem d_candidate_30 : decode prog_1_method_18_code 30 = .ok (.new 93, 3) := by decide +kernel
theorem d_candidate_33 : decode prog_1_method_18_code 33 = .ok (.dup, 1) := by decide +kernel
theorem d_candidate_34 : decode prog_1_method_18_code 34 = .ok (.invokespecial 95, 3) := by decide +kernel
theorem d_candidate_37 : decode prog_1_method_18_code 37 = .ok (.athrow, 1) := by decide +kernel
theorem d_candidate_24 : decode prog_1_method_18_code 24 = .ok (.iload 5, 2) := by decide +kernel
theorem d_candidate_26 : decode prog_1_method_18_code 26 = .ok (.iconst 4, 1) := by decide +kernel
theorem d_candidate_27 : decode prog_1_method_18_code 27 = .ok (.if_icmp .le 11, 3) := by decide +kernel
theorem d_candidate_38 : decode prog_1_method_18_code 38 = .ok (.aload_n 0, 1) := by decide +kernel
theorem d_candidate_39 : decode prog_1_method_18_code 39 = .ok (.getfield 30, 3) := by decide +kernel
theorem d_candidate_42 : decode prog_1_method_18_code 42 = .ok (.aload_n 0, 1) := by decide +kernel
theorem d_candidate_43 : decode prog_1_method_18_code 43 = .ok (.iload_n 2, 1) := by decide +kernel
theorem d_candidate_44 : decode prog_1_method_18_code 44 = .ok (.iload_n 3, 1) := by decide +kernel
theorem d_candidate_45 : decode prog_1_method_18_code 45 = .ok (.invokevirtual 192, 3) := by decide +kernel
set_option maxHeartbeats 4000000 in
set_option maxRecDepth 100000 in
theorem c_candidate_1 (l : Launch) (hfl : l.flags = flags0) (D : va_G) (ad : Nat → Nat) (ac : Nat → ClassId) (ck : Nat → Int32) (sz : Nat) (r o i q w : Int32) (hq : k_can r o i w = 1) : MeT l ⟨"JoinedTrees", "candidate", "(IIIII)J"⟩ (Cond.code ⟨"JoinedTrees", "candidate", "(IIIII)J"⟩ prog_1_method_18_code 8 (some .long) :: gb) ({ frames := 8, cells := 1, slots := 6, locals := 141 }) (fxPc D ad ac ck sz [.ref (ad 0), .int r, .int o, .int i, .int q, .int w]) e_IA (va_A (fxW ad ac ck) sz) 1 6 := by
  refine MeT.ofW (cc := prog_1_method_18_code) (maxL := 8) (ret := (some .long)) (by decide) rfl ?_
  intro p e s m args below meth c s₁ B hml hno hv
  obtain ⟨rfl, hsz, hP, hK, hD0, hev⟩ := hv
  have hx := B.exec
  have hb := B.bytes
  have hr := B.returns
  have hts : ∀ w9 ∈ gb, w9.before [.ref (ad 0), .int r, .int o, .int i, .int q, .int w].toArray s = true := fun w9 h => atoms_spec (ws := Cond.code ⟨"JoinedTrees", "candidate", "(IIIII)J"⟩ prog_1_method_18_code 8 (some .long) :: gb) B.pre w9 (List.mem_cons_of_mem _ h)
  have hown : s.vm.findClass "JoinedTrees" = some m.cls := findClass_of_methodNamed B.named
  have hlocks := B.notSynchronized
  subst hsz
  have hNS := ns_of hP
  have hD := hD0.self (sz := s.heap.size)
  generalize hAe : va_A (fxW ad ac ck) s.heap.size = A at hD hev hNS ⊢
  have hA : ∀ q : Nat, s.heap.size ≤ q → A q := fun q h => by rw [← hAe]; exact Or.inr h
  have hS : va_S A s.heap s.heap [] := va_S.rf
  have hP : va_P D cls (fxW ad ac ck) s.heap := hP
  have hl := lv_entry ([.ref (ad 0), .int r, .int o, .int i, .int q, .int w]) (n := 8) (Nat.le_of_ble_eq_true rfl)
  rw [lg_entry_eq]
  generalize (lg_sl ([.ref (ad 0), .int r, .int o, .int i, .int q, .int w]) ++ List.replicate (8 - (lg_sl ([.ref (ad 0), .int r, .int o, .int i, .int q, .int w])).length) Slot.unset).toArray = ls at hl ⊢
  have hl : lv_has ls 8 [(0, .ref (ad 0)), (1, .int r), (2, .int o), (3, .int i), (4, .int q), (5, .int w)] := hl
  refine lv_aload_n hx hb d_candidate_0 rfl (lv_at hl 0 rfl) ?_
  have hFc := fr_all hD hS hA
  refine va_calli (va_runV (As := []) (rest := []) ⟨hx, hb, hml, hown, hts⟩ (c_take l hfl D ad ac ck s.heap.size) (cw_v 0 hts kw_589 kw_586 kw_588 kp_2 kw_1 rfl rfl (by decide +kernel) ⟨Nat.le_of_ble_eq_true rfl, Nat.le_of_ble_eq_true rfl⟩) ⟨fx_blind, va_recv hK hP (ci := 11) (q0 := 0) rfl rfl, fun U hU hW => fx_pre hU hW hP hK hD hev hNS hS hFc⟩ rfl rfl hl.1 rfl (lv_room (Nat.le_of_ble_eq_true rfl)) d_candidate_1 ⟨Nat.le_of_ble_eq_true rfl, Nat.le_of_ble_eq_true rfl⟩) hS (fun q _ h => hFc q h) hFc (fun r_1 u_2 t H1 locs ht hvm hw hB hz1 hk1 hS => ?_)
  obtain ⟨hP, -, hD1⟩ := hB
  rw [ht] at hP
  have hD := hD1.weaken (fun _ q _ h => hFc q.1 h)
  generalize H1 = H at hP hS ⊢
  refine W.cs (cells' := 0) (slots' := 0) rfl rfl ?_
  subst hw
  refine lv_istore (lv' := [(6, .int 0), (0, .ref (ad 0)), (1, .int r), (2, .int o), (3, .int i), (4, .int q), (5, .int w)]) hx hb d_candidate_4 hl (by decide) rfl (fun ls hl => ?_)
  refine lv_aload_n hx hb d_candidate_6 rfl (lv_at hl 1 rfl) ?_
  refine lv_iload_n hx hb d_candidate_7 rfl (lv_at hl 2 rfl) ?_
  by_cases c_4 : r < 0
  · have hFc := fr_all hD hS hA
    exact tx_on (tx_runV (As := [.int r]) (rest := []) ⟨hx, hb, hml, hown, hts⟩ (c_shown_T l hfl D ad ac u_2 H.size r (Or.inl c_4)) (cw_v 1 hts kw_593 kw_590 kw_592 kp_3 kw_1 rfl rfl (by decide +kernel) ⟨Nat.le_of_ble_eq_true rfl, Nat.le_of_ble_eq_true rfl⟩) ⟨fx_blind, va_recv hK hP (ci := 11) (q0 := 0) rfl rfl, fun U hU hW => fx_pre hU hW hP hK hD hev hNS hS hFc⟩ rfl rfl hl.1 rfl (lv_room (Nat.le_of_ble_eq_true rfl)) d_candidate_8 ⟨Nat.le_of_ble_eq_true rfl, Nat.le_of_ble_eq_true rfl⟩) hno hlocks hS hFc
  · by_cases c_5 : r < 8
    · obtain ⟨j_3, hj_3, rfl⟩ := of8 c_4 c_5
      have hFc := fr_all hD hS hA
      refine va_callq (va_runV (As := [.int (nI j_3)]) (rest := []) ⟨hx, hb, hml, hown, hts⟩ (c_shown l hfl D ad ac u_2 H.size j_3 hj_3) (cw_v 1 hts kw_593 kw_590 kw_592 kp_3 kw_1 rfl rfl (by decide +kernel) ⟨Nat.le_of_ble_eq_true rfl, Nat.le_of_ble_eq_true rfl⟩) ⟨fx_blind, va_recv hK hP (ci := 11) (q0 := 0) rfl rfl, fun U hU hW => fx_pre hU hW hP hK hD hev hNS hS hFc⟩ rfl rfl hl.1 rfl (lv_room (Nat.le_of_ble_eq_true rfl)) d_candidate_8 ⟨Nat.le_of_ble_eq_true rfl, Nat.le_of_ble_eq_true rfl⟩) hS (fun q _ h => hFc q h) hFc (fun r_6 u_7 t H1 locs ht hvm hw hB hz1 hk1 hS => ?_)
      obtain ⟨hP, -, hD1⟩ := hB
      rw [ht] at hP
      have hD := hD1.weaken (fun _ q _ h => hFc q.1 h)
      generalize H1 = H at hP hS ⊢
      refine W.cs (cells' := 0) (slots' := 0) rfl rfl ?_
      subst hw
      refine w_v (y := .ref (ad (18 + j_3))) rfl ?_
      refine lv_pop hx hb d_candidate_11 rfl ?_
      refine lv_aload_n hx hb d_candidate_12 rfl (lv_at hl 1 rfl) ?_
      refine lv_iload hx hb d_candidate_13 (lv_at hl 0 rfl) ?_
      refine lv_iload_n hx hb d_candidate_15 rfl (lv_at hl 4 rfl) ?_
      by_cases c_8 : i = -1
      · have hFc := fr_all hD hS hA
        exact tx_on (tx_runV (As := [.int 0, .int i]) (rest := []) ⟨hx, hb, hml, hown, hts⟩ (c_np_T l hfl D ad ac u_7 H.size i c_8) (cw_v 2 hts kw_843 kw_840 kw_842 kp_19 kw_1 rfl rfl (by decide +kernel) ⟨Nat.le_of_ble_eq_true rfl, Nat.le_of_ble_eq_true rfl⟩) ⟨fx_blind, va_recv hK hP (ci := 11) (q0 := 0) rfl rfl, fun U hU hW => fx_pre hU hW hP hK hD hev hNS hS hFc⟩ rfl rfl hl.1 rfl (lv_room (Nat.le_of_ble_eq_true rfl)) d_candidate_16 ⟨Nat.le_of_ble_eq_true rfl, Nat.le_of_ble_eq_true rfl⟩) hno hlocks hS hFc
      · have hFc := fr_all hD hS hA
        refine va_callv (va_runV (As := [.int 0, .int i]) (rest := []) ⟨hx, hb, hml, hown, hts⟩ (c_np l hfl D ad ac u_7 H.size i c_8) (cw_v 2 hts kw_843 kw_840 kw_842 kp_19 kw_1 rfl rfl (by decide +kernel) ⟨Nat.le_of_ble_eq_true rfl, Nat.le_of_ble_eq_true rfl⟩) ⟨fx_blind, va_recv hK hP (ci := 11) (q0 := 0) rfl rfl, fun U hU hW => fx_pre hU hW hP hK hD hev hNS hS hFc⟩ rfl rfl hl.1 rfl (lv_room (Nat.le_of_ble_eq_true rfl)) d_candidate_16 ⟨Nat.le_of_ble_eq_true rfl, Nat.le_of_ble_eq_true rfl⟩) hS (fun q _ h => hFc q h) hFc (fun u_10 t H1 locs ht hvm hw hB hz1 hk1 hS => ?_)
        obtain ⟨hP, -, hD1⟩ := hB
        rw [ht] at hP
        have hD := hD1.weaken (fun _ q _ h => hFc q.1 h)
        generalize H1 = H at hP hS ⊢
        refine W.cs (cells' := 0) (slots' := 0) rfl rfl ?_
        refine lv_iload hx hb d_candidate_19 (lv_at hl 6 rfl) ?_
        refine lv_if_lt (tgt := 30) hx hb d_candidate_21 (by decide) (fun c_11 => ?_) (fun c_11 => ?_)
        · exact tx_throw (own := "JoinedTrees") (E := e_IA) (names := at_n) (ia := 93) (ic := 95) hfl hx hb hno hlocks hown (by decide +kernel) (by decide +kernel) (hev.atoms hts hev.2.2.2.2.2.1.1 at_IA) (hts _ kw_558) (hts _ kw_16) d_candidate_30 d_candidate_33 d_candidate_34 d_candidate_37 (hl.1.trans hml.symm) hS hA hNS (Nat.le_of_ble_eq_true rfl) (Nat.le_of_ble_eq_true rfl) (Nat.le_of_ble_eq_true rfl) (Nat.le_of_ble_eq_true rfl)
        · refine lv_iload hx hb d_candidate_24 (lv_at hl 6 rfl) ?_
          refine lv_iconst (v := 4) hx hb d_candidate_26 (by decide) ?_
          refine lv_icmp_le (tgt := 38) hx hb d_candidate_27 (by decide) (fun c_12 => ?_) (fun c_12 => ?_)
          · refine lv_aload_n hx hb d_candidate_38 rfl (lv_at hl 1 rfl) ?_
            refine va_get (D := D) (ci := 11) (v := .ref (ad 3)) (C := R_JT) (T := F_JT) (N := 13) hx hb hts i_JT hown hK hP 0 rfl rfl 2 (by decide) (hts _ kw_423) (fun _ h9 => h9) rfl d_candidate_39 ?_
            refine lv_aload_n hx hb d_candidate_42 rfl (lv_at hl 1 rfl) ?_
            refine lv_iload_n hx hb d_candidate_43 rfl (lv_at hl 3 rfl) ?_
            refine lv_iload_n hx hb d_candidate_44 rfl (lv_at hl 4 rfl) ?_
            by_cases c_13 : o = 0
            · subst c_13
              have hFc := fr_all hD hS hA
              exact tx_on (tx_runV (As := [.int 0, .int i]) (rest := [.ref (ad 3)]) ⟨hx, hb, hml, hown, hts⟩ (c_plAt0 l hfl D ad ac u_10 H.size i c_8) (cw_v 2 hts kw_847 kw_844 kw_846 kp_20 kw_1 rfl rfl (by decide +kernel) ⟨Nat.le_of_ble_eq_true rfl, Nat.le_of_ble_eq_true rfl⟩) ⟨fx_blind, va_recv hK hP (ci := 11) (q0 := 0) rfl rfl, fun U hU hW => fx_pre hU hW hP hK hD hev hNS hS hFc⟩ rfl rfl hl.1 rfl (lv_room (Nat.le_of_ble_eq_true rfl)) d_candidate_45 ⟨Nat.le_of_ble_eq_true rfl, Nat.le_of_ble_eq_true rfl⟩) hno hlocks hS hFc
            · first | exact absurd hq (by simp [k_can, c_4, c_5, c_8, c_11, c_12, c_13]) | (exfalso; simp_all [k_can])
          · exact tx_throw (own := "JoinedTrees") (E := e_IA) (names := at_n) (ia := 93) (ic := 95) hfl hx hb hno hlocks hown (by decide +kernel) (by decide +kernel) (hev.atoms hts hev.2.2.2.2.2.1.1 at_IA) (hts _ kw_558) (hts _ kw_16) d_candidate_30 d_candidate_33 d_candidate_34 d_candidate_37 (hl.1.trans hml.symm) hS hA hNS (Nat.le_of_ble_eq_true rfl) (Nat.le_of_ble_eq_true rfl) (Nat.le_of_ble_eq_true rfl) (Nat.le_of_ble_eq_true rfl)
    · have hFc := fr_all hD hS hA
      exact tx_on (tx_runV (As := [.int r]) (rest := []) ⟨hx, hb, hml, hown, hts⟩ (c_shown_T l hfl D ad ac u_2 H.size r (Or.inr c_5)) (cw_v 1 hts kw_593 kw_590 kw_592 kp_3 kw_1 rfl rfl (by decide +kernel) ⟨Nat.le_of_ble_eq_true rfl, Nat.le_of_ble_eq_true rfl⟩) ⟨fx_blind, va_recv hK hP (ci := 11) (q0 := 0) rfl rfl, fun U hU hW => fx_pre hU hW hP hK hD hev hNS hS hFc⟩ rfl rfl hl.1 rfl (lv_room (Nat.le_of_ble_eq_true rfl)) d_candidate_8 ⟨Nat.le_of_ble_eq_true rfl, Nat.le_of_ble_eq_true rfl⟩) hno hlocks hS hFc
theorem d_letter_0 : decode prog_1_method_19_code 0 = .ok (.aload_n 0, 1) := by decide +kernel
theorem d_letter_1 : decode prog_1_method_19_code 1 = .ok (.iload_n 1, 1) := by decide +kernel
theorem d_letter_2 : decode prog_1_method_19_code 2 = .ok (.invokevirtual 105, 3) := by decide +kernel
theorem d_letter_5 : decode prog_1_method_19_code 5 = .ok (.pop, 1) := by decide +kernel
theorem d_letter_6 : decode prog_1_method_19_code 6 = .ok (.aload_n 0, 1) := by decide +kernel
theorem d_letter_7 : decode prog_1_method_19_code 7 = .ok (.getfield 30, 3) := by decide +kernel
theorem d_letter_10 : decode prog_1_method_19_code 10 = .ok (.iload_n 2, 1) := by decide +kernel
theorem d_letter_11 : decode prog_1_method_19_code 11 = .ok (.invokevirtual 306, 3) := by decide +kernel
theorem d_letter_14 : decode prog_1_method_19_code 14 = .ok (.astore 4, 2) := by decide +kernel
theorem d_letter_16 : decode prog_1_method_19_code 16 = .ok (.aload 4, 2) := by decide +kernel
theorem d_letter_18 : decode prog_1_method_19_code 18 = .ok (.ifnull 16, 3) := by decide +kernel
theorem d_letter_21 : decode prog_1_method_19_code 21 = .ok (.iload_n 3, 1) := by decide +kernel
theorem d_letter_22 : decode prog_1_method_19_code 22 = .ok (.ifCond .lt 12, 3) := by decide +kernel
theorem d_letter_25 : decode prog_1_method_19_code 25 = .ok (.iload_n 3, 1) := by decide +kernel
theorem d_letter_26 : decode prog_1_method_19_code 26 = .ok (.aload 4, 2) := by decide +kernel
theorem d_letter_28 : decode prog_1_method_19_code 28 = .ok (.getfield 304, 3) := by decide +kernel
theorem d_letter_31 : decode prog_1_method_19_code 31 = .ok (.if_icmp .lt 11, 3) := by decide +kernel
set_option maxHeartbeats 4000000 in
set_option maxRecDepth 100000 in
theorem c_letter_1 (l : Launch) (hfl : l.flags = flags0) (D : va_G) (ad : Nat → Nat) (ac : Nat → ClassId) (ck : Nat → Int32) (sz : Nat) (r o q : Int32) (hq : k_key r = 1) : MeT l ⟨"JoinedTrees", "letter", "(III)I"⟩ (Cond.code ⟨"JoinedTrees", "letter", "(III)I"⟩ prog_1_method_19_code 5 (some .int) :: gb) ({ frames := 7, cells := 1, slots := 6, locals := 117 }) (fxPc D ad ac ck sz [.ref (ad 0), .int r, .int o, .int q]) e_IA (va_A (fxW ad ac ck) sz) 1 6 := by
  refine MeT.ofW (cc := prog_1_method_19_code) (maxL := 5) (ret := (some .int)) (by decide) rfl ?_
  intro p e s m args below meth c s₁ B hml hno hv
  obtain ⟨rfl, hsz, hP, hK, hD0, hev⟩ := hv
  have hx := B.exec
  have hb := B.bytes
  have hr := B.returns
  have hts : ∀ w9 ∈ gb, w9.before [.ref (ad 0), .int r, .int o, .int q].toArray s = true := fun w9 h => atoms_spec (ws := Cond.code ⟨"JoinedTrees", "letter", "(III)I"⟩ prog_1_method_19_code 5 (some .int) :: gb) B.pre w9 (List.mem_cons_of_mem _ h)
  have hown : s.vm.findClass "JoinedTrees" = some m.cls := findClass_of_methodNamed B.named
  have hlocks := B.notSynchronized
  subst hsz
  have hNS := ns_of hP
  have hD := hD0.self (sz := s.heap.size)
  generalize hAe : va_A (fxW ad ac ck) s.heap.size = A at hD hev hNS ⊢
  have hA : ∀ q : Nat, s.heap.size ≤ q → A q := fun q h => by rw [← hAe]; exact Or.inr h
  have hS : va_S A s.heap s.heap [] := va_S.rf
  have hP : va_P D cls (fxW ad ac ck) s.heap := hP
  have hl := lv_entry ([.ref (ad 0), .int r, .int o, .int q]) (n := 5) (Nat.le_of_ble_eq_true rfl)
  rw [lg_entry_eq]
  generalize (lg_sl ([.ref (ad 0), .int r, .int o, .int q]) ++ List.replicate (5 - (lg_sl ([.ref (ad 0), .int r, .int o, .int q])).length) Slot.unset).toArray = ls at hl ⊢
  have hl : lv_has ls 5 [(0, .ref (ad 0)), (1, .int r), (2, .int o), (3, .int q)] := hl
  refine lv_aload_n hx hb d_letter_0 rfl (lv_at hl 0 rfl) ?_
  refine lv_iload_n hx hb d_letter_1 rfl (lv_at hl 1 rfl) ?_
  by_cases c_2 : r < 0
  · have hFc := fr_all hD hS hA
    exact tx_on (tx_runV (As := [.int r]) (rest := []) ⟨hx, hb, hml, hown, hts⟩ (c_shown_T l hfl D ad ac ck s.heap.size r (Or.inl c_2)) (cw_v 1 hts kw_593 kw_590 kw_592 kp_3 kw_1 rfl rfl (by decide +kernel) ⟨Nat.le_of_ble_eq_true rfl, Nat.le_of_ble_eq_true rfl⟩) ⟨fx_blind, va_recv hK hP (ci := 11) (q0 := 0) rfl rfl, fun U hU hW => fx_pre hU hW hP hK hD hev hNS hS hFc⟩ rfl rfl hl.1 rfl (lv_room (Nat.le_of_ble_eq_true rfl)) d_letter_2 ⟨Nat.le_of_ble_eq_true rfl, Nat.le_of_ble_eq_true rfl⟩) hno hlocks hS hFc
  · by_cases c_3 : r < 8
    · obtain ⟨j_1, hj_1, rfl⟩ := of8 c_2 c_3
      have hFc := fr_all hD hS hA
      refine va_callq (va_runV (As := [.int (nI j_1)]) (rest := []) ⟨hx, hb, hml, hown, hts⟩ (c_shown l hfl D ad ac ck s.heap.size j_1 hj_1) (cw_v 1 hts kw_593 kw_590 kw_592 kp_3 kw_1 rfl rfl (by decide +kernel) ⟨Nat.le_of_ble_eq_true rfl, Nat.le_of_ble_eq_true rfl⟩) ⟨fx_blind, va_recv hK hP (ci := 11) (q0 := 0) rfl rfl, fun U hU hW => fx_pre hU hW hP hK hD hev hNS hS hFc⟩ rfl rfl hl.1 rfl (lv_room (Nat.le_of_ble_eq_true rfl)) d_letter_2 ⟨Nat.le_of_ble_eq_true rfl, Nat.le_of_ble_eq_true rfl⟩) hS (fun q _ h => hFc q h) hFc (fun r_4 u_5 t H1 locs ht hvm hw hB hz1 hk1 hS => ?_)
      obtain ⟨hP, -, hD1⟩ := hB
      rw [ht] at hP
      have hD := hD1.weaken (fun _ q _ h => hFc q.1 h)
      generalize H1 = H at hP hS ⊢
      refine W.cs (cells' := 0) (slots' := 0) rfl rfl ?_
      subst hw
      refine w_v (y := .ref (ad (18 + j_1))) rfl ?_
      refine lv_pop hx hb d_letter_5 rfl ?_
      refine lv_aload_n hx hb d_letter_6 rfl (lv_at hl 0 rfl) ?_
      refine va_get (D := D) (ci := 11) (v := .ref (ad 3)) (C := R_JT) (T := F_JT) (N := 13) hx hb hts i_JT hown hK hP 0 rfl rfl 2 (by decide) (hts _ kw_423) (fun _ h9 => h9) rfl d_letter_7 ?_
      refine lv_iload_n hx hb d_letter_10 rfl (lv_at hl 2 rfl) ?_
      by_cases c_6 : o = 0
      · subst c_6
        have hFc := fr_all hD hS hA
        refine va_callq (va_runV (As := [.int 0]) (rest := []) ⟨hx, hb, hml, hown, hts⟩ (c_opAt0 l hfl D ad ac u_5 H.size) (cw_v 1 hts kw_620 kw_617 kw_618 kw_619 kw_6 rfl rfl (by decide +kernel) ⟨Nat.le_of_ble_eq_true rfl, Nat.le_of_ble_eq_true rfl⟩) ⟨fx_blind, va_recv hK hP (ci := 10) (q0 := 3) rfl rfl, fun U hU hW => fx_pre hU hW hP hK hD hev hNS hS hFc⟩ rfl rfl hl.1 rfl (lv_room (Nat.le_of_ble_eq_true rfl)) d_letter_11 ⟨Nat.le_of_ble_eq_true rfl, Nat.le_of_ble_eq_true rfl⟩) hS (fun q _ h => hFc q h) hFc (fun r_7 u_8 t H1 locs ht hvm hw hB hz1 hk1 hS => ?_)
        obtain ⟨hP, -, hD1⟩ := hB
        rw [ht] at hP
        have hD := hD1.weaken (fun _ q _ h => hFc q.1 h)
        generalize H1 = H at hP hS ⊢
        refine W.cs (cells' := 0) (slots' := 0) rfl rfl ?_
        subst hw
        refine w_v (y := .ref (ad 5)) rfl ?_
        refine lv_astore (lv' := [(4, .ref (ad 5)), (0, .ref (ad 0)), (1, .int (nI j_1)), (2, .int 0), (3, .int q)]) hx hb d_letter_14 hl (by decide) rfl (fun ls hl => ?_)
        refine lv_aload hx hb d_letter_16 (lv_at hl 0 rfl) ?_
        refine lv_ifnull hx hb d_letter_18 ?_
        refine lv_iload_n hx hb d_letter_21 rfl (lv_at hl 4 rfl) ?_
        refine lv_if_lt (tgt := 34) hx hb d_letter_22 (by decide) (fun c_9 => ?_) (fun c_9 => ?_)
        · first | exact absurd hq (by simp [k_key, c_2, c_3, c_9]) | (exfalso; simp_all [k_key])
        · refine lv_iload_n hx hb d_letter_25 rfl (lv_at hl 4 rfl) ?_
          refine lv_aload hx hb d_letter_26 (lv_at hl 0 rfl) ?_
          refine va_get (D := D) (ci := 3) (v := .int 0) (C := R_Op) (T := F_Op) (N := 15) hx hb hts i_Op hown hK hP 5 rfl rfl 10 (by decide) (hts _ kw_89) (fun _ h9 => h9) rfl d_letter_28 ?_
          refine lv_icmp_lt (tgt := 42) hx hb d_letter_31 (by decide) (fun c_10 => ?_) (fun c_10 => ?_)
          · first | exact absurd c_10 c_9 | (exfalso; simp_all)
          · first | exact absurd hq (by simp [k_key, c_2, c_3, c_9, c_10]) | (exfalso; simp_all [k_key])
      · have hFc := fr_all hD hS hA
        refine va_callq (va_runV (As := [.int o]) (rest := []) ⟨hx, hb, hml, hown, hts⟩ (c_opAtN l hfl D ad ac u_5 H.size o c_6) (cw_v 1 hts kw_620 kw_617 kw_618 kw_619 kw_6 rfl rfl (by decide +kernel) ⟨Nat.le_of_ble_eq_true rfl, Nat.le_of_ble_eq_true rfl⟩) ⟨fx_blind, va_recv hK hP (ci := 10) (q0 := 3) rfl rfl, fun U hU hW => fx_pre hU hW hP hK hD hev hNS hS hFc⟩ rfl rfl hl.1 rfl (lv_room (Nat.le_of_ble_eq_true rfl)) d_letter_11 ⟨Nat.le_of_ble_eq_true rfl, Nat.le_of_ble_eq_true rfl⟩) hS (fun q _ h => hFc q h) hFc (fun r_11 u_12 t H1 locs ht hvm hw hB hz1 hk1 hS => ?_)
        obtain ⟨hP, -, hD1⟩ := hB
        rw [ht] at hP
        have hD := hD1.weaken (fun _ q _ h => hFc q.1 h)
        generalize H1 = H at hP hS ⊢
        refine W.cs (cells' := 0) (slots' := 0) rfl rfl ?_
        subst hw
        refine w_v (y := .null) rfl ?_
        refine lv_astoreN (lv' := [(4, .null), (0, .ref (ad 0)), (1, .int (nI j_1)), (2, .int o), (3, .int q)]) hx hb d_letter_14 hl (by decide) rfl (fun ls hl => ?_)
        refine lv_aloadN hx hb d_letter_16 (lv_at hl 0 rfl) ?_
        refine lv_ifnullN (tgt := 34) hx hb d_letter_18 (by decide) ?_
        first | exact absurd hq (by simp [k_key, c_2, c_3, c_6]) | (exfalso; simp_all [k_key])
    · have hFc := fr_all hD hS hA
      exact tx_on (tx_runV (As := [.int r]) (rest := []) ⟨hx, hb, hml, hown, hts⟩ (c_shown_T l hfl D ad ac ck s.heap.size r (Or.inr c_3)) (cw_v 1 hts kw_593 kw_590 kw_592 kp_3 kw_1 rfl rfl (by decide +kernel) ⟨Nat.le_of_ble_eq_true rfl, Nat.le_of_ble_eq_true rfl⟩) ⟨fx_blind, va_recv hK hP (ci := 11) (q0 := 0) rfl rfl, fun U hU hW => fx_pre hU hW hP hK hD hev hNS hS hFc⟩ rfl rfl hl.1 rfl (lv_room (Nat.le_of_ble_eq_true rfl)) d_letter_2 ⟨Nat.le_of_ble_eq_true rfl, Nat.le_of_ble_eq_true rfl⟩) hno hlocks hS hFc
theorem d_element_0 : decode prog_1_method_20_code 0 = .ok (.aload_n 0, 1) := by decide +kernel
theorem d_element_1 : decode prog_1_method_20_code 1 = .ok (.iload_n 1, 1) := by decide +kernel
theorem d_element_2 : decode prog_1_method_20_code 2 = .ok (.invokevirtual 105, 3) := by decide +kernel
theorem d_element_5 : decode prog_1_method_20_code 5 = .ok (.pop, 1) := by decide +kernel
theorem d_element_6 : decode prog_1_method_20_code 6 = .ok (.aload_n 0, 1) := by decide +kernel
theorem d_element_7 : decode prog_1_method_20_code 7 = .ok (.getfield 30, 3) := by decide +kernel
theorem d_element_10 : decode prog_1_method_20_code 10 = .ok (.aload_n 0, 1) := by decide +kernel
theorem d_element_11 : decode prog_1_method_20_code 11 = .ok (.iload_n 2, 1) := by decide +kernel
theorem d_element_12 : decode prog_1_method_20_code 12 = .ok (.invokevirtual 145, 3) := by decide +kernel
set_option maxHeartbeats 4000000 in
set_option maxRecDepth 100000 in
theorem c_element_1 (l : Launch) (hfl : l.flags = flags0) (D : va_G) (ad : Nat → Nat) (ac : Nat → ClassId) (ck : Nat → Int32) (sz : Nat) (r o i : Int32) (hq : k_ele r o = 1) : MeT l ⟨"JoinedTrees", "element", "(III)I"⟩ (Cond.code ⟨"JoinedTrees", "element", "(III)I"⟩ prog_1_method_20_code 5 (some .int) :: gb) ({ frames := 7, cells := 1, slots := 6, locals := 118 }) (fxPc D ad ac ck sz [.ref (ad 0), .int r, .int o, .int i]) e_IA (va_A (fxW ad ac ck) sz) 1 6 := by
  refine MeT.ofW (cc := prog_1_method_20_code) (maxL := 5) (ret := (some .int)) (by decide) rfl ?_
  intro p e s m args below meth c s₁ B hml hno hv
  obtain ⟨rfl, hsz, hP, hK, hD0, hev⟩ := hv
  have hx := B.exec
  have hb := B.bytes
  have hr := B.returns
  have hts : ∀ w9 ∈ gb, w9.before [.ref (ad 0), .int r, .int o, .int i].toArray s = true := fun w9 h => atoms_spec (ws := Cond.code ⟨"JoinedTrees", "element", "(III)I"⟩ prog_1_method_20_code 5 (some .int) :: gb) B.pre w9 (List.mem_cons_of_mem _ h)
  have hown : s.vm.findClass "JoinedTrees" = some m.cls := findClass_of_methodNamed B.named
  have hlocks := B.notSynchronized
  subst hsz
  have hNS := ns_of hP
  have hD := hD0.self (sz := s.heap.size)
  generalize hAe : va_A (fxW ad ac ck) s.heap.size = A at hD hev hNS ⊢
  have hA : ∀ q : Nat, s.heap.size ≤ q → A q := fun q h => by rw [← hAe]; exact Or.inr h
  have hS : va_S A s.heap s.heap [] := va_S.rf
  have hP : va_P D cls (fxW ad ac ck) s.heap := hP
  have hl := lv_entry ([.ref (ad 0), .int r, .int o, .int i]) (n := 5) (Nat.le_of_ble_eq_true rfl)
  rw [lg_entry_eq]
  generalize (lg_sl ([.ref (ad 0), .int r, .int o, .int i]) ++ List.replicate (5 - (lg_sl ([.ref (ad 0), .int r, .int o, .int i])).length) Slot.unset).toArray = ls at hl ⊢
  have hl : lv_has ls 5 [(0, .ref (ad 0)), (1, .int r), (2, .int o), (3, .int i)] := hl
  refine lv_aload_n hx hb d_element_0 rfl (lv_at hl 0 rfl) ?_
  refine lv_iload_n hx hb d_element_1 rfl (lv_at hl 1 rfl) ?_
  by_cases c_2 : r < 0
  · have hFc := fr_all hD hS hA
    exact tx_on (tx_runV (As := [.int r]) (rest := []) ⟨hx, hb, hml, hown, hts⟩ (c_shown_T l hfl D ad ac ck s.heap.size r (Or.inl c_2)) (cw_v 1 hts kw_593 kw_590 kw_592 kp_3 kw_1 rfl rfl (by decide +kernel) ⟨Nat.le_of_ble_eq_true rfl, Nat.le_of_ble_eq_true rfl⟩) ⟨fx_blind, va_recv hK hP (ci := 11) (q0 := 0) rfl rfl, fun U hU hW => fx_pre hU hW hP hK hD hev hNS hS hFc⟩ rfl rfl hl.1 rfl (lv_room (Nat.le_of_ble_eq_true rfl)) d_element_2 ⟨Nat.le_of_ble_eq_true rfl, Nat.le_of_ble_eq_true rfl⟩) hno hlocks hS hFc
  · by_cases c_3 : r < 8
    · obtain ⟨j_1, hj_1, rfl⟩ := of8 c_2 c_3
      have hFc := fr_all hD hS hA
      refine va_callq (va_runV (As := [.int (nI j_1)]) (rest := []) ⟨hx, hb, hml, hown, hts⟩ (c_shown l hfl D ad ac ck s.heap.size j_1 hj_1) (cw_v 1 hts kw_593 kw_590 kw_592 kp_3 kw_1 rfl rfl (by decide +kernel) ⟨Nat.le_of_ble_eq_true rfl, Nat.le_of_ble_eq_true rfl⟩) ⟨fx_blind, va_recv hK hP (ci := 11) (q0 := 0) rfl rfl, fun U hU hW => fx_pre hU hW hP hK hD hev hNS hS hFc⟩ rfl rfl hl.1 rfl (lv_room (Nat.le_of_ble_eq_true rfl)) d_element_2 ⟨Nat.le_of_ble_eq_true rfl, Nat.le_of_ble_eq_true rfl⟩) hS (fun q _ h => hFc q h) hFc (fun r_4 u_5 t H1 locs ht hvm hw hB hz1 hk1 hS => ?_)
      obtain ⟨hP, -, hD1⟩ := hB
      rw [ht] at hP
      have hD := hD1.weaken (fun _ q _ h => hFc q.1 h)
      generalize H1 = H at hP hS ⊢
      refine W.cs (cells' := 0) (slots' := 0) rfl rfl ?_
      subst hw
      refine w_v (y := .ref (ad (18 + j_1))) rfl ?_
      refine lv_pop hx hb d_element_5 rfl ?_
      refine lv_aload_n hx hb d_element_6 rfl (lv_at hl 0 rfl) ?_
      refine va_get (D := D) (ci := 11) (v := .ref (ad 3)) (C := R_JT) (T := F_JT) (N := 13) hx hb hts i_JT hown hK hP 0 rfl rfl 2 (by decide) (hts _ kw_423) (fun _ h9 => h9) rfl d_element_7 ?_
      refine lv_aload_n hx hb d_element_10 rfl (lv_at hl 0 rfl) ?_
      refine lv_iload_n hx hb d_element_11 rfl (lv_at hl 2 rfl) ?_
      by_cases c_6 : o = 0
      · subst c_6
        have hFc := fr_all hD hS hA
        exact tx_on (tx_runV (As := [.int 0]) (rest := [.ref (ad 3)]) ⟨hx, hb, hml, hown, hts⟩ (c_listAt0 l hfl D ad ac u_5 H.size) (cw_v 1 hts kw_776 kw_773 kw_775 kp_13 kw_1 rfl rfl (by decide +kernel) ⟨Nat.le_of_ble_eq_true rfl, Nat.le_of_ble_eq_true rfl⟩) ⟨fx_blind, va_recv hK hP (ci := 11) (q0 := 0) rfl rfl, fun U hU hW => fx_pre hU hW hP hK hD hev hNS hS hFc⟩ rfl rfl hl.1 rfl (lv_room (Nat.le_of_ble_eq_true rfl)) d_element_12 ⟨Nat.le_of_ble_eq_true rfl, Nat.le_of_ble_eq_true rfl⟩) hno hlocks hS hFc
      · first | exact absurd hq (by simp [k_ele, c_2, c_3, c_6]) | (exfalso; simp_all [k_ele])
    · have hFc := fr_all hD hS hA
      exact tx_on (tx_runV (As := [.int r]) (rest := []) ⟨hx, hb, hml, hown, hts⟩ (c_shown_T l hfl D ad ac ck s.heap.size r (Or.inr c_3)) (cw_v 1 hts kw_593 kw_590 kw_592 kp_3 kw_1 rfl rfl (by decide +kernel) ⟨Nat.le_of_ble_eq_true rfl, Nat.le_of_ble_eq_true rfl⟩) ⟨fx_blind, va_recv hK hP (ci := 11) (q0 := 0) rfl rfl, fun U hU hW => fx_pre hU hW hP hK hD hev hNS hS hFc⟩ rfl rfl hl.1 rfl (lv_room (Nat.le_of_ble_eq_true rfl)) d_element_2 ⟨Nat.le_of_ble_eq_true rfl, Nat.le_of_ble_eq_true rfl⟩) hno hlocks hS hFc
theorem d_index_0 : decode prog_1_method_21_code 0 = .ok (.aload_n 0, 1) := by decide +kernel
theorem d_index_1 : decode prog_1_method_21_code 1 = .ok (.iload_n 1, 1) := by decide +kernel
theorem d_index_2 : decode prog_1_method_21_code 2 = .ok (.invokevirtual 105, 3) := by decide +kernel
theorem d_index_5 : decode prog_1_method_21_code 5 = .ok (.pop, 1) := by decide +kernel
theorem d_index_6 : decode prog_1_method_21_code 6 = .ok (.aload_n 0, 1) := by decide +kernel
theorem d_index_7 : decode prog_1_method_21_code 7 = .ok (.iload_n 2, 1) := by decide +kernel
theorem d_index_8 : decode prog_1_method_21_code 8 = .ok (.invokevirtual 145, 3) := by decide +kernel
set_option maxHeartbeats 4000000 in
set_option maxRecDepth 100000 in
theorem c_index_1 (l : Launch) (hfl : l.flags = flags0) (D : va_G) (ad : Nat → Nat) (ac : Nat → ClassId) (ck : Nat → Int32) (sz : Nat) (r o i : Int32) (hq : k_ele r o = 1) : MeT l ⟨"JoinedTrees", "index", "(III)I"⟩ (Cond.code ⟨"JoinedTrees", "index", "(III)I"⟩ prog_1_method_21_code 6 (some .int) :: gb) ({ frames := 7, cells := 1, slots := 6, locals := 118 }) (fxPc D ad ac ck sz [.ref (ad 0), .int r, .int o, .int i]) e_IA (va_A (fxW ad ac ck) sz) 1 6 := by
  refine MeT.ofW (cc := prog_1_method_21_code) (maxL := 6) (ret := (some .int)) (by decide) rfl ?_
  intro p e s m args below meth c s₁ B hml hno hv
  obtain ⟨rfl, hsz, hP, hK, hD0, hev⟩ := hv
  have hx := B.exec
  have hb := B.bytes
  have hr := B.returns
  have hts : ∀ w9 ∈ gb, w9.before [.ref (ad 0), .int r, .int o, .int i].toArray s = true := fun w9 h => atoms_spec (ws := Cond.code ⟨"JoinedTrees", "index", "(III)I"⟩ prog_1_method_21_code 6 (some .int) :: gb) B.pre w9 (List.mem_cons_of_mem _ h)
  have hown : s.vm.findClass "JoinedTrees" = some m.cls := findClass_of_methodNamed B.named
  have hlocks := B.notSynchronized
  subst hsz
  have hNS := ns_of hP
  have hD := hD0.self (sz := s.heap.size)
  generalize hAe : va_A (fxW ad ac ck) s.heap.size = A at hD hev hNS ⊢
  have hA : ∀ q : Nat, s.heap.size ≤ q → A q := fun q h => by rw [← hAe]; exact Or.inr h
  have hS : va_S A s.heap s.heap [] := va_S.rf
  have hP : va_P D cls (fxW ad ac ck) s.heap := hP
  have hl := lv_entry ([.ref (ad 0), .int r, .int o, .int i]) (n := 6) (Nat.le_of_ble_eq_true rfl)
  rw [lg_entry_eq]
  generalize (lg_sl ([.ref (ad 0), .int r, .int o, .int i]) ++ List.replicate (6 - (lg_sl ([.ref (ad 0), .int r, .int o, .int i])).length) Slot.unset).toArray = ls at hl ⊢
  have hl : lv_has ls 6 [(0, .ref (ad 0)), (1, .int r), (2, .int o), (3, .int i)] := hl
  refine lv_aload_n hx hb d_index_0 rfl (lv_at hl 0 rfl) ?_
  refine lv_iload_n hx hb d_index_1 rfl (lv_at hl 1 rfl) ?_
  by_cases c_2 : r < 0
  · have hFc := fr_all hD hS hA
    exact tx_on (tx_runV (As := [.int r]) (rest := []) ⟨hx, hb, hml, hown, hts⟩ (c_shown_T l hfl D ad ac ck s.heap.size r (Or.inl c_2)) (cw_v 1 hts kw_593 kw_590 kw_592 kp_3 kw_1 rfl rfl (by decide +kernel) ⟨Nat.le_of_ble_eq_true rfl, Nat.le_of_ble_eq_true rfl⟩) ⟨fx_blind, va_recv hK hP (ci := 11) (q0 := 0) rfl rfl, fun U hU hW => fx_pre hU hW hP hK hD hev hNS hS hFc⟩ rfl rfl hl.1 rfl (lv_room (Nat.le_of_ble_eq_true rfl)) d_index_2 ⟨Nat.le_of_ble_eq_true rfl, Nat.le_of_ble_eq_true rfl⟩) hno hlocks hS hFc
  · by_cases c_3 : r < 8
    · obtain ⟨j_1, hj_1, rfl⟩ := of8 c_2 c_3
      have hFc := fr_all hD hS hA
      refine va_callq (va_runV (As := [.int (nI j_1)]) (rest := []) ⟨hx, hb, hml, hown, hts⟩ (c_shown l hfl D ad ac ck s.heap.size j_1 hj_1) (cw_v 1 hts kw_593 kw_590 kw_592 kp_3 kw_1 rfl rfl (by decide +kernel) ⟨Nat.le_of_ble_eq_true rfl, Nat.le_of_ble_eq_true rfl⟩) ⟨fx_blind, va_recv hK hP (ci := 11) (q0 := 0) rfl rfl, fun U hU hW => fx_pre hU hW hP hK hD hev hNS hS hFc⟩ rfl rfl hl.1 rfl (lv_room (Nat.le_of_ble_eq_true rfl)) d_index_2 ⟨Nat.le_of_ble_eq_true rfl, Nat.le_of_ble_eq_true rfl⟩) hS (fun q _ h => hFc q h) hFc (fun r_4 u_5 t H1 locs ht hvm hw hB hz1 hk1 hS => ?_)
      obtain ⟨hP, -, hD1⟩ := hB
      rw [ht] at hP
      have hD := hD1.weaken (fun _ q _ h => hFc q.1 h)
      generalize H1 = H at hP hS ⊢
      refine W.cs (cells' := 0) (slots' := 0) rfl rfl ?_
      subst hw
      refine w_v (y := .ref (ad (18 + j_1))) rfl ?_
      refine lv_pop hx hb d_index_5 rfl ?_
      refine lv_aload_n hx hb d_index_6 rfl (lv_at hl 0 rfl) ?_
      refine lv_iload_n hx hb d_index_7 rfl (lv_at hl 2 rfl) ?_
      by_cases c_6 : o = 0
      · subst c_6
        have hFc := fr_all hD hS hA
        exact tx_on (tx_runV (As := [.int 0]) (rest := []) ⟨hx, hb, hml, hown, hts⟩ (c_listAt0 l hfl D ad ac u_5 H.size) (cw_v 1 hts kw_776 kw_773 kw_775 kp_13 kw_1 rfl rfl (by decide +kernel) ⟨Nat.le_of_ble_eq_true rfl, Nat.le_of_ble_eq_true rfl⟩) ⟨fx_blind, va_recv hK hP (ci := 11) (q0 := 0) rfl rfl, fun U hU hW => fx_pre hU hW hP hK hD hev hNS hS hFc⟩ rfl rfl hl.1 rfl (lv_room (Nat.le_of_ble_eq_true rfl)) d_index_8 ⟨Nat.le_of_ble_eq_true rfl, Nat.le_of_ble_eq_true rfl⟩) hno hlocks hS hFc
      · first | exact absurd hq (by simp [k_ele, c_2, c_3, c_6]) | (exfalso; simp_all [k_ele])
    · have hFc := fr_all hD hS hA
      exact tx_on (tx_runV (As := [.int r]) (rest := []) ⟨hx, hb, hml, hown, hts⟩ (c_shown_T l hfl D ad ac ck s.heap.size r (Or.inr c_3)) (cw_v 1 hts kw_593 kw_590 kw_592 kp_3 kw_1 rfl rfl (by decide +kernel) ⟨Nat.le_of_ble_eq_true rfl, Nat.le_of_ble_eq_true rfl⟩) ⟨fx_blind, va_recv hK hP (ci := 11) (q0 := 0) rfl rfl, fun U hU hW => fx_pre hU hW hP hK hD hev hNS hS hFc⟩ rfl rfl hl.1 rfl (lv_room (Nat.le_of_ble_eq_true rfl)) d_index_2 ⟨Nat.le_of_ble_eq_true rfl, Nat.le_of_ble_eq_true rfl⟩) hno hlocks hS hFc
theorem d_key_24 : decode prog_1_method_17_code 24 = .ok (.invokevirtual 152, 3) := by decide +kernel
set_option maxHeartbeats 4000000 in
set_option maxRecDepth 100000 in
theorem c_key_2 (l : Launch) (hfl : l.flags = flags0) (D : va_G) (ad : Nat → Nat) (ac : Nat → ClassId) (ck : Nat → Int32) (sz : Nat) (r o i q : Int32) (hq : k_key r = 2) : MeT l ⟨"JoinedTrees", "key", "(IIII)I"⟩ (Cond.code ⟨"JoinedTrees", "key", "(IIII)I"⟩ prog_1_method_17_code 7 (some .int) :: gb) ({ frames := 8, cells := 1, slots := 6, locals := 140 }) (fxPc D ad ac ck sz [.ref (ad 0), .int r, .int o, .int i, .int q]) e_NE (va_A (fxW ad ac ck) sz) 1 6 := by
  refine MeT.ofW (cc := prog_1_method_17_code) (maxL := 7) (ret := (some .int)) (by decide) rfl ?_
  intro p e s m args below meth c s₁ B hml hno hv
  obtain ⟨rfl, hsz, hP, hK, hD0, hev⟩ := hv
  have hx := B.exec
  have hb := B.bytes
  have hr := B.returns
  have hts : ∀ w9 ∈ gb, w9.before [.ref (ad 0), .int r, .int o, .int i, .int q].toArray s = true := fun w9 h => atoms_spec (ws := Cond.code ⟨"JoinedTrees", "key", "(IIII)I"⟩ prog_1_method_17_code 7 (some .int) :: gb) B.pre w9 (List.mem_cons_of_mem _ h)
  have hown : s.vm.findClass "JoinedTrees" = some m.cls := findClass_of_methodNamed B.named
  have hlocks := B.notSynchronized
  subst hsz
  have hNS := ns_of hP
  have hD := hD0.self (sz := s.heap.size)
  generalize hAe : va_A (fxW ad ac ck) s.heap.size = A at hD hev hNS ⊢
  have hA : ∀ q : Nat, s.heap.size ≤ q → A q := fun q h => by rw [← hAe]; exact Or.inr h
  have hS : va_S A s.heap s.heap [] := va_S.rf
  have hP : va_P D cls (fxW ad ac ck) s.heap := hP
  have hl := lv_entry ([.ref (ad 0), .int r, .int o, .int i, .int q]) (n := 7) (Nat.le_of_ble_eq_true rfl)
  rw [lg_entry_eq]
  generalize (lg_sl ([.ref (ad 0), .int r, .int o, .int i, .int q]) ++ List.replicate (7 - (lg_sl ([.ref (ad 0), .int r, .int o, .int i, .int q])).length) Slot.unset).toArray = ls at hl ⊢
  have hl : lv_has ls 7 [(0, .ref (ad 0)), (1, .int r), (2, .int o), (3, .int i), (4, .int q)] := hl
  refine lv_aload_n hx hb d_key_0 rfl (lv_at hl 0 rfl) ?_
  refine lv_iload_n hx hb d_key_1 rfl (lv_at hl 1 rfl) ?_
  by_cases c_2 : r < 0
  · first | exact absurd hq (by simp [k_key, c_2]) | (exfalso; simp_all [k_key])
  · by_cases c_3 : r < 8
    · obtain ⟨j_1, hj_1, rfl⟩ := of8 c_2 c_3
      have hFc := fr_all hD hS hA
      refine va_callq (va_runV (As := [.int (nI j_1)]) (rest := []) ⟨hx, hb, hml, hown, hts⟩ (c_shown l hfl D ad ac ck s.heap.size j_1 hj_1) (cw_v 1 hts kw_593 kw_590 kw_592 kp_3 kw_1 rfl rfl (by decide +kernel) ⟨Nat.le_of_ble_eq_true rfl, Nat.le_of_ble_eq_true rfl⟩) ⟨fx_blind, va_recv hK hP (ci := 11) (q0 := 0) rfl rfl, fun U hU hW => fx_pre hU hW hP hK hD hev hNS hS hFc⟩ rfl rfl hl.1 rfl (lv_room (Nat.le_of_ble_eq_true rfl)) d_key_2 ⟨Nat.le_of_ble_eq_true rfl, Nat.le_of_ble_eq_true rfl⟩) hS (fun q _ h => hFc q h) hFc (fun r_4 u_5 t H1 locs ht hvm hw hB hz1 hk1 hS => ?_)
      obtain ⟨hP, -, hD1⟩ := hB
      rw [ht] at hP
      have hD := hD1.weaken (fun _ q _ h => hFc q.1 h)
      generalize H1 = H at hP hS ⊢
      refine W.cs (cells' := 0) (slots' := 0) rfl rfl ?_
      subst hw
      refine w_v (y := .ref (ad (18 + j_1))) rfl ?_
      refine lv_pop hx hb d_key_5 rfl ?_
      refine lv_aload_n hx hb d_key_6 rfl (lv_at hl 0 rfl) ?_
      refine va_get (D := D) (ci := 11) (v := .ref (ad 3)) (C := R_JT) (T := F_JT) (N := 13) hx hb hts i_JT hown hK hP 0 rfl rfl 2 (by decide) (hts _ kw_423) (fun _ h9 => h9) rfl d_key_7 ?_
      refine lv_aload_n hx hb d_key_10 rfl (lv_at hl 0 rfl) ?_
      refine lv_iload_n hx hb d_key_11 rfl (lv_at hl 2 rfl) ?_
      by_cases c_6 : o = 0
      · subst c_6
        have hFc := fr_all hD hS hA
        refine va_callq (va_runV (As := [.int 0]) (rest := [.ref (ad 3)]) ⟨hx, hb, hml, hown, hts⟩ (c_mapAt0 l hfl D ad ac u_5 H.size) (cw_v 1 hts kw_612 kw_609 kw_611 kp_6 kw_1 rfl rfl (by decide +kernel) ⟨Nat.le_of_ble_eq_true rfl, Nat.le_of_ble_eq_true rfl⟩) ⟨fx_blind, va_recv hK hP (ci := 11) (q0 := 0) rfl rfl, fun U hU hW => fx_pre hU hW hP hK hD hev hNS hS hFc⟩ rfl rfl hl.1 rfl (lv_room (Nat.le_of_ble_eq_true rfl)) d_key_12 ⟨Nat.le_of_ble_eq_true rfl, Nat.le_of_ble_eq_true rfl⟩) hS (fun q _ h => hFc q h) hFc (fun r_7 u_8 t H1 locs ht hvm hw hB hz1 hk1 hS => ?_)
        obtain ⟨hP, -, hD1⟩ := hB
        rw [ht] at hP
        have hD := hD1.weaken (fun _ q _ h => hFc q.1 h)
        generalize H1 = H at hP hS ⊢
        refine W.cs (cells' := 0) (slots' := 0) rfl rfl ?_
        subst hw
        refine w_v (y := .ref (ad 5)) rfl ?_
        refine lv_iload_n hx hb d_key_15 rfl (lv_at hl 3 rfl) ?_
        have hFc := fr_all hD hS hA
        refine va_callq (va_runV (As := [.ref (ad 5), .int i]) (rest := []) ⟨hx, hb, hml, hown, hts⟩ (c_spotAt l hfl D ad ac u_8 H.size i) (cw_v 2 hts kw_780 kw_777 kw_778 kw_779 kw_6 rfl rfl (by decide +kernel) ⟨Nat.le_of_ble_eq_true rfl, Nat.le_of_ble_eq_true rfl⟩) ⟨fx_blind, va_recv hK hP (ci := 10) (q0 := 3) rfl rfl, fun U hU hW => fx_pre hU hW hP hK hD hev hNS hS hFc⟩ rfl rfl hl.1 rfl (lv_room (Nat.le_of_ble_eq_true rfl)) d_key_16 ⟨Nat.le_of_ble_eq_true rfl, Nat.le_of_ble_eq_true rfl⟩) hS (fun q _ h => hFc q h) hFc (fun r_9 u_10 t H1 locs ht hvm hw hB hz1 hk1 hS => ?_)
        obtain ⟨hP, -, hD1⟩ := hB
        rw [ht] at hP
        have hD := hD1.weaken (fun _ q _ h => hFc q.1 h)
        generalize H1 = H at hP hS ⊢
        refine W.cs (cells' := 0) (slots' := 0) rfl rfl ?_
        subst hw
        refine w_v (y := .null) rfl ?_
        refine lv_astoreN (lv' := [(5, .null), (0, .ref (ad 0)), (1, .int (nI j_1)), (2, .int 0), (3, .int i), (4, .int q)]) hx hb d_key_19 hl (by decide) rfl (fun ls hl => ?_)
        refine lv_aload_n hx hb d_key_21 rfl (lv_at hl 1 rfl) ?_
        refine lv_aloadN hx hb d_key_22 (lv_at hl 0 rfl) ?_
        have hFc := fr_all hD hS hA
        exact tx_on (tx_runV (As := [.null]) (rest := []) ⟨hx, hb, hml, hown, hts⟩ (c_nsp l hfl D ad ac u_10 H.size) (cw_v 1 hts kw_789 kw_786 kw_788 kp_14 kw_1 rfl rfl (by decide +kernel) ⟨Nat.le_of_ble_eq_true rfl, Nat.le_of_ble_eq_true rfl⟩) ⟨fx_blind, va_recv hK hP (ci := 11) (q0 := 0) rfl rfl, fun U hU hW => fx_pre hU hW hP hK hD hev hNS hS hFc⟩ rfl rfl hl.1 rfl (lv_room (Nat.le_of_ble_eq_true rfl)) d_key_24 ⟨Nat.le_of_ble_eq_true rfl, Nat.le_of_ble_eq_true rfl⟩) hno hlocks hS hFc
      · have hFc := fr_all hD hS hA
        exact tx_on (tx_runV (As := [.int o]) (rest := [.ref (ad 3)]) ⟨hx, hb, hml, hown, hts⟩ (c_mapAtN l hfl D ad ac u_5 H.size o c_6) (cw_v 1 hts kw_612 kw_609 kw_611 kp_6 kw_1 rfl rfl (by decide +kernel) ⟨Nat.le_of_ble_eq_true rfl, Nat.le_of_ble_eq_true rfl⟩) ⟨fx_blind, va_recv hK hP (ci := 11) (q0 := 0) rfl rfl, fun U hU hW => fx_pre hU hW hP hK hD hev hNS hS hFc⟩ rfl rfl hl.1 rfl (lv_room (Nat.le_of_ble_eq_true rfl)) d_key_12 ⟨Nat.le_of_ble_eq_true rfl, Nat.le_of_ble_eq_true rfl⟩) hno hlocks hS hFc
    · first | exact absurd hq (by simp [k_key, c_2, c_3]) | (exfalso; simp_all [k_key])
set_option maxHeartbeats 4000000 in
set_option maxRecDepth 100000 in
theorem c_candidate_2 (l : Launch) (hfl : l.flags = flags0) (D : va_G) (ad : Nat → Nat) (ac : Nat → ClassId) (ck : Nat → Int32) (sz : Nat) (r o i q w : Int32) (hq : k_can r o i w = 2) : MeT l ⟨"JoinedTrees", "candidate", "(IIIII)J"⟩ (Cond.code ⟨"JoinedTrees", "candidate", "(IIIII)J"⟩ prog_1_method_18_code 8 (some .long) :: gb) ({ frames := 9, cells := 1, slots := 6, locals := 163 }) (fxPc D ad ac ck sz [.ref (ad 0), .int r, .int o, .int i, .int q, .int w]) e_NE (va_A (fxW ad ac ck) sz) 1 6 := by
  refine MeT.ofW (cc := prog_1_method_18_code) (maxL := 8) (ret := (some .long)) (by decide) rfl ?_
  intro p e s m args below meth c s₁ B hml hno hv
  obtain ⟨rfl, hsz, hP, hK, hD0, hev⟩ := hv
  have hx := B.exec
  have hb := B.bytes
  have hr := B.returns
  have hts : ∀ w9 ∈ gb, w9.before [.ref (ad 0), .int r, .int o, .int i, .int q, .int w].toArray s = true := fun w9 h => atoms_spec (ws := Cond.code ⟨"JoinedTrees", "candidate", "(IIIII)J"⟩ prog_1_method_18_code 8 (some .long) :: gb) B.pre w9 (List.mem_cons_of_mem _ h)
  have hown : s.vm.findClass "JoinedTrees" = some m.cls := findClass_of_methodNamed B.named
  have hlocks := B.notSynchronized
  subst hsz
  have hNS := ns_of hP
  have hD := hD0.self (sz := s.heap.size)
  generalize hAe : va_A (fxW ad ac ck) s.heap.size = A at hD hev hNS ⊢
  have hA : ∀ q : Nat, s.heap.size ≤ q → A q := fun q h => by rw [← hAe]; exact Or.inr h
  have hS : va_S A s.heap s.heap [] := va_S.rf
  have hP : va_P D cls (fxW ad ac ck) s.heap := hP
  have hl := lv_entry ([.ref (ad 0), .int r, .int o, .int i, .int q, .int w]) (n := 8) (Nat.le_of_ble_eq_true rfl)
  rw [lg_entry_eq]
  generalize (lg_sl ([.ref (ad 0), .int r, .int o, .int i, .int q, .int w]) ++ List.replicate (8 - (lg_sl ([.ref (ad 0), .int r, .int o, .int i, .int q, .int w])).length) Slot.unset).toArray = ls at hl ⊢
  have hl : lv_has ls 8 [(0, .ref (ad 0)), (1, .int r), (2, .int o), (3, .int i), (4, .int q), (5, .int w)] := hl
  refine lv_aload_n hx hb d_candidate_0 rfl (lv_at hl 0 rfl) ?_
  have hFc := fr_all hD hS hA
  refine va_calli (va_runV (As := []) (rest := []) ⟨hx, hb, hml, hown, hts⟩ (c_take l hfl D ad ac ck s.heap.size) (cw_v 0 hts kw_589 kw_586 kw_588 kp_2 kw_1 rfl rfl (by decide +kernel) ⟨Nat.le_of_ble_eq_true rfl, Nat.le_of_ble_eq_true rfl⟩) ⟨fx_blind, va_recv hK hP (ci := 11) (q0 := 0) rfl rfl, fun U hU hW => fx_pre hU hW hP hK hD hev hNS hS hFc⟩ rfl rfl hl.1 rfl (lv_room (Nat.le_of_ble_eq_true rfl)) d_candidate_1 ⟨Nat.le_of_ble_eq_true rfl, Nat.le_of_ble_eq_true rfl⟩) hS (fun q _ h => hFc q h) hFc (fun r_1 u_2 t H1 locs ht hvm hw hB hz1 hk1 hS => ?_)
  obtain ⟨hP, -, hD1⟩ := hB
  rw [ht] at hP
  have hD := hD1.weaken (fun _ q _ h => hFc q.1 h)
  generalize H1 = H at hP hS ⊢
  refine W.cs (cells' := 0) (slots' := 0) rfl rfl ?_
  subst hw
  refine lv_istore (lv' := [(6, .int 0), (0, .ref (ad 0)), (1, .int r), (2, .int o), (3, .int i), (4, .int q), (5, .int w)]) hx hb d_candidate_4 hl (by decide) rfl (fun ls hl => ?_)
  refine lv_aload_n hx hb d_candidate_6 rfl (lv_at hl 1 rfl) ?_
  refine lv_iload_n hx hb d_candidate_7 rfl (lv_at hl 2 rfl) ?_
  by_cases c_4 : r < 0
  · first | exact absurd hq (by simp [k_can, c_4]) | (exfalso; simp_all [k_can])
  · by_cases c_5 : r < 8
    · obtain ⟨j_3, hj_3, rfl⟩ := of8 c_4 c_5
      have hFc := fr_all hD hS hA
      refine va_callq (va_runV (As := [.int (nI j_3)]) (rest := []) ⟨hx, hb, hml, hown, hts⟩ (c_shown l hfl D ad ac u_2 H.size j_3 hj_3) (cw_v 1 hts kw_593 kw_590 kw_592 kp_3 kw_1 rfl rfl (by decide +kernel) ⟨Nat.le_of_ble_eq_true rfl, Nat.le_of_ble_eq_true rfl⟩) ⟨fx_blind, va_recv hK hP (ci := 11) (q0 := 0) rfl rfl, fun U hU hW => fx_pre hU hW hP hK hD hev hNS hS hFc⟩ rfl rfl hl.1 rfl (lv_room (Nat.le_of_ble_eq_true rfl)) d_candidate_8 ⟨Nat.le_of_ble_eq_true rfl, Nat.le_of_ble_eq_true rfl⟩) hS (fun q _ h => hFc q h) hFc (fun r_6 u_7 t H1 locs ht hvm hw hB hz1 hk1 hS => ?_)
      obtain ⟨hP, -, hD1⟩ := hB
      rw [ht] at hP
      have hD := hD1.weaken (fun _ q _ h => hFc q.1 h)
      generalize H1 = H at hP hS ⊢
      refine W.cs (cells' := 0) (slots' := 0) rfl rfl ?_
      subst hw
      refine w_v (y := .ref (ad (18 + j_3))) rfl ?_
      refine lv_pop hx hb d_candidate_11 rfl ?_
      refine lv_aload_n hx hb d_candidate_12 rfl (lv_at hl 1 rfl) ?_
      refine lv_iload hx hb d_candidate_13 (lv_at hl 0 rfl) ?_
      refine lv_iload_n hx hb d_candidate_15 rfl (lv_at hl 4 rfl) ?_
      by_cases c_8 : i = -1
      · first | exact absurd hq (by simp [k_can, c_4, c_5, c_8]) | (exfalso; simp_all [k_can])
      · have hFc := fr_all hD hS hA
        refine va_callv (va_runV (As := [.int 0, .int i]) (rest := []) ⟨hx, hb, hml, hown, hts⟩ (c_np l hfl D ad ac u_7 H.size i c_8) (cw_v 2 hts kw_843 kw_840 kw_842 kp_19 kw_1 rfl rfl (by decide +kernel) ⟨Nat.le_of_ble_eq_true rfl, Nat.le_of_ble_eq_true rfl⟩) ⟨fx_blind, va_recv hK hP (ci := 11) (q0 := 0) rfl rfl, fun U hU hW => fx_pre hU hW hP hK hD hev hNS hS hFc⟩ rfl rfl hl.1 rfl (lv_room (Nat.le_of_ble_eq_true rfl)) d_candidate_16 ⟨Nat.le_of_ble_eq_true rfl, Nat.le_of_ble_eq_true rfl⟩) hS (fun q _ h => hFc q h) hFc (fun u_10 t H1 locs ht hvm hw hB hz1 hk1 hS => ?_)
        obtain ⟨hP, -, hD1⟩ := hB
        rw [ht] at hP
        have hD := hD1.weaken (fun _ q _ h => hFc q.1 h)
        generalize H1 = H at hP hS ⊢
        refine W.cs (cells' := 0) (slots' := 0) rfl rfl ?_
        refine lv_iload hx hb d_candidate_19 (lv_at hl 6 rfl) ?_
        refine lv_if_lt (tgt := 30) hx hb d_candidate_21 (by decide) (fun c_11 => ?_) (fun c_11 => ?_)
        · first | exact absurd hq (by simp [k_can, c_4, c_5, c_8, c_11]) | (exfalso; simp_all [k_can])
        · refine lv_iload hx hb d_candidate_24 (lv_at hl 6 rfl) ?_
          refine lv_iconst (v := 4) hx hb d_candidate_26 (by decide) ?_
          refine lv_icmp_le (tgt := 38) hx hb d_candidate_27 (by decide) (fun c_12 => ?_) (fun c_12 => ?_)
          · refine lv_aload_n hx hb d_candidate_38 rfl (lv_at hl 1 rfl) ?_
            refine va_get (D := D) (ci := 11) (v := .ref (ad 3)) (C := R_JT) (T := F_JT) (N := 13) hx hb hts i_JT hown hK hP 0 rfl rfl 2 (by decide) (hts _ kw_423) (fun _ h9 => h9) rfl d_candidate_39 ?_
            refine lv_aload_n hx hb d_candidate_42 rfl (lv_at hl 1 rfl) ?_
            refine lv_iload_n hx hb d_candidate_43 rfl (lv_at hl 3 rfl) ?_
            refine lv_iload_n hx hb d_candidate_44 rfl (lv_at hl 4 rfl) ?_
            by_cases c_13 : o = 0
            · subst c_13
              first | exact absurd hq (by simp [k_can, c_4, c_5, c_8, c_11, c_12]) | (exfalso; simp_all [k_can])
            · have hFc := fr_all hD hS hA
              exact tx_on (tx_runV (As := [.int o, .int i]) (rest := [.ref (ad 3)]) ⟨hx, hb, hml, hown, hts⟩ (c_plAtN l hfl D ad ac u_10 H.size o i c_13 c_8) (cw_v 2 hts kw_847 kw_844 kw_846 kp_20 kw_1 rfl rfl (by decide +kernel) ⟨Nat.le_of_ble_eq_true rfl, Nat.le_of_ble_eq_true rfl⟩) ⟨fx_blind, va_recv hK hP (ci := 11) (q0 := 0) rfl rfl, fun U hU hW => fx_pre hU hW hP hK hD hev hNS hS hFc⟩ rfl rfl hl.1 rfl (lv_room (Nat.le_of_ble_eq_true rfl)) d_candidate_45 ⟨Nat.le_of_ble_eq_true rfl, Nat.le_of_ble_eq_true rfl⟩) hno hlocks hS hFc
          · first | exact absurd hq (by simp [k_can, c_4, c_5, c_8, c_11, c_12]) | (exfalso; simp_all [k_can])
    · first | exact absurd hq (by simp [k_can, c_4, c_5]) | (exfalso; simp_all [k_can])
theorem d_letter_34 : decode prog_1_method_19_code 34 = .ok (.new 178, 3) := by decide +kernel
theorem d_letter_37 : decode prog_1_method_19_code 37 = .ok (.dup, 1) := by decide +kernel
theorem d_letter_38 : decode prog_1_method_19_code 38 = .ok (.invokespecial 180, 3) := by decide +kernel
theorem d_letter_41 : decode prog_1_method_19_code 41 = .ok (.athrow, 1) := by decide +kernel
set_option maxHeartbeats 4000000 in
set_option maxRecDepth 100000 in
theorem c_letter_2 (l : Launch) (hfl : l.flags = flags0) (D : va_G) (ad : Nat → Nat) (ac : Nat → ClassId) (ck : Nat → Int32) (sz : Nat) (r o q : Int32) (hq : k_key r = 2) : MeT l ⟨"JoinedTrees", "letter", "(III)I"⟩ (Cond.code ⟨"JoinedTrees", "letter", "(III)I"⟩ prog_1_method_19_code 5 (some .int) :: gb) ({ frames := 6, cells := 1, slots := 6, locals := 103 }) (fxPc D ad ac ck sz [.ref (ad 0), .int r, .int o, .int q]) e_NE (va_A (fxW ad ac ck) sz) 1 6 := by
  refine MeT.ofW (cc := prog_1_method_19_code) (maxL := 5) (ret := (some .int)) (by decide) rfl ?_
  intro p e s m args below meth c s₁ B hml hno hv
  obtain ⟨rfl, hsz, hP, hK, hD0, hev⟩ := hv
  have hx := B.exec
  have hb := B.bytes
  have hr := B.returns
  have hts : ∀ w9 ∈ gb, w9.before [.ref (ad 0), .int r, .int o, .int q].toArray s = true := fun w9 h => atoms_spec (ws := Cond.code ⟨"JoinedTrees", "letter", "(III)I"⟩ prog_1_method_19_code 5 (some .int) :: gb) B.pre w9 (List.mem_cons_of_mem _ h)
  have hown : s.vm.findClass "JoinedTrees" = some m.cls := findClass_of_methodNamed B.named
  have hlocks := B.notSynchronized
  subst hsz
  have hNS := ns_of hP
  have hD := hD0.self (sz := s.heap.size)
  generalize hAe : va_A (fxW ad ac ck) s.heap.size = A at hD hev hNS ⊢
  have hA : ∀ q : Nat, s.heap.size ≤ q → A q := fun q h => by rw [← hAe]; exact Or.inr h
  have hS : va_S A s.heap s.heap [] := va_S.rf
  have hP : va_P D cls (fxW ad ac ck) s.heap := hP
  have hl := lv_entry ([.ref (ad 0), .int r, .int o, .int q]) (n := 5) (Nat.le_of_ble_eq_true rfl)
  rw [lg_entry_eq]
  generalize (lg_sl ([.ref (ad 0), .int r, .int o, .int q]) ++ List.replicate (5 - (lg_sl ([.ref (ad 0), .int r, .int o, .int q])).length) Slot.unset).toArray = ls at hl ⊢
  have hl : lv_has ls 5 [(0, .ref (ad 0)), (1, .int r), (2, .int o), (3, .int q)] := hl
  refine lv_aload_n hx hb d_letter_0 rfl (lv_at hl 0 rfl) ?_
  refine lv_iload_n hx hb d_letter_1 rfl (lv_at hl 1 rfl) ?_
  by_cases c_2 : r < 0
  · first | exact absurd hq (by simp [k_key, c_2]) | (exfalso; simp_all [k_key])
  · by_cases c_3 : r < 8
    · obtain ⟨j_1, hj_1, rfl⟩ := of8 c_2 c_3
      have hFc := fr_all hD hS hA
      refine va_callq (va_runV (As := [.int (nI j_1)]) (rest := []) ⟨hx, hb, hml, hown, hts⟩ (c_shown l hfl D ad ac ck s.heap.size j_1 hj_1) (cw_v 1 hts kw_593 kw_590 kw_592 kp_3 kw_1 rfl rfl (by decide +kernel) ⟨Nat.le_of_ble_eq_true rfl, Nat.le_of_ble_eq_true rfl⟩) ⟨fx_blind, va_recv hK hP (ci := 11) (q0 := 0) rfl rfl, fun U hU hW => fx_pre hU hW hP hK hD hev hNS hS hFc⟩ rfl rfl hl.1 rfl (lv_room (Nat.le_of_ble_eq_true rfl)) d_letter_2 ⟨Nat.le_of_ble_eq_true rfl, Nat.le_of_ble_eq_true rfl⟩) hS (fun q _ h => hFc q h) hFc (fun r_4 u_5 t H1 locs ht hvm hw hB hz1 hk1 hS => ?_)
      obtain ⟨hP, -, hD1⟩ := hB
      rw [ht] at hP
      have hD := hD1.weaken (fun _ q _ h => hFc q.1 h)
      generalize H1 = H at hP hS ⊢
      refine W.cs (cells' := 0) (slots' := 0) rfl rfl ?_
      subst hw
      refine w_v (y := .ref (ad (18 + j_1))) rfl ?_
      refine lv_pop hx hb d_letter_5 rfl ?_
      refine lv_aload_n hx hb d_letter_6 rfl (lv_at hl 0 rfl) ?_
      refine va_get (D := D) (ci := 11) (v := .ref (ad 3)) (C := R_JT) (T := F_JT) (N := 13) hx hb hts i_JT hown hK hP 0 rfl rfl 2 (by decide) (hts _ kw_423) (fun _ h9 => h9) rfl d_letter_7 ?_
      refine lv_iload_n hx hb d_letter_10 rfl (lv_at hl 2 rfl) ?_
      by_cases c_6 : o = 0
      · subst c_6
        have hFc := fr_all hD hS hA
        refine va_callq (va_runV (As := [.int 0]) (rest := []) ⟨hx, hb, hml, hown, hts⟩ (c_opAt0 l hfl D ad ac u_5 H.size) (cw_v 1 hts kw_620 kw_617 kw_618 kw_619 kw_6 rfl rfl (by decide +kernel) ⟨Nat.le_of_ble_eq_true rfl, Nat.le_of_ble_eq_true rfl⟩) ⟨fx_blind, va_recv hK hP (ci := 10) (q0 := 3) rfl rfl, fun U hU hW => fx_pre hU hW hP hK hD hev hNS hS hFc⟩ rfl rfl hl.1 rfl (lv_room (Nat.le_of_ble_eq_true rfl)) d_letter_11 ⟨Nat.le_of_ble_eq_true rfl, Nat.le_of_ble_eq_true rfl⟩) hS (fun q _ h => hFc q h) hFc (fun r_7 u_8 t H1 locs ht hvm hw hB hz1 hk1 hS => ?_)
        obtain ⟨hP, -, hD1⟩ := hB
        rw [ht] at hP
        have hD := hD1.weaken (fun _ q _ h => hFc q.1 h)
        generalize H1 = H at hP hS ⊢
        refine W.cs (cells' := 0) (slots' := 0) rfl rfl ?_
        subst hw
        refine w_v (y := .ref (ad 5)) rfl ?_
        refine lv_astore (lv' := [(4, .ref (ad 5)), (0, .ref (ad 0)), (1, .int (nI j_1)), (2, .int 0), (3, .int q)]) hx hb d_letter_14 hl (by decide) rfl (fun ls hl => ?_)
        refine lv_aload hx hb d_letter_16 (lv_at hl 0 rfl) ?_
        refine lv_ifnull hx hb d_letter_18 ?_
        refine lv_iload_n hx hb d_letter_21 rfl (lv_at hl 4 rfl) ?_
        refine lv_if_lt (tgt := 34) hx hb d_letter_22 (by decide) (fun c_9 => ?_) (fun c_9 => ?_)
        · exact tx_throw (own := "JoinedTrees") (E := e_NE) (names := at_n) (ia := 178) (ic := 180) hfl hx hb hno hlocks hown (by decide +kernel) (by decide +kernel) (hev.atoms hts hev.2.2.2.2.2.1.2.2.1 at_NE) (hts _ kw_629) (hts _ kw_18) d_letter_34 d_letter_37 d_letter_38 d_letter_41 (hl.1.trans hml.symm) hS hA hNS (Nat.le_of_ble_eq_true rfl) (Nat.le_of_ble_eq_true rfl) (Nat.le_of_ble_eq_true rfl) (Nat.le_of_ble_eq_true rfl)
        · refine lv_iload_n hx hb d_letter_25 rfl (lv_at hl 4 rfl) ?_
          refine lv_aload hx hb d_letter_26 (lv_at hl 0 rfl) ?_
          refine va_get (D := D) (ci := 3) (v := .int 0) (C := R_Op) (T := F_Op) (N := 15) hx hb hts i_Op hown hK hP 5 rfl rfl 10 (by decide) (hts _ kw_89) (fun _ h9 => h9) rfl d_letter_28 ?_
          refine lv_icmp_lt (tgt := 42) hx hb d_letter_31 (by decide) (fun c_10 => ?_) (fun c_10 => ?_)
          · first | exact absurd c_10 c_9 | (exfalso; simp_all)
          · exact tx_throw (own := "JoinedTrees") (E := e_NE) (names := at_n) (ia := 178) (ic := 180) hfl hx hb hno hlocks hown (by decide +kernel) (by decide +kernel) (hev.atoms hts hev.2.2.2.2.2.1.2.2.1 at_NE) (hts _ kw_629) (hts _ kw_18) d_letter_34 d_letter_37 d_letter_38 d_letter_41 (hl.1.trans hml.symm) hS hA hNS (Nat.le_of_ble_eq_true rfl) (Nat.le_of_ble_eq_true rfl) (Nat.le_of_ble_eq_true rfl) (Nat.le_of_ble_eq_true rfl)
      · have hFc := fr_all hD hS hA
        refine va_callq (va_runV (As := [.int o]) (rest := []) ⟨hx, hb, hml, hown, hts⟩ (c_opAtN l hfl D ad ac u_5 H.size o c_6) (cw_v 1 hts kw_620 kw_617 kw_618 kw_619 kw_6 rfl rfl (by decide +kernel) ⟨Nat.le_of_ble_eq_true rfl, Nat.le_of_ble_eq_true rfl⟩) ⟨fx_blind, va_recv hK hP (ci := 10) (q0 := 3) rfl rfl, fun U hU hW => fx_pre hU hW hP hK hD hev hNS hS hFc⟩ rfl rfl hl.1 rfl (lv_room (Nat.le_of_ble_eq_true rfl)) d_letter_11 ⟨Nat.le_of_ble_eq_true rfl, Nat.le_of_ble_eq_true rfl⟩) hS (fun q _ h => hFc q h) hFc (fun r_11 u_12 t H1 locs ht hvm hw hB hz1 hk1 hS => ?_)
        obtain ⟨hP, -, hD1⟩ := hB
        rw [ht] at hP
        have hD := hD1.weaken (fun _ q _ h => hFc q.1 h)
        generalize H1 = H at hP hS ⊢
        refine W.cs (cells' := 0) (slots' := 0) rfl rfl ?_
        subst hw
        refine w_v (y := .null) rfl ?_
        refine lv_astoreN (lv' := [(4, .null), (0, .ref (ad 0)), (1, .int (nI j_1)), (2, .int o), (3, .int q)]) hx hb d_letter_14 hl (by decide) rfl (fun ls hl => ?_)
        refine lv_aloadN hx hb d_letter_16 (lv_at hl 0 rfl) ?_
        refine lv_ifnullN (tgt := 34) hx hb d_letter_18 (by decide) ?_
        exact tx_throw (own := "JoinedTrees") (E := e_NE) (names := at_n) (ia := 178) (ic := 180) hfl hx hb hno hlocks hown (by decide +kernel) (by decide +kernel) (hev.atoms hts hev.2.2.2.2.2.1.2.2.1 at_NE) (hts _ kw_629) (hts _ kw_18) d_letter_34 d_letter_37 d_letter_38 d_letter_41 (hl.1.trans hml.symm) hS hA hNS (Nat.le_of_ble_eq_true rfl) (Nat.le_of_ble_eq_true rfl) (Nat.le_of_ble_eq_true rfl) (Nat.le_of_ble_eq_true rfl)
    · first | exact absurd hq (by simp [k_key, c_2, c_3]) | (exfalso; simp_all [k_key])
