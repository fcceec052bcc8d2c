set_option maxHeartbeats 4000000 in
set_option maxRecDepth 100000 in
theorem c_erase_3 (l : Launch) (hfl : l.flags = flags0) (D : va_G) (ad : Nat → Nat) (ac : Nat → ClassId) (ck : Nat → Int32) (sz : Nat) (r o i : Int32) (hq : k_era r o i = 3) : MeT l ⟨"JoinedTrees", "erase", "(III)I"⟩ (Cond.code ⟨"JoinedTrees", "erase", "(III)I"⟩ prog_1_method_8_code 7 (some .int) :: gb) ({ frames := 9, cells := 1, slots := 6, locals := 163 }) (fxPc D ad ac ck sz [.ref (ad 0), .int r, .int o, .int i]) e_NE (va_A (fxW ad ac ck) sz) 1 6 := by
  refine MeT.ofW (cc := prog_1_method_8_code) (maxL := 7) (ret := (some .int)) (by decide) rfl ?_
  intro p e s m args below meth c s₁ B hml hno hv
  obtain ⟨rfl, hsz, hP, hK, hD0, hev⟩ := hv
  have hx := B.exec
  have hb := B.bytes
  have hr := B.returns
  have hts : ∀ w9 ∈ gb, w9.before [.ref (ad 0), .int r, .int o, .int i].toArray s = true := fun w9 h => atoms_spec (ws := Cond.code ⟨"JoinedTrees", "erase", "(III)I"⟩ prog_1_method_8_code 7 (some .int) :: gb) B.pre w9 (List.mem_cons_of_mem _ h)
  have hown : s.vm.findClass "JoinedTrees" = some m.cls := findClass_of_methodNamed B.named
  have hlocks := B.notSynchronized
  subst hsz
  have hNS := ns_of hP
  have hD := hD0.self (sz := s.heap.size)
  generalize hAe : va_A (fxW ad ac ck) s.heap.size = A at hD hev hNS ⊢
  have hA : ∀ q : Nat, s.heap.size ≤ q → A q := fun q h => by rw [← hAe]; exact Or.inr h
  have hS : va_S A s.heap s.heap [] := va_S.rf
  have hP : va_P D cls (fxW ad ac ck) s.heap := hP
  have hl := lv_entry ([.ref (ad 0), .int r, .int o, .int i]) (n := 7) (Nat.le_of_ble_eq_true rfl)
  rw [lg_entry_eq]
  generalize (lg_sl ([.ref (ad 0), .int r, .int o, .int i]) ++ List.replicate (7 - (lg_sl ([.ref (ad 0), .int r, .int o, .int i])).length) Slot.unset).toArray = ls at hl ⊢
  have hl : lv_has ls 7 [(0, .ref (ad 0)), (1, .int r), (2, .int o), (3, .int i)] := hl
  refine lv_aload_n hx hb d_erase_0 rfl (lv_at hl 0 rfl) ?_
  have hFc := fr_all hD hS hA
  refine va_calli (va_runV (As := []) (rest := []) ⟨hx, hb, hml, hown, hts⟩ (c_take l hfl D ad ac ck s.heap.size) (cw_v 0 hts kw_589 kw_586 kw_588 kp_2 kw_1 rfl rfl (by decide +kernel) ⟨Nat.le_of_ble_eq_true rfl, Nat.le_of_ble_eq_true rfl⟩) ⟨fx_blind, va_recv hK hP (ci := 11) (q0 := 0) rfl rfl, fun U hU hW => fx_pre hU hW hP hK hD hev hNS hS hFc⟩ rfl rfl hl.1 rfl (lv_room (Nat.le_of_ble_eq_true rfl)) d_erase_1 ⟨Nat.le_of_ble_eq_true rfl, Nat.le_of_ble_eq_true rfl⟩) hS (fun q _ h => hFc q h) hFc (fun r_1 u_2 t H1 locs ht hvm hw hB hz1 hk1 hS => ?_)
  obtain ⟨hP, -, hD1⟩ := hB
  rw [ht] at hP
  have hD := hD1.weaken (fun _ q _ h => hFc q.1 h)
  generalize H1 = H at hP hS ⊢
  refine W.cs (cells' := 0) (slots' := 0) rfl rfl ?_
  subst hw
  refine lv_istore (lv' := [(4, .int 0), (0, .ref (ad 0)), (1, .int r), (2, .int o), (3, .int i)]) hx hb d_erase_4 hl (by decide) rfl (fun ls hl => ?_)
  refine lv_aload_n hx hb d_erase_6 rfl (lv_at hl 1 rfl) ?_
  refine lv_iload_n hx hb d_erase_7 rfl (lv_at hl 2 rfl) ?_
  by_cases c_4 : r < 0
  · first | exact absurd hq (by simp [k_era, c_4]) | (exfalso; simp_all [k_era])
  · by_cases c_5 : r < 8
    · obtain ⟨j_3, hj_3, rfl⟩ := of8 c_4 c_5
      have hFc := fr_all hD hS hA
      refine va_callq (va_runV (As := [.int (nI j_3)]) (rest := []) ⟨hx, hb, hml, hown, hts⟩ (c_shown l hfl D ad ac u_2 H.size j_3 hj_3) (cw_v 1 hts kw_593 kw_590 kw_592 kp_3 kw_1 rfl rfl (by decide +kernel) ⟨Nat.le_of_ble_eq_true rfl, Nat.le_of_ble_eq_true rfl⟩) ⟨fx_blind, va_recv hK hP (ci := 11) (q0 := 0) rfl rfl, fun U hU hW => fx_pre hU hW hP hK hD hev hNS hS hFc⟩ rfl rfl hl.1 rfl (lv_room (Nat.le_of_ble_eq_true rfl)) d_erase_8 ⟨Nat.le_of_ble_eq_true rfl, Nat.le_of_ble_eq_true rfl⟩) hS (fun q _ h => hFc q h) hFc (fun r_6 u_7 t H1 locs ht hvm hw hB hz1 hk1 hS => ?_)
      obtain ⟨hP, -, hD1⟩ := hB
      rw [ht] at hP
      have hD := hD1.weaken (fun _ q _ h => hFc q.1 h)
      generalize H1 = H at hP hS ⊢
      refine W.cs (cells' := 0) (slots' := 0) rfl rfl ?_
      subst hw
      refine w_v (y := .ref (ad (18 + j_3))) rfl ?_
      refine lv_astore (lv' := [(5, .ref (ad (18 + j_3))), (4, .int 0), (0, .ref (ad 0)), (1, .int (nI j_3)), (2, .int o), (3, .int i)]) hx hb d_erase_11 hl (by decide) rfl (fun ls hl => ?_)
      refine lv_aload_n hx hb d_erase_13 rfl (lv_at hl 2 rfl) ?_
      refine lv_iload hx hb d_erase_14 (lv_at hl 1 rfl) ?_
      refine lv_iload_n hx hb d_erase_16 rfl (lv_at hl 5 rfl) ?_
      by_cases c_8 : i = -1
      · first | exact absurd hq (by simp [k_era, c_4, c_5, c_8]) | (exfalso; simp_all [k_era])
      · have hFc := fr_all hD hS hA
        refine va_callv (va_runV (As := [.int 0, .int i]) (rest := []) ⟨hx, hb, hml, hown, hts⟩ (c_np l hfl D ad ac u_7 H.size i c_8) (cw_v 2 hts kw_843 kw_840 kw_842 kp_19 kw_1 rfl rfl (by decide +kernel) ⟨Nat.le_of_ble_eq_true rfl, Nat.le_of_ble_eq_true rfl⟩) ⟨fx_blind, va_recv hK hP (ci := 11) (q0 := 0) rfl rfl, fun U hU hW => fx_pre hU hW hP hK hD hev hNS hS hFc⟩ rfl rfl hl.1 rfl (lv_room (Nat.le_of_ble_eq_true rfl)) d_erase_17 ⟨Nat.le_of_ble_eq_true rfl, Nat.le_of_ble_eq_true rfl⟩) hS (fun q _ h => hFc q h) hFc (fun u_10 t H1 locs ht hvm hw hB hz1 hk1 hS => ?_)
        obtain ⟨hP, -, hD1⟩ := hB
        rw [ht] at hP
        have hD := hD1.weaken (fun _ q _ h => hFc q.1 h)
        generalize H1 = H at hP hS ⊢
        refine W.cs (cells' := 0) (slots' := 0) rfl rfl ?_
        refine lv_aload_n hx hb d_erase_20 rfl (lv_at hl 2 rfl) ?_
        refine lv_iload_n hx hb d_erase_21 rfl (lv_at hl 4 rfl) ?_
        refine lv_iload_n hx hb d_erase_22 rfl (lv_at hl 5 rfl) ?_
        by_cases c_11 : o = 0
        · subst c_11
          first | exact absurd hq (by simp [k_era, c_4, c_5, c_8]) | (exfalso; simp_all [k_era])
        · have hFc := fr_all hD hS hA
          exact tx_on (tx_runV (As := [.int o, .int i]) (rest := []) ⟨hx, hb, hml, hown, hts⟩ (c_plAtN l hfl D ad ac u_10 H.size o i c_11 c_8) (cw_v 2 hts kw_847 kw_844 kw_846 kp_20 kw_1 rfl rfl (by decide +kernel) ⟨Nat.le_of_ble_eq_true rfl, Nat.le_of_ble_eq_true rfl⟩) ⟨fx_blind, va_recv hK hP (ci := 11) (q0 := 0) rfl rfl, fun U hU hW => fx_pre hU hW hP hK hD hev hNS hS hFc⟩ rfl rfl hl.1 rfl (lv_room (Nat.le_of_ble_eq_true rfl)) d_erase_23 ⟨Nat.le_of_ble_eq_true rfl, Nat.le_of_ble_eq_true rfl⟩) hno hlocks hS hFc
    · first | exact absurd hq (by simp [k_era, c_4, c_5]) | (exfalso; simp_all [k_era])
theorem d_add_0 : decode prog_1_method_9_code 0 = .ok (.aload_n 0, 1) := by decide +kernel
theorem d_add_1 : decode prog_1_method_9_code 1 = .ok (.invokevirtual 102, 3) := by decide +kernel
theorem d_add_4 : decode prog_1_method_9_code 4 = .ok (.istore 6, 2) := by decide +kernel
theorem d_add_6 : decode prog_1_method_9_code 6 = .ok (.aload_n 0, 1) := by decide +kernel
theorem d_add_7 : decode prog_1_method_9_code 7 = .ok (.iload_n 1, 1) := by decide +kernel
theorem d_add_8 : decode prog_1_method_9_code 8 = .ok (.invokevirtual 105, 3) := by decide +kernel
theorem d_add_11 : decode prog_1_method_9_code 11 = .ok (.astore 7, 2) := by decide +kernel
theorem d_add_13 : decode prog_1_method_9_code 13 = .ok (.aload_n 0, 1) := by decide +kernel
theorem d_add_14 : decode prog_1_method_9_code 14 = .ok (.iload 6, 2) := by decide +kernel
theorem d_add_16 : decode prog_1_method_9_code 16 = .ok (.iload_n 3, 1) := by decide +kernel
theorem d_add_17 : decode prog_1_method_9_code 17 = .ok (.invokevirtual 189, 3) := by decide +kernel
theorem d_add_20 : decode prog_1_method_9_code 20 = .ok (.aload_n 0, 1) := by decide +kernel
theorem d_add_21 : decode prog_1_method_9_code 21 = .ok (.iload_n 2, 1) := by decide +kernel
theorem d_add_22 : decode prog_1_method_9_code 22 = .ok (.iload_n 3, 1) := by decide +kernel
theorem d_add_23 : decode prog_1_method_9_code 23 = .ok (.invokevirtual 192, 3) := by decide +kernel
set_option maxHeartbeats 4000000 in
set_option maxRecDepth 100000 in
theorem c_add_1 (l : Launch) (hfl : l.flags = flags0) (D : va_G) (ad : Nat → Nat) (ac : Nat → ClassId) (ck : Nat → Int32) (sz : Nat) (r o i : Int32) (n : Int64) (hq : k_era r o i = 1) : MeT l ⟨"JoinedTrees", "add", "(IIIJ)I"⟩ (Cond.code ⟨"JoinedTrees", "add", "(IIIJ)I"⟩ prog_1_method_9_code 9 (some .int) :: gb) ({ frames := 8, cells := 1, slots := 6, locals := 141 }) (fxPc D ad ac ck sz [.ref (ad 0), .int r, .int o, .int i, .long n]) e_IA (va_A (fxW ad ac ck) sz) 1 6 := by
  refine MeT.ofW (cc := prog_1_method_9_code) (maxL := 9) (ret := (some .int)) (by decide) rfl ?_
  intro p e s m args below meth c s₁ B hml hno hv
  obtain ⟨rfl, hsz, hP, hK, hD0, hev⟩ := hv
  have hx := B.exec
  have hb := B.bytes
  have hr := B.returns
  have hts : ∀ w9 ∈ gb, w9.before [.ref (ad 0), .int r, .int o, .int i, .long n].toArray s = true := fun w9 h => atoms_spec (ws := Cond.code ⟨"JoinedTrees", "add", "(IIIJ)I"⟩ prog_1_method_9_code 9 (some .int) :: gb) B.pre w9 (List.mem_cons_of_mem _ h)
  have hown : s.vm.findClass "JoinedTrees" = some m.cls := findClass_of_methodNamed B.named
  have hlocks := B.notSynchronized
  subst hsz
  have hNS := ns_of hP
  have hD := hD0.self (sz := s.heap.size)
  generalize hAe : va_A (fxW ad ac ck) s.heap.size = A at hD hev hNS ⊢
  have hA : ∀ q : Nat, s.heap.size ≤ q → A q := fun q h => by rw [← hAe]; exact Or.inr h
  have hS : va_S A s.heap s.heap [] := va_S.rf
  have hP : va_P D cls (fxW ad ac ck) s.heap := hP
  have hl := lv_entry ([.ref (ad 0), .int r, .int o, .int i, .long n]) (n := 9) (Nat.le_of_ble_eq_true rfl)
  rw [lg_entry_eq]
  generalize (lg_sl ([.ref (ad 0), .int r, .int o, .int i, .long n]) ++ List.replicate (9 - (lg_sl ([.ref (ad 0), .int r, .int o, .int i, .long n])).length) Slot.unset).toArray = ls at hl ⊢
  have hl : lv_has ls 9 [(0, .ref (ad 0)), (1, .int r), (2, .int o), (3, .int i), (4, .long n)] := hl
  refine lv_aload_n hx hb d_add_0 rfl (lv_at hl 0 rfl) ?_
  have hFc := fr_all hD hS hA
  refine va_calli (va_runV (As := []) (rest := []) ⟨hx, hb, hml, hown, hts⟩ (c_take l hfl D ad ac ck s.heap.size) (cw_v 0 hts kw_589 kw_586 kw_588 kp_2 kw_1 rfl rfl (by decide +kernel) ⟨Nat.le_of_ble_eq_true rfl, Nat.le_of_ble_eq_true rfl⟩) ⟨fx_blind, va_recv hK hP (ci := 11) (q0 := 0) rfl rfl, fun U hU hW => fx_pre hU hW hP hK hD hev hNS hS hFc⟩ rfl rfl hl.1 rfl (lv_room (Nat.le_of_ble_eq_true rfl)) d_add_1 ⟨Nat.le_of_ble_eq_true rfl, Nat.le_of_ble_eq_true rfl⟩) hS (fun q _ h => hFc q h) hFc (fun r_1 u_2 t H1 locs ht hvm hw hB hz1 hk1 hS => ?_)
  obtain ⟨hP, -, hD1⟩ := hB
  rw [ht] at hP
  have hD := hD1.weaken (fun _ q _ h => hFc q.1 h)
  generalize H1 = H at hP hS ⊢
  refine W.cs (cells' := 0) (slots' := 0) rfl rfl ?_
  subst hw
  refine lv_istore (lv' := [(6, .int 0), (0, .ref (ad 0)), (1, .int r), (2, .int o), (3, .int i), (4, .long n)]) hx hb d_add_4 hl (by decide) rfl (fun ls hl => ?_)
  refine lv_aload_n hx hb d_add_6 rfl (lv_at hl 1 rfl) ?_
  refine lv_iload_n hx hb d_add_7 rfl (lv_at hl 2 rfl) ?_
  by_cases c_4 : r < 0
  · have hFc := fr_all hD hS hA
    exact tx_on (tx_runV (As := [.int r]) (rest := []) ⟨hx, hb, hml, hown, hts⟩ (c_shown_T l hfl D ad ac u_2 H.size r (Or.inl c_4)) (cw_v 1 hts kw_593 kw_590 kw_592 kp_3 kw_1 rfl rfl (by decide +kernel) ⟨Nat.le_of_ble_eq_true rfl, Nat.le_of_ble_eq_true rfl⟩) ⟨fx_blind, va_recv hK hP (ci := 11) (q0 := 0) rfl rfl, fun U hU hW => fx_pre hU hW hP hK hD hev hNS hS hFc⟩ rfl rfl hl.1 rfl (lv_room (Nat.le_of_ble_eq_true rfl)) d_add_8 ⟨Nat.le_of_ble_eq_true rfl, Nat.le_of_ble_eq_true rfl⟩) hno hlocks hS hFc
  · by_cases c_5 : r < 8
    · obtain ⟨j_3, hj_3, rfl⟩ := of8 c_4 c_5
      have hFc := fr_all hD hS hA
      refine va_callq (va_runV (As := [.int (nI j_3)]) (rest := []) ⟨hx, hb, hml, hown, hts⟩ (c_shown l hfl D ad ac u_2 H.size j_3 hj_3) (cw_v 1 hts kw_593 kw_590 kw_592 kp_3 kw_1 rfl rfl (by decide +kernel) ⟨Nat.le_of_ble_eq_true rfl, Nat.le_of_ble_eq_true rfl⟩) ⟨fx_blind, va_recv hK hP (ci := 11) (q0 := 0) rfl rfl, fun U hU hW => fx_pre hU hW hP hK hD hev hNS hS hFc⟩ rfl rfl hl.1 rfl (lv_room (Nat.le_of_ble_eq_true rfl)) d_add_8 ⟨Nat.le_of_ble_eq_true rfl, Nat.le_of_ble_eq_true rfl⟩) hS (fun q _ h => hFc q h) hFc (fun r_6 u_7 t H1 locs ht hvm hw hB hz1 hk1 hS => ?_)
      obtain ⟨hP, -, hD1⟩ := hB
      rw [ht] at hP
      have hD := hD1.weaken (fun _ q _ h => hFc q.1 h)
      generalize H1 = H at hP hS ⊢
      refine W.cs (cells' := 0) (slots' := 0) rfl rfl ?_
      subst hw
      refine w_v (y := .ref (ad (18 + j_3))) rfl ?_
      refine lv_astore (lv' := [(7, .ref (ad (18 + j_3))), (6, .int 0), (0, .ref (ad 0)), (1, .int (nI j_3)), (2, .int o), (3, .int i), (4, .long n)]) hx hb d_add_11 hl (by decide) rfl (fun ls hl => ?_)
      refine lv_aload_n hx hb d_add_13 rfl (lv_at hl 2 rfl) ?_
      refine lv_iload hx hb d_add_14 (lv_at hl 1 rfl) ?_
      refine lv_iload_n hx hb d_add_16 rfl (lv_at hl 5 rfl) ?_
      by_cases c_8 : i = -1
      · have hFc := fr_all hD hS hA
        exact tx_on (tx_runV (As := [.int 0, .int i]) (rest := []) ⟨hx, hb, hml, hown, hts⟩ (c_np_T l hfl D ad ac u_7 H.size i c_8) (cw_v 2 hts kw_843 kw_840 kw_842 kp_19 kw_1 rfl rfl (by decide +kernel) ⟨Nat.le_of_ble_eq_true rfl, Nat.le_of_ble_eq_true rfl⟩) ⟨fx_blind, va_recv hK hP (ci := 11) (q0 := 0) rfl rfl, fun U hU hW => fx_pre hU hW hP hK hD hev hNS hS hFc⟩ rfl rfl hl.1 rfl (lv_room (Nat.le_of_ble_eq_true rfl)) d_add_17 ⟨Nat.le_of_ble_eq_true rfl, Nat.le_of_ble_eq_true rfl⟩) hno hlocks hS hFc
      · have hFc := fr_all hD hS hA
        refine va_callv (va_runV (As := [.int 0, .int i]) (rest := []) ⟨hx, hb, hml, hown, hts⟩ (c_np l hfl D ad ac u_7 H.size i c_8) (cw_v 2 hts kw_843 kw_840 kw_842 kp_19 kw_1 rfl rfl (by decide +kernel) ⟨Nat.le_of_ble_eq_true rfl, Nat.le_of_ble_eq_true rfl⟩) ⟨fx_blind, va_recv hK hP (ci := 11) (q0 := 0) rfl rfl, fun U hU hW => fx_pre hU hW hP hK hD hev hNS hS hFc⟩ rfl rfl hl.1 rfl (lv_room (Nat.le_of_ble_eq_true rfl)) d_add_17 ⟨Nat.le_of_ble_eq_true rfl, Nat.le_of_ble_eq_true rfl⟩) hS (fun q _ h => hFc q h) hFc (fun u_10 t H1 locs ht hvm hw hB hz1 hk1 hS => ?_)
        obtain ⟨hP, -, hD1⟩ := hB
        rw [ht] at hP
        have hD := hD1.weaken (fun _ q _ h => hFc q.1 h)
        generalize H1 = H at hP hS ⊢
        refine W.cs (cells' := 0) (slots' := 0) rfl rfl ?_
        refine lv_aload_n hx hb d_add_20 rfl (lv_at hl 2 rfl) ?_
        refine lv_iload_n hx hb d_add_21 rfl (lv_at hl 4 rfl) ?_
        refine lv_iload_n hx hb d_add_22 rfl (lv_at hl 5 rfl) ?_
        by_cases c_11 : o = 0
        · subst c_11
          have hFc := fr_all hD hS hA
          exact tx_on (tx_runV (As := [.int 0, .int i]) (rest := []) ⟨hx, hb, hml, hown, hts⟩ (c_plAt0 l hfl D ad ac u_10 H.size i c_8) (cw_v 2 hts kw_847 kw_844 kw_846 kp_20 kw_1 rfl rfl (by decide +kernel) ⟨Nat.le_of_ble_eq_true rfl, Nat.le_of_ble_eq_true rfl⟩) ⟨fx_blind, va_recv hK hP (ci := 11) (q0 := 0) rfl rfl, fun U hU hW => fx_pre hU hW hP hK hD hev hNS hS hFc⟩ rfl rfl hl.1 rfl (lv_room (Nat.le_of_ble_eq_true rfl)) d_add_23 ⟨Nat.le_of_ble_eq_true rfl, Nat.le_of_ble_eq_true rfl⟩) hno hlocks hS hFc
        · first | exact absurd hq (by simp [k_era, c_4, c_5, c_8, c_11]) | (exfalso; simp_all [k_era])
    · have hFc := fr_all hD hS hA
      exact tx_on (tx_runV (As := [.int r]) (rest := []) ⟨hx, hb, hml, hown, hts⟩ (c_shown_T l hfl D ad ac u_2 H.size r (Or.inr c_5)) (cw_v 1 hts kw_593 kw_590 kw_592 kp_3 kw_1 rfl rfl (by decide +kernel) ⟨Nat.le_of_ble_eq_true rfl, Nat.le_of_ble_eq_true rfl⟩) ⟨fx_blind, va_recv hK hP (ci := 11) (q0 := 0) rfl rfl, fun U hU hW => fx_pre hU hW hP hK hD hev hNS hS hFc⟩ rfl rfl hl.1 rfl (lv_room (Nat.le_of_ble_eq_true rfl)) d_add_8 ⟨Nat.le_of_ble_eq_true rfl, Nat.le_of_ble_eq_true rfl⟩) hno hlocks hS hFc
set_option maxHeartbeats 4000000 in
set_option maxRecDepth 100000 in
theorem c_add_3 (l : Launch) (hfl : l.flags = flags0) (D : va_G) (ad : Nat → Nat) (ac : Nat → ClassId) (ck : Nat → Int32) (sz : Nat) (r o i : Int32) (n : Int64) (hq : k_era r o i = 3) : MeT l ⟨"JoinedTrees", "add", "(IIIJ)I"⟩ (Cond.code ⟨"JoinedTrees", "add", "(IIIJ)I"⟩ prog_1_method_9_code 9 (some .int) :: gb) ({ frames := 9, cells := 1, slots := 6, locals := 163 }) (fxPc D ad ac ck sz [.ref (ad 0), .int r, .int o, .int i, .long n]) e_NE (va_A (fxW ad ac ck) sz) 1 6 := by
  refine MeT.ofW (cc := prog_1_method_9_code) (maxL := 9) (ret := (some .int)) (by decide) rfl ?_
  intro p e s m args below meth c s₁ B hml hno hv
  obtain ⟨rfl, hsz, hP, hK, hD0, hev⟩ := hv
  have hx := B.exec
  have hb := B.bytes
  have hr := B.returns
  have hts : ∀ w9 ∈ gb, w9.before [.ref (ad 0), .int r, .int o, .int i, .long n].toArray s = true := fun w9 h => atoms_spec (ws := Cond.code ⟨"JoinedTrees", "add", "(IIIJ)I"⟩ prog_1_method_9_code 9 (some .int) :: gb) B.pre w9 (List.mem_cons_of_mem _ h)
  have hown : s.vm.findClass "JoinedTrees" = some m.cls := findClass_of_methodNamed B.named
  have hlocks := B.notSynchronized
  subst hsz
  have hNS := ns_of hP
  have hD := hD0.self (sz := s.heap.size)
  generalize hAe : va_A (fxW ad ac ck) s.heap.size = A at hD hev hNS ⊢
  have hA : ∀ q : Nat, s.heap.size ≤ q → A q := fun q h => by rw [← hAe]; exact Or.inr h
  have hS : va_S A s.heap s.heap [] := va_S.rf
  have hP : va_P D cls (fxW ad ac ck) s.heap := hP
  have hl := lv_entry ([.ref (ad 0), .int r, .int o, .int i, .long n]) (n := 9) (Nat.le_of_ble_eq_true rfl)
  rw [lg_entry_eq]
  generalize (lg_sl ([.ref (ad 0), .int r, .int o, .int i, .long n]) ++ List.replicate (9 - (lg_sl ([.ref (ad 0), .int r, .int o, .int i, .long n])).length) Slot.unset).toArray = ls at hl ⊢
  have hl : lv_has ls 9 [(0, .ref (ad 0)), (1, .int r), (2, .int o), (3, .int i), (4, .long n)] := hl
  refine lv_aload_n hx hb d_add_0 rfl (lv_at hl 0 rfl) ?_
  have hFc := fr_all hD hS hA
  refine va_calli (va_runV (As := []) (rest := []) ⟨hx, hb, hml, hown, hts⟩ (c_take l hfl D ad ac ck s.heap.size) (cw_v 0 hts kw_589 kw_586 kw_588 kp_2 kw_1 rfl rfl (by decide +kernel) ⟨Nat.le_of_ble_eq_true rfl, Nat.le_of_ble_eq_true rfl⟩) ⟨fx_blind, va_recv hK hP (ci := 11) (q0 := 0) rfl rfl, fun U hU hW => fx_pre hU hW hP hK hD hev hNS hS hFc⟩ rfl rfl hl.1 rfl (lv_room (Nat.le_of_ble_eq_true rfl)) d_add_1 ⟨Nat.le_of_ble_eq_true rfl, Nat.le_of_ble_eq_true rfl⟩) hS (fun q _ h => hFc q h) hFc (fun r_1 u_2 t H1 locs ht hvm hw hB hz1 hk1 hS => ?_)
  obtain ⟨hP, -, hD1⟩ := hB
  rw [ht] at hP
  have hD := hD1.weaken (fun _ q _ h => hFc q.1 h)
  generalize H1 = H at hP hS ⊢
  refine W.cs (cells' := 0) (slots' := 0) rfl rfl ?_
  subst hw
  refine lv_istore (lv' := [(6, .int 0), (0, .ref (ad 0)), (1, .int r), (2, .int o), (3, .int i), (4, .long n)]) hx hb d_add_4 hl (by decide) rfl (fun ls hl => ?_)
  refine lv_aload_n hx hb d_add_6 rfl (lv_at hl 1 rfl) ?_
  refine lv_iload_n hx hb d_add_7 rfl (lv_at hl 2 rfl) ?_
  by_cases c_4 : r < 0
  · first | exact absurd hq (by simp [k_era, c_4]) | (exfalso; simp_all [k_era])
  · by_cases c_5 : r < 8
    · obtain ⟨j_3, hj_3, rfl⟩ := of8 c_4 c_5
      have hFc := fr_all hD hS hA
      refine va_callq (va_runV (As := [.int (nI j_3)]) (rest := []) ⟨hx, hb, hml, hown, hts⟩ (c_shown l hfl D ad ac u_2 H.size j_3 hj_3) (cw_v 1 hts kw_593 kw_590 kw_592 kp_3 kw_1 rfl rfl (by decide +kernel) ⟨Nat.le_of_ble_eq_true rfl, Nat.le_of_ble_eq_true rfl⟩) ⟨fx_blind, va_recv hK hP (ci := 11) (q0 := 0) rfl rfl, fun U hU hW => fx_pre hU hW hP hK hD hev hNS hS hFc⟩ rfl rfl hl.1 rfl (lv_room (Nat.le_of_ble_eq_true rfl)) d_add_8 ⟨Nat.le_of_ble_eq_true rfl, Nat.le_of_ble_eq_true rfl⟩) hS (fun q _ h => hFc q h) hFc (fun r_6 u_7 t H1 locs ht hvm hw hB hz1 hk1 hS => ?_)
      obtain ⟨hP, -, hD1⟩ := hB
      rw [ht] at hP
      have hD := hD1.weaken (fun _ q _ h => hFc q.1 h)
      generalize H1 = H at hP hS ⊢
      refine W.cs (cells' := 0) (slots' := 0) rfl rfl ?_
      subst hw
      refine w_v (y := .ref (ad (18 + j_3))) rfl ?_
      refine lv_astore (lv' := [(7, .ref (ad (18 + j_3))), (6, .int 0), (0, .ref (ad 0)), (1, .int (nI j_3)), (2, .int o), (3, .int i), (4, .long n)]) hx hb d_add_11 hl (by decide) rfl (fun ls hl => ?_)
      refine lv_aload_n hx hb d_add_13 rfl (lv_at hl 2 rfl) ?_
      refine lv_iload hx hb d_add_14 (lv_at hl 1 rfl) ?_
      refine lv_iload_n hx hb d_add_16 rfl (lv_at hl 5 rfl) ?_
      by_cases c_8 : i = -1
      · first | exact absurd hq (by simp [k_era, c_4, c_5, c_8]) | (exfalso; simp_all [k_era])
      · have hFc := fr_all hD hS hA
        refine va_callv (va_runV (As := [.int 0, .int i]) (rest := []) ⟨hx, hb, hml, hown, hts⟩ (c_np l hfl D ad ac u_7 H.size i c_8) (cw_v 2 hts kw_843 kw_840 kw_842 kp_19 kw_1 rfl rfl (by decide +kernel) ⟨Nat.le_of_ble_eq_true rfl, Nat.le_of_ble_eq_true rfl⟩) ⟨fx_blind, va_recv hK hP (ci := 11) (q0 := 0) rfl rfl, fun U hU hW => fx_pre hU hW hP hK hD hev hNS hS hFc⟩ rfl rfl hl.1 rfl (lv_room (Nat.le_of_ble_eq_true rfl)) d_add_17 ⟨Nat.le_of_ble_eq_true rfl, Nat.le_of_ble_eq_true rfl⟩) hS (fun q _ h => hFc q h) hFc (fun u_10 t H1 locs ht hvm hw hB hz1 hk1 hS => ?_)
        obtain ⟨hP, -, hD1⟩ := hB
        rw [ht] at hP
        have hD := hD1.weaken (fun _ q _ h => hFc q.1 h)
        generalize H1 = H at hP hS ⊢
        refine W.cs (cells' := 0) (slots' := 0) rfl rfl ?_
        refine lv_aload_n hx hb d_add_20 rfl (lv_at hl 2 rfl) ?_
        refine lv_iload_n hx hb d_add_21 rfl (lv_at hl 4 rfl) ?_
        refine lv_iload_n hx hb d_add_22 rfl (lv_at hl 5 rfl) ?_
        by_cases c_11 : o = 0
        · subst c_11
          first | exact absurd hq (by simp [k_era, c_4, c_5, c_8]) | (exfalso; simp_all [k_era])
        · have hFc := fr_all hD hS hA
          exact tx_on (tx_runV (As := [.int o, .int i]) (rest := []) ⟨hx, hb, hml, hown, hts⟩ (c_plAtN l hfl D ad ac u_10 H.size o i c_11 c_8) (cw_v 2 hts kw_847 kw_844 kw_846 kp_20 kw_1 rfl rfl (by decide +kernel) ⟨Nat.le_of_ble_eq_true rfl, Nat.le_of_ble_eq_true rfl⟩) ⟨fx_blind, va_recv hK hP (ci := 11) (q0 := 0) rfl rfl, fun U hU hW => fx_pre hU hW hP hK hD hev hNS hS hFc⟩ rfl rfl hl.1 rfl (lv_room (Nat.le_of_ble_eq_true rfl)) d_add_23 ⟨Nat.le_of_ble_eq_true rfl, Nat.le_of_ble_eq_true rfl⟩) hno hlocks hS hFc
    · first | exact absurd hq (by simp [k_era, c_4, c_5]) | (exfalso; simp_all [k_era])
theorem d_commit_0 : decode prog_1_method_11_code 0 = .ok (.aload_n 0, 1) := by decide +kernel
theorem d_commit_1 : decode prog_1_method_11_code 1 = .ok (.iload_n 1, 1) := by decide +kernel
theorem d_commit_2 : decode prog_1_method_11_code 2 = .ok (.invokevirtual 105, 3) := by decide +kernel
theorem d_commit_5 : decode prog_1_method_11_code 5 = .ok (.astore_n 2, 1) := by decide +kernel
theorem d_commit_6 : decode prog_1_method_11_code 6 = .ok (.aload_n 2, 1) := by decide +kernel
theorem d_commit_7 : decode prog_1_method_11_code 7 = .ok (.getfield 220, 3) := by decide +kernel
theorem d_commit_10 : decode prog_1_method_11_code 10 = .ok (.ifCond .ne 11, 3) := by decide +kernel
set_option maxHeartbeats 4000000 in
set_option maxRecDepth 100000 in
theorem c_commit_1 (l : Launch) (hfl : l.flags = flags0) (D : va_G) (ad : Nat → Nat) (ac : Nat → ClassId) (ck : Nat → Int32) (sz : Nat) (r : Int32) (hq : k_com r = 1) : MeT l ⟨"JoinedTrees", "commit", "(I)I"⟩ (Cond.code ⟨"JoinedTrees", "commit", "(I)I"⟩ prog_1_method_11_code 3 (some .int) :: gb) ({ frames := 7, cells := 1, slots := 6, locals := 117 }) (fxPc D ad ac ck sz [.ref (ad 0), .int r]) e_IA (va_A (fxW ad ac ck) sz) 1 6 := by
  refine MeT.ofW (cc := prog_1_method_11_code) (maxL := 3) (ret := (some .int)) (by decide) rfl ?_
  intro p e s m args below meth c s₁ B hml hno hv
  obtain ⟨rfl, hsz, hP, hK, hD0, hev⟩ := hv
  have hx := B.exec
  have hb := B.bytes
  have hr := B.returns
  have hts : ∀ w9 ∈ gb, w9.before [.ref (ad 0), .int r].toArray s = true := fun w9 h => atoms_spec (ws := Cond.code ⟨"JoinedTrees", "commit", "(I)I"⟩ prog_1_method_11_code 3 (some .int) :: gb) B.pre w9 (List.mem_cons_of_mem _ h)
  have hown : s.vm.findClass "JoinedTrees" = some m.cls := findClass_of_methodNamed B.named
  have hlocks := B.notSynchronized
  subst hsz
  have hNS := ns_of hP
  have hD := hD0.self (sz := s.heap.size)
  generalize hAe : va_A (fxW ad ac ck) s.heap.size = A at hD hev hNS ⊢
  have hA : ∀ q : Nat, s.heap.size ≤ q → A q := fun q h => by rw [← hAe]; exact Or.inr h
  have hS : va_S A s.heap s.heap [] := va_S.rf
  have hP : va_P D cls (fxW ad ac ck) s.heap := hP
  have hl := lv_entry ([.ref (ad 0), .int r]) (n := 3) (Nat.le_of_ble_eq_true rfl)
  rw [lg_entry_eq]
  generalize (lg_sl ([.ref (ad 0), .int r]) ++ List.replicate (3 - (lg_sl ([.ref (ad 0), .int r])).length) Slot.unset).toArray = ls at hl ⊢
  have hl : lv_has ls 3 [(0, .ref (ad 0)), (1, .int r)] := hl
  refine lv_aload_n hx hb d_commit_0 rfl (lv_at hl 0 rfl) ?_
  refine lv_iload_n hx hb d_commit_1 rfl (lv_at hl 1 rfl) ?_
  by_cases c_2 : r < 0
  · have hFc := fr_all hD hS hA
    exact tx_on (tx_runV (As := [.int r]) (rest := []) ⟨hx, hb, hml, hown, hts⟩ (c_shown_T l hfl D ad ac ck s.heap.size r (Or.inl c_2)) (cw_v 1 hts kw_593 kw_590 kw_592 kp_3 kw_1 rfl rfl (by decide +kernel) ⟨Nat.le_of_ble_eq_true rfl, Nat.le_of_ble_eq_true rfl⟩) ⟨fx_blind, va_recv hK hP (ci := 11) (q0 := 0) rfl rfl, fun U hU hW => fx_pre hU hW hP hK hD hev hNS hS hFc⟩ rfl rfl hl.1 rfl (lv_room (Nat.le_of_ble_eq_true rfl)) d_commit_2 ⟨Nat.le_of_ble_eq_true rfl, Nat.le_of_ble_eq_true rfl⟩) hno hlocks hS hFc
  · by_cases c_3 : r < 8
    · obtain ⟨j_1, hj_1, rfl⟩ := of8 c_2 c_3
      have hFc := fr_all hD hS hA
      refine va_callq (va_runV (As := [.int (nI j_1)]) (rest := []) ⟨hx, hb, hml, hown, hts⟩ (c_shown l hfl D ad ac ck s.heap.size j_1 hj_1) (cw_v 1 hts kw_593 kw_590 kw_592 kp_3 kw_1 rfl rfl (by decide +kernel) ⟨Nat.le_of_ble_eq_true rfl, Nat.le_of_ble_eq_true rfl⟩) ⟨fx_blind, va_recv hK hP (ci := 11) (q0 := 0) rfl rfl, fun U hU hW => fx_pre hU hW hP hK hD hev hNS hS hFc⟩ rfl rfl hl.1 rfl (lv_room (Nat.le_of_ble_eq_true rfl)) d_commit_2 ⟨Nat.le_of_ble_eq_true rfl, Nat.le_of_ble_eq_true rfl⟩) hS (fun q _ h => hFc q h) hFc (fun r_4 u_5 t H1 locs ht hvm hw hB hz1 hk1 hS => ?_)
      obtain ⟨hP, -, hD1⟩ := hB
      rw [ht] at hP
      have hD := hD1.weaken (fun _ q _ h => hFc q.1 h)
      generalize H1 = H at hP hS ⊢
      refine W.cs (cells' := 0) (slots' := 0) rfl rfl ?_
      subst hw
      refine w_v (y := .ref (ad (18 + j_1))) rfl ?_
      refine lv_astore_n (lv' := [(2, .ref (ad (18 + j_1))), (0, .ref (ad 0)), (1, .int (nI j_1))]) hx hb d_commit_5 rfl hl (by decide) rfl (fun ls hl => ?_)
      refine lv_aload_n hx hb d_commit_6 rfl (lv_at hl 0 rfl) ?_
      refine va_get (D := D) (ci := 4) (v := .int 0) (C := R_Rp) (T := F_Rp) (N := 10) hx hb hts i_Rp hown hK hP (18 + j_1) (fx_rep ad ac u_5 j_1 hj_1) rfl 9 (by decide) (hts _ kw_230) (fun _ h9 => h9) rfl d_commit_7 ?_
      refine lv_if_ne (tgt := 21) hx hb d_commit_10 (by decide) (fun h => absurd rfl h) (fun _ => ?_)
      first | exact absurd hq (by simp [k_com, c_2, c_3]) | (exfalso; simp_all [k_com])
    · have hFc := fr_all hD hS hA
      exact tx_on (tx_runV (As := [.int r]) (rest := []) ⟨hx, hb, hml, hown, hts⟩ (c_shown_T l hfl D ad ac ck s.heap.size r (Or.inr c_3)) (cw_v 1 hts kw_593 kw_590 kw_592 kp_3 kw_1 rfl rfl (by decide +kernel) ⟨Nat.le_of_ble_eq_true rfl, Nat.le_of_ble_eq_true rfl⟩) ⟨fx_blind, va_recv hK hP (ci := 11) (q0 := 0) rfl rfl, fun U hU hW => fx_pre hU hW hP hK hD hev hNS hS hFc⟩ rfl rfl hl.1 rfl (lv_room (Nat.le_of_ble_eq_true rfl)) d_commit_2 ⟨Nat.le_of_ble_eq_true rfl, Nat.le_of_ble_eq_true rfl⟩) hno hlocks hS hFc
theorem d_load_0 : decode prog_1_method_25_code 0 = .ok (.aload_n 0, 1) := by decide +kernel
theorem d_load_1 : decode prog_1_method_25_code 1 = .ok (.iload_n 1, 1) := by decide +kernel
theorem d_load_2 : decode prog_1_method_25_code 2 = .ok (.invokevirtual 105, 3) := by decide +kernel
theorem d_load_5 : decode prog_1_method_25_code 5 = .ok (.astore_n 2, 1) := by decide +kernel
theorem d_load_6 : decode prog_1_method_25_code 6 = .ok (.aload_n 0, 1) := by decide +kernel
theorem d_load_7 : decode prog_1_method_25_code 7 = .ok (.aload_n 2, 1) := by decide +kernel
theorem d_load_8 : decode prog_1_method_25_code 8 = .ok (.invokevirtual 253, 3) := by decide +kernel
theorem d_load_11 : decode prog_1_method_25_code 11 = .ok (.aload_n 0, 1) := by decide +kernel
theorem d_load_12 : decode prog_1_method_25_code 12 = .ok (.getfield 352, 3) := by decide +kernel
theorem d_load_15 : decode prog_1_method_25_code 15 = .ok (.ifCond .ne 11, 3) := by decide +kernel
set_option maxHeartbeats 4000000 in
set_option maxRecDepth 100000 in
theorem c_load_1 (l : Launch) (hfl : l.flags = flags0) (D : va_G) (ad : Nat → Nat) (ac : Nat → ClassId) (ck : Nat → Int32) (sz : Nat) (r : Int32) (hq : k_com r = 1) : MeT l ⟨"JoinedTrees", "load", "(I)I"⟩ (Cond.code ⟨"JoinedTrees", "load", "(I)I"⟩ prog_1_method_25_code 5 (some .int) :: gb) ({ frames := 7, cells := 1, slots := 6, locals := 117 }) (fxPc D ad ac ck sz [.ref (ad 0), .int r]) e_IA (va_A (fxW ad ac ck) sz) 1 6 := by
  refine MeT.ofW (cc := prog_1_method_25_code) (maxL := 5) (ret := (some .int)) (by decide) rfl ?_
  intro p e s m args below meth c s₁ B hml hno hv
  obtain ⟨rfl, hsz, hP, hK, hD0, hev⟩ := hv
  have hx := B.exec
  have hb := B.bytes
  have hr := B.returns
  have hts : ∀ w9 ∈ gb, w9.before [.ref (ad 0), .int r].toArray s = true := fun w9 h => atoms_spec (ws := Cond.code ⟨"JoinedTrees", "load", "(I)I"⟩ prog_1_method_25_code 5 (some .int) :: gb) B.pre w9 (List.mem_cons_of_mem _ h)
  have hown : s.vm.findClass "JoinedTrees" = some m.cls := findClass_of_methodNamed B.named
  have hlocks := B.notSynchronized
  subst hsz
  have hNS := ns_of hP
  have hD := hD0.self (sz := s.heap.size)
  generalize hAe : va_A (fxW ad ac ck) s.heap.size = A at hD hev hNS ⊢
  have hA : ∀ q : Nat, s.heap.size ≤ q → A q := fun q h => by rw [← hAe]; exact Or.inr h
  have hS : va_S A s.heap s.heap [] := va_S.rf
  have hP : va_P D cls (fxW ad ac ck) s.heap := hP
  have hl := lv_entry ([.ref (ad 0), .int r]) (n := 5) (Nat.le_of_ble_eq_true rfl)
  rw [lg_entry_eq]
  generalize (lg_sl ([.ref (ad 0), .int r]) ++ List.replicate (5 - (lg_sl ([.ref (ad 0), .int r])).length) Slot.unset).toArray = ls at hl ⊢
  have hl : lv_has ls 5 [(0, .ref (ad 0)), (1, .int r)] := hl
  refine lv_aload_n hx hb d_load_0 rfl (lv_at hl 0 rfl) ?_
  refine lv_iload_n hx hb d_load_1 rfl (lv_at hl 1 rfl) ?_
  by_cases c_2 : r < 0
  · have hFc := fr_all hD hS hA
    exact tx_on (tx_runV (As := [.int r]) (rest := []) ⟨hx, hb, hml, hown, hts⟩ (c_shown_T l hfl D ad ac ck s.heap.size r (Or.inl c_2)) (cw_v 1 hts kw_593 kw_590 kw_592 kp_3 kw_1 rfl rfl (by decide +kernel) ⟨Nat.le_of_ble_eq_true rfl, Nat.le_of_ble_eq_true rfl⟩) ⟨fx_blind, va_recv hK hP (ci := 11) (q0 := 0) rfl rfl, fun U hU hW => fx_pre hU hW hP hK hD hev hNS hS hFc⟩ rfl rfl hl.1 rfl (lv_room (Nat.le_of_ble_eq_true rfl)) d_load_2 ⟨Nat.le_of_ble_eq_true rfl, Nat.le_of_ble_eq_true rfl⟩) hno hlocks hS hFc
  · by_cases c_3 : r < 8
    · obtain ⟨j_1, hj_1, rfl⟩ := of8 c_2 c_3
      have hFc := fr_all hD hS hA
      refine va_callq (va_runV (As := [.int (nI j_1)]) (rest := []) ⟨hx, hb, hml, hown, hts⟩ (c_shown l hfl D ad ac ck s.heap.size j_1 hj_1) (cw_v 1 hts kw_593 kw_590 kw_592 kp_3 kw_1 rfl rfl (by decide +kernel) ⟨Nat.le_of_ble_eq_true rfl, Nat.le_of_ble_eq_true rfl⟩) ⟨fx_blind, va_recv hK hP (ci := 11) (q0 := 0) rfl rfl, fun U hU hW => fx_pre hU hW hP hK hD hev hNS hS hFc⟩ rfl rfl hl.1 rfl (lv_room (Nat.le_of_ble_eq_true rfl)) d_load_2 ⟨Nat.le_of_ble_eq_true rfl, Nat.le_of_ble_eq_true rfl⟩) hS (fun q _ h => hFc q h) hFc (fun r_4 u_5 t H1 locs ht hvm hw hB hz1 hk1 hS => ?_)
      obtain ⟨hP, -, hD1⟩ := hB
      rw [ht] at hP
      have hD := hD1.weaken (fun _ q _ h => hFc q.1 h)
      generalize H1 = H at hP hS ⊢
      refine W.cs (cells' := 0) (slots' := 0) rfl rfl ?_
      subst hw
      refine w_v (y := .ref (ad (18 + j_1))) rfl ?_
      refine lv_astore_n (lv' := [(2, .ref (ad (18 + j_1))), (0, .ref (ad 0)), (1, .int (nI j_1))]) hx hb d_load_5 rfl hl (by decide) rfl (fun ls hl => ?_)
      refine lv_aload_n hx hb d_load_6 rfl (lv_at hl 1 rfl) ?_
      refine lv_aload_n hx hb d_load_7 rfl (lv_at hl 0 rfl) ?_
      have hFc := fr_all hD hS hA
      refine va_callv (va_runV (As := [.ref (ad (18 + j_1))]) (rest := []) ⟨hx, hb, hml, hown, hts⟩ (c_nno l hfl D ad ac u_5 H.size j_1 hj_1) (cw_v 1 hts kw_1087 kw_1084 kw_1086 kp_22 kw_1 rfl rfl (by decide +kernel) ⟨Nat.le_of_ble_eq_true rfl, Nat.le_of_ble_eq_true rfl⟩) ⟨fx_blind, va_recv hK hP (ci := 11) (q0 := 0) rfl rfl, fun U hU hW => fx_pre hU hW hP hK hD hev hNS hS hFc⟩ rfl rfl hl.1 rfl (lv_room (Nat.le_of_ble_eq_true rfl)) d_load_8 ⟨Nat.le_of_ble_eq_true rfl, Nat.le_of_ble_eq_true rfl⟩) hS (fun q _ h => hFc q h) hFc (fun u_7 t H1 locs ht hvm hw hB hz1 hk1 hS => ?_)
      obtain ⟨hP, -, hD1⟩ := hB
      rw [ht] at hP
      have hD := hD1.weaken (fun _ q _ h => hFc q.1 h)
      generalize H1 = H at hP hS ⊢
      refine W.cs (cells' := 0) (slots' := 0) rfl rfl ?_
      refine lv_aload_n hx hb d_load_11 rfl (lv_at hl 1 rfl) ?_
      refine va_get (D := D) (ci := 11) (v := .int 0) (C := R_JT) (T := F_JT) (N := 13) hx hb hts i_JT hown hK hP 0 rfl rfl 7 (by decide) (hts _ kw_428) (fun _ h9 => h9) rfl d_load_12 ?_
      refine lv_if_ne (tgt := 26) hx hb d_load_15 (by decide) (fun h => absurd rfl h) (fun _ => ?_)
      first | exact absurd hq (by simp [k_com, c_2, c_3]) | (exfalso; simp_all [k_com])
    · have hFc := fr_all hD hS hA
      exact tx_on (tx_runV (As := [.int r]) (rest := []) ⟨hx, hb, hml, hown, hts⟩ (c_shown_T l hfl D ad ac ck s.heap.size r (Or.inr c_3)) (cw_v 1 hts kw_593 kw_590 kw_592 kp_3 kw_1 rfl rfl (by decide +kernel) ⟨Nat.le_of_ble_eq_true rfl, Nat.le_of_ble_eq_true rfl⟩) ⟨fx_blind, va_recv hK hP (ci := 11) (q0 := 0) rfl rfl, fun U hU hW => fx_pre hU hW hP hK hD hev hNS hS hFc⟩ rfl rfl hl.1 rfl (lv_room (Nat.le_of_ble_eq_true rfl)) d_load_2 ⟨Nat.le_of_ble_eq_true rfl, Nat.le_of_ble_eq_true rfl⟩) hno hlocks hS hFc
theorem d_commit_13 : decode prog_1_method_11_code 13 = .ok (.new 223, 3) := by decide +kernel
theorem d_commit_16 : decode prog_1_method_11_code 16 = .ok (.dup, 1) := by decide +kernel
theorem d_commit_17 : decode prog_1_method_11_code 17 = .ok (.invokespecial 225, 3) := by decide +kernel
theorem d_commit_20 : decode prog_1_method_11_code 20 = .ok (.athrow, 1) := by decide +kernel
set_option maxHeartbeats 4000000 in
set_option maxRecDepth 100000 in
theorem c_commit_2 (l : Launch) (hfl : l.flags = flags0) (D : va_G) (ad : Nat → Nat) (ac : Nat → ClassId) (ck : Nat → Int32) (sz : Nat) (r : Int32) (hq : k_com r = 2) : MeT l ⟨"JoinedTrees", "commit", "(I)I"⟩ (Cond.code ⟨"JoinedTrees", "commit", "(I)I"⟩ prog_1_method_11_code 3 (some .int) :: gb) ({ frames := 6, cells := 1, slots := 6, locals := 103 }) (fxPc D ad ac ck sz [.ref (ad 0), .int r]) e_IS (va_A (fxW ad ac ck) sz) 1 6 := by
  refine MeT.ofW (cc := prog_1_method_11_code) (maxL := 3) (ret := (some .int)) (by decide) rfl ?_
  intro p e s m args below meth c s₁ B hml hno hv
  obtain ⟨rfl, hsz, hP, hK, hD0, hev⟩ := hv
  have hx := B.exec
  have hb := B.bytes
  have hr := B.returns
  have hts : ∀ w9 ∈ gb, w9.before [.ref (ad 0), .int r].toArray s = true := fun w9 h => atoms_spec (ws := Cond.code ⟨"JoinedTrees", "commit", "(I)I"⟩ prog_1_method_11_code 3 (some .int) :: gb) B.pre w9 (List.mem_cons_of_mem _ h)
  have hown : s.vm.findClass "JoinedTrees" = some m.cls := findClass_of_methodNamed B.named
  have hlocks := B.notSynchronized
  subst hsz
  have hNS := ns_of hP
  have hD := hD0.self (sz := s.heap.size)
  generalize hAe : va_A (fxW ad ac ck) s.heap.size = A at hD hev hNS ⊢
  have hA : ∀ q : Nat, s.heap.size ≤ q → A q := fun q h => by rw [← hAe]; exact Or.inr h
  have hS : va_S A s.heap s.heap [] := va_S.rf
  have hP : va_P D cls (fxW ad ac ck) s.heap := hP
  have hl := lv_entry ([.ref (ad 0), .int r]) (n := 3) (Nat.le_of_ble_eq_true rfl)
  rw [lg_entry_eq]
  generalize (lg_sl ([.ref (ad 0), .int r]) ++ List.replicate (3 - (lg_sl ([.ref (ad 0), .int r])).length) Slot.unset).toArray = ls at hl ⊢
  have hl : lv_has ls 3 [(0, .ref (ad 0)), (1, .int r)] := hl
  refine lv_aload_n hx hb d_commit_0 rfl (lv_at hl 0 rfl) ?_
  refine lv_iload_n hx hb d_commit_1 rfl (lv_at hl 1 rfl) ?_
  by_cases c_2 : r < 0
  · first | exact absurd hq (by simp [k_com, c_2]) | (exfalso; simp_all [k_com])
  · by_cases c_3 : r < 8
    · obtain ⟨j_1, hj_1, rfl⟩ := of8 c_2 c_3
      have hFc := fr_all hD hS hA
      refine va_callq (va_runV (As := [.int (nI j_1)]) (rest := []) ⟨hx, hb, hml, hown, hts⟩ (c_shown l hfl D ad ac ck s.heap.size j_1 hj_1) (cw_v 1 hts kw_593 kw_590 kw_592 kp_3 kw_1 rfl rfl (by decide +kernel) ⟨Nat.le_of_ble_eq_true rfl, Nat.le_of_ble_eq_true rfl⟩) ⟨fx_blind, va_recv hK hP (ci := 11) (q0 := 0) rfl rfl, fun U hU hW => fx_pre hU hW hP hK hD hev hNS hS hFc⟩ rfl rfl hl.1 rfl (lv_room (Nat.le_of_ble_eq_true rfl)) d_commit_2 ⟨Nat.le_of_ble_eq_true rfl, Nat.le_of_ble_eq_true rfl⟩) hS (fun q _ h => hFc q h) hFc (fun r_4 u_5 t H1 locs ht hvm hw hB hz1 hk1 hS => ?_)
      obtain ⟨hP, -, hD1⟩ := hB
      rw [ht] at hP
      have hD := hD1.weaken (fun _ q _ h => hFc q.1 h)
      generalize H1 = H at hP hS ⊢
      refine W.cs (cells' := 0) (slots' := 0) rfl rfl ?_
      subst hw
      refine w_v (y := .ref (ad (18 + j_1))) rfl ?_
      refine lv_astore_n (lv' := [(2, .ref (ad (18 + j_1))), (0, .ref (ad 0)), (1, .int (nI j_1))]) hx hb d_commit_5 rfl hl (by decide) rfl (fun ls hl => ?_)
      refine lv_aload_n hx hb d_commit_6 rfl (lv_at hl 0 rfl) ?_
      refine va_get (D := D) (ci := 4) (v := .int 0) (C := R_Rp) (T := F_Rp) (N := 10) hx hb hts i_Rp hown hK hP (18 + j_1) (fx_rep ad ac u_5 j_1 hj_1) rfl 9 (by decide) (hts _ kw_230) (fun _ h9 => h9) rfl d_commit_7 ?_
      refine lv_if_ne (tgt := 21) hx hb d_commit_10 (by decide) (fun h => absurd rfl h) (fun _ => ?_)
      exact tx_throw (own := "JoinedTrees") (E := e_IS) (names := at_n) (ia := 223) (ic := 225) hfl hx hb hno hlocks hown (by decide +kernel) (by decide +kernel) (hev.atoms hts hev.2.2.2.2.2.1.2.1 at_IS) (hts _ kw_648) (hts _ kw_19) d_commit_13 d_commit_16 d_commit_17 d_commit_20 (hl.1.trans hml.symm) hS hA hNS (Nat.le_of_ble_eq_true rfl) (Nat.le_of_ble_eq_true rfl) (Nat.le_of_ble_eq_true rfl) (Nat.le_of_ble_eq_true rfl)
    · first | exact absurd hq (by simp [k_com, c_2, c_3]) | (exfalso; simp_all [k_com])
theorem d_load_18 : decode prog_1_method_25_code 18 = .ok (.new 223, 3) := by decide +kernel
theorem d_load_21 : decode prog_1_method_25_code 21 = .ok (.dup, 1) := by decide +kernel
theorem d_load_22 : decode prog_1_method_25_code 22 = .ok (.invokespecial 225, 3) := by decide +kernel
theorem d_load_25 : decode prog_1_method_25_code 25 = .ok (.athrow, 1) := by decide +kernel
set_option maxHeartbeats 4000000 in
set_option maxRecDepth 100000 in
theorem c_load_2 (l : Launch) (hfl : l.flags = flags0) (D : va_G) (ad : Nat → Nat) (ac : Nat → ClassId) (ck : Nat → Int32) (sz : Nat) (r : Int32) (hq : k_com r = 2) : MeT l ⟨"JoinedTrees", "load", "(I)I"⟩ (Cond.code ⟨"JoinedTrees", "load", "(I)I"⟩ prog_1_method_25_code 5 (some .int) :: gb) ({ frames := 6, cells := 1, slots := 6, locals := 103 }) (fxPc D ad ac ck sz [.ref (ad 0), .int r]) e_IS (va_A (fxW ad ac ck) sz) 1 6 := by
  refine MeT.ofW (cc := prog_1_method_25_code) (maxL := 5) (ret := (some .int)) (by decide) rfl ?_
  intro p e s m args below meth c s₁ B hml hno hv
  obtain ⟨rfl, hsz, hP, hK, hD0, hev⟩ := hv
  have hx := B.exec
  have hb := B.bytes
  have hr := B.returns
  have hts : ∀ w9 ∈ gb, w9.before [.ref (ad 0), .int r].toArray s = true := fun w9 h => atoms_spec (ws := Cond.code ⟨"JoinedTrees", "load", "(I)I"⟩ prog_1_method_25_code 5 (some .int) :: gb) B.pre w9 (List.mem_cons_of_mem _ h)
  have hown : s.vm.findClass "JoinedTrees" = some m.cls := findClass_of_methodNamed B.named
  have hlocks := B.notSynchronized
  subst hsz
  have hNS := ns_of hP
  have hD := hD0.self (sz := s.heap.size)
  generalize hAe : va_A (fxW ad ac ck) s.heap.size = A at hD hev hNS ⊢
  have hA : ∀ q : Nat, s.heap.size ≤ q → A q := fun q h => by rw [← hAe]; exact Or.inr h
  have hS : va_S A s.heap s.heap [] := va_S.rf
  have hP : va_P D cls (fxW ad ac ck) s.heap := hP
  have hl := lv_entry ([.ref (ad 0), .int r]) (n := 5) (Nat.le_of_ble_eq_true rfl)
  rw [lg_entry_eq]
  generalize (lg_sl ([.ref (ad 0), .int r]) ++ List.replicate (5 - (lg_sl ([.ref (ad 0), .int r])).length) Slot.unset).toArray = ls at hl ⊢
  have hl : lv_has ls 5 [(0, .ref (ad 0)), (1, .int r)] := hl
  refine lv_aload_n hx hb d_load_0 rfl (lv_at hl 0 rfl) ?_
  refine lv_iload_n hx hb d_load_1 rfl (lv_at hl 1 rfl) ?_
  by_cases c_2 : r < 0
  · first | exact absurd hq (by simp [k_com, c_2]) | (exfalso; simp_all [k_com])
  · by_cases c_3 : r < 8
    · obtain ⟨j_1, hj_1, rfl⟩ := of8 c_2 c_3
      have hFc := fr_all hD hS hA
      refine va_callq (va_runV (As := [.int (nI j_1)]) (rest := []) ⟨hx, hb, hml, hown, hts⟩ (c_shown l hfl D ad ac ck s.heap.size j_1 hj_1) (cw_v 1 hts kw_593 kw_590 kw_592 kp_3 kw_1 rfl rfl (by decide +kernel) ⟨Nat.le_of_ble_eq_true rfl, Nat.le_of_ble_eq_true rfl⟩) ⟨fx_blind, va_recv hK hP (ci := 11) (q0 := 0) rfl rfl, fun U hU hW => fx_pre hU hW hP hK hD hev hNS hS hFc⟩ rfl rfl hl.1 rfl (lv_room (Nat.le_of_ble_eq_true rfl)) d_load_2 ⟨Nat.le_of_ble_eq_true rfl, Nat.le_of_ble_eq_true rfl⟩) hS (fun q _ h => hFc q h) hFc (fun r_4 u_5 t H1 locs ht hvm hw hB hz1 hk1 hS => ?_)
      obtain ⟨hP, -, hD1⟩ := hB
      rw [ht] at hP
      have hD := hD1.weaken (fun _ q _ h => hFc q.1 h)
      generalize H1 = H at hP hS ⊢
      refine W.cs (cells' := 0) (slots' := 0) rfl rfl ?_
      subst hw
      refine w_v (y := .ref (ad (18 + j_1))) rfl ?_
      refine lv_astore_n (lv' := [(2, .ref (ad (18 + j_1))), (0, .ref (ad 0)), (1, .int (nI j_1))]) hx hb d_load_5 rfl hl (by decide) rfl (fun ls hl => ?_)
      refine lv_aload_n hx hb d_load_6 rfl (lv_at hl 1 rfl) ?_
      refine lv_aload_n hx hb d_load_7 rfl (lv_at hl 0 rfl) ?_
      have hFc := fr_all hD hS hA
      refine va_callv (va_runV (As := [.ref (ad (18 + j_1))]) (rest := []) ⟨hx, hb, hml, hown, hts⟩ (c_nno l hfl D ad ac u_5 H.size j_1 hj_1) (cw_v 1 hts kw_1087 kw_1084 kw_1086 kp_22 kw_1 rfl rfl (by decide +kernel) ⟨Nat.le_of_ble_eq_true rfl, Nat.le_of_ble_eq_true rfl⟩) ⟨fx_blind, va_recv hK hP (ci := 11) (q0 := 0) rfl rfl, fun U hU hW => fx_pre hU hW hP hK hD hev hNS hS hFc⟩ rfl rfl hl.1 rfl (lv_room (Nat.le_of_ble_eq_true rfl)) d_load_8 ⟨Nat.le_of_ble_eq_true rfl, Nat.le_of_ble_eq_true rfl⟩) hS (fun q _ h => hFc q h) hFc (fun u_7 t H1 locs ht hvm hw hB hz1 hk1 hS => ?_)
      obtain ⟨hP, -, hD1⟩ := hB
      rw [ht] at hP
      have hD := hD1.weaken (fun _ q _ h => hFc q.1 h)
      generalize H1 = H at hP hS ⊢
      refine W.cs (cells' := 0) (slots' := 0) rfl rfl ?_
      refine lv_aload_n hx hb d_load_11 rfl (lv_at hl 1 rfl) ?_
      refine va_get (D := D) (ci := 11) (v := .int 0) (C := R_JT) (T := F_JT) (N := 13) hx hb hts i_JT hown hK hP 0 rfl rfl 7 (by decide) (hts _ kw_428) (fun _ h9 => h9) rfl d_load_12 ?_
      refine lv_if_ne (tgt := 26) hx hb d_load_15 (by decide) (fun h => absurd rfl h) (fun _ => ?_)
      exact tx_throw (own := "JoinedTrees") (E := e_IS) (names := at_n) (ia := 223) (ic := 225) hfl hx hb hno hlocks hown (by decide +kernel) (by decide +kernel) (hev.atoms hts hev.2.2.2.2.2.1.2.1 at_IS) (hts _ kw_648) (hts _ kw_19) d_load_18 d_load_21 d_load_22 d_load_25 (hl.1.trans hml.symm) hS hA hNS (Nat.le_of_ble_eq_true rfl) (Nat.le_of_ble_eq_true rfl) (Nat.le_of_ble_eq_true rfl) (Nat.le_of_ble_eq_true rfl)
    · first | exact absurd hq (by simp [k_com, c_2, c_3]) | (exfalso; simp_all [k_com])
theorem d_drop_0 : decode prog_1_method_12_code 0 = .ok (.aload_n 0, 1) := by decide +kernel
theorem d_drop_1 : decode prog_1_method_12_code 1 = .ok (.iload_n 1, 1) := by decide +kernel
theorem d_drop_2 : decode prog_1_method_12_code 2 = .ok (.invokevirtual 105, 3) := by decide +kernel
theorem d_drop_5 : decode prog_1_method_12_code 5 = .ok (.astore_n 2, 1) := by decide +kernel
theorem d_drop_6 : decode prog_1_method_12_code 6 = .ok (.aload_n 2, 1) := by decide +kernel
theorem d_drop_7 : decode prog_1_method_12_code 7 = .ok (.getfield 220, 3) := by decide +kernel
theorem d_drop_10 : decode prog_1_method_12_code 10 = .ok (.istore_n 3, 1) := by decide +kernel
theorem d_drop_11 : decode prog_1_method_12_code 11 = .ok (.iconst 0, 1) := by decide +kernel
theorem d_drop_12 : decode prog_1_method_12_code 12 = .ok (.istore 4, 2) := by decide +kernel
theorem d_drop_14 : decode prog_1_method_12_code 14 = .ok (.iload 4, 2) := by decide +kernel
theorem d_drop_16 : decode prog_1_method_12_code 16 = .ok (.iload_n 3, 1) := by decide +kernel
theorem d_drop_17 : decode prog_1_method_12_code 17 = .ok (.if_icmp .ge 31, 3) := by decide +kernel
theorem d_drop_48 : decode prog_1_method_12_code 48 = .ok (.aload_n 2, 1) := by decide +kernel
theorem d_drop_49 : decode prog_1_method_12_code 49 = .ok (.dup, 1) := by decide +kernel
theorem d_drop_50 : decode prog_1_method_12_code 50 = .ok (.getfield 233, 3) := by decide +kernel
theorem d_drop_53 : decode prog_1_method_12_code 53 = .ok (.iload_n 3, 1) := by decide +kernel
theorem d_drop_54 : decode prog_1_method_12_code 54 = .ok (.isub, 1) := by decide +kernel
theorem d_drop_55 : decode prog_1_method_12_code 55 = .ok (.putfield 233, 3) := by decide +kernel
theorem d_drop_58 : decode prog_1_method_12_code 58 = .ok (.aload_n 2, 1) := by decide +kernel
theorem d_drop_59 : decode prog_1_method_12_code 59 = .ok (.dup, 1) := by decide +kernel
theorem d_drop_60 : decode prog_1_method_12_code 60 = .ok (.getfield 242, 3) := by decide +kernel
theorem d_drop_63 : decode prog_1_method_12_code 63 = .ok (.iload_n 3, 1) := by decide +kernel
theorem d_drop_64 : decode prog_1_method_12_code 64 = .ok (.isub, 1) := by decide +kernel
theorem d_drop_65 : decode prog_1_method_12_code 65 = .ok (.putfield 242, 3) := by decide +kernel
theorem d_drop_68 : decode prog_1_method_12_code 68 = .ok (.aload_n 2, 1) := by decide +kernel
theorem d_drop_69 : decode prog_1_method_12_code 69 = .ok (.iconst 0, 1) := by decide +kernel
theorem d_drop_70 : decode prog_1_method_12_code 70 = .ok (.putfield 220, 3) := by decide +kernel
theorem d_drop_73 : decode prog_1_method_12_code 73 = .ok (.iload_n 3, 1) := by decide +kernel
set_option maxHeartbeats 4000000 in
set_option maxRecDepth 100000 in
theorem c_drop_1 (l : Launch) (hfl : l.flags = flags0) (D : va_G) (ad : Nat → Nat) (ac : Nat → ClassId) (ck : Nat → Int32) (sz : Nat) (r : Int32) (hq : k_dro r = 1) : MeT l ⟨"JoinedTrees", "drop", "(I)I"⟩ (Cond.code ⟨"JoinedTrees", "drop", "(I)I"⟩ prog_1_method_12_code 5 (some .int) :: gb) ({ frames := 7, cells := 1, slots := 6, locals := 117 }) (fxPc D ad ac ck sz [.ref (ad 0), .int r]) e_IA (va_A (fxW ad ac ck) sz) 1 6 := by
  refine MeT.ofW (cc := prog_1_method_12_code) (maxL := 5) (ret := (some .int)) (by decide) rfl ?_
  intro p e s m args below meth c s₁ B hml hno hv
  obtain ⟨rfl, hsz, hP, hK, hD0, hev⟩ := hv
  have hx := B.exec
  have hb := B.bytes
  have hr := B.returns
  have hts : ∀ w9 ∈ gb, w9.before [.ref (ad 0), .int r].toArray s = true := fun w9 h => atoms_spec (ws := Cond.code ⟨"JoinedTrees", "drop", "(I)I"⟩ prog_1_method_12_code 5 (some .int) :: gb) B.pre w9 (List.mem_cons_of_mem _ h)
  have hown : s.vm.findClass "JoinedTrees" = some m.cls := findClass_of_methodNamed B.named
  have hlocks := B.notSynchronized
  subst hsz
  have hNS := ns_of hP
  have hD := hD0.self (sz := s.heap.size)
  generalize hAe : va_A (fxW ad ac ck) s.heap.size = A at hD hev hNS ⊢
  have hA : ∀ q : Nat, s.heap.size ≤ q → A q := fun q h => by rw [← hAe]; exact Or.inr h
  have hS : va_S A s.heap s.heap [] := va_S.rf
  have hP : va_P D cls (fxW ad ac ck) s.heap := hP
  have hl := lv_entry ([.ref (ad 0), .int r]) (n := 5) (Nat.le_of_ble_eq_true rfl)
  rw [lg_entry_eq]
  generalize (lg_sl ([.ref (ad 0), .int r]) ++ List.replicate (5 - (lg_sl ([.ref (ad 0), .int r])).length) Slot.unset).toArray = ls at hl ⊢
  have hl : lv_has ls 5 [(0, .ref (ad 0)), (1, .int r)] := hl
  refine lv_aload_n hx hb d_drop_0 rfl (lv_at hl 0 rfl) ?_
  refine lv_iload_n hx hb d_drop_1 rfl (lv_at hl 1 rfl) ?_
  by_cases c_2 : r < 0
  · have hFc := fr_all hD hS hA
    exact tx_on (tx_runV (As := [.int r]) (rest := []) ⟨hx, hb, hml, hown, hts⟩ (c_shown_T l hfl D ad ac ck s.heap.size r (Or.inl c_2)) (cw_v 1 hts kw_593 kw_590 kw_592 kp_3 kw_1 rfl rfl (by decide +kernel) ⟨Nat.le_of_ble_eq_true rfl, Nat.le_of_ble_eq_true rfl⟩) ⟨fx_blind, va_recv hK hP (ci := 11) (q0 := 0) rfl rfl, fun U hU hW => fx_pre hU hW hP hK hD hev hNS hS hFc⟩ rfl rfl hl.1 rfl (lv_room (Nat.le_of_ble_eq_true rfl)) d_drop_2 ⟨Nat.le_of_ble_eq_true rfl, Nat.le_of_ble_eq_true rfl⟩) hno hlocks hS hFc
  · by_cases c_3 : r < 8
    · obtain ⟨j_1, hj_1, rfl⟩ := of8 c_2 c_3
      have hFc := fr_all hD hS hA
      refine va_callq (va_runV (As := [.int (nI j_1)]) (rest := []) ⟨hx, hb, hml, hown, hts⟩ (c_shown l hfl D ad ac ck s.heap.size j_1 hj_1) (cw_v 1 hts kw_593 kw_590 kw_592 kp_3 kw_1 rfl rfl (by decide +kernel) ⟨Nat.le_of_ble_eq_true rfl, Nat.le_of_ble_eq_true rfl⟩) ⟨fx_blind, va_recv hK hP (ci := 11) (q0 := 0) rfl rfl, fun U hU hW => fx_pre hU hW hP hK hD hev hNS hS hFc⟩ rfl rfl hl.1 rfl (lv_room (Nat.le_of_ble_eq_true rfl)) d_drop_2 ⟨Nat.le_of_ble_eq_true rfl, Nat.le_of_ble_eq_true rfl⟩) hS (fun q _ h => hFc q h) hFc (fun r_4 u_5 t H1 locs ht hvm hw hB hz1 hk1 hS => ?_)
      obtain ⟨hP, -, hD1⟩ := hB
      rw [ht] at hP
      have hD := hD1.weaken (fun _ q _ h => hFc q.1 h)
      generalize H1 = H at hP hS ⊢
      refine W.cs (cells' := 0) (slots' := 0) rfl rfl ?_
      subst hw
      refine w_v (y := .ref (ad (18 + j_1))) rfl ?_
      refine lv_astore_n (lv' := [(2, .ref (ad (18 + j_1))), (0, .ref (ad 0)), (1, .int (nI j_1))]) hx hb d_drop_5 rfl hl (by decide) rfl (fun ls hl => ?_)
      refine lv_aload_n hx hb d_drop_6 rfl (lv_at hl 0 rfl) ?_
      refine va_get (D := D) (ci := 4) (v := .int 0) (C := R_Rp) (T := F_Rp) (N := 10) hx hb hts i_Rp hown hK hP (18 + j_1) (fx_rep ad ac u_5 j_1 hj_1) rfl 9 (by decide) (hts _ kw_230) (fun _ h9 => h9) rfl d_drop_7 ?_
      refine lv_istore_n (lv' := [(3, .int 0), (2, .ref (ad (18 + j_1))), (0, .ref (ad 0)), (1, .int (nI j_1))]) hx hb d_drop_10 rfl hl (by decide) rfl (fun ls hl => ?_)
      refine lv_iconst (v := 0) hx hb d_drop_11 (by decide) ?_
      refine lv_istore (lv' := [(4, .int 0), (3, .int 0), (2, .ref (ad (18 + j_1))), (0, .ref (ad 0)), (1, .int (nI j_1))]) hx hb d_drop_12 hl (by decide) rfl (fun ls hl => ?_)
      refine lv_iload hx hb d_drop_14 (lv_at hl 0 rfl) ?_
      refine lv_iload_n hx hb d_drop_16 rfl (lv_at hl 1 rfl) ?_
      refine lv_icmp_ge (tgt := 48) hx hb d_drop_17 (by decide) (fun _ => ?_) (fun h => absurd h (by decide))
      refine lv_aload_n hx hb d_drop_48 rfl (lv_at hl 2 rfl) ?_
      refine lv_dup hx hb d_drop_49 rfl ?_
      refine va_get (D := D) (ci := 4) (v := .int 0) (C := R_Rp) (T := F_Rp) (N := 10) hx hb hts i_Rp hown hK hP (18 + j_1) (fx_rep ad ac u_5 j_1 hj_1) rfl 8 (by decide) (hts _ kw_227) (fun _ h9 => h9) rfl d_drop_50 ?_
      refine lv_iload_n hx hb d_drop_53 rfl (lv_at hl 1 rfl) ?_
      refine lv_isub hx hb d_drop_54 ?_
      refine w_i (y := 0) (by decide) ?_
      refine w_putS (D := D) (ci := 4) (v := .int 0) (ty := .int) (C := R_Rp) (T := F_Rp) (N := 10) hx hb hts i_Rp t_Rp t_Rp_ok n_Rp hown hK hP hD hS (18 + j_1) (fx_rep ad ac u_5 j_1 hj_1) rfl 8 (by decide) (hts _ kw_227) (fun _ h9 => h9) rfl (by decide +kernel) rfl rfl (Nat.le_of_ble_eq_true rfl) rfl d_drop_55 (fun H locs hP hD hS => ?_)
      refine lv_aload_n hx hb d_drop_58 rfl (lv_at hl 2 rfl) ?_
      refine lv_dup hx hb d_drop_59 rfl ?_
      refine va_get (D := D) (ci := 4) (v := .int 0) (C := R_Rp) (T := F_Rp) (N := 10) hx hb hts i_Rp hown hK hP (18 + j_1) (fx_rep ad ac u_5 j_1 hj_1) rfl 7 (by decide) (hts _ kw_224) (fun _ h9 => h9) rfl d_drop_60 ?_
      refine lv_iload_n hx hb d_drop_63 rfl (lv_at hl 1 rfl) ?_
      refine lv_isub hx hb d_drop_64 ?_
      refine w_i (y := 0) (by decide) ?_
      refine w_putS (D := D) (ci := 4) (v := .int 0) (ty := .int) (C := R_Rp) (T := F_Rp) (N := 10) hx hb hts i_Rp t_Rp t_Rp_ok n_Rp hown hK hP hD hS (18 + j_1) (fx_rep ad ac u_5 j_1 hj_1) rfl 7 (by decide) (hts _ kw_224) (fun _ h9 => h9) rfl (by decide +kernel) rfl rfl (Nat.le_of_ble_eq_true rfl) rfl d_drop_65 (fun H locs hP hD hS => ?_)
      refine lv_aload_n hx hb d_drop_68 rfl (lv_at hl 2 rfl) ?_
      refine lv_iconst (v := 0) hx hb d_drop_69 (by decide) ?_
      refine w_putS (D := D) (ci := 4) (v := .int 0) (ty := .int) (C := R_Rp) (T := F_Rp) (N := 10) hx hb hts i_Rp t_Rp t_Rp_ok n_Rp hown hK hP hD hS (18 + j_1) (fx_rep ad ac u_5 j_1 hj_1) rfl 9 (by decide) (hts _ kw_230) (fun _ h9 => h9) rfl (by decide +kernel) rfl rfl (Nat.le_of_ble_eq_true rfl) rfl d_drop_70 (fun H locs hP hD hS => ?_)
      refine lv_iload_n hx hb d_drop_73 rfl (lv_at hl 1 rfl) ?_
      first | exact absurd hq (by simp [k_dro, c_2, c_3]) | (exfalso; simp_all [k_dro])
    · have hFc := fr_all hD hS hA
      exact tx_on (tx_runV (As := [.int r]) (rest := []) ⟨hx, hb, hml, hown, hts⟩ (c_shown_T l hfl D ad ac ck s.heap.size r (Or.inr c_3)) (cw_v 1 hts kw_593 kw_590 kw_592 kp_3 kw_1 rfl rfl (by decide +kernel) ⟨Nat.le_of_ble_eq_true rfl, Nat.le_of_ble_eq_true rfl⟩) ⟨fx_blind, va_recv hK hP (ci := 11) (q0 := 0) rfl rfl, fun U hU hW => fx_pre hU hW hP hK hD hev hNS hS hFc⟩ rfl rfl hl.1 rfl (lv_room (Nat.le_of_ble_eq_true rfl)) d_drop_2 ⟨Nat.le_of_ble_eq_true rfl, Nat.le_of_ble_eq_true rfl⟩) hno hlocks hS hFc
theorem d_drop_74 : decode prog_1_method_12_code 74 = .ok (.ireturn, 1) := by decide +kernel
set_option maxHeartbeats 4000000 in
set_option maxRecDepth 100000 in
theorem c_drop_0 (l : Launch) (hfl : l.flags = flags0) (D : va_G) (ad : Nat → Nat) (ac : Nat → ClassId) (ck : Nat → Int32) (sz : Nat) (r : Int32) (hq : k_dro r = 0) : Met l ⟨"JoinedTrees", "drop", "(I)I"⟩ (Cond.code ⟨"JoinedTrees", "drop", "(I)I"⟩ prog_1_method_12_code 5 (some .int) :: gb) ({ frames := 3, cells := 0, slots := 0, locals := 103 }) (fxPc D ad ac ck sz [.ref (ad 0), .int r]) (va_Qi (fun (r : Int32) (_ : Unit) => r = 0) (fun _ _ => True) (va_A (fxW ad ac ck) sz)) 0 0 (va_A (fxW ad ac ck) sz) := by
  refine Met.ofW (cc := prog_1_method_12_code) (maxL := 5) (ret := (some .int)) (by decide) rfl ?_
  intro p e s m args below meth c s₁ B hml hv
  obtain ⟨rfl, hsz, hP, hK, hD0, hev⟩ := hv
  have hx := B.exec
  have hb := B.bytes
  have hr := B.returns
  have hts : ∀ w9 ∈ gb, w9.before [.ref (ad 0), .int r].toArray s = true := fun w9 h => atoms_spec (ws := Cond.code ⟨"JoinedTrees", "drop", "(I)I"⟩ prog_1_method_12_code 5 (some .int) :: gb) B.pre w9 (List.mem_cons_of_mem _ h)
  have hown : s.vm.findClass "JoinedTrees" = some m.cls := findClass_of_methodNamed B.named
  have hlocks := B.notSynchronized
  subst hsz
  have hNS := ns_of hP
  have hD := hD0.self (sz := s.heap.size)
  generalize hAe : va_A (fxW ad ac ck) s.heap.size = A at hD hev hNS ⊢
  have hA : ∀ q : Nat, s.heap.size ≤ q → A q := fun q h => by rw [← hAe]; exact Or.inr h
  have hS : va_S A s.heap s.heap [] := va_S.rf
  have hP : va_P D cls (fxW ad ac ck) s.heap := hP
  have hl := lv_entry ([.ref (ad 0), .int r]) (n := 5) (Nat.le_of_ble_eq_true rfl)
  rw [lg_entry_eq]
  generalize (lg_sl ([.ref (ad 0), .int r]) ++ List.replicate (5 - (lg_sl ([.ref (ad 0), .int r])).length) Slot.unset).toArray = ls at hl ⊢
  have hl : lv_has ls 5 [(0, .ref (ad 0)), (1, .int r)] := hl
  refine lv_aload_n hx hb d_drop_0 rfl (lv_at hl 0 rfl) ?_
  refine lv_iload_n hx hb d_drop_1 rfl (lv_at hl 1 rfl) ?_
  by_cases c_2 : r < 0
  · first | exact absurd hq (by simp [k_dro, c_2]) | (exfalso; simp_all [k_dro])
  · by_cases c_3 : r < 8
    · obtain ⟨j_1, hj_1, rfl⟩ := of8 c_2 c_3
      have hFc := fr_all hD hS hA
      refine va_callq (va_runV (As := [.int (nI j_1)]) (rest := []) ⟨hx, hb, hml, hown, hts⟩ (c_shown l hfl D ad ac ck s.heap.size j_1 hj_1) (cw_v 1 hts kw_593 kw_590 kw_592 kp_3 kw_1 rfl rfl (by decide +kernel) ⟨Nat.le_of_ble_eq_true rfl, Nat.le_of_ble_eq_true rfl⟩) ⟨fx_blind, va_recv hK hP (ci := 11) (q0 := 0) rfl rfl, fun U hU hW => fx_pre hU hW hP hK hD hev hNS hS hFc⟩ rfl rfl hl.1 rfl (lv_room (Nat.le_of_ble_eq_true rfl)) d_drop_2 ⟨Nat.le_of_ble_eq_true rfl, Nat.le_of_ble_eq_true rfl⟩) hS (fun q _ h => hFc q h) hFc (fun r_4 u_5 t H1 locs ht hvm hw hB hz1 hk1 hS => ?_)
      obtain ⟨hP, -, hD1⟩ := hB
      rw [ht] at hP
      have hD := hD1.weaken (fun _ q _ h => hFc q.1 h)
      generalize H1 = H at hP hS ⊢
      refine W.cs (cells' := 0) (slots' := 0) rfl rfl ?_
      subst hw
      refine w_v (y := .ref (ad (18 + j_1))) rfl ?_
      refine lv_astore_n (lv' := [(2, .ref (ad (18 + j_1))), (0, .ref (ad 0)), (1, .int (nI j_1))]) hx hb d_drop_5 rfl hl (by decide) rfl (fun ls hl => ?_)
      refine lv_aload_n hx hb d_drop_6 rfl (lv_at hl 0 rfl) ?_
      refine va_get (D := D) (ci := 4) (v := .int 0) (C := R_Rp) (T := F_Rp) (N := 10) hx hb hts i_Rp hown hK hP (18 + j_1) (fx_rep ad ac u_5 j_1 hj_1) rfl 9 (by decide) (hts _ kw_230) (fun _ h9 => h9) rfl d_drop_7 ?_
      refine lv_istore_n (lv' := [(3, .int 0), (2, .ref (ad (18 + j_1))), (0, .ref (ad 0)), (1, .int (nI j_1))]) hx hb d_drop_10 rfl hl (by decide) rfl (fun ls hl => ?_)
      refine lv_iconst (v := 0) hx hb d_drop_11 (by decide) ?_
      refine lv_istore (lv' := [(4, .int 0), (3, .int 0), (2, .ref (ad (18 + j_1))), (0, .ref (ad 0)), (1, .int (nI j_1))]) hx hb d_drop_12 hl (by decide) rfl (fun ls hl => ?_)
      refine lv_iload hx hb d_drop_14 (lv_at hl 0 rfl) ?_
      refine lv_iload_n hx hb d_drop_16 rfl (lv_at hl 1 rfl) ?_
      refine lv_icmp_ge (tgt := 48) hx hb d_drop_17 (by decide) (fun _ => ?_) (fun h => absurd h (by decide))
      refine lv_aload_n hx hb d_drop_48 rfl (lv_at hl 2 rfl) ?_
      refine lv_dup hx hb d_drop_49 rfl ?_
      refine va_get (D := D) (ci := 4) (v := .int 0) (C := R_Rp) (T := F_Rp) (N := 10) hx hb hts i_Rp hown hK hP (18 + j_1) (fx_rep ad ac u_5 j_1 hj_1) rfl 8 (by decide) (hts _ kw_227) (fun _ h9 => h9) rfl d_drop_50 ?_
      refine lv_iload_n hx hb d_drop_53 rfl (lv_at hl 1 rfl) ?_
      refine lv_isub hx hb d_drop_54 ?_
      refine w_i (y := 0) (by decide) ?_
      refine w_putS (D := D) (ci := 4) (v := .int 0) (ty := .int) (C := R_Rp) (T := F_Rp) (N := 10) hx hb hts i_Rp t_Rp t_Rp_ok n_Rp hown hK hP hD hS (18 + j_1) (fx_rep ad ac u_5 j_1 hj_1) rfl 8 (by decide) (hts _ kw_227) (fun _ h9 => h9) rfl (by decide +kernel) rfl rfl (Nat.le_of_ble_eq_true rfl) rfl d_drop_55 (fun H locs hP hD hS => ?_)
      refine lv_aload_n hx hb d_drop_58 rfl (lv_at hl 2 rfl) ?_
      refine lv_dup hx hb d_drop_59 rfl ?_
      refine va_get (D := D) (ci := 4) (v := .int 0) (C := R_Rp) (T := F_Rp) (N := 10) hx hb hts i_Rp hown hK hP (18 + j_1) (fx_rep ad ac u_5 j_1 hj_1) rfl 7 (by decide) (hts _ kw_224) (fun _ h9 => h9) rfl d_drop_60 ?_
      refine lv_iload_n hx hb d_drop_63 rfl (lv_at hl 1 rfl) ?_
      refine lv_isub hx hb d_drop_64 ?_
      refine w_i (y := 0) (by decide) ?_
      refine w_putS (D := D) (ci := 4) (v := .int 0) (ty := .int) (C := R_Rp) (T := F_Rp) (N := 10) hx hb hts i_Rp t_Rp t_Rp_ok n_Rp hown hK hP hD hS (18 + j_1) (fx_rep ad ac u_5 j_1 hj_1) rfl 7 (by decide) (hts _ kw_224) (fun _ h9 => h9) rfl (by decide +kernel) rfl rfl (Nat.le_of_ble_eq_true rfl) rfl d_drop_65 (fun H locs hP hD hS => ?_)
      refine lv_aload_n hx hb d_drop_68 rfl (lv_at hl 2 rfl) ?_
      refine lv_iconst (v := 0) hx hb d_drop_69 (by decide) ?_
      refine w_putS (D := D) (ci := 4) (v := .int 0) (ty := .int) (C := R_Rp) (T := F_Rp) (N := 10) hx hb hts i_Rp t_Rp t_Rp_ok n_Rp hown hK hP hD hS (18 + j_1) (fx_rep ad ac u_5 j_1 hj_1) rfl 9 (by decide) (hts _ kw_230) (fun _ h9 => h9) rfl (by decide +kernel) rfl rfl (Nat.le_of_ble_eq_true rfl) rfl d_drop_70 (fun H locs hP hD hS => ?_)
      refine lv_iload_n hx hb d_drop_73 rfl (lv_at hl 1 rfl) ?_
      exact W.iret (v := 0) hx hb hr (fun t ht hW => ⟨⟨0, (), rfl, rfl, trivial⟩, hS.F ht⟩) hS.2.2 d_drop_74
    · first | exact absurd hq (by simp [k_dro, c_2, c_3]) | (exfalso; simp_all [k_dro])
theorem d_send_0 : decode prog_1_method_13_code 0 = .ok (.aload_n 0, 1) := by decide +kernel
theorem d_send_1 : decode prog_1_method_13_code 1 = .ok (.iload_n 1, 1) := by decide +kernel
theorem d_send_2 : decode prog_1_method_13_code 2 = .ok (.invokevirtual 105, 3) := by decide +kernel
theorem d_send_5 : decode prog_1_method_13_code 5 = .ok (.astore 5, 2) := by decide +kernel
theorem d_send_7 : decode prog_1_method_13_code 7 = .ok (.aload_n 0, 1) := by decide +kernel
theorem d_send_8 : decode prog_1_method_13_code 8 = .ok (.iload_n 2, 1) := by decide +kernel
theorem d_send_9 : decode prog_1_method_13_code 9 = .ok (.invokevirtual 105, 3) := by decide +kernel
theorem d_send_12 : decode prog_1_method_13_code 12 = .ok (.astore 6, 2) := by decide +kernel
theorem d_send_14 : decode prog_1_method_13_code 14 = .ok (.iload_n 3, 1) := by decide +kernel
theorem d_send_15 : decode prog_1_method_13_code 15 = .ok (.ifCond .lt 9, 3) := by decide +kernel
theorem d_send_24 : decode prog_1_method_13_code 24 = .ok (.new 93, 3) := by decide +kernel
theorem d_send_27 : decode prog_1_method_13_code 27 = .ok (.dup, 1) := by decide +kernel
theorem d_send_28 : decode prog_1_method_13_code 28 = .ok (.invokespecial 95, 3) := by decide +kernel
theorem d_send_31 : decode prog_1_method_13_code 31 = .ok (.athrow, 1) := by decide +kernel
theorem d_send_18 : decode prog_1_method_13_code 18 = .ok (.iload_n 3, 1) := by decide +kernel
theorem d_send_19 : decode prog_1_method_13_code 19 = .ok (.bipush 8, 2) := by decide +kernel
theorem d_send_21 : decode prog_1_method_13_code 21 = .ok (.if_icmp .lt 11, 3) := by decide +kernel
theorem d_send_32 : decode prog_1_method_13_code 32 = .ok (.aload_n 0, 1) := by decide +kernel
theorem d_send_33 : decode prog_1_method_13_code 33 = .ok (.getfield 12, 3) := by decide +kernel
theorem d_send_36 : decode prog_1_method_13_code 36 = .ok (.iload_n 3, 1) := by decide +kernel
theorem d_send_37 : decode prog_1_method_13_code 37 = .ok (.iload 4, 2) := by decide +kernel
theorem d_send_39 : decode prog_1_method_13_code 39 = .ok (.invokevirtual 245, 3) := by decide +kernel
theorem d_send_42 : decode prog_1_method_13_code 42 = .ok (.astore 7, 2) := by decide +kernel
theorem d_send_44 : decode prog_1_method_13_code 44 = .ok (.aload 7, 2) := by decide +kernel
theorem d_send_46 : decode prog_1_method_13_code 46 = .ok (.ifnull 13, 3) := by decide +kernel
set_option maxHeartbeats 4000000 in
set_option maxRecDepth 100000 in
theorem c_send_1 (l : Launch) (hfl : l.flags = flags0) (D : va_G) (ad : Nat → Nat) (ac : Nat → ClassId) (ck : Nat → Int32) (sz : Nat) (f tt a n : Int32) (hq : k_sen f tt a = 1) : MeT l ⟨"JoinedTrees", "send", "(IIII)I"⟩ (Cond.code ⟨"JoinedTrees", "send", "(IIII)I"⟩ prog_1_method_13_code 8 (some .int) :: gb) ({ frames := 7, cells := 1, slots := 6, locals := 117 }) (fxPc D ad ac ck sz [.ref (ad 0), .int f, .int tt, .int a, .int n]) e_IA (va_A (fxW ad ac ck) sz) 1 6 := by
  refine MeT.ofW (cc := prog_1_method_13_code) (maxL := 8) (ret := (some .int)) (by decide) rfl ?_
  intro p e s m args below meth c s₁ B hml hno hv
  obtain ⟨rfl, hsz, hP, hK, hD0, hev⟩ := hv
  have hx := B.exec
  have hb := B.bytes
  have hr := B.returns
  have hts : ∀ w9 ∈ gb, w9.before [.ref (ad 0), .int f, .int tt, .int a, .int n].toArray s = true := fun w9 h => atoms_spec (ws := Cond.code ⟨"JoinedTrees", "send", "(IIII)I"⟩ prog_1_method_13_code 8 (some .int) :: gb) B.pre w9 (List.mem_cons_of_mem _ h)
  have hown : s.vm.findClass "JoinedTrees" = some m.cls := findClass_of_methodNamed B.named
  have hlocks := B.notSynchronized
  subst hsz
  have hNS := ns_of hP
  have hD := hD0.self (sz := s.heap.size)
  generalize hAe : va_A (fxW ad ac ck) s.heap.size = A at hD hev hNS ⊢
  have hA : ∀ q : Nat, s.heap.size ≤ q → A q := fun q h => by rw [← hAe]; exact Or.inr h
  have hS : va_S A s.heap s.heap [] := va_S.rf
  have hP : va_P D cls (fxW ad ac ck) s.heap := hP
  have hl := lv_entry ([.ref (ad 0), .int f, .int tt, .int a, .int n]) (n := 8) (Nat.le_of_ble_eq_true rfl)
  rw [lg_entry_eq]
  generalize (lg_sl ([.ref (ad 0), .int f, .int tt, .int a, .int n]) ++ List.replicate (8 - (lg_sl ([.ref (ad 0), .int f, .int tt, .int a, .int n])).length) Slot.unset).toArray = ls at hl ⊢
  have hl : lv_has ls 8 [(0, .ref (ad 0)), (1, .int f), (2, .int tt), (3, .int a), (4, .int n)] := hl
  refine lv_aload_n hx hb d_send_0 rfl (lv_at hl 0 rfl) ?_
  refine lv_iload_n hx hb d_send_1 rfl (lv_at hl 1 rfl) ?_
  by_cases c_2 : f < 0
  · have hFc := fr_all hD hS hA
    exact tx_on (tx_runV (As := [.int f]) (rest := []) ⟨hx, hb, hml, hown, hts⟩ (c_shown_T l hfl D ad ac ck s.heap.size f (Or.inl c_2)) (cw_v 1 hts kw_593 kw_590 kw_592 kp_3 kw_1 rfl rfl (by decide +kernel) ⟨Nat.le_of_ble_eq_true rfl, Nat.le_of_ble_eq_true rfl⟩) ⟨fx_blind, va_recv hK hP (ci := 11) (q0 := 0) rfl rfl, fun U hU hW => fx_pre hU hW hP hK hD hev hNS hS hFc⟩ rfl rfl hl.1 rfl (lv_room (Nat.le_of_ble_eq_true rfl)) d_send_2 ⟨Nat.le_of_ble_eq_true rfl, Nat.le_of_ble_eq_true rfl⟩) hno hlocks hS hFc
  · by_cases c_3 : f < 8
    · obtain ⟨j_1, hj_1, rfl⟩ := of8 c_2 c_3
      have hFc := fr_all hD hS hA
      refine va_callq (va_runV (As := [.int (nI j_1)]) (rest := []) ⟨hx, hb, hml, hown, hts⟩ (c_shown l hfl D ad ac ck s.heap.size j_1 hj_1) (cw_v 1 hts kw_593 kw_590 kw_592 kp_3 kw_1 rfl rfl (by decide +kernel) ⟨Nat.le_of_ble_eq_true rfl, Nat.le_of_ble_eq_true rfl⟩) ⟨fx_blind, va_recv hK hP (ci := 11) (q0 := 0) rfl rfl, fun U hU hW => fx_pre hU hW hP hK hD hev hNS hS hFc⟩ rfl rfl hl.1 rfl (lv_room (Nat.le_of_ble_eq_true rfl)) d_send_2 ⟨Nat.le_of_ble_eq_true rfl, Nat.le_of_ble_eq_true rfl⟩) hS (fun q _ h => hFc q h) hFc (fun r_4 u_5 t H1 locs ht hvm hw hB hz1 hk1 hS => ?_)
      obtain ⟨hP, -, hD1⟩ := hB
      rw [ht] at hP
      have hD := hD1.weaken (fun _ q _ h => hFc q.1 h)
      generalize H1 = H at hP hS ⊢
      refine W.cs (cells' := 0) (slots' := 0) rfl rfl ?_
      subst hw
      refine w_v (y := .ref (ad (18 + j_1))) rfl ?_
      refine lv_astore (lv' := [(5, .ref (ad (18 + j_1))), (0, .ref (ad 0)), (1, .int (nI j_1)), (2, .int tt), (3, .int a), (4, .int n)]) hx hb d_send_5 hl (by decide) rfl (fun ls hl => ?_)
      refine lv_aload_n hx hb d_send_7 rfl (lv_at hl 1 rfl) ?_
      refine lv_iload_n hx hb d_send_8 rfl (lv_at hl 3 rfl) ?_
      by_cases c_7 : tt < 0
      · have hFc := fr_all hD hS hA
        exact tx_on (tx_runV (As := [.int tt]) (rest := []) ⟨hx, hb, hml, hown, hts⟩ (c_shown_T l hfl D ad ac u_5 H.size tt (Or.inl c_7)) (cw_v 1 hts kw_593 kw_590 kw_592 kp_3 kw_1 rfl rfl (by decide +kernel) ⟨Nat.le_of_ble_eq_true rfl, Nat.le_of_ble_eq_true rfl⟩) ⟨fx_blind, va_recv hK hP (ci := 11) (q0 := 0) rfl rfl, fun U hU hW => fx_pre hU hW hP hK hD hev hNS hS hFc⟩ rfl rfl hl.1 rfl (lv_room (Nat.le_of_ble_eq_true rfl)) d_send_9 ⟨Nat.le_of_ble_eq_true rfl, Nat.le_of_ble_eq_true rfl⟩) hno hlocks hS hFc
      · by_cases c_8 : tt < 8
        · obtain ⟨j_6, hj_6, rfl⟩ := of8 c_7 c_8
          have hFc := fr_all hD hS hA
          refine va_callq (va_runV (As := [.int (nI j_6)]) (rest := []) ⟨hx, hb, hml, hown, hts⟩ (c_shown l hfl D ad ac u_5 H.size j_6 hj_6) (cw_v 1 hts kw_593 kw_590 kw_592 kp_3 kw_1 rfl rfl (by decide +kernel) ⟨Nat.le_of_ble_eq_true rfl, Nat.le_of_ble_eq_true rfl⟩) ⟨fx_blind, va_recv hK hP (ci := 11) (q0 := 0) rfl rfl, fun U hU hW => fx_pre hU hW hP hK hD hev hNS hS hFc⟩ rfl rfl hl.1 rfl (lv_room (Nat.le_of_ble_eq_true rfl)) d_send_9 ⟨Nat.le_of_ble_eq_true rfl, Nat.le_of_ble_eq_true rfl⟩) hS (fun q _ h => hFc q h) hFc (fun r_9 u_10 t H1 locs ht hvm hw hB hz1 hk1 hS => ?_)
          obtain ⟨hP, -, hD1⟩ := hB
          rw [ht] at hP
          have hD := hD1.weaken (fun _ q _ h => hFc q.1 h)
          generalize H1 = H at hP hS ⊢
          refine W.cs (cells' := 0) (slots' := 0) rfl rfl ?_
          subst hw
          refine w_v (y := .ref (ad (18 + j_6))) rfl ?_
          refine lv_astore (lv' := [(6, .ref (ad (18 + j_6))), (5, .ref (ad (18 + j_1))), (0, .ref (ad 0)), (1, .int (nI j_1)), (2, .int (nI j_6)), (3, .int a), (4, .int n)]) hx hb d_send_12 hl (by decide) rfl (fun ls hl => ?_)
          refine lv_iload_n hx hb d_send_14 rfl (lv_at hl 5 rfl) ?_
          refine lv_if_lt (tgt := 24) hx hb d_send_15 (by decide) (fun c_11 => ?_) (fun c_11 => ?_)
          · exact tx_throw (own := "JoinedTrees") (E := e_IA) (names := at_n) (ia := 93) (ic := 95) hfl hx hb hno hlocks hown (by decide +kernel) (by decide +kernel) (hev.atoms hts hev.2.2.2.2.2.1.1 at_IA) (hts _ kw_558) (hts _ kw_16) d_send_24 d_send_27 d_send_28 d_send_31 (hl.1.trans hml.symm) hS hA hNS (Nat.le_of_ble_eq_true rfl) (Nat.le_of_ble_eq_true rfl) (Nat.le_of_ble_eq_true rfl) (Nat.le_of_ble_eq_true rfl)
          · refine lv_iload_n hx hb d_send_18 rfl (lv_at hl 5 rfl) ?_
            refine lv_bipush (v := 8) hx hb d_send_19 (by decide) ?_
            refine lv_icmp_lt (tgt := 32) hx hb d_send_21 (by decide) (fun c_12 => ?_) (fun c_12 => ?_)
            · refine lv_aload_n hx hb d_send_32 rfl (lv_at hl 2 rfl) ?_
              refine va_get (D := D) (ci := 11) (v := .ref (ad 1)) (C := R_JT) (T := F_JT) (N := 13) hx hb hts i_JT hown hK hP 0 rfl rfl 0 (by decide) (hts _ kw_421) (fun _ h9 => h9) rfl d_send_33 ?_
              refine lv_iload_n hx hb d_send_36 rfl (lv_at hl 5 rfl) ?_
              refine lv_iload hx hb d_send_37 (lv_at hl 6 rfl) ?_
              have hFc := fr_all hD hS hA
              refine va_callq (va_runV (As := [.int a, .int n]) (rest := []) ⟨hx, hb, hml, hown, hts⟩ (c_chAt l hfl D ad ac u_10 H.size a n) (cw_v 2 hts kw_1079 kw_1076 kw_1077 kw_1078 kw_2 rfl rfl (by decide +kernel) ⟨Nat.le_of_ble_eq_true rfl, Nat.le_of_ble_eq_true rfl⟩) ⟨fx_blind, va_recv hK hP (ci := 8) (q0 := 1) rfl rfl, fun U hU hW => fx_pre hU hW hP hK hD hev hNS hS hFc⟩ rfl rfl hl.1 rfl (lv_room (Nat.le_of_ble_eq_true rfl)) d_send_39 ⟨Nat.le_of_ble_eq_true rfl, Nat.le_of_ble_eq_true rfl⟩) hS (fun q _ h => hFc q h) hFc (fun r_13 u_14 t H1 locs ht hvm hw hB hz1 hk1 hS => ?_)
              obtain ⟨hP, -, hD1⟩ := hB
              rw [ht] at hP
              have hD := hD1.weaken (fun _ q _ h => hFc q.1 h)
              generalize H1 = H at hP hS ⊢
              refine W.cs (cells' := 0) (slots' := 0) rfl rfl ?_
              subst hw
              refine w_v (y := .null) rfl ?_
              refine lv_astoreN (lv' := [(7, .null), (6, .ref (ad (18 + j_6))), (5, .ref (ad (18 + j_1))), (0, .ref (ad 0)), (1, .int (nI j_1)), (2, .int (nI j_6)), (3, .int a), (4, .int n)]) hx hb d_send_42 hl (by decide) rfl (fun ls hl => ?_)
              refine lv_aloadN hx hb d_send_44 (lv_at hl 0 rfl) ?_
              refine lv_ifnullN (tgt := 59) hx hb d_send_46 (by decide) ?_
              first | exact absurd hq (by simp [k_sen, c_2, c_3, c_7, c_8, c_11, c_12]) | (exfalso; simp_all [k_sen])
            · exact tx_throw (own := "JoinedTrees") (E := e_IA) (names := at_n) (ia := 93) (ic := 95) hfl hx hb hno hlocks hown (by decide +kernel) (by decide +kernel) (hev.atoms hts hev.2.2.2.2.2.1.1 at_IA) (hts _ kw_558) (hts _ kw_16) d_send_24 d_send_27 d_send_28 d_send_31 (hl.1.trans hml.symm) hS hA hNS (Nat.le_of_ble_eq_true rfl) (Nat.le_of_ble_eq_true rfl) (Nat.le_of_ble_eq_true rfl) (Nat.le_of_ble_eq_true rfl)
        · have hFc := fr_all hD hS hA
          exact tx_on (tx_runV (As := [.int tt]) (rest := []) ⟨hx, hb, hml, hown, hts⟩ (c_shown_T l hfl D ad ac u_5 H.size tt (Or.inr c_8)) (cw_v 1 hts kw_593 kw_590 kw_592 kp_3 kw_1 rfl rfl (by decide +kernel) ⟨Nat.le_of_ble_eq_true rfl, Nat.le_of_ble_eq_true rfl⟩) ⟨fx_blind, va_recv hK hP (ci := 11) (q0 := 0) rfl rfl, fun U hU hW => fx_pre hU hW hP hK hD hev hNS hS hFc⟩ rfl rfl hl.1 rfl (lv_room (Nat.le_of_ble_eq_true rfl)) d_send_9 ⟨Nat.le_of_ble_eq_true rfl, Nat.le_of_ble_eq_true rfl⟩) hno hlocks hS hFc
    · have hFc := fr_all hD hS hA
      exact tx_on (tx_runV (As := [.int f]) (rest := []) ⟨hx, hb, hml, hown, hts⟩ (c_shown_T l hfl D ad ac ck s.heap.size f (Or.inr c_3)) (cw_v 1 hts kw_593 kw_590 kw_592 kp_3 kw_1 rfl rfl (by decide +kernel) ⟨Nat.le_of_ble_eq_true rfl, Nat.le_of_ble_eq_true rfl⟩) ⟨fx_blind, va_recv hK hP (ci := 11) (q0 := 0) rfl rfl, fun U hU hW => fx_pre hU hW hP hK hD hev hNS hS hFc⟩ rfl rfl hl.1 rfl (lv_room (Nat.le_of_ble_eq_true rfl)) d_send_2 ⟨Nat.le_of_ble_eq_true rfl, Nat.le_of_ble_eq_true rfl⟩) hno hlocks hS hFc
