set_option maxHeartbeats 4000000 in
set_option maxRecDepth 100000 in
theorem c_element_2 (l : Launch) (hfl : l.flags = flags0) (D : va_G) (ad : Nat → Nat) (ac : Nat → ClassId) (ck : Nat → Int32) (sz : Nat) (r o i : Int32) (hq : k_ele r o = 2) : MeT l ⟨"JoinedTrees", "element", "(III)I"⟩ (Cond.code ⟨"JoinedTrees", "element", "(III)I"⟩ prog_1_method_20_code 5 (some .int) :: gb) ({ frames := 8, cells := 1, slots := 6, locals := 140 }) (fxPc D ad ac ck sz [.ref (ad 0), .int r, .int o, .int i]) e_NE (va_A (fxW ad ac ck) sz) 1 6 := by
  refine MeT.ofW (cc := prog_1_method_20_code) (maxL := 5) (ret := (some .int)) (by decide) rfl ?_
  intro p e s m args below meth c s₁ B hml hno hv
  obtain ⟨rfl, hsz, hP, hK, hD0, hev⟩ := hv
  have hx := B.exec
  have hb := B.bytes
  have hr := B.returns
  have hts : ∀ w9 ∈ gb, w9.before [.ref (ad 0), .int r, .int o, .int i].toArray s = true := fun w9 h => atoms_spec (ws := Cond.code ⟨"JoinedTrees", "element", "(III)I"⟩ prog_1_method_20_code 5 (some .int) :: gb) B.pre w9 (List.mem_cons_of_mem _ h)
  have hown : s.vm.findClass "JoinedTrees" = some m.cls := findClass_of_methodNamed B.named
  have hlocks := B.notSynchronized
  subst hsz
  have hNS := ns_of hP
  have hD := hD0.self (sz := s.heap.size)
  generalize hAe : va_A (fxW ad ac ck) s.heap.size = A at hD hev hNS ⊢
  have hA : ∀ q : Nat, s.heap.size ≤ q → A q := fun q h => by rw [← hAe]; exact Or.inr h
  have hS : va_S A s.heap s.heap [] := va_S.rf
  have hP : va_P D cls (fxW ad ac ck) s.heap := hP
  have hl := lv_entry ([.ref (ad 0), .int r, .int o, .int i]) (n := 5) (Nat.le_of_ble_eq_true rfl)
  rw [lg_entry_eq]
  generalize (lg_sl ([.ref (ad 0), .int r, .int o, .int i]) ++ List.replicate (5 - (lg_sl ([.ref (ad 0), .int r, .int o, .int i])).length) Slot.unset).toArray = ls at hl ⊢
  have hl : lv_has ls 5 [(0, .ref (ad 0)), (1, .int r), (2, .int o), (3, .int i)] := hl
  refine lv_aload_n hx hb d_element_0 rfl (lv_at hl 0 rfl) ?_
  refine lv_iload_n hx hb d_element_1 rfl (lv_at hl 1 rfl) ?_
  by_cases c_2 : r < 0
  · first | exact absurd hq (by simp [k_ele, c_2]) | (exfalso; simp_all [k_ele])
  · by_cases c_3 : r < 8
    · obtain ⟨j_1, hj_1, rfl⟩ := of8 c_2 c_3
      have hFc := fr_all hD hS hA
      refine va_callq (va_runV (As := [.int (nI j_1)]) (rest := []) ⟨hx, hb, hml, hown, hts⟩ (c_shown l hfl D ad ac ck s.heap.size j_1 hj_1) (cw_v 1 hts kw_593 kw_590 kw_592 kp_3 kw_1 rfl rfl (by decide +kernel) ⟨Nat.le_of_ble_eq_true rfl, Nat.le_of_ble_eq_true rfl⟩) ⟨fx_blind, va_recv hK hP (ci := 11) (q0 := 0) rfl rfl, fun U hU hW => fx_pre hU hW hP hK hD hev hNS hS hFc⟩ rfl rfl hl.1 rfl (lv_room (Nat.le_of_ble_eq_true rfl)) d_element_2 ⟨Nat.le_of_ble_eq_true rfl, Nat.le_of_ble_eq_true rfl⟩) hS (fun q _ h => hFc q h) hFc (fun r_4 u_5 t H1 locs ht hvm hw hB hz1 hk1 hS => ?_)
      obtain ⟨hP, -, hD1⟩ := hB
      rw [ht] at hP
      have hD := hD1.weaken (fun _ q _ h => hFc q.1 h)
      generalize H1 = H at hP hS ⊢
      refine W.cs (cells' := 0) (slots' := 0) rfl rfl ?_
      subst hw
      refine w_v (y := .ref (ad (18 + j_1))) rfl ?_
      refine lv_pop hx hb d_element_5 rfl ?_
      refine lv_aload_n hx hb d_element_6 rfl (lv_at hl 0 rfl) ?_
      refine va_get (D := D) (ci := 11) (v := .ref (ad 3)) (C := R_JT) (T := F_JT) (N := 13) hx hb hts i_JT hown hK hP 0 rfl rfl 2 (by decide) (hts _ kw_423) (fun _ h9 => h9) rfl d_element_7 ?_
      refine lv_aload_n hx hb d_element_10 rfl (lv_at hl 0 rfl) ?_
      refine lv_iload_n hx hb d_element_11 rfl (lv_at hl 2 rfl) ?_
      by_cases c_6 : o = 0
      · subst c_6
        first | exact absurd hq (by simp [k_ele, c_2, c_3]) | (exfalso; simp_all [k_ele])
      · have hFc := fr_all hD hS hA
        exact tx_on (tx_runV (As := [.int o]) (rest := [.ref (ad 3)]) ⟨hx, hb, hml, hown, hts⟩ (c_listAtN l hfl D ad ac u_5 H.size o c_6) (cw_v 1 hts kw_776 kw_773 kw_775 kp_13 kw_1 rfl rfl (by decide +kernel) ⟨Nat.le_of_ble_eq_true rfl, Nat.le_of_ble_eq_true rfl⟩) ⟨fx_blind, va_recv hK hP (ci := 11) (q0 := 0) rfl rfl, fun U hU hW => fx_pre hU hW hP hK hD hev hNS hS hFc⟩ rfl rfl hl.1 rfl (lv_room (Nat.le_of_ble_eq_true rfl)) d_element_12 ⟨Nat.le_of_ble_eq_true rfl, Nat.le_of_ble_eq_true rfl⟩) hno hlocks hS hFc
    · first | exact absurd hq (by simp [k_ele, c_2, c_3]) | (exfalso; simp_all [k_ele])
set_option maxHeartbeats 4000000 in
set_option maxRecDepth 100000 in
theorem c_index_2 (l : Launch) (hfl : l.flags = flags0) (D : va_G) (ad : Nat → Nat) (ac : Nat → ClassId) (ck : Nat → Int32) (sz : Nat) (r o i : Int32) (hq : k_ele r o = 2) : MeT l ⟨"JoinedTrees", "index", "(III)I"⟩ (Cond.code ⟨"JoinedTrees", "index", "(III)I"⟩ prog_1_method_21_code 6 (some .int) :: gb) ({ frames := 8, cells := 1, slots := 6, locals := 140 }) (fxPc D ad ac ck sz [.ref (ad 0), .int r, .int o, .int i]) e_NE (va_A (fxW ad ac ck) sz) 1 6 := by
  refine MeT.ofW (cc := prog_1_method_21_code) (maxL := 6) (ret := (some .int)) (by decide) rfl ?_
  intro p e s m args below meth c s₁ B hml hno hv
  obtain ⟨rfl, hsz, hP, hK, hD0, hev⟩ := hv
  have hx := B.exec
  have hb := B.bytes
  have hr := B.returns
  have hts : ∀ w9 ∈ gb, w9.before [.ref (ad 0), .int r, .int o, .int i].toArray s = true := fun w9 h => atoms_spec (ws := Cond.code ⟨"JoinedTrees", "index", "(III)I"⟩ prog_1_method_21_code 6 (some .int) :: gb) B.pre w9 (List.mem_cons_of_mem _ h)
  have hown : s.vm.findClass "JoinedTrees" = some m.cls := findClass_of_methodNamed B.named
  have hlocks := B.notSynchronized
  subst hsz
  have hNS := ns_of hP
  have hD := hD0.self (sz := s.heap.size)
  generalize hAe : va_A (fxW ad ac ck) s.heap.size = A at hD hev hNS ⊢
  have hA : ∀ q : Nat, s.heap.size ≤ q → A q := fun q h => by rw [← hAe]; exact Or.inr h
  have hS : va_S A s.heap s.heap [] := va_S.rf
  have hP : va_P D cls (fxW ad ac ck) s.heap := hP
  have hl := lv_entry ([.ref (ad 0), .int r, .int o, .int i]) (n := 6) (Nat.le_of_ble_eq_true rfl)
  rw [lg_entry_eq]
  generalize (lg_sl ([.ref (ad 0), .int r, .int o, .int i]) ++ List.replicate (6 - (lg_sl ([.ref (ad 0), .int r, .int o, .int i])).length) Slot.unset).toArray = ls at hl ⊢
  have hl : lv_has ls 6 [(0, .ref (ad 0)), (1, .int r), (2, .int o), (3, .int i)] := hl
  refine lv_aload_n hx hb d_index_0 rfl (lv_at hl 0 rfl) ?_
  refine lv_iload_n hx hb d_index_1 rfl (lv_at hl 1 rfl) ?_
  by_cases c_2 : r < 0
  · first | exact absurd hq (by simp [k_ele, c_2]) | (exfalso; simp_all [k_ele])
  · by_cases c_3 : r < 8
    · obtain ⟨j_1, hj_1, rfl⟩ := of8 c_2 c_3
      have hFc := fr_all hD hS hA
      refine va_callq (va_runV (As := [.int (nI j_1)]) (rest := []) ⟨hx, hb, hml, hown, hts⟩ (c_shown l hfl D ad ac ck s.heap.size j_1 hj_1) (cw_v 1 hts kw_593 kw_590 kw_592 kp_3 kw_1 rfl rfl (by decide +kernel) ⟨Nat.le_of_ble_eq_true rfl, Nat.le_of_ble_eq_true rfl⟩) ⟨fx_blind, va_recv hK hP (ci := 11) (q0 := 0) rfl rfl, fun U hU hW => fx_pre hU hW hP hK hD hev hNS hS hFc⟩ rfl rfl hl.1 rfl (lv_room (Nat.le_of_ble_eq_true rfl)) d_index_2 ⟨Nat.le_of_ble_eq_true rfl, Nat.le_of_ble_eq_true rfl⟩) hS (fun q _ h => hFc q h) hFc (fun r_4 u_5 t H1 locs ht hvm hw hB hz1 hk1 hS => ?_)
      obtain ⟨hP, -, hD1⟩ := hB
      rw [ht] at hP
      have hD := hD1.weaken (fun _ q _ h => hFc q.1 h)
      generalize H1 = H at hP hS ⊢
      refine W.cs (cells' := 0) (slots' := 0) rfl rfl ?_
      subst hw
      refine w_v (y := .ref (ad (18 + j_1))) rfl ?_
      refine lv_pop hx hb d_index_5 rfl ?_
      refine lv_aload_n hx hb d_index_6 rfl (lv_at hl 0 rfl) ?_
      refine lv_iload_n hx hb d_index_7 rfl (lv_at hl 2 rfl) ?_
      by_cases c_6 : o = 0
      · subst c_6
        first | exact absurd hq (by simp [k_ele, c_2, c_3]) | (exfalso; simp_all [k_ele])
      · have hFc := fr_all hD hS hA
        exact tx_on (tx_runV (As := [.int o]) (rest := []) ⟨hx, hb, hml, hown, hts⟩ (c_listAtN l hfl D ad ac u_5 H.size o c_6) (cw_v 1 hts kw_776 kw_773 kw_775 kp_13 kw_1 rfl rfl (by decide +kernel) ⟨Nat.le_of_ble_eq_true rfl, Nat.le_of_ble_eq_true rfl⟩) ⟨fx_blind, va_recv hK hP (ci := 11) (q0 := 0) rfl rfl, fun U hU hW => fx_pre hU hW hP hK hD hev hNS hS hFc⟩ rfl rfl hl.1 rfl (lv_room (Nat.le_of_ble_eq_true rfl)) d_index_8 ⟨Nat.le_of_ble_eq_true rfl, Nat.le_of_ble_eq_true rfl⟩) hno hlocks hS hFc
    · first | exact absurd hq (by simp [k_ele, c_2, c_3]) | (exfalso; simp_all [k_ele])
