theorem d_textc_0 : decode prog_1_method_23_code 0 = .ok (.aload_n 0, 1) := by decide +kernel
theorem d_textc_1 : decode prog_1_method_23_code 1 = .ok (.iload_n 1, 1) := by decide +kernel
theorem d_textc_2 : decode prog_1_method_23_code 2 = .ok (.invokevirtual 105, 3) := by decide +kernel
theorem d_textc_5 : decode prog_1_method_23_code 5 = .ok (.pop, 1) := by decide +kernel
theorem d_textc_6 : decode prog_1_method_23_code 6 = .ok (.aload_n 0, 1) := by decide +kernel
theorem d_textc_7 : decode prog_1_method_23_code 7 = .ok (.getfield 46, 3) := by decide +kernel
theorem d_textc_10 : decode prog_1_method_23_code 10 = .ok (.aload_n 0, 1) := by decide +kernel
theorem d_textc_11 : decode prog_1_method_23_code 11 = .ok (.iload_n 2, 1) := by decide +kernel
theorem d_textc_12 : decode prog_1_method_23_code 12 = .ok (.invokevirtual 168, 3) := by decide +kernel
set_option maxHeartbeats 4000000 in
set_option maxRecDepth 100000 in
theorem c_text_1 (l : Launch) (hfl : l.flags = flags0) (D : va_G) (ad : Nat → Nat) (ac : Nat → ClassId) (ck : Nat → Int32) (sz : Nat) (rr o : Int32) (hq : k_tex rr o = 1) : MeT l ⟨"JoinedTrees", "text", "(II)I"⟩ (Cond.code ⟨"JoinedTrees", "text", "(II)I"⟩ prog_1_method_23_code 4 (some .int) :: gb) ({ frames := 7, cells := 1, slots := 6, locals := 117 }) (fxPc D ad ac ck sz [.ref (ad 0), .int rr, .int o]) e_IA (va_A (fxW ad ac ck) sz) 1 6 := by
  refine MeT.ofW (cc := prog_1_method_23_code) (maxL := 4) (ret := (some .int)) (by decide) rfl ?_
  intro p e s m args below meth c s₁ B hml hno hv
  obtain ⟨rfl, hsz, hP, hK, hD0, hev⟩ := hv
  have hx := B.exec
  have hb := B.bytes
  have hr := B.returns
  have hts : ∀ w9 ∈ gb, w9.before [.ref (ad 0), .int rr, .int o].toArray s = true := fun w9 h => atoms_spec (ws := Cond.code ⟨"JoinedTrees", "text", "(II)I"⟩ prog_1_method_23_code 4 (some .int) :: gb) B.pre w9 (List.mem_cons_of_mem _ h)
  have hown : s.vm.findClass "JoinedTrees" = some m.cls := findClass_of_methodNamed B.named
  have hlocks := B.notSynchronized
  subst hsz
  have hNS := ns_of hP
  have hD := hD0.self (sz := s.heap.size)
  generalize hAe : va_A (fxW ad ac ck) s.heap.size = A at hD hev hNS ⊢
  have hA : ∀ q : Nat, s.heap.size ≤ q → A q := fun q h => by rw [← hAe]; exact Or.inr h
  have hS : va_S A s.heap s.heap [] := va_S.rf
  have hP : va_P D cls (fxW ad ac ck) s.heap := hP
  have hl := lv_entry ([.ref (ad 0), .int rr, .int o]) (n := 4) (Nat.le_of_ble_eq_true rfl)
  rw [lg_entry_eq]
  generalize (lg_sl ([.ref (ad 0), .int rr, .int o]) ++ List.replicate (4 - (lg_sl ([.ref (ad 0), .int rr, .int o])).length) Slot.unset).toArray = ls at hl ⊢
  have hl : lv_has ls 4 [(0, .ref (ad 0)), (1, .int rr), (2, .int o)] := hl
  refine lv_aload_n hx hb d_textc_0 rfl (lv_at hl 0 rfl) ?_
  refine lv_iload_n hx hb d_textc_1 rfl (lv_at hl 1 rfl) ?_
  by_cases c_2 : rr < 0
  · have hFc := fr_all hD hS hA
    exact tx_on (tx_runV (As := [.int rr]) (rest := []) ⟨hx, hb, hml, hown, hts⟩ (c_shown_T l hfl D ad ac ck s.heap.size rr (Or.inl c_2)) (cw_v 1 hts kw_593 kw_590 kw_592 kp_3 kw_1 rfl rfl (by decide +kernel) ⟨Nat.le_of_ble_eq_true rfl, Nat.le_of_ble_eq_true rfl⟩) ⟨fx_blind, va_recv hK hP (ci := 11) (q0 := 0) rfl rfl, fun U hU hW => fx_pre hU hW hP hK hD hev hNS hS hFc⟩ rfl rfl hl.1 rfl (lv_room (Nat.le_of_ble_eq_true rfl)) d_textc_2 ⟨Nat.le_of_ble_eq_true rfl, Nat.le_of_ble_eq_true rfl⟩) hno hlocks hS hFc
  · by_cases c_3 : rr < 8
    · obtain ⟨j_1, hj_1, rfl⟩ := of8 c_2 c_3
      have hFc := fr_all hD hS hA
      refine va_callq (va_runV (As := [.int (nI j_1)]) (rest := []) ⟨hx, hb, hml, hown, hts⟩ (c_shown l hfl D ad ac ck s.heap.size j_1 hj_1) (cw_v 1 hts kw_593 kw_590 kw_592 kp_3 kw_1 rfl rfl (by decide +kernel) ⟨Nat.le_of_ble_eq_true rfl, Nat.le_of_ble_eq_true rfl⟩) ⟨fx_blind, va_recv hK hP (ci := 11) (q0 := 0) rfl rfl, fun U hU hW => fx_pre hU hW hP hK hD hev hNS hS hFc⟩ rfl rfl hl.1 rfl (lv_room (Nat.le_of_ble_eq_true rfl)) d_textc_2 ⟨Nat.le_of_ble_eq_true rfl, Nat.le_of_ble_eq_true rfl⟩) hS (fun q _ h => hFc q h) hFc (fun r_4 u_5 t H1 locs ht hvm hw hB hz1 hk1 hS => ?_)
      obtain ⟨hP, -, hD1⟩ := hB
      rw [ht] at hP
      have hD := hD1.weaken (fun _ q _ h => hFc q.1 h)
      generalize H1 = H at hP hS ⊢
      refine W.cs (cells' := 0) (slots' := 0) rfl rfl ?_
      subst hw
      refine w_v (y := .ref (ad (18 + j_1))) rfl ?_
      refine lv_pop hx hb d_textc_5 rfl ?_
      refine lv_aload_n hx hb d_textc_6 rfl (lv_at hl 0 rfl) ?_
      refine va_get (D := D) (ci := 11) (v := .ref (ad 14)) (C := R_JT) (T := F_JT) (N := 13) hx hb hts i_JT hown hK hP 0 rfl rfl 4 (by decide) (hts _ kw_425) (fun _ h9 => h9) rfl d_textc_7 ?_
      refine lv_aload_n hx hb d_textc_10 rfl (lv_at hl 0 rfl) ?_
      refine lv_iload_n hx hb d_textc_11 rfl (lv_at hl 2 rfl) ?_
      by_cases c_6 : o = 0
      · subst c_6
        have hFc := fr_all hD hS hA
        refine va_callq (va_runV (As := [.int 0]) (rest := [.ref (ad 14)]) ⟨hx, hb, hml, hown, hts⟩ (c_objAt0 l hfl D ad ac u_5 H.size) (cw_v 1 hts kw_616 kw_613 kw_615 kp_7 kw_1 rfl rfl (by decide +kernel) ⟨Nat.le_of_ble_eq_true rfl, Nat.le_of_ble_eq_true rfl⟩) ⟨fx_blind, va_recv hK hP (ci := 11) (q0 := 0) rfl rfl, fun U hU hW => fx_pre hU hW hP hK hD hev hNS hS hFc⟩ rfl rfl hl.1 rfl (lv_room (Nat.le_of_ble_eq_true rfl)) d_textc_12 ⟨Nat.le_of_ble_eq_true rfl, Nat.le_of_ble_eq_true rfl⟩) hS (fun q _ h => hFc q h) hFc (fun r_7 u_8 t H1 locs ht hvm hw hB hz1 hk1 hS => ?_)
        obtain ⟨hP, -, hD1⟩ := hB
        rw [ht] at hP
        have hD := hD1.weaken (fun _ q _ h => hFc q.1 h)
        generalize H1 = H at hP hS ⊢
        refine W.cs (cells' := 0) (slots' := 0) rfl rfl ?_
        subst hw
        refine w_v (y := .ref (ad 5)) rfl ?_
        first | exact absurd hq (by simp [k_tex, c_2, c_3]) | (exfalso; simp_all [k_tex])
      · first | exact absurd hq (by simp [k_tex, c_2, c_3, c_6]) | (exfalso; simp_all [k_tex])
    · have hFc := fr_all hD hS hA
      exact tx_on (tx_runV (As := [.int rr]) (rest := []) ⟨hx, hb, hml, hown, hts⟩ (c_shown_T l hfl D ad ac ck s.heap.size rr (Or.inr c_3)) (cw_v 1 hts kw_593 kw_590 kw_592 kp_3 kw_1 rfl rfl (by decide +kernel) ⟨Nat.le_of_ble_eq_true rfl, Nat.le_of_ble_eq_true rfl⟩) ⟨fx_blind, va_recv hK hP (ci := 11) (q0 := 0) rfl rfl, fun U hU hW => fx_pre hU hW hP hK hD hev hNS hS hFc⟩ rfl rfl hl.1 rfl (lv_room (Nat.le_of_ble_eq_true rfl)) d_textc_2 ⟨Nat.le_of_ble_eq_true rfl, Nat.le_of_ble_eq_true rfl⟩) hno hlocks hS hFc
set_option maxHeartbeats 4000000 in
set_option maxRecDepth 100000 in
theorem c_text_3 (l : Launch) (hfl : l.flags = flags0) (D : va_G) (ad : Nat → Nat) (ac : Nat → ClassId) (ck : Nat → Int32) (sz : Nat) (rr o : Int32) (hq : k_tex rr o = 3) : MeT l ⟨"JoinedTrees", "text", "(II)I"⟩ (Cond.code ⟨"JoinedTrees", "text", "(II)I"⟩ prog_1_method_23_code 4 (some .int) :: gb) ({ frames := 7, cells := 1, slots := 6, locals := 118 }) (fxPc D ad ac ck sz [.ref (ad 0), .int rr, .int o]) e_NE (va_A (fxW ad ac ck) sz) 1 6 := by
  refine MeT.ofW (cc := prog_1_method_23_code) (maxL := 4) (ret := (some .int)) (by decide) rfl ?_
  intro p e s m args below meth c s₁ B hml hno hv
  obtain ⟨rfl, hsz, hP, hK, hD0, hev⟩ := hv
  have hx := B.exec
  have hb := B.bytes
  have hr := B.returns
  have hts : ∀ w9 ∈ gb, w9.before [.ref (ad 0), .int rr, .int o].toArray s = true := fun w9 h => atoms_spec (ws := Cond.code ⟨"JoinedTrees", "text", "(II)I"⟩ prog_1_method_23_code 4 (some .int) :: gb) B.pre w9 (List.mem_cons_of_mem _ h)
  have hown : s.vm.findClass "JoinedTrees" = some m.cls := findClass_of_methodNamed B.named
  have hlocks := B.notSynchronized
  subst hsz
  have hNS := ns_of hP
  have hD := hD0.self (sz := s.heap.size)
  generalize hAe : va_A (fxW ad ac ck) s.heap.size = A at hD hev hNS ⊢
  have hA : ∀ q : Nat, s.heap.size ≤ q → A q := fun q h => by rw [← hAe]; exact Or.inr h
  have hS : va_S A s.heap s.heap [] := va_S.rf
  have hP : va_P D cls (fxW ad ac ck) s.heap := hP
  have hl := lv_entry ([.ref (ad 0), .int rr, .int o]) (n := 4) (Nat.le_of_ble_eq_true rfl)
  rw [lg_entry_eq]
  generalize (lg_sl ([.ref (ad 0), .int rr, .int o]) ++ List.replicate (4 - (lg_sl ([.ref (ad 0), .int rr, .int o])).length) Slot.unset).toArray = ls at hl ⊢
  have hl : lv_has ls 4 [(0, .ref (ad 0)), (1, .int rr), (2, .int o)] := hl
  refine lv_aload_n hx hb d_textc_0 rfl (lv_at hl 0 rfl) ?_
  refine lv_iload_n hx hb d_textc_1 rfl (lv_at hl 1 rfl) ?_
  by_cases c_2 : rr < 0
  · first | exact absurd hq (by simp [k_tex, c_2]) | (exfalso; simp_all [k_tex])
  · by_cases c_3 : rr < 8
    · obtain ⟨j_1, hj_1, rfl⟩ := of8 c_2 c_3
      have hFc := fr_all hD hS hA
      refine va_callq (va_runV (As := [.int (nI j_1)]) (rest := []) ⟨hx, hb, hml, hown, hts⟩ (c_shown l hfl D ad ac ck s.heap.size j_1 hj_1) (cw_v 1 hts kw_593 kw_590 kw_592 kp_3 kw_1 rfl rfl (by decide +kernel) ⟨Nat.le_of_ble_eq_true rfl, Nat.le_of_ble_eq_true rfl⟩) ⟨fx_blind, va_recv hK hP (ci := 11) (q0 := 0) rfl rfl, fun U hU hW => fx_pre hU hW hP hK hD hev hNS hS hFc⟩ rfl rfl hl.1 rfl (lv_room (Nat.le_of_ble_eq_true rfl)) d_textc_2 ⟨Nat.le_of_ble_eq_true rfl, Nat.le_of_ble_eq_true rfl⟩) hS (fun q _ h => hFc q h) hFc (fun r_4 u_5 t H1 locs ht hvm hw hB hz1 hk1 hS => ?_)
      obtain ⟨hP, -, hD1⟩ := hB
      rw [ht] at hP
      have hD := hD1.weaken (fun _ q _ h => hFc q.1 h)
      generalize H1 = H at hP hS ⊢
      refine W.cs (cells' := 0) (slots' := 0) rfl rfl ?_
      subst hw
      refine w_v (y := .ref (ad (18 + j_1))) rfl ?_
      refine lv_pop hx hb d_textc_5 rfl ?_
      refine lv_aload_n hx hb d_textc_6 rfl (lv_at hl 0 rfl) ?_
      refine va_get (D := D) (ci := 11) (v := .ref (ad 14)) (C := R_JT) (T := F_JT) (N := 13) hx hb hts i_JT hown hK hP 0 rfl rfl 4 (by decide) (hts _ kw_425) (fun _ h9 => h9) rfl d_textc_7 ?_
      refine lv_aload_n hx hb d_textc_10 rfl (lv_at hl 0 rfl) ?_
      refine lv_iload_n hx hb d_textc_11 rfl (lv_at hl 2 rfl) ?_
      by_cases c_6 : o = 0
      · subst c_6
        have hFc := fr_all hD hS hA
        refine va_callq (va_runV (As := [.int 0]) (rest := [.ref (ad 14)]) ⟨hx, hb, hml, hown, hts⟩ (c_objAt0 l hfl D ad ac u_5 H.size) (cw_v 1 hts kw_616 kw_613 kw_615 kp_7 kw_1 rfl rfl (by decide +kernel) ⟨Nat.le_of_ble_eq_true rfl, Nat.le_of_ble_eq_true rfl⟩) ⟨fx_blind, va_recv hK hP (ci := 11) (q0 := 0) rfl rfl, fun U hU hW => fx_pre hU hW hP hK hD hev hNS hS hFc⟩ rfl rfl hl.1 rfl (lv_room (Nat.le_of_ble_eq_true rfl)) d_textc_12 ⟨Nat.le_of_ble_eq_true rfl, Nat.le_of_ble_eq_true rfl⟩) hS (fun q _ h => hFc q h) hFc (fun r_7 u_8 t H1 locs ht hvm hw hB hz1 hk1 hS => ?_)
        obtain ⟨hP, -, hD1⟩ := hB
        rw [ht] at hP
        have hD := hD1.weaken (fun _ q _ h => hFc q.1 h)
        generalize H1 = H at hP hS ⊢
        refine W.cs (cells' := 0) (slots' := 0) rfl rfl ?_
        subst hw
        refine w_v (y := .ref (ad 5)) rfl ?_
        first | exact absurd hq (by simp [k_tex, c_2, c_3]) | (exfalso; simp_all [k_tex])
      · have hFc := fr_all hD hS hA
        exact tx_on (tx_runV (As := [.int o]) (rest := [.ref (ad 14)]) ⟨hx, hb, hml, hown, hts⟩ (c_objAtN l hfl D ad ac u_5 H.size o c_6) (cw_v 1 hts kw_616 kw_613 kw_615 kp_7 kw_1 rfl rfl (by decide +kernel) ⟨Nat.le_of_ble_eq_true rfl, Nat.le_of_ble_eq_true rfl⟩) ⟨fx_blind, va_recv hK hP (ci := 11) (q0 := 0) rfl rfl, fun U hU hW => fx_pre hU hW hP hK hD hev hNS hS hFc⟩ rfl rfl hl.1 rfl (lv_room (Nat.le_of_ble_eq_true rfl)) d_textc_12 ⟨Nat.le_of_ble_eq_true rfl, Nat.le_of_ble_eq_true rfl⟩) hno hlocks hS hFc
    · first | exact absurd hq (by simp [k_tex, c_2, c_3]) | (exfalso; simp_all [k_tex])
theorem d_textc_15 : decode prog_1_method_23_code 15 = .ok (.invokevirtual 341, 3) := by decide +kernel
theorem d_textc_18 : decode prog_1_method_23_code 18 = .ok (.astore_n 3, 1) := by decide +kernel
theorem d_textc_19 : decode prog_1_method_23_code 19 = .ok (.aload_n 3, 1) := by decide +kernel
theorem d_textc_20 : decode prog_1_method_23_code 20 = .ok (.getfield 345, 3) := by decide +kernel
theorem d_textc_23 : decode prog_1_method_23_code 23 = .ok (.ifCond .eq 11, 3) := by decide +kernel
theorem d_textc_34 : decode prog_1_method_23_code 34 = .ok (.aload_n 0, 1) := by decide +kernel
theorem d_textc_35 : decode prog_1_method_23_code 35 = .ok (.getfield 54, 3) := by decide +kernel
theorem d_textc_38 : decode prog_1_method_23_code 38 = .ok (.invokevirtual 99, 3) := by decide +kernel
theorem d_textc_41 : decode prog_1_method_23_code 41 = .ok (.aload_n 0, 1) := by decide +kernel
theorem d_textc_42 : decode prog_1_method_23_code 42 = .ok (.getfield 54, 3) := by decide +kernel
theorem d_textc_45 : decode prog_1_method_23_code 45 = .ok (.aload_n 3, 1) := by decide +kernel
theorem d_textc_46 : decode prog_1_method_23_code 46 = .ok (.iconst 0, 1) := by decide +kernel
theorem d_textc_47 : decode prog_1_method_23_code 47 = .ok (.aload_n 3, 1) := by decide +kernel
theorem d_textc_48 : decode prog_1_method_23_code 48 = .ok (.getfield 80, 3) := by decide +kernel
theorem d_textc_51 : decode prog_1_method_23_code 51 = .ok (.invokevirtual 348, 3) := by decide +kernel
theorem d_textc_54 : decode prog_1_method_23_code 54 = .ok (.aload_n 0, 1) := by decide +kernel
theorem d_textc_55 : decode prog_1_method_23_code 55 = .ok (.iconst 0, 1) := by decide +kernel
theorem d_textc_56 : decode prog_1_method_23_code 56 = .ok (.putfield 352, 3) := by decide +kernel
theorem d_textc_59 : decode prog_1_method_23_code 59 = .ok (.aload_n 0, 1) := by decide +kernel
theorem d_textc_60 : decode prog_1_method_23_code 60 = .ok (.getfield 54, 3) := by decide +kernel
theorem d_textc_63 : decode prog_1_method_23_code 63 = .ok (.getfield 80, 3) := by decide +kernel
theorem d_textc_66 : decode prog_1_method_23_code 66 = .ok (.ireturn, 1) := by decide +kernel
set_option maxHeartbeats 4000000 in
set_option maxRecDepth 100000 in
theorem c_text_0 (l : Launch) (hfl : l.flags = flags0) (D : va_G) (ad : Nat → Nat) (ac : Nat → ClassId) (ck : Nat → Int32) (sz : Nat) (rr o : Int32) (hq : k_tex rr o = 0) : Met l ⟨"JoinedTrees", "text", "(II)I"⟩ (Cond.code ⟨"JoinedTrees", "text", "(II)I"⟩ prog_1_method_23_code 4 (some .int) :: gb) ({ frames := 3, cells := 0, slots := 0, locals := 103 }) (fxPc D ad ac ck sz [.ref (ad 0), .int rr, .int o]) (va_Qi (fun (r : Int32) (_ : Unit) => r = 2) (fun _ _ => True) (va_A (fxW ad ac ck) sz)) 0 0 (va_A (fxW ad ac ck) sz) := by
  refine Met.ofW (cc := prog_1_method_23_code) (maxL := 4) (ret := (some .int)) (by decide) rfl ?_
  intro p e s m args below meth c s₁ B hml hv
  obtain ⟨rfl, hsz, hP, hK, hD0, hev⟩ := hv
  have hx := B.exec
  have hb := B.bytes
  have hr := B.returns
  have hts : ∀ w9 ∈ gb, w9.before [.ref (ad 0), .int rr, .int o].toArray s = true := fun w9 h => atoms_spec (ws := Cond.code ⟨"JoinedTrees", "text", "(II)I"⟩ prog_1_method_23_code 4 (some .int) :: gb) B.pre w9 (List.mem_cons_of_mem _ h)
  have hown : s.vm.findClass "JoinedTrees" = some m.cls := findClass_of_methodNamed B.named
  have hlocks := B.notSynchronized
  subst hsz
  have hNS := ns_of hP
  have hD := hD0.self (sz := s.heap.size)
  generalize hAe : va_A (fxW ad ac ck) s.heap.size = A at hD hev hNS ⊢
  have hA : ∀ q : Nat, s.heap.size ≤ q → A q := fun q h => by rw [← hAe]; exact Or.inr h
  have hS : va_S A s.heap s.heap [] := va_S.rf
  have hP : va_P D cls (fxW ad ac ck) s.heap := hP
  have hl := lv_entry ([.ref (ad 0), .int rr, .int o]) (n := 4) (Nat.le_of_ble_eq_true rfl)
  rw [lg_entry_eq]
  generalize (lg_sl ([.ref (ad 0), .int rr, .int o]) ++ List.replicate (4 - (lg_sl ([.ref (ad 0), .int rr, .int o])).length) Slot.unset).toArray = ls at hl ⊢
  have hl : lv_has ls 4 [(0, .ref (ad 0)), (1, .int rr), (2, .int o)] := hl
  refine lv_aload_n hx hb d_textc_0 rfl (lv_at hl 0 rfl) ?_
  refine lv_iload_n hx hb d_textc_1 rfl (lv_at hl 1 rfl) ?_
  by_cases c_2 : rr < 0
  · first | exact absurd hq (by simp [k_tex, c_2]) | (exfalso; simp_all [k_tex])
  · by_cases c_3 : rr < 8
    · obtain ⟨j_1, hj_1, rfl⟩ := of8 c_2 c_3
      have hFc := fr_all hD hS hA
      refine va_callq (va_runV (As := [.int (nI j_1)]) (rest := []) ⟨hx, hb, hml, hown, hts⟩ (c_shown l hfl D ad ac ck s.heap.size j_1 hj_1) (cw_v 1 hts kw_593 kw_590 kw_592 kp_3 kw_1 rfl rfl (by decide +kernel) ⟨Nat.le_of_ble_eq_true rfl, Nat.le_of_ble_eq_true rfl⟩) ⟨fx_blind, va_recv hK hP (ci := 11) (q0 := 0) rfl rfl, fun U hU hW => fx_pre hU hW hP hK hD hev hNS hS hFc⟩ rfl rfl hl.1 rfl (lv_room (Nat.le_of_ble_eq_true rfl)) d_textc_2 ⟨Nat.le_of_ble_eq_true rfl, Nat.le_of_ble_eq_true rfl⟩) hS (fun q _ h => hFc q h) hFc (fun r_4 u_5 t H1 locs ht hvm hw hB hz1 hk1 hS => ?_)
      obtain ⟨hP, -, hD1⟩ := hB
      rw [ht] at hP
      have hD := hD1.weaken (fun _ q _ h => hFc q.1 h)
      generalize H1 = H at hP hS ⊢
      refine W.cs (cells' := 0) (slots' := 0) rfl rfl ?_
      subst hw
      refine w_v (y := .ref (ad (18 + j_1))) rfl ?_
      refine lv_pop hx hb d_textc_5 rfl ?_
      refine lv_aload_n hx hb d_textc_6 rfl (lv_at hl 0 rfl) ?_
      refine va_get (D := D) (ci := 11) (v := .ref (ad 14)) (C := R_JT) (T := F_JT) (N := 13) hx hb hts i_JT hown hK hP 0 rfl rfl 4 (by decide) (hts _ kw_425) (fun _ h9 => h9) rfl d_textc_7 ?_
      refine lv_aload_n hx hb d_textc_10 rfl (lv_at hl 0 rfl) ?_
      refine lv_iload_n hx hb d_textc_11 rfl (lv_at hl 2 rfl) ?_
      by_cases c_6 : o = 0
      · subst c_6
        have hFc := fr_all hD hS hA
        refine va_callq (va_runV (As := [.int 0]) (rest := [.ref (ad 14)]) ⟨hx, hb, hml, hown, hts⟩ (c_objAt0 l hfl D ad ac u_5 H.size) (cw_v 1 hts kw_616 kw_613 kw_615 kp_7 kw_1 rfl rfl (by decide +kernel) ⟨Nat.le_of_ble_eq_true rfl, Nat.le_of_ble_eq_true rfl⟩) ⟨fx_blind, va_recv hK hP (ci := 11) (q0 := 0) rfl rfl, fun U hU hW => fx_pre hU hW hP hK hD hev hNS hS hFc⟩ rfl rfl hl.1 rfl (lv_room (Nat.le_of_ble_eq_true rfl)) d_textc_12 ⟨Nat.le_of_ble_eq_true rfl, Nat.le_of_ble_eq_true rfl⟩) hS (fun q _ h => hFc q h) hFc (fun r_7 u_8 t H1 locs ht hvm hw hB hz1 hk1 hS => ?_)
        obtain ⟨hP, -, hD1⟩ := hB
        rw [ht] at hP
        have hD := hD1.weaken (fun _ q _ h => hFc q.1 h)
        generalize H1 = H at hP hS ⊢
        refine W.cs (cells' := 0) (slots' := 0) rfl rfl ?_
        subst hw
        refine w_v (y := .ref (ad 5)) rfl ?_
        have hP := hP.sub (ws' := [(ad 0, .inr (11, [.ref (ad 1), .ref (ad 2), .ref (ad 3), .ref (ad 60), .ref (ad 14), .ref (ad 17), .ref (ad 7), .int 0, .ref (ad 9), .ref (ad 11), .ref (ad 12), .int 0, .int (-1)])), (ad 5, .inr (3, [.int 0, .null, .int 6, .long 0, .int 0, .int 0, .null, .null, .int 0, .int 0, .int 0, .null, .null, .null, .int 0])), (ad 7, .inr (5, [.ref (ad 8), .int 0, .int 0])), (ad 8, .inl (ac 1, 224582, .inl (fun _ => 0))), (ad 14, .inr (2, [.ref (ad 3), .ref (ad 15)])), (ad 15, .inr (5, [.ref (ad 16), .int 0, .int 0])), (ad 16, .inl (ac 1, 16384, .inl (fun _ => 0)))]) [0, 5, 7, 8, 14, 15, 16] rfl
        have hD := hD.sub (ws' := [(ad 0, .inr (11, [.ref (ad 1), .ref (ad 2), .ref (ad 3), .ref (ad 60), .ref (ad 14), .ref (ad 17), .ref (ad 7), .int 0, .ref (ad 9), .ref (ad 11), .ref (ad 12), .int 0, .int (-1)])), (ad 5, .inr (3, [.int 0, .null, .int 6, .long 0, .int 0, .int 0, .null, .null, .int 0, .int 0, .int 0, .null, .null, .null, .int 0])), (ad 7, .inr (5, [.ref (ad 8), .int 0, .int 0])), (ad 8, .inl (ac 1, 224582, .inl (fun _ => 0))), (ad 14, .inr (2, [.ref (ad 3), .ref (ad 15)])), (ad 15, .inr (5, [.ref (ad 16), .int 0, .int 0])), (ad 16, .inl (ac 1, 16384, .inl (fun _ => 0)))]) [0, 5, 7, 8, 14, 15, 16] (by decide) rfl
        have hPc := hP.sub (ws' := [(ad 14, .inr (2, [.ref (ad 3), .ref (ad 15)])), (ad 15, .inr (5, [.ref (ad 16), .int 0, .int 0])), (ad 16, .inl (ac 1, 16384, .inl (fun _ => 0))), (ad 5, .inr (3, [.int 0, .null, .int 6, .long 0, .int 0, .int 0, .null, .null, .int 0, .int 0, .int 0, .null, .null, .null, .int 0]))]) [4, 5, 6, 1] rfl
        have hDc := hD.sub (ws' := [(ad 14, .inr (2, [.ref (ad 3), .ref (ad 15)])), (ad 15, .inr (5, [.ref (ad 16), .int 0, .int 0])), (ad 16, .inl (ac 1, 16384, .inl (fun _ => 0))), (ad 5, .inr (3, [.int 0, .null, .int 6, .long 0, .int 0, .int 0, .null, .null, .int 0, .int 0, .int 0, .null, .null, .null, .int 0]))]) [4, 5, 6, 1] (by decide) rfl
        have hKc := hK.sub (tys' := [(ac 1, .byte)]) [1] rfl
        have hFc := va_free (wc := [(ad 14, .inr (2, [.ref (ad 3), .ref (ad 15)])), (ad 15, .inr (5, [.ref (ad 16), .int 0, .int 0])), (ad 16, .inl (ac 1, 16384, .inl (fun _ => 0))), (ad 5, .inr (3, [.int 0, .null, .int 6, .long 0, .int 0, .int 0, .null, .null, .int 0, .int 0, .int 0, .null, .null, .null, .int 0]))]) hD hS hA [4, 5, 6, 1] rfl
        refine va_callq (va_runV (As := [.ref (ad 5)]) (rest := []) ⟨hx, hb, hml, hown, hts⟩ (g_wobj l D H.size (ad 14) (ad 3) (ad 15) (ad 16) (ad 5) (ac 1) (fun _ => 0)) (cw_v 1 hts kw_1219 kw_1216 kw_1217 kw_1218 kw_9 rfl rfl (by decide +kernel) ⟨Nat.le_of_ble_eq_true rfl, Nat.le_of_ble_eq_true rfl⟩) ⟨g_blind, va_recv hKc hPc (ci := 2) (q0 := 0) rfl rfl, fun U hU hW => g_pre hU hW hPc hKc hDc⟩ rfl rfl hl.1 rfl (lv_room (Nat.le_of_ble_eq_true rfl)) d_textc_15 ⟨Nat.le_of_ble_eq_true rfl, Nat.le_of_ble_eq_true rfl⟩) hS (fun q _ h => hFc q h) hFc (fun r_9 u_10 t H1 locs ht hvm hw hB hz1 hk1 hS => ?_)
        obtain ⟨hP1, hK1, hD1⟩ := hB
        rw [ht] at hP1
        have hK1 := va_K.moved hvm.symm hK1
        obtain ⟨hP, hD⟩ := va_join (wr := [(ad 0, .inr (11, [.ref (ad 1), .ref (ad 2), .ref (ad 3), .ref (ad 60), .ref (ad 14), .ref (ad 17), .ref (ad 7), .int 0, .ref (ad 9), .ref (ad 11), .ref (ad 12), .int 0, .int (-1)])), (ad 7, .inr (5, [.ref (ad 8), .int 0, .int 0])), (ad 8, .inl (ac 1, 224582, .inl (fun _ => 0)))]) (w1 := [(ad 14, .inr (2, [.ref (ad 3), .ref (ad 15)])), (ad 15, .inr (5, [.ref (ad 16), .int 2, .int 0])), (ad 16, .inl (ac 1, 16384, .inl u_10)), (ad 5, .inr (3, [.int 0, .null, .int 6, .long 0, .int 0, .int 0, .null, .null, .int 0, .int 0, .int 0, .null, .null, .null, .int 0]))]) hP hD [4, 5, 6, 1] [0, 2, 3] rfl rfl (by decide) (by decide) hk1 hFc hP1 hD1
        generalize H1 = H at hP hS ⊢
        have hP : va_P D cls [(ad 0, .inr (11, [.ref (ad 1), .ref (ad 2), .ref (ad 3), .ref (ad 60), .ref (ad 14), .ref (ad 17), .ref (ad 7), .int 0, .ref (ad 9), .ref (ad 11), .ref (ad 12), .int 0, .int (-1)])), (ad 7, .inr (5, [.ref (ad 8), .int 0, .int 0])), (ad 8, .inl (ac 1, 224582, .inl (fun _ => 0))), (ad 14, .inr (2, [.ref (ad 3), .ref (ad 15)])), (ad 15, .inr (5, [.ref (ad 16), .int 2, .int 0])), (ad 16, .inl (ac 1, 16384, .inl u_10)), (ad 5, .inr (3, [.int 0, .null, .int 6, .long 0, .int 0, .int 0, .null, .null, .int 0, .int 0, .int 0, .null, .null, .null, .int 0]))] H := hP
        have hD : va_D A [(ad 0, .inr (11, [.ref (ad 1), .ref (ad 2), .ref (ad 3), .ref (ad 60), .ref (ad 14), .ref (ad 17), .ref (ad 7), .int 0, .ref (ad 9), .ref (ad 11), .ref (ad 12), .int 0, .int (-1)])), (ad 7, .inr (5, [.ref (ad 8), .int 0, .int 0])), (ad 8, .inl (ac 1, 224582, .inl (fun _ => 0))), (ad 14, .inr (2, [.ref (ad 3), .ref (ad 15)])), (ad 15, .inr (5, [.ref (ad 16), .int 2, .int 0])), (ad 16, .inl (ac 1, 16384, .inl u_10)), (ad 5, .inr (3, [.int 0, .null, .int 6, .long 0, .int 0, .int 0, .null, .null, .int 0, .int 0, .int 0, .null, .null, .null, .int 0]))] := hD
        refine W.cs (cells' := 0) (slots' := 0) rfl rfl ?_
        subst hw
        refine w_v (y := .ref (ad 15)) rfl ?_
        refine lv_astore_n (lv' := [(3, .ref (ad 15)), (0, .ref (ad 0)), (1, .int (nI j_1)), (2, .int 0)]) hx hb d_textc_18 rfl hl (by decide) rfl (fun ls hl => ?_)
        refine lv_aload_n hx hb d_textc_19 rfl (lv_at hl 0 rfl) ?_
        refine va_get (D := D) (ci := 5) (v := .int 0) (C := R_Rw) (T := F_Rw) (N := 3) hx hb hts i_Rw hown hK hP 4 rfl rfl 2 (by decide) (hts _ kw_150) (fun _ h9 => h9) rfl d_textc_20 ?_
        refine lv_if_eq (tgt := 34) hx hb d_textc_23 (by decide) (fun _ => ?_) (fun h => absurd h (by decide))
        refine lv_aload_n hx hb d_textc_34 rfl (lv_at hl 1 rfl) ?_
        refine va_get (D := D) (ci := 11) (v := .ref (ad 7)) (C := R_JT) (T := F_JT) (N := 13) hx hb hts i_JT hown hK hP 0 rfl rfl 6 (by decide) (hts _ kw_427) (fun _ h9 => h9) rfl d_textc_35 ?_
        have hPc := hP.sub (ws' := [(ad 7, .inr (5, [.ref (ad 8), .int 0, .int 0]))]) [1] rfl
        have hDc := hD.sub (ws' := [(ad 7, .inr (5, [.ref (ad 8), .int 0, .int 0]))]) [1] (by decide) rfl
        have hKc := hK.sub (tys' := []) [] rfl
        have hFc := va_free (wc := [(ad 7, .inr (5, [.ref (ad 8), .int 0, .int 0]))]) hD hS hA [1] rfl
        refine va_callv (va_runV (As := []) (rest := []) ⟨hx, hb, hml, hown, hts⟩ (g_clear l D H.size (ad 7) (ad 8) 0 0) (cw_v 0 hts kw_576 kw_573 kw_574 kw_575 kw_4 rfl rfl (by decide +kernel) ⟨Nat.le_of_ble_eq_true rfl, Nat.le_of_ble_eq_true rfl⟩) ⟨g_blind, va_recv hKc hPc (ci := 5) (q0 := 0) rfl rfl, fun U hU hW => g_pre hU hW hPc hKc hDc⟩ rfl rfl hl.1 rfl (lv_room (Nat.le_of_ble_eq_true rfl)) d_textc_38 ⟨Nat.le_of_ble_eq_true rfl, Nat.le_of_ble_eq_true rfl⟩) hS (fun q _ h => hFc q h) hFc (fun u_12 t H1 locs ht hvm hw hB hz1 hk1 hS => ?_)
        obtain ⟨⟩ := u_12
        obtain ⟨hP1, hK1, hD1⟩ := hB
        rw [ht] at hP1
        have hK1 := va_K.moved hvm.symm hK1
        obtain ⟨hP, hD⟩ := va_join (wr := [(ad 0, .inr (11, [.ref (ad 1), .ref (ad 2), .ref (ad 3), .ref (ad 60), .ref (ad 14), .ref (ad 17), .ref (ad 7), .int 0, .ref (ad 9), .ref (ad 11), .ref (ad 12), .int 0, .int (-1)])), (ad 8, .inl (ac 1, 224582, .inl (fun _ => 0))), (ad 14, .inr (2, [.ref (ad 3), .ref (ad 15)])), (ad 15, .inr (5, [.ref (ad 16), .int 2, .int 0])), (ad 16, .inl (ac 1, 16384, .inl u_10)), (ad 5, .inr (3, [.int 0, .null, .int 6, .long 0, .int 0, .int 0, .null, .null, .int 0, .int 0, .int 0, .null, .null, .null, .int 0]))]) (w1 := [(ad 7, .inr (5, [.ref (ad 8), .int 0, .int 0]))]) hP hD [1] [0, 2, 3, 4, 5, 6] rfl rfl (by decide) (by decide) hk1 hFc hP1 hD1
        generalize H1 = H at hP hS ⊢
        have hP : va_P D cls [(ad 0, .inr (11, [.ref (ad 1), .ref (ad 2), .ref (ad 3), .ref (ad 60), .ref (ad 14), .ref (ad 17), .ref (ad 7), .int 0, .ref (ad 9), .ref (ad 11), .ref (ad 12), .int 0, .int (-1)])), (ad 8, .inl (ac 1, 224582, .inl (fun _ => 0))), (ad 14, .inr (2, [.ref (ad 3), .ref (ad 15)])), (ad 15, .inr (5, [.ref (ad 16), .int 2, .int 0])), (ad 16, .inl (ac 1, 16384, .inl u_10)), (ad 5, .inr (3, [.int 0, .null, .int 6, .long 0, .int 0, .int 0, .null, .null, .int 0, .int 0, .int 0, .null, .null, .null, .int 0])), (ad 7, .inr (5, [.ref (ad 8), .int 0, .int 0]))] H := hP
        have hD : va_D A [(ad 0, .inr (11, [.ref (ad 1), .ref (ad 2), .ref (ad 3), .ref (ad 60), .ref (ad 14), .ref (ad 17), .ref (ad 7), .int 0, .ref (ad 9), .ref (ad 11), .ref (ad 12), .int 0, .int (-1)])), (ad 8, .inl (ac 1, 224582, .inl (fun _ => 0))), (ad 14, .inr (2, [.ref (ad 3), .ref (ad 15)])), (ad 15, .inr (5, [.ref (ad 16), .int 2, .int 0])), (ad 16, .inl (ac 1, 16384, .inl u_10)), (ad 5, .inr (3, [.int 0, .null, .int 6, .long 0, .int 0, .int 0, .null, .null, .int 0, .int 0, .int 0, .null, .null, .null, .int 0])), (ad 7, .inr (5, [.ref (ad 8), .int 0, .int 0]))] := hD
        refine W.cs (cells' := 0) (slots' := 0) rfl rfl ?_
        refine lv_aload_n hx hb d_textc_41 rfl (lv_at hl 1 rfl) ?_
        refine va_get (D := D) (ci := 11) (v := .ref (ad 7)) (C := R_JT) (T := F_JT) (N := 13) hx hb hts i_JT hown hK hP 0 rfl rfl 6 (by decide) (hts _ kw_427) (fun _ h9 => h9) rfl d_textc_42 ?_
        refine lv_aload_n hx hb d_textc_45 rfl (lv_at hl 0 rfl) ?_
        refine lv_iconst (v := 0) hx hb d_textc_46 (by decide) ?_
        refine lv_aload_n hx hb d_textc_47 rfl (lv_at hl 0 rfl) ?_
        refine va_get (D := D) (ci := 5) (v := .int 2) (C := R_Rw) (T := F_Rw) (N := 3) hx hb hts i_Rw hown hK hP 3 rfl rfl 1 (by decide) (hts _ kw_143) (fun _ h9 => h9) rfl d_textc_48 ?_
        have hPc := hP.sub (ws' := [(ad 7, .inr (5, [.ref (ad 8), .int 0, .int 0])), (ad 8, .inl (ac 1, 224582, .inl (fun _ => 0))), (ad 15, .inr (5, [.ref (ad 16), .int 2, .int 0])), (ad 16, .inl (ac 1, 16384, .inl u_10))]) [6, 1, 3, 4] rfl
        have hDc := hD.sub (ws' := [(ad 7, .inr (5, [.ref (ad 8), .int 0, .int 0])), (ad 8, .inl (ac 1, 224582, .inl (fun _ => 0))), (ad 15, .inr (5, [.ref (ad 16), .int 2, .int 0])), (ad 16, .inl (ac 1, 16384, .inl u_10))]) [6, 1, 3, 4] (by decide) rfl
        have hKc := hK.sub (tys' := [(ac 1, .byte)]) [1] rfl
        have hFc := va_free (wc := [(ad 7, .inr (5, [.ref (ad 8), .int 0, .int 0])), (ad 8, .inl (ac 1, 224582, .inl (fun _ => 0))), (ad 15, .inr (5, [.ref (ad 16), .int 2, .int 0])), (ad 16, .inl (ac 1, 16384, .inl u_10))]) hD hS hA [6, 1, 3, 4] rfl
        refine va_callv (va_runV (As := [.ref (ad 15), .int 0, .int 2]) (rest := []) ⟨hx, hb, hml, hown, hts⟩ (g_wall l D H.size (ad 7) (ad 8) (ad 15) (ad 16) (ac 1) (fun _ => 0) u_10) (cw_v 3 hts kw_721 kw_1267 kw_719 kw_720 kw_4 rfl rfl (by decide +kernel) ⟨Nat.le_of_ble_eq_true rfl, Nat.le_of_ble_eq_true rfl⟩) ⟨g_blind, va_recv hKc hPc (ci := 5) (q0 := 0) rfl rfl, fun U hU hW => g_pre hU hW hPc hKc hDc⟩ rfl rfl hl.1 rfl (lv_room (Nat.le_of_ble_eq_true rfl)) d_textc_51 ⟨Nat.le_of_ble_eq_true rfl, Nat.le_of_ble_eq_true rfl⟩) hS (fun q _ h => hFc q h) hFc (fun u_14 t H1 locs ht hvm hw hB hz1 hk1 hS => ?_)
        obtain ⟨hP1, hK1, hD1⟩ := hB
        rw [ht] at hP1
        have hK1 := va_K.moved hvm.symm hK1
        obtain ⟨hP, hD⟩ := va_join (wr := [(ad 0, .inr (11, [.ref (ad 1), .ref (ad 2), .ref (ad 3), .ref (ad 60), .ref (ad 14), .ref (ad 17), .ref (ad 7), .int 0, .ref (ad 9), .ref (ad 11), .ref (ad 12), .int 0, .int (-1)])), (ad 14, .inr (2, [.ref (ad 3), .ref (ad 15)])), (ad 5, .inr (3, [.int 0, .null, .int 6, .long 0, .int 0, .int 0, .null, .null, .int 0, .int 0, .int 0, .null, .null, .null, .int 0]))]) (w1 := [(ad 7, .inr (5, [.ref (ad 8), .int 2, .int 0])), (ad 8, .inl (ac 1, 224582, .inl u_14)), (ad 15, .inr (5, [.ref (ad 16), .int 2, .int 0])), (ad 16, .inl (ac 1, 16384, .inl u_10))]) hP hD [6, 1, 3, 4] [0, 2, 5] rfl rfl (by decide) (by decide) hk1 hFc hP1 hD1
        generalize H1 = H at hP hS ⊢
        have hP : va_P D cls [(ad 0, .inr (11, [.ref (ad 1), .ref (ad 2), .ref (ad 3), .ref (ad 60), .ref (ad 14), .ref (ad 17), .ref (ad 7), .int 0, .ref (ad 9), .ref (ad 11), .ref (ad 12), .int 0, .int (-1)])), (ad 14, .inr (2, [.ref (ad 3), .ref (ad 15)])), (ad 5, .inr (3, [.int 0, .null, .int 6, .long 0, .int 0, .int 0, .null, .null, .int 0, .int 0, .int 0, .null, .null, .null, .int 0])), (ad 7, .inr (5, [.ref (ad 8), .int 2, .int 0])), (ad 8, .inl (ac 1, 224582, .inl u_14)), (ad 15, .inr (5, [.ref (ad 16), .int 2, .int 0])), (ad 16, .inl (ac 1, 16384, .inl u_10))] H := hP
        have hD : va_D A [(ad 0, .inr (11, [.ref (ad 1), .ref (ad 2), .ref (ad 3), .ref (ad 60), .ref (ad 14), .ref (ad 17), .ref (ad 7), .int 0, .ref (ad 9), .ref (ad 11), .ref (ad 12), .int 0, .int (-1)])), (ad 14, .inr (2, [.ref (ad 3), .ref (ad 15)])), (ad 5, .inr (3, [.int 0, .null, .int 6, .long 0, .int 0, .int 0, .null, .null, .int 0, .int 0, .int 0, .null, .null, .null, .int 0])), (ad 7, .inr (5, [.ref (ad 8), .int 2, .int 0])), (ad 8, .inl (ac 1, 224582, .inl u_14)), (ad 15, .inr (5, [.ref (ad 16), .int 2, .int 0])), (ad 16, .inl (ac 1, 16384, .inl u_10))] := hD
        refine W.cs (cells' := 0) (slots' := 0) rfl rfl ?_
        refine lv_aload_n hx hb d_textc_54 rfl (lv_at hl 1 rfl) ?_
        refine lv_iconst (v := 0) hx hb d_textc_55 (by decide) ?_
        refine w_putS (D := D) (ci := 11) (v := .int 0) (ty := .boolean) (C := R_JT) (T := F_JT) (N := 13) hx hb hts i_JT t_JT t_JT_ok n_JT hown hK hP hD hS 0 rfl rfl 7 (by decide) (hts _ kw_428) (fun _ h9 => h9) rfl (by decide +kernel) (by decide) (by decide) (Nat.le_of_ble_eq_true rfl) rfl d_textc_56 (fun H locs hP hD hS => ?_)
        refine lv_aload_n hx hb d_textc_59 rfl (lv_at hl 1 rfl) ?_
        refine va_get (D := D) (ci := 11) (v := .ref (ad 7)) (C := R_JT) (T := F_JT) (N := 13) hx hb hts i_JT hown hK hP 0 rfl rfl 6 (by decide) (hts _ kw_427) (fun _ h9 => h9) rfl d_textc_60 ?_
        refine va_get (D := D) (ci := 5) (v := .int 2) (C := R_Rw) (T := F_Rw) (N := 3) hx hb hts i_Rw hown hK hP 3 rfl rfl 1 (by decide) (hts _ kw_143) (fun _ h9 => h9) rfl d_textc_63 ?_
        exact W.iret (v := 2) hx hb hr (fun t ht hW => ⟨⟨2, (), rfl, rfl, trivial⟩, hS.F ht⟩) hS.2.2 d_textc_66
      · first | exact absurd hq (by simp [k_tex, c_2, c_3, c_6]) | (exfalso; simp_all [k_tex])
    · first | exact absurd hq (by simp [k_tex, c_2, c_3]) | (exfalso; simp_all [k_tex])
theorem d_savec_0 : decode prog_1_method_24_code 0 = .ok (.aload_n 0, 1) := by decide +kernel
theorem d_savec_1 : decode prog_1_method_24_code 1 = .ok (.iload_n 1, 1) := by decide +kernel
theorem d_savec_2 : decode prog_1_method_24_code 2 = .ok (.invokevirtual 105, 3) := by decide +kernel
set_option maxHeartbeats 4000000 in
set_option maxRecDepth 100000 in
theorem c_save_1 (l : Launch) (hfl : l.flags = flags0) (D : va_G) (ad : Nat → Nat) (ac : Nat → ClassId) (ck : Nat → Int32) (sz : Nat) (rr : Int32) (hq : k_dro rr = 1) : MeT l ⟨"JoinedTrees", "save", "(I)I"⟩ (Cond.code ⟨"JoinedTrees", "save", "(I)I"⟩ prog_1_method_24_code 3 (some .int) :: gb) ({ frames := 7, cells := 1, slots := 6, locals := 117 }) (fxPc D ad ac ck sz [.ref (ad 0), .int rr]) e_IA (va_A (fxW ad ac ck) sz) 1 6 := by
  refine MeT.ofW (cc := prog_1_method_24_code) (maxL := 3) (ret := (some .int)) (by decide) rfl ?_
  intro p e s m args below meth c s₁ B hml hno hv
  obtain ⟨rfl, hsz, hP, hK, hD0, hev⟩ := hv
  have hx := B.exec
  have hb := B.bytes
  have hr := B.returns
  have hts : ∀ w9 ∈ gb, w9.before [.ref (ad 0), .int rr].toArray s = true := fun w9 h => atoms_spec (ws := Cond.code ⟨"JoinedTrees", "save", "(I)I"⟩ prog_1_method_24_code 3 (some .int) :: gb) B.pre w9 (List.mem_cons_of_mem _ h)
  have hown : s.vm.findClass "JoinedTrees" = some m.cls := findClass_of_methodNamed B.named
  have hlocks := B.notSynchronized
  subst hsz
  have hNS := ns_of hP
  have hD := hD0.self (sz := s.heap.size)
  generalize hAe : va_A (fxW ad ac ck) s.heap.size = A at hD hev hNS ⊢
  have hA : ∀ q : Nat, s.heap.size ≤ q → A q := fun q h => by rw [← hAe]; exact Or.inr h
  have hS : va_S A s.heap s.heap [] := va_S.rf
  have hP : va_P D cls (fxW ad ac ck) s.heap := hP
  have hl := lv_entry ([.ref (ad 0), .int rr]) (n := 3) (Nat.le_of_ble_eq_true rfl)
  rw [lg_entry_eq]
  generalize (lg_sl ([.ref (ad 0), .int rr]) ++ List.replicate (3 - (lg_sl ([.ref (ad 0), .int rr])).length) Slot.unset).toArray = ls at hl ⊢
  have hl : lv_has ls 3 [(0, .ref (ad 0)), (1, .int rr)] := hl
  refine lv_aload_n hx hb d_savec_0 rfl (lv_at hl 0 rfl) ?_
  refine lv_iload_n hx hb d_savec_1 rfl (lv_at hl 1 rfl) ?_
  by_cases c_2 : rr < 0
  · have hFc := fr_all hD hS hA
    exact tx_on (tx_runV (As := [.int rr]) (rest := []) ⟨hx, hb, hml, hown, hts⟩ (c_shown_T l hfl D ad ac ck s.heap.size rr (Or.inl c_2)) (cw_v 1 hts kw_593 kw_590 kw_592 kp_3 kw_1 rfl rfl (by decide +kernel) ⟨Nat.le_of_ble_eq_true rfl, Nat.le_of_ble_eq_true rfl⟩) ⟨fx_blind, va_recv hK hP (ci := 11) (q0 := 0) rfl rfl, fun U hU hW => fx_pre hU hW hP hK hD hev hNS hS hFc⟩ rfl rfl hl.1 rfl (lv_room (Nat.le_of_ble_eq_true rfl)) d_savec_2 ⟨Nat.le_of_ble_eq_true rfl, Nat.le_of_ble_eq_true rfl⟩) hno hlocks hS hFc
  · by_cases c_3 : rr < 8
    · obtain ⟨j_1, hj_1, rfl⟩ := of8 c_2 c_3
      have hFc := fr_all hD hS hA
      refine va_callq (va_runV (As := [.int (nI j_1)]) (rest := []) ⟨hx, hb, hml, hown, hts⟩ (c_shown l hfl D ad ac ck s.heap.size j_1 hj_1) (cw_v 1 hts kw_593 kw_590 kw_592 kp_3 kw_1 rfl rfl (by decide +kernel) ⟨Nat.le_of_ble_eq_true rfl, Nat.le_of_ble_eq_true rfl⟩) ⟨fx_blind, va_recv hK hP (ci := 11) (q0 := 0) rfl rfl, fun U hU hW => fx_pre hU hW hP hK hD hev hNS hS hFc⟩ rfl rfl hl.1 rfl (lv_room (Nat.le_of_ble_eq_true rfl)) d_savec_2 ⟨Nat.le_of_ble_eq_true rfl, Nat.le_of_ble_eq_true rfl⟩) hS (fun q _ h => hFc q h) hFc (fun r_4 u_5 t H1 locs ht hvm hw hB hz1 hk1 hS => ?_)
      obtain ⟨hP, -, hD1⟩ := hB
      rw [ht] at hP
      have hD := hD1.weaken (fun _ q _ h => hFc q.1 h)
      generalize H1 = H at hP hS ⊢
      refine W.cs (cells' := 0) (slots' := 0) rfl rfl ?_
      subst hw
      refine w_v (y := .ref (ad (18 + j_1))) rfl ?_
      first | exact absurd hq (by simp [k_dro, c_2, c_3]) | (exfalso; simp_all [k_dro])
    · have hFc := fr_all hD hS hA
      exact tx_on (tx_runV (As := [.int rr]) (rest := []) ⟨hx, hb, hml, hown, hts⟩ (c_shown_T l hfl D ad ac ck s.heap.size rr (Or.inr c_3)) (cw_v 1 hts kw_593 kw_590 kw_592 kp_3 kw_1 rfl rfl (by decide +kernel) ⟨Nat.le_of_ble_eq_true rfl, Nat.le_of_ble_eq_true rfl⟩) ⟨fx_blind, va_recv hK hP (ci := 11) (q0 := 0) rfl rfl, fun U hU hW => fx_pre hU hW hP hK hD hev hNS hS hFc⟩ rfl rfl hl.1 rfl (lv_room (Nat.le_of_ble_eq_true rfl)) d_savec_2 ⟨Nat.le_of_ble_eq_true rfl, Nat.le_of_ble_eq_true rfl⟩) hno hlocks hS hFc
theorem fx_cut5 {D : va_G} {ad : Nat → Nat} {ac : Nat → ClassId} {ck : Nat → Int32} {H : Heap} {A : Nat → Prop} (hP : va_P D cls (fxW ad ac ck) H) (hD : va_D A (fxW ad ac ck)) : ∀ r : Nat, r < 8 → va_P D cls ([(ad 0, .inr (11, [.ref (ad 1), .ref (ad 2), .ref (ad 3), .ref (ad 60), .ref (ad 14), .ref (ad 17), .ref (ad 7), .int 0, .ref (ad 9), .ref (ad 11), .ref (ad 12), .int 0, .int (-1)])), (ad 1, .inr (8, [.ref (ad 5), .ref (ad 6), .ref (ad 13), .ref (ad 61), .int 0, .int 0])), (ad 7, .inr (5, [.ref (ad 8), .int 0, .int 0])), (ad 8, .inl (ac 1, 224582, .inl (fun _ => 0))), (ad 17, .inr (6, [.ref (ad 1), .ref (ad 7), .ref (ad 66), .int 0, .int 0, .int 0]))] ++ [(ad (18 + r), .inr (4, fxRep ad r))]) H ∧ va_D A ([(ad 0, .inr (11, [.ref (ad 1), .ref (ad 2), .ref (ad 3), .ref (ad 60), .ref (ad 14), .ref (ad 17), .ref (ad 7), .int 0, .ref (ad 9), .ref (ad 11), .ref (ad 12), .int 0, .int (-1)])), (ad 1, .inr (8, [.ref (ad 5), .ref (ad 6), .ref (ad 13), .ref (ad 61), .int 0, .int 0])), (ad 7, .inr (5, [.ref (ad 8), .int 0, .int 0])), (ad 8, .inl (ac 1, 224582, .inl (fun _ => 0))), (ad 17, .inr (6, [.ref (ad 1), .ref (ad 7), .ref (ad 66), .int 0, .int 0, .int 0]))] ++ [(ad (18 + r), .inr (4, fxRep ad r))])
  | 0, _ => ⟨hP.sub [0, 1, 7, 8, 17, 18] rfl, hD.sub [0, 1, 7, 8, 17, 18] (by decide) rfl⟩
  | 1, _ => ⟨hP.sub [0, 1, 7, 8, 17, 19] rfl, hD.sub [0, 1, 7, 8, 17, 19] (by decide) rfl⟩
  | 2, _ => ⟨hP.sub [0, 1, 7, 8, 17, 20] rfl, hD.sub [0, 1, 7, 8, 17, 20] (by decide) rfl⟩
  | 3, _ => ⟨hP.sub [0, 1, 7, 8, 17, 21] rfl, hD.sub [0, 1, 7, 8, 17, 21] (by decide) rfl⟩
  | 4, _ => ⟨hP.sub [0, 1, 7, 8, 17, 22] rfl, hD.sub [0, 1, 7, 8, 17, 22] (by decide) rfl⟩
  | 5, _ => ⟨hP.sub [0, 1, 7, 8, 17, 23] rfl, hD.sub [0, 1, 7, 8, 17, 23] (by decide) rfl⟩
  | 6, _ => ⟨hP.sub [0, 1, 7, 8, 17, 24] rfl, hD.sub [0, 1, 7, 8, 17, 24] (by decide) rfl⟩
  | 7, _ => ⟨hP.sub [0, 1, 7, 8, 17, 25] rfl, hD.sub [0, 1, 7, 8, 17, 25] (by decide) rfl⟩
  | n + 8, h => absurd h (by omega)
theorem d_savec_5 : decode prog_1_method_24_code 5 = .ok (.astore_n 2, 1) := by decide +kernel
theorem d_savec_6 : decode prog_1_method_24_code 6 = .ok (.aload_n 0, 1) := by decide +kernel
theorem d_savec_7 : decode prog_1_method_24_code 7 = .ok (.aload_n 2, 1) := by decide +kernel
theorem d_savec_8 : decode prog_1_method_24_code 8 = .ok (.invokevirtual 253, 3) := by decide +kernel
theorem d_savec_11 : decode prog_1_method_24_code 11 = .ok (.aload_n 0, 1) := by decide +kernel
theorem d_savec_12 : decode prog_1_method_24_code 12 = .ok (.getfield 63, 3) := by decide +kernel
theorem d_savec_15 : decode prog_1_method_24_code 15 = .ok (.aload_n 2, 1) := by decide +kernel
theorem d_savec_16 : decode prog_1_method_24_code 16 = .ok (.invokevirtual 355, 3) := by decide +kernel
theorem d_savec_19 : decode prog_1_method_24_code 19 = .ok (.aload_n 0, 1) := by decide +kernel
theorem d_savec_20 : decode prog_1_method_24_code 20 = .ok (.iconst 1, 1) := by decide +kernel
theorem d_savec_21 : decode prog_1_method_24_code 21 = .ok (.putfield 352, 3) := by decide +kernel
theorem d_savec_24 : decode prog_1_method_24_code 24 = .ok (.aload_n 0, 1) := by decide +kernel
theorem d_savec_25 : decode prog_1_method_24_code 25 = .ok (.getfield 54, 3) := by decide +kernel
theorem d_savec_28 : decode prog_1_method_24_code 28 = .ok (.getfield 80, 3) := by decide +kernel
theorem d_savec_31 : decode prog_1_method_24_code 31 = .ok (.ireturn, 1) := by decide +kernel
set_option maxHeartbeats 4000000 in
set_option maxRecDepth 100000 in
theorem c_save_0 (l : Launch) (hfl : l.flags = flags0) (D : va_G) (ad : Nat → Nat) (ac : Nat → ClassId) (ck : Nat → Int32) (sz : Nat) (rr : Int32) (hq : k_dro rr = 0) : Met l ⟨"JoinedTrees", "save", "(I)I"⟩ (Cond.code ⟨"JoinedTrees", "save", "(I)I"⟩ prog_1_method_24_code 3 (some .int) :: gb) ({ frames := 4, cells := 0, slots := 0, locals := 103 }) (fxPc D ad ac ck sz [.ref (ad 0), .int rr]) (va_Qi (fun (r : Int32) (_ : Unit) => r = 5) (fun _ _ => True) (va_A (fxW ad ac ck) sz)) 0 0 (va_A (fxW ad ac ck) sz) := by
  refine Met.ofW (cc := prog_1_method_24_code) (maxL := 3) (ret := (some .int)) (by decide) rfl ?_
  intro p e s m args below meth c s₁ B hml hv
  obtain ⟨rfl, hsz, hP, hK, hD0, hev⟩ := hv
  have hx := B.exec
  have hb := B.bytes
  have hr := B.returns
  have hts : ∀ w9 ∈ gb, w9.before [.ref (ad 0), .int rr].toArray s = true := fun w9 h => atoms_spec (ws := Cond.code ⟨"JoinedTrees", "save", "(I)I"⟩ prog_1_method_24_code 3 (some .int) :: gb) B.pre w9 (List.mem_cons_of_mem _ h)
  have hown : s.vm.findClass "JoinedTrees" = some m.cls := findClass_of_methodNamed B.named
  have hlocks := B.notSynchronized
  subst hsz
  have hNS := ns_of hP
  have hD := hD0.self (sz := s.heap.size)
  generalize hAe : va_A (fxW ad ac ck) s.heap.size = A at hD hev hNS ⊢
  have hA : ∀ q : Nat, s.heap.size ≤ q → A q := fun q h => by rw [← hAe]; exact Or.inr h
  have hS : va_S A s.heap s.heap [] := va_S.rf
  have hP : va_P D cls (fxW ad ac ck) s.heap := hP
  have hl := lv_entry ([.ref (ad 0), .int rr]) (n := 3) (Nat.le_of_ble_eq_true rfl)
  rw [lg_entry_eq]
  generalize (lg_sl ([.ref (ad 0), .int rr]) ++ List.replicate (3 - (lg_sl ([.ref (ad 0), .int rr])).length) Slot.unset).toArray = ls at hl ⊢
  have hl : lv_has ls 3 [(0, .ref (ad 0)), (1, .int rr)] := hl
  refine lv_aload_n hx hb d_savec_0 rfl (lv_at hl 0 rfl) ?_
  refine lv_iload_n hx hb d_savec_1 rfl (lv_at hl 1 rfl) ?_
  by_cases c_2 : rr < 0
  · first | exact absurd hq (by simp [k_dro, c_2]) | (exfalso; simp_all [k_dro])
  · by_cases c_3 : rr < 8
    · obtain ⟨j_1, hj_1, rfl⟩ := of8 c_2 c_3
      have hFc := fr_all hD hS hA
      refine va_callq (va_runV (As := [.int (nI j_1)]) (rest := []) ⟨hx, hb, hml, hown, hts⟩ (c_shown l hfl D ad ac ck s.heap.size j_1 hj_1) (cw_v 1 hts kw_593 kw_590 kw_592 kp_3 kw_1 rfl rfl (by decide +kernel) ⟨Nat.le_of_ble_eq_true rfl, Nat.le_of_ble_eq_true rfl⟩) ⟨fx_blind, va_recv hK hP (ci := 11) (q0 := 0) rfl rfl, fun U hU hW => fx_pre hU hW hP hK hD hev hNS hS hFc⟩ rfl rfl hl.1 rfl (lv_room (Nat.le_of_ble_eq_true rfl)) d_savec_2 ⟨Nat.le_of_ble_eq_true rfl, Nat.le_of_ble_eq_true rfl⟩) hS (fun q _ h => hFc q h) hFc (fun r_4 u_5 t H1 locs ht hvm hw hB hz1 hk1 hS => ?_)
      obtain ⟨hP, -, hD1⟩ := hB
      rw [ht] at hP
      have hD := hD1.weaken (fun _ q _ h => hFc q.1 h)
      generalize H1 = H at hP hS ⊢
      refine W.cs (cells' := 0) (slots' := 0) rfl rfl ?_
      subst hw
      refine w_v (y := .ref (ad (18 + j_1))) rfl ?_
      refine lv_astore_n (lv' := [(2, .ref (ad (18 + j_1))), (0, .ref (ad 0)), (1, .int (nI j_1))]) hx hb d_savec_5 rfl hl (by decide) rfl (fun ls hl => ?_)
      refine lv_aload_n hx hb d_savec_6 rfl (lv_at hl 1 rfl) ?_
      refine lv_aload_n hx hb d_savec_7 rfl (lv_at hl 0 rfl) ?_
      have hFc := fr_all hD hS hA
      refine va_callv (va_runV (As := [.ref (ad (18 + j_1))]) (rest := []) ⟨hx, hb, hml, hown, hts⟩ (c_nno l hfl D ad ac u_5 H.size j_1 hj_1) (cw_v 1 hts kw_1087 kw_1084 kw_1086 kp_22 kw_1 rfl rfl (by decide +kernel) ⟨Nat.le_of_ble_eq_true rfl, Nat.le_of_ble_eq_true rfl⟩) ⟨fx_blind, va_recv hK hP (ci := 11) (q0 := 0) rfl rfl, fun U hU hW => fx_pre hU hW hP hK hD hev hNS hS hFc⟩ rfl rfl hl.1 rfl (lv_room (Nat.le_of_ble_eq_true rfl)) d_savec_8 ⟨Nat.le_of_ble_eq_true rfl, Nat.le_of_ble_eq_true rfl⟩) hS (fun q _ h => hFc q h) hFc (fun u_7 t H1 locs ht hvm hw hB hz1 hk1 hS => ?_)
      obtain ⟨hP, -, hD1⟩ := hB
      rw [ht] at hP
      have hD := hD1.weaken (fun _ q _ h => hFc q.1 h)
      generalize H1 = H at hP hS ⊢
      refine W.cs (cells' := 0) (slots' := 0) rfl rfl ?_
      obtain ⟨hP, hD⟩ := fx_cut5 hP hD j_1 hj_1
      have hP : va_P D cls [(ad 0, .inr (11, [.ref (ad 1), .ref (ad 2), .ref (ad 3), .ref (ad 60), .ref (ad 14), .ref (ad 17), .ref (ad 7), .int 0, .ref (ad 9), .ref (ad 11), .ref (ad 12), .int 0, .int (-1)])), (ad 1, .inr (8, [.ref (ad 5), .ref (ad 6), .ref (ad 13), .ref (ad 61), .int 0, .int 0])), (ad 7, .inr (5, [.ref (ad 8), .int 0, .int 0])), (ad 8, .inl (ac 1, 224582, .inl (fun _ => 0))), (ad 17, .inr (6, [.ref (ad 1), .ref (ad 7), .ref (ad 66), .int 0, .int 0, .int 0])), (ad (18 + j_1), .inr (4, [.int (nI j_1), .ref (ad (26 + j_1)), .ref (ad (67 + j_1)), .ref (ad (34 + j_1)), .null, .int 0, .int 0, .int 0, .int 0, .int 0]))] H := hP
      have hD : va_D A [(ad 0, .inr (11, [.ref (ad 1), .ref (ad 2), .ref (ad 3), .ref (ad 60), .ref (ad 14), .ref (ad 17), .ref (ad 7), .int 0, .ref (ad 9), .ref (ad 11), .ref (ad 12), .int 0, .int (-1)])), (ad 1, .inr (8, [.ref (ad 5), .ref (ad 6), .ref (ad 13), .ref (ad 61), .int 0, .int 0])), (ad 7, .inr (5, [.ref (ad 8), .int 0, .int 0])), (ad 8, .inl (ac 1, 224582, .inl (fun _ => 0))), (ad 17, .inr (6, [.ref (ad 1), .ref (ad 7), .ref (ad 66), .int 0, .int 0, .int 0])), (ad (18 + j_1), .inr (4, [.int (nI j_1), .ref (ad (26 + j_1)), .ref (ad (67 + j_1)), .ref (ad (34 + j_1)), .null, .int 0, .int 0, .int 0, .int 0, .int 0]))] := hD
      refine lv_aload_n hx hb d_savec_11 rfl (lv_at hl 1 rfl) ?_
      refine va_get (D := D) (ci := 11) (v := .ref (ad 17)) (C := R_JT) (T := F_JT) (N := 13) hx hb hts i_JT hown hK hP 0 rfl rfl 5 (by decide) (hts _ kw_426) (fun _ h9 => h9) rfl d_savec_12 ?_
      refine lv_aload_n hx hb d_savec_15 rfl (lv_at hl 0 rfl) ?_
      have hPc := hP.sub (ws' := [(ad 17, .inr (6, [.ref (ad 1), .ref (ad 7), .ref (ad 66), .int 0, .int 0, .int 0])), (ad 7, .inr (5, [.ref (ad 8), .int 0, .int 0])), (ad 8, .inl (ac 1, 224582, .inl (fun _ => 0))), (ad 1, .inr (8, [.ref (ad 5), .ref (ad 6), .ref (ad 13), .ref (ad 61), .int 0, .int 0])), (ad (18 + j_1), .inr (4, [.int (nI j_1), .ref (ad (26 + j_1)), .ref (ad (67 + j_1)), .ref (ad (34 + j_1)), .null, .int 0, .int 0, .int 0, .int 0, .int 0]))]) [4, 2, 3, 1, 5] rfl
      have hDc := hD.sub (ws' := [(ad 17, .inr (6, [.ref (ad 1), .ref (ad 7), .ref (ad 66), .int 0, .int 0, .int 0])), (ad 7, .inr (5, [.ref (ad 8), .int 0, .int 0])), (ad 8, .inl (ac 1, 224582, .inl (fun _ => 0))), (ad 1, .inr (8, [.ref (ad 5), .ref (ad 6), .ref (ad 13), .ref (ad 61), .int 0, .int 0])), (ad (18 + j_1), .inr (4, [.int (nI j_1), .ref (ad (26 + j_1)), .ref (ad (67 + j_1)), .ref (ad (34 + j_1)), .null, .int 0, .int 0, .int 0, .int 0, .int 0]))]) [4, 2, 3, 1, 5] (by decide) rfl
      have hKc := hK.sub (tys' := [(ac 1, .byte)]) [1] rfl
      have hFc := va_free (wc := [(ad 17, .inr (6, [.ref (ad 1), .ref (ad 7), .ref (ad 66), .int 0, .int 0, .int 0])), (ad 7, .inr (5, [.ref (ad 8), .int 0, .int 0])), (ad 8, .inl (ac 1, 224582, .inl (fun _ => 0))), (ad 1, .inr (8, [.ref (ad 5), .ref (ad 6), .ref (ad 13), .ref (ad 61), .int 0, .int 0])), (ad (18 + j_1), .inr (4, [.int (nI j_1), .ref (ad (26 + j_1)), .ref (ad (67 + j_1)), .ref (ad (34 + j_1)), .null, .int 0, .int 0, .int 0, .int 0, .int 0]))]) hD hS hA [4, 2, 3, 1, 5] rfl
      refine va_callv (va_runV (As := [.ref (ad (18 + j_1))]) (rest := []) ⟨hx, hb, hml, hown, hts⟩ (g_wsv l D H.size (ad 17) (ad 1) (ad 7) (ad 66) (ad 8) (ad 5) (ad 6) (ad 13) (ad 61) (ad (18 + j_1)) (ad (26 + j_1)) (ad (67 + j_1)) (ad (34 + j_1)) (ac 1) (fun _ => 0) (nI j_1)) (cw_v 1 hts kw_1278 kw_1275 kw_1276 kw_1277 kw_10 rfl rfl (by decide +kernel) ⟨Nat.le_of_ble_eq_true rfl, Nat.le_of_ble_eq_true rfl⟩) ⟨gf_blind, va_recv hKc hPc (ci := 6) (q0 := 0) rfl rfl, fun U hU hW => gf_pre hU hW hPc hKc hDc hev hNS hS hFc⟩ rfl rfl hl.1 rfl (lv_room (Nat.le_of_ble_eq_true rfl)) d_savec_16 ⟨Nat.le_of_ble_eq_true rfl, Nat.le_of_ble_eq_true rfl⟩) hS (fun q _ h => hFc q h) hFc (fun u_9 t H1 locs ht hvm hw hB hz1 hk1 hS => ?_)
      obtain ⟨hP1, hK1, hD1⟩ := hB
      rw [ht] at hP1
      have hK1 := va_K.moved hvm.symm hK1
      obtain ⟨hP, hD⟩ := va_join (wr := [(ad 0, .inr (11, [.ref (ad 1), .ref (ad 2), .ref (ad 3), .ref (ad 60), .ref (ad 14), .ref (ad 17), .ref (ad 7), .int 0, .ref (ad 9), .ref (ad 11), .ref (ad 12), .int 0, .int (-1)]))]) (w1 := [(ad 17, .inr (6, [.ref (ad 1), .ref (ad 7), .ref (ad 66), .int 0, .int 0, .int 0])), (ad 7, .inr (5, [.ref (ad 8), .int 5, .int 0])), (ad 8, .inl (ac 1, 224582, .inl u_9)), (ad 1, .inr (8, [.ref (ad 5), .ref (ad 6), .ref (ad 13), .ref (ad 61), .int 0, .int 0])), (ad (18 + j_1), .inr (4, [.int (nI j_1), .ref (ad (26 + j_1)), .ref (ad (67 + j_1)), .ref (ad (34 + j_1)), .null, .int 0, .int 0, .int 0, .int 0, .int 0]))]) hP hD [4, 2, 3, 1, 5] [0] rfl rfl (by decide) (by decide) hk1 hFc hP1 hD1
      generalize H1 = H at hP hS ⊢
      have hP : va_P D cls [(ad 0, .inr (11, [.ref (ad 1), .ref (ad 2), .ref (ad 3), .ref (ad 60), .ref (ad 14), .ref (ad 17), .ref (ad 7), .int 0, .ref (ad 9), .ref (ad 11), .ref (ad 12), .int 0, .int (-1)])), (ad 17, .inr (6, [.ref (ad 1), .ref (ad 7), .ref (ad 66), .int 0, .int 0, .int 0])), (ad 7, .inr (5, [.ref (ad 8), .int 5, .int 0])), (ad 8, .inl (ac 1, 224582, .inl u_9)), (ad 1, .inr (8, [.ref (ad 5), .ref (ad 6), .ref (ad 13), .ref (ad 61), .int 0, .int 0])), (ad (18 + j_1), .inr (4, [.int (nI j_1), .ref (ad (26 + j_1)), .ref (ad (67 + j_1)), .ref (ad (34 + j_1)), .null, .int 0, .int 0, .int 0, .int 0, .int 0]))] H := hP
      have hD : va_D A [(ad 0, .inr (11, [.ref (ad 1), .ref (ad 2), .ref (ad 3), .ref (ad 60), .ref (ad 14), .ref (ad 17), .ref (ad 7), .int 0, .ref (ad 9), .ref (ad 11), .ref (ad 12), .int 0, .int (-1)])), (ad 17, .inr (6, [.ref (ad 1), .ref (ad 7), .ref (ad 66), .int 0, .int 0, .int 0])), (ad 7, .inr (5, [.ref (ad 8), .int 5, .int 0])), (ad 8, .inl (ac 1, 224582, .inl u_9)), (ad 1, .inr (8, [.ref (ad 5), .ref (ad 6), .ref (ad 13), .ref (ad 61), .int 0, .int 0])), (ad (18 + j_1), .inr (4, [.int (nI j_1), .ref (ad (26 + j_1)), .ref (ad (67 + j_1)), .ref (ad (34 + j_1)), .null, .int 0, .int 0, .int 0, .int 0, .int 0]))] := hD
      refine W.cs (cells' := 0) (slots' := 0) rfl rfl ?_
      refine lv_aload_n hx hb d_savec_19 rfl (lv_at hl 1 rfl) ?_
      refine lv_iconst (v := 1) hx hb d_savec_20 (by decide) ?_
      refine va_put (D := D) (ci := 11) (v := .int 1) (ty := .boolean) (C := R_JT) (T := F_JT) (N := 13) hx hb hts i_JT t_JT t_JT_ok n_JT hown hK hP hD hS 0 rfl rfl 7 (by decide) (hts _ kw_428) (fun _ h9 => h9) rfl (by decide +kernel) (by decide) (by decide) (Nat.le_of_ble_eq_true rfl) d_savec_21 (fun H locs hP hD hS => ?_)
      have hP : va_P D cls [(ad 0, .inr (11, [.ref (ad 1), .ref (ad 2), .ref (ad 3), .ref (ad 60), .ref (ad 14), .ref (ad 17), .ref (ad 7), .int 1, .ref (ad 9), .ref (ad 11), .ref (ad 12), .int 0, .int (-1)])), (ad 17, .inr (6, [.ref (ad 1), .ref (ad 7), .ref (ad 66), .int 0, .int 0, .int 0])), (ad 7, .inr (5, [.ref (ad 8), .int 5, .int 0])), (ad 8, .inl (ac 1, 224582, .inl u_9)), (ad 1, .inr (8, [.ref (ad 5), .ref (ad 6), .ref (ad 13), .ref (ad 61), .int 0, .int 0])), (ad (18 + j_1), .inr (4, [.int (nI j_1), .ref (ad (26 + j_1)), .ref (ad (67 + j_1)), .ref (ad (34 + j_1)), .null, .int 0, .int 0, .int 0, .int 0, .int 0]))] H := hP
      have hD : va_D A [(ad 0, .inr (11, [.ref (ad 1), .ref (ad 2), .ref (ad 3), .ref (ad 60), .ref (ad 14), .ref (ad 17), .ref (ad 7), .int 1, .ref (ad 9), .ref (ad 11), .ref (ad 12), .int 0, .int (-1)])), (ad 17, .inr (6, [.ref (ad 1), .ref (ad 7), .ref (ad 66), .int 0, .int 0, .int 0])), (ad 7, .inr (5, [.ref (ad 8), .int 5, .int 0])), (ad 8, .inl (ac 1, 224582, .inl u_9)), (ad 1, .inr (8, [.ref (ad 5), .ref (ad 6), .ref (ad 13), .ref (ad 61), .int 0, .int 0])), (ad (18 + j_1), .inr (4, [.int (nI j_1), .ref (ad (26 + j_1)), .ref (ad (67 + j_1)), .ref (ad (34 + j_1)), .null, .int 0, .int 0, .int 0, .int 0, .int 0]))] := hD
      refine lv_aload_n hx hb d_savec_24 rfl (lv_at hl 1 rfl) ?_
      refine va_get (D := D) (ci := 11) (v := .ref (ad 7)) (C := R_JT) (T := F_JT) (N := 13) hx hb hts i_JT hown hK hP 0 rfl rfl 6 (by decide) (hts _ kw_427) (fun _ h9 => h9) rfl d_savec_25 ?_
      refine va_get (D := D) (ci := 5) (v := .int 5) (C := R_Rw) (T := F_Rw) (N := 3) hx hb hts i_Rw hown hK hP 2 rfl rfl 1 (by decide) (hts _ kw_143) (fun _ h9 => h9) rfl d_savec_28 ?_
      exact W.iret (v := 5) hx hb hr (fun t ht hW => ⟨⟨5, (), rfl, rfl, trivial⟩, hS.F ht⟩) hS.2.2 d_savec_31
    · first | exact absurd hq (by simp [k_dro, c_2, c_3]) | (exfalso; simp_all [k_dro])
theorem d_h_feed_0 : decode method_3_code 0 = .ok (.aload 6, 2) := by decide +kernel
theorem d_h_feed_2 : decode method_3_code 2 = .ok (.iconst 0, 1) := by decide +kernel
theorem d_h_feed_3 : decode method_3_code 3 = .ok (.aload_n 0, 1) := by decide +kernel
theorem d_h_feed_4 : decode method_3_code 4 = .ok (.iload_n 1, 1) := by decide +kernel
theorem d_h_feed_5 : decode method_3_code 5 = .ok (.iload_n 2, 1) := by decide +kernel
theorem d_h_feed_6 : decode method_3_code 6 = .ok (.iload_n 3, 1) := by decide +kernel
theorem d_h_feed_7 : decode method_3_code 7 = .ok (.iload 4, 2) := by decide +kernel
theorem d_h_feed_9 : decode method_3_code 9 = .ok (.iload 5, 2) := by decide +kernel
theorem d_h_feed_11 : decode method_3_code 11 = .ok (.invokevirtual 7, 3) := by decide +kernel
theorem d_h_feed_14 : decode method_3_code 14 = .ok (.i2l, 1) := by decide +kernel
theorem d_h_feed_15 : decode method_3_code 15 = .ok (.lastore, 1) := by decide +kernel
theorem d_h_feed_16 : decode method_3_code 16 = .ok (.goto 7, 3) := by decide +kernel
theorem d_h_feed_23 : decode method_3_code 23 = .ok (.iconst 0, 1) := by decide +kernel
theorem d_h_feed_24 : decode method_3_code 24 = .ok (.ireturn, 1) := by decide +kernel
set_option maxHeartbeats 4000000 in
set_option maxRecDepth 100000 in
theorem h_feed (l : Launch) (hfl : l.flags = flags0) (D : va_G) (ad : Nat → Nat) (ac : Nat → ClassId) (ck : Nat → Int32) (o : Nat) (ov : Nat → Int64) (sz : Nat) (a0 : Int32) (a1 : Int32) (a2 : Int32) (a3 : Int32) (a4 : Int32) : Met l ⟨"JoinedTreesLaw", "feed", "(LJoinedTrees;IIIII[J)I"⟩ (Cond.codeWith ⟨"JoinedTreesLaw", "feed", "(LJoinedTrees;IIIII[J)I"⟩ method_3_code 8 (some .int) [(0, 16, 19, 13)] :: gb) ({ frames := 3, cells := 1, slots := 6, locals := 67 }) (hPc D ad ac ck o ov sz [.ref (ad 0), .int a0, .int a1, .int a2, .int a3, .int a4, .ref o]) (va_Qi (fun (rz : Int32) (u : Nat → Int64) => rz = 0 ∧ (0 = 0 → u 0 = 20)) (fun u t => gO D [oc ac o u] [(ac 7, .long)] (va_A (fxW ad ac ck ++ [oc ac o ov]) sz) t) (va_A (fxW ad ac ck ++ [oc ac o ov]) sz)) 1 6 (va_A (fxW ad ac ck ++ [oc ac o ov]) sz) := by
  refine tx_ofW (cc := method_3_code) (maxL := 8) (ret := (some .int)) (hs := [(0, 16, 19, 13)]) (by decide) rfl ?_
  intro p e s m args below meth c s₁ B hml htab hv
  obtain ⟨rfl, hsz, hP, hK, hD0, hev⟩ := hv
  have hx := B.exec
  have hb := B.bytes
  have hr := B.returns
  have hts : ∀ w9 ∈ gb, w9.before [.ref (ad 0), .int a0, .int a1, .int a2, .int a3, .int a4, .ref o].toArray s = true := fun w9 h => atoms_spec (ws := Cond.codeWith ⟨"JoinedTreesLaw", "feed", "(LJoinedTrees;IIIII[J)I"⟩ method_3_code 8 (some .int) [(0, 16, 19, 13)] :: gb) B.pre w9 (List.mem_cons_of_mem _ h)
  have hown : s.vm.findClass "JoinedTreesLaw" = some m.cls := findClass_of_methodNamed B.named
  have hlocks := B.notSynchronized
  subst hsz
  have hNS := ns_of hP
  have hD := hD0.self (sz := s.heap.size)
  generalize hAe : va_A (fxW ad ac ck ++ [oc ac o ov]) s.heap.size = A at hD hev hNS ⊢
  have hA : ∀ q : Nat, s.heap.size ≤ q → A q := fun q h => by rw [← hAe]; exact Or.inr h
  have hS : va_S A s.heap s.heap [] := va_S.rf
  have hl := lv_entry ([.ref (ad 0), .int a0, .int a1, .int a2, .int a3, .int a4, .ref o]) (n := 8) (Nat.le_of_ble_eq_true rfl)
  rw [lg_entry_eq]
  generalize (lg_sl ([.ref (ad 0), .int a0, .int a1, .int a2, .int a3, .int a4, .ref o]) ++ List.replicate (8 - (lg_sl ([.ref (ad 0), .int a0, .int a1, .int a2, .int a3, .int a4, .ref o])).length) Slot.unset).toArray = ls at hl ⊢
  have hl : lv_has ls 8 [(0, .ref (ad 0)), (1, .int a0), (2, .int a1), (3, .int a2), (4, .int a3), (5, .int a4), (6, .ref o)] := hl
  refine lv_aload hx hb d_h_feed_0 (lv_at hl 6 rfl) ?_
  refine lv_iconst (v := 0) hx hb d_h_feed_2 (by decide) ?_
  refine lv_aload_n hx hb d_h_feed_3 rfl (lv_at hl 0 rfl) ?_
  refine lv_iload_n hx hb d_h_feed_4 rfl (lv_at hl 1 rfl) ?_
  refine lv_iload_n hx hb d_h_feed_5 rfl (lv_at hl 2 rfl) ?_
  refine lv_iload_n hx hb d_h_feed_6 rfl (lv_at hl 3 rfl) ?_
  refine lv_iload hx hb d_h_feed_7 (lv_at hl 4 rfl) ?_
  refine lv_iload hx hb d_h_feed_9 (lv_at hl 5 rfl) ?_
  have hPx := p_l hP
  have hDx := d_l hD
  have hFc := fr_all hDx hS hA
  have hq := True.intro
  refine va_calli (va_runV (As := [.int a0, .int a1, .int a2, .int a3, .int a4]) (rest := [.int 0, .ref o]) ⟨hx, hb, hml, hown, hts⟩ (c_feed_0 l hfl D ad ac ck s.heap.size a0 a1 a2 a3 a4) (cw_v 5 hts kw_472 kw_469 kw_470 kw_471 kw_1 rfl rfl (by decide +kernel) ⟨Nat.le_of_ble_eq_true rfl, Nat.le_of_ble_eq_true rfl⟩) ⟨fx_blind, va_recv hK hPx (ci := 11) (q0 := 0) rfl rfl, fun U hU hW => fx_pre hU hW hPx hK hDx hev hNS hS hFc⟩ rfl rfl hl.1 rfl (lv_room (Nat.le_of_ble_eq_true rfl)) d_h_feed_11 ⟨Nat.le_of_ble_eq_true rfl, Nat.le_of_ble_eq_true rfl⟩) hS (fun q _ h => hFc q h) hFc (fun rr u t H locs ht hvm hw hB hz1 hk1 hS => ?_)
  have hPo := p_keep hP hD hk1
  have hDo := d_r hD
  refine W.cs (cells' := 0) (slots' := 0) rfl rfl ?_
  refine lv_i2l hx hb d_h_feed_14 rfl ?_
  refine va_last hx hb hK hPo hDo hS 0 7 rfl rfl (i := 0) (x := rr.toInt64) (vp_in_nI (n := 0) (N := 1) (by decide) (by decide)) d_h_feed_15 (fun H locs hPo hDo hS => ?_)
  refine lv_goto (tgt := 23) hx hb d_h_feed_16 (by decide) ?_
  refine lv_iconst (v := 0) hx hb d_h_feed_23 (by decide) ?_
  refine W.widen (k := 1) (n := 6) (by decide) (by decide) ?_
  exact W.iret (v := 0) hx hb hr (fun t ht hW => ⟨⟨0, (vp_updL ov (0 : Int32).toNatClampNeg rr.toInt64), rfl, ⟨rfl.symm, fun _ => (by rw [show (vp_updL ov (0 : Int32).toNatClampNeg rr.toInt64) 0 = rr.toInt64 from pk_uLs, hw] <;> try decide)⟩, by rw [ht]; exact hPo, va_K.moved hW.alike (hK.sub (tys' := [(ac 7, .long)]) [7] rfl), hDo⟩, hS.F ht⟩) hS.2.2 d_h_feed_24
theorem d_h_end_0 : decode method_4_code 0 = .ok (.aload_n 2, 1) := by decide +kernel
theorem d_h_end_1 : decode method_4_code 1 = .ok (.iconst 0, 1) := by decide +kernel
theorem d_h_end_2 : decode method_4_code 2 = .ok (.aload_n 0, 1) := by decide +kernel
theorem d_h_end_3 : decode method_4_code 3 = .ok (.iload_n 1, 1) := by decide +kernel
theorem d_h_end_4 : decode method_4_code 4 = .ok (.invokevirtual 15, 3) := by decide +kernel
theorem d_h_end_7 : decode method_4_code 7 = .ok (.i2l, 1) := by decide +kernel
theorem d_h_end_8 : decode method_4_code 8 = .ok (.lastore, 1) := by decide +kernel
theorem d_h_end_9 : decode method_4_code 9 = .ok (.goto 6, 3) := by decide +kernel
theorem d_h_end_15 : decode method_4_code 15 = .ok (.iconst 0, 1) := by decide +kernel
theorem d_h_end_16 : decode method_4_code 16 = .ok (.ireturn, 1) := by decide +kernel
theorem d_h_end_12 : decode method_4_code 12 = .ok (.astore_n 3, 1) := by decide +kernel
theorem d_h_end_13 : decode method_4_code 13 = .ok (.iconst 1, 1) := by decide +kernel
theorem d_h_end_14 : decode method_4_code 14 = .ok (.ireturn, 1) := by decide +kernel
set_option maxHeartbeats 4000000 in
set_option maxRecDepth 100000 in
theorem h_end (l : Launch) (hfl : l.flags = flags0) (D : va_G) (ad : Nat → Nat) (ac : Nat → ClassId) (ck : Nat → Int32) (o : Nat) (ov : Nat → Int64) (sz : Nat) (n : Int32) : Met l ⟨"JoinedTreesLaw", "end", "(LJoinedTrees;I[J)I"⟩ (Cond.codeWith ⟨"JoinedTreesLaw", "end", "(LJoinedTrees;I[J)I"⟩ method_4_code 4 (some .int) [(0, 9, 12, 19)] :: gb) ({ frames := 7, cells := 1, slots := 6, locals := 118 }) (hPc D ad ac ck o ov sz [.ref (ad 0), .int n, .ref o]) (va_Qi (fun (rz : Int32) (u : Nat → Int64) => rz = k_end n ∧ (k_end n = 0 → u 0 = 1)) (fun u t => gO D [oc ac o u] [(ac 7, .long)] (va_A (fxW ad ac ck ++ [oc ac o ov]) sz) t) (va_A (fxW ad ac ck ++ [oc ac o ov]) sz)) 1 6 (va_A (fxW ad ac ck ++ [oc ac o ov]) sz) := by
  refine tx_ofW (cc := method_4_code) (maxL := 4) (ret := (some .int)) (hs := [(0, 9, 12, 19)]) (by decide) rfl ?_
  intro p e s m args below meth c s₁ B hml htab hv
  obtain ⟨rfl, hsz, hP, hK, hD0, hev⟩ := hv
  have hx := B.exec
  have hb := B.bytes
  have hr := B.returns
  have hts : ∀ w9 ∈ gb, w9.before [.ref (ad 0), .int n, .ref o].toArray s = true := fun w9 h => atoms_spec (ws := Cond.codeWith ⟨"JoinedTreesLaw", "end", "(LJoinedTrees;I[J)I"⟩ method_4_code 4 (some .int) [(0, 9, 12, 19)] :: gb) B.pre w9 (List.mem_cons_of_mem _ h)
  have hown : s.vm.findClass "JoinedTreesLaw" = some m.cls := findClass_of_methodNamed B.named
  have hlocks := B.notSynchronized
  subst hsz
  have hNS := ns_of hP
  have hD := hD0.self (sz := s.heap.size)
  generalize hAe : va_A (fxW ad ac ck ++ [oc ac o ov]) s.heap.size = A at hD hev hNS ⊢
  have hA : ∀ q : Nat, s.heap.size ≤ q → A q := fun q h => by rw [← hAe]; exact Or.inr h
  have hS : va_S A s.heap s.heap [] := va_S.rf
  have hl := lv_entry ([.ref (ad 0), .int n, .ref o]) (n := 4) (Nat.le_of_ble_eq_true rfl)
  rw [lg_entry_eq]
  generalize (lg_sl ([.ref (ad 0), .int n, .ref o]) ++ List.replicate (4 - (lg_sl ([.ref (ad 0), .int n, .ref o])).length) Slot.unset).toArray = ls at hl ⊢
  have hl : lv_has ls 4 [(0, .ref (ad 0)), (1, .int n), (2, .ref o)] := hl
  refine lv_aload_n hx hb d_h_end_0 rfl (lv_at hl 2 rfl) ?_
  refine lv_iconst (v := 0) hx hb d_h_end_1 (by decide) ?_
  refine lv_aload_n hx hb d_h_end_2 rfl (lv_at hl 0 rfl) ?_
  refine lv_iload_n hx hb d_h_end_3 rfl (lv_at hl 1 rfl) ?_
  have hPx := p_l hP
  have hDx := d_l hD
  have hFc := fr_all hDx hS hA
  rcases k_end_c n with hq | hq
  · refine va_calli (va_runV (As := [.int n]) (rest := [.int 0, .ref o]) ⟨hx, hb, hml, hown, hts⟩ (c_end_0 l hfl D ad ac ck s.heap.size n hq) (cw_v 1 hts kw_557 kw_554 kw_555 kw_556 kw_1 rfl rfl (by decide +kernel) ⟨Nat.le_of_ble_eq_true rfl, Nat.le_of_ble_eq_true rfl⟩) ⟨fx_blind, va_recv hK hPx (ci := 11) (q0 := 0) rfl rfl, fun U hU hW => fx_pre hU hW hPx hK hDx hev hNS hS hFc⟩ rfl rfl hl.1 rfl (lv_room (Nat.le_of_ble_eq_true rfl)) d_h_end_4 ⟨Nat.le_of_ble_eq_true rfl, Nat.le_of_ble_eq_true rfl⟩) hS (fun q _ h => hFc q h) hFc (fun rr u t H locs ht hvm hw hB hz1 hk1 hS => ?_)
    have hPo := p_keep hP hD hk1
    have hDo := d_r hD
    refine W.cs (cells' := 0) (slots' := 0) rfl rfl ?_
    refine lv_i2l hx hb d_h_end_7 rfl ?_
    refine va_last hx hb hK hPo hDo hS 0 7 rfl rfl (i := 0) (x := rr.toInt64) (vp_in_nI (n := 0) (N := 1) (by decide) (by decide)) d_h_end_8 (fun H locs hPo hDo hS => ?_)
    refine lv_goto (tgt := 15) hx hb d_h_end_9 (by decide) ?_
    refine lv_iconst (v := 0) hx hb d_h_end_15 (by decide) ?_
    refine W.widen (k := 1) (n := 6) (by decide) (by decide) ?_
    exact W.iret (v := 0) hx hb hr (fun t ht hW => ⟨⟨0, (vp_updL ov (0 : Int32).toNatClampNeg rr.toInt64), rfl, ⟨hq.symm, fun _ => (by rw [show (vp_updL ov (0 : Int32).toNatClampNeg rr.toInt64) 0 = rr.toInt64 from pk_uLs, hw] <;> try decide)⟩, by rw [ht]; exact hPo, va_K.moved hW.alike (hK.sub (tys' := [(ac 7, .long)]) [7] rfl), hDo⟩, hS.F ht⟩) hS.2.2 d_h_end_16
  · refine tx_catch (tx_runV (As := [.int n]) (rest := [.int 0, .ref o]) ⟨hx, hb, hml, hown, hts⟩ (c_end_1 l hfl D ad ac ck s.heap.size n hq) (cw_v 1 hts kw_557 kw_554 kw_555 kw_556 kw_1 rfl rfl (by decide +kernel) ⟨Nat.le_of_ble_eq_true rfl, Nat.le_of_ble_eq_true rfl⟩) ⟨fx_blind, va_recv hK hPx (ci := 11) (q0 := 0) rfl rfl, fun U hU hW => fx_pre hU hW hPx hK hDx hev hNS hS hFc⟩ rfl rfl hl.1 rfl (lv_room (Nat.le_of_ble_eq_true rfl)) d_h_end_4 ⟨Nat.le_of_ble_eq_true rfl, Nat.le_of_ble_eq_true rfl⟩) hown hS hFc htab [] [] (0, 9, 12, 19) rfl (by decide) (by decide) (hts _ kw_553) (va_Nw.use rfl hev.2.2.2.2.2.1.1) (fun y hy => absurd hy List.not_mem_nil) (fun z H locs hz1 hk1 hS => ?_)
    have hPo := p_keep hP hD hk1
    have hDo := d_r hD
    refine W.cs (cells' := 1) (slots' := 6) rfl rfl ?_
    refine lv_astore_n (lv' := [(3, .ref z), (0, .ref (ad 0)), (1, .int n), (2, .ref o)]) hx hb d_h_end_12 rfl hl (by decide) rfl (fun ls hl => ?_)
    refine lv_iconst (v := 1) hx hb d_h_end_13 (by decide) ?_
    exact W.iret (v := 1) hx hb hr (fun t ht hW => ⟨⟨1, ov, rfl, ⟨hq.symm, fun h => absurd (hq.symm.trans h) (by decide)⟩, by rw [ht]; exact hPo, va_K.moved hW.alike (hK.sub (tys' := [(ac 7, .long)]) [7] rfl), hDo⟩, hS.F ht⟩) hS.2.2 d_h_end_14
theorem d_h_text_0 : decode method_24_code 0 = .ok (.aload_n 3, 1) := by decide +kernel
theorem d_h_text_1 : decode method_24_code 1 = .ok (.iconst 0, 1) := by decide +kernel
theorem d_h_text_2 : decode method_24_code 2 = .ok (.aload_n 0, 1) := by decide +kernel
theorem d_h_text_3 : decode method_24_code 3 = .ok (.iload_n 1, 1) := by decide +kernel
theorem d_h_text_4 : decode method_24_code 4 = .ok (.iload_n 2, 1) := by decide +kernel
theorem d_h_text_5 : decode method_24_code 5 = .ok (.invokevirtual 88, 3) := by decide +kernel
theorem d_h_text_8 : decode method_24_code 8 = .ok (.i2l, 1) := by decide +kernel
theorem d_h_text_9 : decode method_24_code 9 = .ok (.lastore, 1) := by decide +kernel
theorem d_h_text_10 : decode method_24_code 10 = .ok (.goto 15, 3) := by decide +kernel
theorem d_h_text_25 : decode method_24_code 25 = .ok (.iconst 0, 1) := by decide +kernel
theorem d_h_text_26 : decode method_24_code 26 = .ok (.ireturn, 1) := by decide +kernel
theorem d_h_text_21 : decode method_24_code 21 = .ok (.astore 4, 2) := by decide +kernel
theorem d_h_text_23 : decode method_24_code 23 = .ok (.iconst 3, 1) := by decide +kernel
theorem d_h_text_24 : decode method_24_code 24 = .ok (.ireturn, 1) := by decide +kernel
theorem d_h_text_13 : decode method_24_code 13 = .ok (.astore 4, 2) := by decide +kernel
theorem d_h_text_15 : decode method_24_code 15 = .ok (.iconst 1, 1) := by decide +kernel
theorem d_h_text_16 : decode method_24_code 16 = .ok (.ireturn, 1) := by decide +kernel
set_option maxHeartbeats 4000000 in
set_option maxRecDepth 100000 in
theorem h_text (l : Launch) (hfl : l.flags = flags0) (D : va_G) (ad : Nat → Nat) (ac : Nat → ClassId) (ck : Nat → Int32) (o : Nat) (ov : Nat → Int64) (sz : Nat) (r : Int32) (o0 : Int32) : Met l ⟨"JoinedTreesLaw", "text", "(LJoinedTrees;II[J)I"⟩ (Cond.codeWith ⟨"JoinedTreesLaw", "text", "(LJoinedTrees;II[J)I"⟩ method_24_code 5 (some .int) [(0, 10, 13, 19), (0, 10, 17, 25), (0, 10, 21, 27)] :: gb) ({ frames := 8, cells := 1, slots := 6, locals := 141 }) (hPc D ad ac ck o ov sz [.ref (ad 0), .int r, .int o0, .ref o]) (va_Qi (fun (rz : Int32) (u : Nat → Int64) => rz = k_tex r o0 ∧ (k_tex r o0 = 0 → u 0 = 2)) (fun u t => gO D [oc ac o u] [(ac 7, .long)] (va_A (fxW ad ac ck ++ [oc ac o ov]) sz) t) (va_A (fxW ad ac ck ++ [oc ac o ov]) sz)) 1 6 (va_A (fxW ad ac ck ++ [oc ac o ov]) sz) := by
  refine tx_ofW (cc := method_24_code) (maxL := 5) (ret := (some .int)) (hs := [(0, 10, 13, 19), (0, 10, 17, 25), (0, 10, 21, 27)]) (by decide) rfl ?_
  intro p e s m args below meth c s₁ B hml htab hv
  obtain ⟨rfl, hsz, hP, hK, hD0, hev⟩ := hv
  have hx := B.exec
  have hb := B.bytes
  have hr := B.returns
  have hts : ∀ w9 ∈ gb, w9.before [.ref (ad 0), .int r, .int o0, .ref o].toArray s = true := fun w9 h => atoms_spec (ws := Cond.codeWith ⟨"JoinedTreesLaw", "text", "(LJoinedTrees;II[J)I"⟩ method_24_code 5 (some .int) [(0, 10, 13, 19), (0, 10, 17, 25), (0, 10, 21, 27)] :: gb) B.pre w9 (List.mem_cons_of_mem _ h)
  have hown : s.vm.findClass "JoinedTreesLaw" = some m.cls := findClass_of_methodNamed B.named
  have hlocks := B.notSynchronized
  subst hsz
  have hNS := ns_of hP
  have hD := hD0.self (sz := s.heap.size)
  generalize hAe : va_A (fxW ad ac ck ++ [oc ac o ov]) s.heap.size = A at hD hev hNS ⊢
  have hA : ∀ q : Nat, s.heap.size ≤ q → A q := fun q h => by rw [← hAe]; exact Or.inr h
  have hS : va_S A s.heap s.heap [] := va_S.rf
  have hl := lv_entry ([.ref (ad 0), .int r, .int o0, .ref o]) (n := 5) (Nat.le_of_ble_eq_true rfl)
  rw [lg_entry_eq]
  generalize (lg_sl ([.ref (ad 0), .int r, .int o0, .ref o]) ++ List.replicate (5 - (lg_sl ([.ref (ad 0), .int r, .int o0, .ref o])).length) Slot.unset).toArray = ls at hl ⊢
  have hl : lv_has ls 5 [(0, .ref (ad 0)), (1, .int r), (2, .int o0), (3, .ref o)] := hl
  refine lv_aload_n hx hb d_h_text_0 rfl (lv_at hl 3 rfl) ?_
  refine lv_iconst (v := 0) hx hb d_h_text_1 (by decide) ?_
  refine lv_aload_n hx hb d_h_text_2 rfl (lv_at hl 0 rfl) ?_
  refine lv_iload_n hx hb d_h_text_3 rfl (lv_at hl 1 rfl) ?_
  refine lv_iload_n hx hb d_h_text_4 rfl (lv_at hl 2 rfl) ?_
  have hPx := p_l hP
  have hDx := d_l hD
  have hFc := fr_all hDx hS hA
  rcases k_tex_c r o0 with hq | hq | hq
  · refine va_calli (va_runV (As := [.int r, .int o0]) (rest := [.int 0, .ref o]) ⟨hx, hb, hml, hown, hts⟩ (c_text_0 l hfl D ad ac ck s.heap.size r o0 hq) (cw_v 2 hts kw_1215 kw_1212 kw_1213 kw_1214 kw_1 rfl rfl (by decide +kernel) ⟨Nat.le_of_ble_eq_true rfl, Nat.le_of_ble_eq_true rfl⟩) ⟨fx_blind, va_recv hK hPx (ci := 11) (q0 := 0) rfl rfl, fun U hU hW => fx_pre hU hW hPx hK hDx hev hNS hS hFc⟩ rfl rfl hl.1 rfl (lv_room (Nat.le_of_ble_eq_true rfl)) d_h_text_5 ⟨Nat.le_of_ble_eq_true rfl, Nat.le_of_ble_eq_true rfl⟩) hS (fun q _ h => hFc q h) hFc (fun rr u t H locs ht hvm hw hB hz1 hk1 hS => ?_)
    have hPo := p_keep hP hD hk1
    have hDo := d_r hD
    refine W.cs (cells' := 0) (slots' := 0) rfl rfl ?_
    refine lv_i2l hx hb d_h_text_8 rfl ?_
    refine va_last hx hb hK hPo hDo hS 0 7 rfl rfl (i := 0) (x := rr.toInt64) (vp_in_nI (n := 0) (N := 1) (by decide) (by decide)) d_h_text_9 (fun H locs hPo hDo hS => ?_)
    refine lv_goto (tgt := 25) hx hb d_h_text_10 (by decide) ?_
    refine lv_iconst (v := 0) hx hb d_h_text_25 (by decide) ?_
    refine W.widen (k := 1) (n := 6) (by decide) (by decide) ?_
    exact W.iret (v := 0) hx hb hr (fun t ht hW => ⟨⟨0, (vp_updL ov (0 : Int32).toNatClampNeg rr.toInt64), rfl, ⟨hq.symm, fun _ => (by rw [show (vp_updL ov (0 : Int32).toNatClampNeg rr.toInt64) 0 = rr.toInt64 from pk_uLs, hw] <;> try decide)⟩, by rw [ht]; exact hPo, va_K.moved hW.alike (hK.sub (tys' := [(ac 7, .long)]) [7] rfl), hDo⟩, hS.F ht⟩) hS.2.2 d_h_text_26
  · refine tx_catch (tx_runV (As := [.int r, .int o0]) (rest := [.int 0, .ref o]) ⟨hx, hb, hml, hown, hts⟩ (c_text_3 l hfl D ad ac ck s.heap.size r o0 hq) (cw_v 2 hts kw_1215 kw_1212 kw_1213 kw_1214 kw_1 rfl rfl (by decide +kernel) ⟨Nat.le_of_ble_eq_true rfl, Nat.le_of_ble_eq_true rfl⟩) ⟨fx_blind, va_recv hK hPx (ci := 11) (q0 := 0) rfl rfl, fun U hU hW => fx_pre hU hW hPx hK hDx hev hNS hS hFc⟩ rfl rfl hl.1 rfl (lv_room (Nat.le_of_ble_eq_true rfl)) d_h_text_5 ⟨Nat.le_of_ble_eq_true rfl, Nat.le_of_ble_eq_true rfl⟩) hown hS hFc htab [(0, 10, 13, 19), (0, 10, 17, 25)] [] (0, 10, 21, 27) rfl (by decide) (by decide) (hts _ kw_581) (va_Nw.use rfl hev.2.2.2.2.2.1.2.2.1) (List.forall_mem_cons.mpr ⟨⟨by decide, by decide, "java/lang/IllegalArgumentException", hts _ kw_553, hev.2.2.2.2.2.2.2.1.1⟩, List.forall_mem_cons.mpr ⟨⟨by decide, by decide, "java/lang/IllegalStateException", hts _ kw_580, hev.2.2.2.2.2.2.2.1.2.1⟩, fun y hy => absurd hy List.not_mem_nil⟩⟩) (fun z H locs hz1 hk1 hS => ?_)
    have hPo := p_keep hP hD hk1
    have hDo := d_r hD
    refine W.cs (cells' := 1) (slots' := 6) rfl rfl ?_
    refine lv_astore (lv' := [(4, .ref z), (0, .ref (ad 0)), (1, .int r), (2, .int o0), (3, .ref o)]) hx hb d_h_text_21 hl (by decide) rfl (fun ls hl => ?_)
    refine lv_iconst (v := 3) hx hb d_h_text_23 (by decide) ?_
    exact W.iret (v := 3) hx hb hr (fun t ht hW => ⟨⟨3, ov, rfl, ⟨hq.symm, fun h => absurd (hq.symm.trans h) (by decide)⟩, by rw [ht]; exact hPo, va_K.moved hW.alike (hK.sub (tys' := [(ac 7, .long)]) [7] rfl), hDo⟩, hS.F ht⟩) hS.2.2 d_h_text_24
  · refine tx_catch (tx_runV (As := [.int r, .int o0]) (rest := [.int 0, .ref o]) ⟨hx, hb, hml, hown, hts⟩ (c_text_1 l hfl D ad ac ck s.heap.size r o0 hq) (cw_v 2 hts kw_1215 kw_1212 kw_1213 kw_1214 kw_1 rfl rfl (by decide +kernel) ⟨Nat.le_of_ble_eq_true rfl, Nat.le_of_ble_eq_true rfl⟩) ⟨fx_blind, va_recv hK hPx (ci := 11) (q0 := 0) rfl rfl, fun U hU hW => fx_pre hU hW hPx hK hDx hev hNS hS hFc⟩ rfl rfl hl.1 rfl (lv_room (Nat.le_of_ble_eq_true rfl)) d_h_text_5 ⟨Nat.le_of_ble_eq_true rfl, Nat.le_of_ble_eq_true rfl⟩) hown hS hFc htab [] [(0, 10, 17, 25), (0, 10, 21, 27)] (0, 10, 13, 19) rfl (by decide) (by decide) (hts _ kw_553) (va_Nw.use rfl hev.2.2.2.2.2.1.1) (fun y hy => absurd hy List.not_mem_nil) (fun z H locs hz1 hk1 hS => ?_)
    have hPo := p_keep hP hD hk1
    have hDo := d_r hD
    refine W.cs (cells' := 1) (slots' := 6) rfl rfl ?_
    refine lv_astore (lv' := [(4, .ref z), (0, .ref (ad 0)), (1, .int r), (2, .int o0), (3, .ref o)]) hx hb d_h_text_13 hl (by decide) rfl (fun ls hl => ?_)
    refine lv_iconst (v := 1) hx hb d_h_text_15 (by decide) ?_
    exact W.iret (v := 1) hx hb hr (fun t ht hW => ⟨⟨1, ov, rfl, ⟨hq.symm, fun h => absurd (hq.symm.trans h) (by decide)⟩, by rw [ht]; exact hPo, va_K.moved hW.alike (hK.sub (tys' := [(ac 7, .long)]) [7] rfl), hDo⟩, hS.F ht⟩) hS.2.2 d_h_text_16
theorem d_h_save_0 : decode method_25_code 0 = .ok (.aload_n 2, 1) := by decide +kernel
theorem d_h_save_1 : decode method_25_code 1 = .ok (.iconst 0, 1) := by decide +kernel
theorem d_h_save_2 : decode method_25_code 2 = .ok (.aload_n 0, 1) := by decide +kernel
theorem d_h_save_3 : decode method_25_code 3 = .ok (.iload_n 1, 1) := by decide +kernel
theorem d_h_save_4 : decode method_25_code 4 = .ok (.invokevirtual 91, 3) := by decide +kernel
theorem d_h_save_7 : decode method_25_code 7 = .ok (.i2l, 1) := by decide +kernel
theorem d_h_save_8 : decode method_25_code 8 = .ok (.lastore, 1) := by decide +kernel
theorem d_h_save_9 : decode method_25_code 9 = .ok (.goto 9, 3) := by decide +kernel
theorem d_h_save_18 : decode method_25_code 18 = .ok (.iconst 0, 1) := by decide +kernel
theorem d_h_save_19 : decode method_25_code 19 = .ok (.ireturn, 1) := by decide +kernel
theorem d_h_save_12 : decode method_25_code 12 = .ok (.astore_n 3, 1) := by decide +kernel
theorem d_h_save_13 : decode method_25_code 13 = .ok (.iconst 1, 1) := by decide +kernel
theorem d_h_save_14 : decode method_25_code 14 = .ok (.ireturn, 1) := by decide +kernel
set_option maxHeartbeats 4000000 in
set_option maxRecDepth 100000 in
theorem h_save (l : Launch) (hfl : l.flags = flags0) (D : va_G) (ad : Nat → Nat) (ac : Nat → ClassId) (ck : Nat → Int32) (o : Nat) (ov : Nat → Int64) (sz : Nat) (r : Int32) : Met l ⟨"JoinedTreesLaw", "save", "(LJoinedTrees;I[J)I"⟩ (Cond.codeWith ⟨"JoinedTreesLaw", "save", "(LJoinedTrees;I[J)I"⟩ method_25_code 4 (some .int) [(0, 9, 12, 19), (0, 9, 15, 25)] :: gb) ({ frames := 8, cells := 1, slots := 6, locals := 139 }) (hPc D ad ac ck o ov sz [.ref (ad 0), .int r, .ref o]) (va_Qi (fun (rz : Int32) (u : Nat → Int64) => rz = k_dro r ∧ (k_dro r = 0 → u 0 = 5)) (fun u t => gO D [oc ac o u] [(ac 7, .long)] (va_A (fxW ad ac ck ++ [oc ac o ov]) sz) t) (va_A (fxW ad ac ck ++ [oc ac o ov]) sz)) 1 6 (va_A (fxW ad ac ck ++ [oc ac o ov]) sz) := by
  refine tx_ofW (cc := method_25_code) (maxL := 4) (ret := (some .int)) (hs := [(0, 9, 12, 19), (0, 9, 15, 25)]) (by decide) rfl ?_
  intro p e s m args below meth c s₁ B hml htab hv
  obtain ⟨rfl, hsz, hP, hK, hD0, hev⟩ := hv
  have hx := B.exec
  have hb := B.bytes
  have hr := B.returns
  have hts : ∀ w9 ∈ gb, w9.before [.ref (ad 0), .int r, .ref o].toArray s = true := fun w9 h => atoms_spec (ws := Cond.codeWith ⟨"JoinedTreesLaw", "save", "(LJoinedTrees;I[J)I"⟩ method_25_code 4 (some .int) [(0, 9, 12, 19), (0, 9, 15, 25)] :: gb) B.pre w9 (List.mem_cons_of_mem _ h)
  have hown : s.vm.findClass "JoinedTreesLaw" = some m.cls := findClass_of_methodNamed B.named
  have hlocks := B.notSynchronized
  subst hsz
  have hNS := ns_of hP
  have hD := hD0.self (sz := s.heap.size)
  generalize hAe : va_A (fxW ad ac ck ++ [oc ac o ov]) s.heap.size = A at hD hev hNS ⊢
  have hA : ∀ q : Nat, s.heap.size ≤ q → A q := fun q h => by rw [← hAe]; exact Or.inr h
  have hS : va_S A s.heap s.heap [] := va_S.rf
  have hl := lv_entry ([.ref (ad 0), .int r, .ref o]) (n := 4) (Nat.le_of_ble_eq_true rfl)
  rw [lg_entry_eq]
  generalize (lg_sl ([.ref (ad 0), .int r, .ref o]) ++ List.replicate (4 - (lg_sl ([.ref (ad 0), .int r, .ref o])).length) Slot.unset).toArray = ls at hl ⊢
  have hl : lv_has ls 4 [(0, .ref (ad 0)), (1, .int r), (2, .ref o)] := hl
  refine lv_aload_n hx hb d_h_save_0 rfl (lv_at hl 2 rfl) ?_
  refine lv_iconst (v := 0) hx hb d_h_save_1 (by decide) ?_
  refine lv_aload_n hx hb d_h_save_2 rfl (lv_at hl 0 rfl) ?_
  refine lv_iload_n hx hb d_h_save_3 rfl (lv_at hl 1 rfl) ?_
  have hPx := p_l hP
  have hDx := d_l hD
  have hFc := fr_all hDx hS hA
  rcases k_dro_c r with hq | hq
  · refine va_calli (va_runV (As := [.int r]) (rest := [.int 0, .ref o]) ⟨hx, hb, hml, hown, hts⟩ (c_save_0 l hfl D ad ac ck s.heap.size r hq) (cw_v 1 hts kw_1274 kw_1271 kw_1272 kw_1273 kw_1 rfl rfl (by decide +kernel) ⟨Nat.le_of_ble_eq_true rfl, Nat.le_of_ble_eq_true rfl⟩) ⟨fx_blind, va_recv hK hPx (ci := 11) (q0 := 0) rfl rfl, fun U hU hW => fx_pre hU hW hPx hK hDx hev hNS hS hFc⟩ rfl rfl hl.1 rfl (lv_room (Nat.le_of_ble_eq_true rfl)) d_h_save_4 ⟨Nat.le_of_ble_eq_true rfl, Nat.le_of_ble_eq_true rfl⟩) hS (fun q _ h => hFc q h) hFc (fun rr u t H locs ht hvm hw hB hz1 hk1 hS => ?_)
    have hPo := p_keep hP hD hk1
    have hDo := d_r hD
    refine W.cs (cells' := 0) (slots' := 0) rfl rfl ?_
    refine lv_i2l hx hb d_h_save_7 rfl ?_
    refine va_last hx hb hK hPo hDo hS 0 7 rfl rfl (i := 0) (x := rr.toInt64) (vp_in_nI (n := 0) (N := 1) (by decide) (by decide)) d_h_save_8 (fun H locs hPo hDo hS => ?_)
    refine lv_goto (tgt := 18) hx hb d_h_save_9 (by decide) ?_
    refine lv_iconst (v := 0) hx hb d_h_save_18 (by decide) ?_
    refine W.widen (k := 1) (n := 6) (by decide) (by decide) ?_
    exact W.iret (v := 0) hx hb hr (fun t ht hW => ⟨⟨0, (vp_updL ov (0 : Int32).toNatClampNeg rr.toInt64), rfl, ⟨hq.symm, fun _ => (by rw [show (vp_updL ov (0 : Int32).toNatClampNeg rr.toInt64) 0 = rr.toInt64 from pk_uLs, hw] <;> try decide)⟩, by rw [ht]; exact hPo, va_K.moved hW.alike (hK.sub (tys' := [(ac 7, .long)]) [7] rfl), hDo⟩, hS.F ht⟩) hS.2.2 d_h_save_19
  · refine tx_catch (tx_runV (As := [.int r]) (rest := [.int 0, .ref o]) ⟨hx, hb, hml, hown, hts⟩ (c_save_1 l hfl D ad ac ck s.heap.size r hq) (cw_v 1 hts kw_1274 kw_1271 kw_1272 kw_1273 kw_1 rfl rfl (by decide +kernel) ⟨Nat.le_of_ble_eq_true rfl, Nat.le_of_ble_eq_true rfl⟩) ⟨fx_blind, va_recv hK hPx (ci := 11) (q0 := 0) rfl rfl, fun U hU hW => fx_pre hU hW hPx hK hDx hev hNS hS hFc⟩ rfl rfl hl.1 rfl (lv_room (Nat.le_of_ble_eq_true rfl)) d_h_save_4 ⟨Nat.le_of_ble_eq_true rfl, Nat.le_of_ble_eq_true rfl⟩) hown hS hFc htab [] [(0, 9, 15, 25)] (0, 9, 12, 19) rfl (by decide) (by decide) (hts _ kw_553) (va_Nw.use rfl hev.2.2.2.2.2.1.1) (fun y hy => absurd hy List.not_mem_nil) (fun z H locs hz1 hk1 hS => ?_)
    have hPo := p_keep hP hD hk1
    have hDo := d_r hD
    refine W.cs (cells' := 1) (slots' := 6) rfl rfl ?_
    refine lv_astore_n (lv' := [(3, .ref z), (0, .ref (ad 0)), (1, .int r), (2, .ref o)]) hx hb d_h_save_12 rfl hl (by decide) rfl (fun ls hl => ?_)
    refine lv_iconst (v := 1) hx hb d_h_save_13 (by decide) ?_
    exact W.iret (v := 1) hx hb hr (fun t ht hW => ⟨⟨1, ov, rfl, ⟨hq.symm, fun h => absurd (hq.symm.trans h) (by decide)⟩, by rw [ht]; exact hPo, va_K.moved hW.alike (hK.sub (tys' := [(ac 7, .long)]) [7] rfl), hDo⟩, hS.F ht⟩) hS.2.2 d_h_save_14
