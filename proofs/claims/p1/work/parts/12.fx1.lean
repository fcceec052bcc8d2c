/-! CONTRACTS ON A FRESH OBJECT: what many methods need. Printed by wip/gen/fx1.py -/
theorem d_take_0 : decode prog_1_method_30_code 0 = .ok (.aload_n 0, 1) := by decide +kernel
theorem d_take_1 : decode prog_1_method_30_code 1 = .ok (.getfield 96, 3) := by decide +kernel
theorem d_take_4 : decode prog_1_method_30_code 4 = .ok (.istore_n 1, 1) := by decide +kernel
theorem d_take_5 : decode prog_1_method_30_code 5 = .ok (.aload_n 0, 1) := by decide +kernel
theorem d_take_6 : decode prog_1_method_30_code 6 = .ok (.iconst 0, 1) := by decide +kernel
theorem d_take_7 : decode prog_1_method_30_code 7 = .ok (.putfield 96, 3) := by decide +kernel
theorem d_take_10 : decode prog_1_method_30_code 10 = .ok (.iload_n 1, 1) := by decide +kernel
theorem d_take_11 : decode prog_1_method_30_code 11 = .ok (.ireturn, 1) := by decide +kernel
set_option maxHeartbeats 4000000 in
set_option maxRecDepth 100000 in
theorem c_take (l : Launch) (hfl : l.flags = flags0) (D : va_G) (ad : Nat → Nat) (ac : Nat → ClassId) (ck : Nat → Int32) (sz : Nat) : Met l ⟨"JoinedTrees", "takeArguments", "()I"⟩ (Cond.code ⟨"JoinedTrees", "takeArguments", "()I"⟩ prog_1_method_30_code 2 (some .int) :: gb) ({ frames := 0, cells := 0, slots := 0, locals := 0 }) (fxPc D ad ac ck sz [.ref (ad 0)]) (va_Qi (fun (r : Int32) (_ : Nat → Int32) => r = 0) (fun u t => fxO D ad ac (va_A (fxW ad ac ck) sz) u t) (va_A (fxW ad ac ck) sz)) 0 0 (va_A (fxW ad ac ck) sz) := by
  refine Met.ofW (cc := prog_1_method_30_code) (maxL := 2) (ret := (some .int)) (by decide) rfl ?_
  intro p e s m args below meth c s₁ B hml hv
  obtain ⟨rfl, hsz, hP, hK, hD0, hev⟩ := hv
  have hx := B.exec
  have hb := B.bytes
  have hr := B.returns
  have hts : ∀ w ∈ gb, w.before [.ref (ad 0)].toArray s = true := fun w h => atoms_spec (ws := Cond.code ⟨"JoinedTrees", "takeArguments", "()I"⟩ prog_1_method_30_code 2 (some .int) :: gb) B.pre w (List.mem_cons_of_mem _ h)
  have hown : s.vm.findClass "JoinedTrees" = some m.cls := findClass_of_methodNamed B.named
  have hlocks := B.notSynchronized
  subst hsz
  have hNS := ns_of hP
  have hD := hD0.self (sz := s.heap.size)
  generalize hAe : va_A (fxW ad ac ck) s.heap.size = A at hD hev hNS ⊢
  have hA : ∀ q : Nat, s.heap.size ≤ q → A q := fun q h => by rw [← hAe]; exact Or.inr h
  have hS : va_S A s.heap s.heap [] := va_S.rf
  have hP : va_P D cls (fxW ad ac ck) s.heap := hP
  have hl := lv_entry ([.ref (ad 0)]) (n := 2) (Nat.le_of_ble_eq_true rfl)
  rw [lg_entry_eq]
  generalize (lg_sl ([.ref (ad 0)]) ++ List.replicate (2 - (lg_sl ([.ref (ad 0)])).length) Slot.unset).toArray = ls at hl ⊢
  have hl : lv_has ls 2 [(0, .ref (ad 0))] := hl
  refine lv_aload_n hx hb d_take_0 rfl (lv_at hl 0 rfl) ?_
  refine va_get (D := D) (ci := 11) (v := .int 0) (C := R_JT) (T := F_JT) (N := 13) hx hb hts i_JT hown hK hP 0 rfl rfl 11 (by decide) (hts _ kw_432) (fun _ h9 => h9) rfl d_take_1 ?_
  refine lv_istore_n (lv' := [(1, .int 0), (0, .ref (ad 0))]) hx hb d_take_4 rfl hl (by decide) rfl (fun ls hl => ?_)
  refine lv_aload_n hx hb d_take_5 rfl (lv_at hl 1 rfl) ?_
  refine lv_iconst (v := 0) hx hb d_take_6 (by decide) ?_
  refine w_putS (D := D) (ci := 11) (v := .int 0) (ty := .int) (C := R_JT) (T := F_JT) (N := 13) hx hb hts i_JT t_JT t_JT_ok n_JT hown hK hP hD hS 0 rfl rfl 11 (by decide) (hts _ kw_432) (fun _ h9 => h9) rfl (by decide +kernel) rfl rfl (Nat.le_of_ble_eq_true rfl) rfl d_take_7 (fun H locs hP hD hS => ?_)
  refine lv_iload_n hx hb d_take_10 rfl (lv_at hl 0 rfl) ?_
  exact W.iret (v := 0) hx hb hr (fun t ht hW => ⟨⟨0, ck, rfl, rfl, by rw [ht]; exact hP, va_K.moved hW.alike hK, hD⟩, hS.F ht⟩) hS.2.2 d_take_11
theorem d_show_0 : decode prog_12_method_2_code 0 = .ok (.aload_n 1, 1) := by decide +kernel
theorem d_show_1 : decode prog_12_method_2_code 1 = .ok (.getfield 25, 3) := by decide +kernel
theorem d_show_4 : decode prog_12_method_2_code 4 = .ok (.ifnonnull 10, 3) := by decide +kernel
theorem d_show_7 : decode prog_12_method_2_code 7 = .ok (.aload_n 1, 1) := by decide +kernel
theorem d_show_8 : decode prog_12_method_2_code 8 = .ok (.getfield 31, 3) := by decide +kernel
theorem d_show_11 : decode prog_12_method_2_code 11 = .ok (.goto 10, 3) := by decide +kernel
theorem d_show_21 : decode prog_12_method_2_code 21 = .ok (.astore_n 2, 1) := by decide +kernel
theorem d_show_22 : decode prog_12_method_2_code 22 = .ok (.aload_n 2, 1) := by decide +kernel
theorem d_show_23 : decode prog_12_method_2_code 23 = .ok (.iconst 0, 1) := by decide +kernel
theorem d_show_24 : decode prog_12_method_2_code 24 = .ok (.aload_n 0, 1) := by decide +kernel
theorem d_show_25 : decode prog_12_method_2_code 25 = .ok (.getfield 9, 3) := by decide +kernel
theorem d_show_28 : decode prog_12_method_2_code 28 = .ok (.iconst 0, 1) := by decide +kernel
theorem d_show_29 : decode prog_12_method_2_code 29 = .ok (.bipush 8, 2) := by decide +kernel
theorem d_show_31 : decode prog_12_method_2_code 31 = .ok (.invokestatic 37, 3) := by decide +kernel
theorem d_show_34 : decode prog_12_method_2_code 34 = .ok (.aload_n 1, 1) := by decide +kernel
theorem d_show_35 : decode prog_12_method_2_code 35 = .ok (.getfield 25, 3) := by decide +kernel
theorem d_show_38 : decode prog_12_method_2_code 38 = .ok (.ifnonnull 16, 3) := by decide +kernel
theorem d_show_41 : decode prog_12_method_2_code 41 = .ok (.aload_n 0, 1) := by decide +kernel
theorem d_show_42 : decode prog_12_method_2_code 42 = .ok (.getfield 9, 3) := by decide +kernel
theorem d_show_45 : decode prog_12_method_2_code 45 = .ok (.aload_n 1, 1) := by decide +kernel
theorem d_show_46 : decode prog_12_method_2_code 46 = .ok (.getfield 43, 3) := by decide +kernel
theorem d_show_49 : decode prog_12_method_2_code 49 = .ok (.dup2, 1) := by decide +kernel
theorem d_show_50 : decode prog_12_method_2_code 50 = .ok (.iaload, 1) := by decide +kernel
theorem d_show_51 : decode prog_12_method_2_code 51 = .ok (.iconst 1, 1) := by decide +kernel
theorem d_show_52 : decode prog_12_method_2_code 52 = .ok (.iadd, 1) := by decide +kernel
theorem d_show_53 : decode prog_12_method_2_code 53 = .ok (.iastore, 1) := by decide +kernel
theorem d_show_54 : decode prog_12_method_2_code 54 = .ok (.return_, 1) := by decide +kernel
set_option maxHeartbeats 4000000 in
set_option maxRecDepth 100000 in
theorem c_show (l : Launch) (hfl : l.flags = flags0) (D : va_G) (ad : Nat → Nat) (ac : Nat → ClassId) (ck : Nat → Int32) (sz : Nat) (j : Nat) (hj : j < 8) : Met l ⟨"JoinedTrees$View", "show", "(LJoinedTrees$Replica;)V"⟩ (Cond.code ⟨"JoinedTrees$View", "show", "(LJoinedTrees$Replica;)V"⟩ prog_12_method_2_code 3 none :: gb) ({ frames := 1, cells := 0, slots := 0, locals := 60 }) (fxPc D ad ac ck sz [.ref (ad 3), .ref (ad (18 + j))]) (va_Qv (fun _ : Nat → Int32 => True) (fun u t => fxO D ad ac (va_A (fxW ad ac ck) sz) u t) (va_A (fxW ad ac ck) sz)) 0 0 (va_A (fxW ad ac ck) sz) := by
  refine Met.ofW (cc := prog_12_method_2_code) (maxL := 3) (ret := none) (by decide) rfl ?_
  intro p e s m args below meth c s₁ B hml hv
  obtain ⟨rfl, hsz, hP, hK, hD0, hev⟩ := hv
  have hx := B.exec
  have hb := B.bytes
  have hr := B.returns
  have hts : ∀ w ∈ gb, w.before [.ref (ad 3), .ref (ad (18 + j))].toArray s = true := fun w h => atoms_spec (ws := Cond.code ⟨"JoinedTrees$View", "show", "(LJoinedTrees$Replica;)V"⟩ prog_12_method_2_code 3 none :: gb) B.pre w (List.mem_cons_of_mem _ h)
  have hown : s.vm.findClass "JoinedTrees$View" = some m.cls := findClass_of_methodNamed B.named
  have hlocks := B.notSynchronized
  subst hsz
  have hNS := ns_of hP
  have hD := hD0.self (sz := s.heap.size)
  generalize hAe : va_A (fxW ad ac ck) s.heap.size = A at hD hev hNS ⊢
  have hA : ∀ q : Nat, s.heap.size ≤ q → A q := fun q h => by rw [← hAe]; exact Or.inr h
  have hS : va_S A s.heap s.heap [] := va_S.rf
  have hP : va_P D cls (fxW ad ac ck) s.heap := hP
  have hl := lv_entry ([.ref (ad 3), .ref (ad (18 + j))]) (n := 3) (Nat.le_of_ble_eq_true rfl)
  rw [lg_entry_eq]
  generalize (lg_sl ([.ref (ad 3), .ref (ad (18 + j))]) ++ List.replicate (3 - (lg_sl ([.ref (ad 3), .ref (ad (18 + j))])).length) Slot.unset).toArray = ls at hl ⊢
  have hl : lv_has ls 3 [(0, .ref (ad 3)), (1, .ref (ad (18 + j)))] := hl
  refine lv_aload_n hx hb d_show_0 rfl (lv_at hl 1 rfl) ?_
  refine va_get (D := D) (ci := 4) (v := .null) (C := R_Rp) (T := F_Rp) (N := 10) hx hb hts i_Rp hown hK hP (18 + j) (fx_rep ad ac ck j hj) rfl 4 (by decide) (hts _ kw_214) (fun _ h9 => h9) rfl d_show_1 ?_
  refine lv_ifnonnullN hx hb d_show_4 ?_
  refine lv_aload_n hx hb d_show_7 rfl (lv_at hl 1 rfl) ?_
  refine va_get (D := D) (ci := 4) (v := .ref (ad (26 + j))) (C := R_Rp) (T := F_Rp) (N := 10) hx hb hts i_Rp hown hK hP (18 + j) (fx_rep ad ac ck j hj) rfl 1 (by decide) (hts _ kw_207) (fun _ h9 => h9) rfl d_show_8 ?_
  refine lv_goto (tgt := 21) hx hb d_show_11 (by decide) ?_
  refine lv_astore_n (lv' := [(2, .ref (ad (26 + j))), (0, .ref (ad 3)), (1, .ref (ad (18 + j)))]) hx hb d_show_21 rfl hl (by decide) rfl (fun ls hl => ?_)
  refine lv_aload_n hx hb d_show_22 rfl (lv_at hl 0 rfl) ?_
  refine lv_iconst (v := 0) hx hb d_show_23 (by decide) ?_
  refine lv_aload_n hx hb d_show_24 rfl (lv_at hl 1 rfl) ?_
  refine va_get (D := D) (ci := 10) (v := .ref (ad 4)) (C := R_Vw) (T := F_Vw) (N := 5) hx hb hts i_Vw hown hK hP 3 rfl rfl 1 (by decide) (hts _ kw_263) (fun _ h9 => h9) rfl d_show_25 ?_
  refine lv_iconst (v := 0) hx hb d_show_28 (by decide) ?_
  refine lv_bipush (v := 8) hx hb d_show_29 (by decide) ?_
  refine va_copyi hx hb (hml.trans hl.1.symm) hown (hts _ kw_598) (hts _ kw_600) (hts _ kw_599) (hts _ kw_17) hK hP hD hS (26 + j) 4 0 0 (fx_has ad ac ck j hj) rfl rfl rfl rfl (by decide) (by decide) (by decide) (by decide) (by decide) (fun _ _ => rfl) (Nat.le_of_ble_eq_true rfl) (Nat.le_of_ble_eq_true rfl) d_show_31 (fun H locs hP hD hS => ?_)
  obtain ⟨k_1, hP, hD⟩ : ∃ f : Nat → Int32, va_P D cls (fxW ad ac f) H ∧ va_D A (fxW ad ac f) := ⟨_, hP, hD⟩
  refine lv_aload_n hx hb d_show_34 rfl (lv_at hl 2 rfl) ?_
  refine va_get (D := D) (ci := 4) (v := .null) (C := R_Rp) (T := F_Rp) (N := 10) hx hb hts i_Rp hown hK hP (18 + j) (fx_rep ad ac k_1 j hj) rfl 4 (by decide) (hts _ kw_214) (fun _ h9 => h9) rfl d_show_35 ?_
  refine lv_ifnonnullN hx hb d_show_38 ?_
  refine lv_aload_n hx hb d_show_41 rfl (lv_at hl 1 rfl) ?_
  refine va_get (D := D) (ci := 10) (v := .ref (ad 4)) (C := R_Vw) (T := F_Vw) (N := 5) hx hb hts i_Vw hown hK hP 3 rfl rfl 1 (by decide) (hts _ kw_263) (fun _ h9 => h9) rfl d_show_42 ?_
  refine lv_aload_n hx hb d_show_45 rfl (lv_at hl 2 rfl) ?_
  refine va_get (D := D) (ci := 4) (v := .int (nI j)) (C := R_Rp) (T := F_Rp) (N := 10) hx hb hts i_Rp hown hK hP (18 + j) (fx_rep ad ac k_1 j hj) rfl 0 (by decide) (hts _ kw_202) (fun _ h9 => h9) rfl d_show_46 ?_
  refine lv_dup2_11 hx hb d_show_49 rfl rfl ?_
  refine va_iald hx hb hK hP 4 0 rfl rfl (i := nI j) (in8 j hj) d_show_50 ?_
  refine lv_topi (fun x_2 ex_2 => ?_)
  refine lv_iconst (v := 1) hx hb d_show_51 (by decide) ?_
  refine lv_iadd hx hb d_show_52 ?_
  refine lv_topi (fun x_3 ex_3 => ?_)
  refine va_iast hx hb hK hP hD hS 4 0 rfl rfl (i := nI j) (x := x_3) (in8 j hj) d_show_53 (fun H locs hP hD hS => ?_)
  obtain ⟨k_4, hP, hD⟩ : ∃ f : Nat → Int32, va_P D cls (fxW ad ac f) H ∧ va_D A (fxW ad ac f) := ⟨_, hP, hD⟩
  exact W.vret hx hb hr (fun t ht hW => ⟨⟨k_4, rfl, trivial, by rw [ht]; exact hP, va_K.moved hW.alike hK, hD⟩, hS.F ht⟩) hS.2.2 d_show_54
theorem d_shown_0 : decode prog_1_method_32_code 0 = .ok (.iload_n 1, 1) := by decide +kernel
theorem d_shown_1 : decode prog_1_method_32_code 1 = .ok (.ifCond .lt 9, 3) := by decide +kernel
theorem d_shown_10 : decode prog_1_method_32_code 10 = .ok (.new 93, 3) := by decide +kernel
theorem d_shown_13 : decode prog_1_method_32_code 13 = .ok (.dup, 1) := by decide +kernel
theorem d_shown_14 : decode prog_1_method_32_code 14 = .ok (.invokespecial 95, 3) := by decide +kernel
theorem d_shown_17 : decode prog_1_method_32_code 17 = .ok (.athrow, 1) := by decide +kernel
theorem d_shown_4 : decode prog_1_method_32_code 4 = .ok (.iload_n 1, 1) := by decide +kernel
theorem d_shown_5 : decode prog_1_method_32_code 5 = .ok (.bipush 8, 2) := by decide +kernel
theorem d_shown_7 : decode prog_1_method_32_code 7 = .ok (.if_icmp .lt 11, 3) := by decide +kernel
set_option maxHeartbeats 4000000 in
set_option maxRecDepth 100000 in
theorem c_shown_T (l : Launch) (hfl : l.flags = flags0) (D : va_G) (ad : Nat → Nat) (ac : Nat → ClassId) (ck : Nat → Int32) (sz : Nat) (r : Int32) (hq : r < 0 ∨ ¬ r < 8) : MeT l ⟨"JoinedTrees", "shown", "(I)LJoinedTrees$Replica;"⟩ (Cond.code ⟨"JoinedTrees", "shown", "(I)LJoinedTrees$Replica;"⟩ prog_1_method_32_code 2 (some (.object "JoinedTrees$Replica")) :: gb) ({ frames := 6, cells := 1, slots := 6, locals := 96 }) (fxPc D ad ac ck sz [.ref (ad 0), .int r]) e_IA (va_A (fxW ad ac ck) sz) 1 6 := by
  refine MeT.ofW (cc := prog_1_method_32_code) (maxL := 2) (ret := (some (.object "JoinedTrees$Replica"))) (by decide) rfl ?_
  intro p e s m args below meth c s₁ B hml hno hv
  obtain ⟨rfl, hsz, hP, hK, hD0, hev⟩ := hv
  have hx := B.exec
  have hb := B.bytes
  have hr := B.returns
  have hts : ∀ w ∈ gb, w.before [.ref (ad 0), .int r].toArray s = true := fun w h => atoms_spec (ws := Cond.code ⟨"JoinedTrees", "shown", "(I)LJoinedTrees$Replica;"⟩ prog_1_method_32_code 2 (some (.object "JoinedTrees$Replica")) :: gb) B.pre w (List.mem_cons_of_mem _ h)
  have hown : s.vm.findClass "JoinedTrees" = some m.cls := findClass_of_methodNamed B.named
  have hlocks := B.notSynchronized
  subst hsz
  have hNS := ns_of hP
  have hD := hD0.self (sz := s.heap.size)
  generalize hAe : va_A (fxW ad ac ck) s.heap.size = A at hD hev hNS ⊢
  have hA : ∀ q : Nat, s.heap.size ≤ q → A q := fun q h => by rw [← hAe]; exact Or.inr h
  have hS : va_S A s.heap s.heap [] := va_S.rf
  have hP : va_P D cls (fxW ad ac ck) s.heap := hP
  have hl := lv_entry ([.ref (ad 0), .int r]) (n := 2) (Nat.le_of_ble_eq_true rfl)
  rw [lg_entry_eq]
  generalize (lg_sl ([.ref (ad 0), .int r]) ++ List.replicate (2 - (lg_sl ([.ref (ad 0), .int r])).length) Slot.unset).toArray = ls at hl ⊢
  have hl : lv_has ls 2 [(0, .ref (ad 0)), (1, .int r)] := hl
  refine lv_iload_n hx hb d_shown_0 rfl (lv_at hl 1 rfl) ?_
  refine lv_if_lt (tgt := 10) hx hb d_shown_1 (by decide) (fun c_1 => ?_) (fun c_1 => ?_)
  · exact tx_throw (own := "JoinedTrees") (E := e_IA) (names := at_n) (ia := 93) (ic := 95) hfl hx hb hno hlocks hown (by decide +kernel) (by decide +kernel) (hev.atoms hts hev.2.2.2.2.2.1.1 at_IA) (hts _ kw_558) (hts _ kw_16) d_shown_10 d_shown_13 d_shown_14 d_shown_17 (hl.1.trans hml.symm) hS hA hNS (Nat.le_of_ble_eq_true rfl) (Nat.le_of_ble_eq_true rfl) (Nat.le_of_ble_eq_true rfl) (Nat.le_of_ble_eq_true rfl)
  · refine lv_iload_n hx hb d_shown_4 rfl (lv_at hl 1 rfl) ?_
    refine lv_bipush (v := 8) hx hb d_shown_5 (by decide) ?_
    refine lv_icmp_lt (tgt := 18) hx hb d_shown_7 (by decide) (fun c_2 => ?_) (fun c_2 => ?_)
    · exfalso; simp_all
    · exact tx_throw (own := "JoinedTrees") (E := e_IA) (names := at_n) (ia := 93) (ic := 95) hfl hx hb hno hlocks hown (by decide +kernel) (by decide +kernel) (hev.atoms hts hev.2.2.2.2.2.1.1 at_IA) (hts _ kw_558) (hts _ kw_16) d_shown_10 d_shown_13 d_shown_14 d_shown_17 (hl.1.trans hml.symm) hS hA hNS (Nat.le_of_ble_eq_true rfl) (Nat.le_of_ble_eq_true rfl) (Nat.le_of_ble_eq_true rfl) (Nat.le_of_ble_eq_true rfl)
theorem d_shown_18 : decode prog_1_method_32_code 18 = .ok (.aload_n 0, 1) := by decide +kernel
theorem d_shown_19 : decode prog_1_method_32_code 19 = .ok (.getfield 30, 3) := by decide +kernel
theorem d_shown_22 : decode prog_1_method_32_code 22 = .ok (.aload_n 0, 1) := by decide +kernel
theorem d_shown_23 : decode prog_1_method_32_code 23 = .ok (.getfield 18, 3) := by decide +kernel
theorem d_shown_26 : decode prog_1_method_32_code 26 = .ok (.iload_n 1, 1) := by decide +kernel
theorem d_shown_27 : decode prog_1_method_32_code 27 = .ok (.aaload, 1) := by decide +kernel
theorem d_shown_28 : decode prog_1_method_32_code 28 = .ok (.invokevirtual 398, 3) := by decide +kernel
theorem d_shown_31 : decode prog_1_method_32_code 31 = .ok (.aload_n 0, 1) := by decide +kernel
theorem d_shown_32 : decode prog_1_method_32_code 32 = .ok (.getfield 18, 3) := by decide +kernel
theorem d_shown_35 : decode prog_1_method_32_code 35 = .ok (.iload_n 1, 1) := by decide +kernel
theorem d_shown_36 : decode prog_1_method_32_code 36 = .ok (.aaload, 1) := by decide +kernel
theorem d_shown_37 : decode prog_1_method_32_code 37 = .ok (.areturn, 1) := by decide +kernel
set_option maxHeartbeats 4000000 in
set_option maxRecDepth 100000 in
theorem c_shown (l : Launch) (hfl : l.flags = flags0) (D : va_G) (ad : Nat → Nat) (ac : Nat → ClassId) (ck : Nat → Int32) (sz : Nat) (j : Nat) (hj : j < 8) : Met l ⟨"JoinedTrees", "shown", "(I)LJoinedTrees$Replica;"⟩ (Cond.code ⟨"JoinedTrees", "shown", "(I)LJoinedTrees$Replica;"⟩ prog_1_method_32_code 2 (some (.object "JoinedTrees$Replica")) :: gb) ({ frames := 2, cells := 0, slots := 0, locals := 82 }) (fxPc D ad ac ck sz [.ref (ad 0), .int (nI j)]) (va_Qq (fun (r : Option Nat) (_ : Nat → Int32) => r = some (ad (18 + j))) (fun u t => fxO D ad ac (va_A (fxW ad ac ck) sz) u t) (va_A (fxW ad ac ck) sz)) 0 0 (va_A (fxW ad ac ck) sz) := by
  refine Met.ofW (cc := prog_1_method_32_code) (maxL := 2) (ret := (some (.object "JoinedTrees$Replica"))) (by decide) rfl ?_
  intro p e s m args below meth c s₁ B hml hv
  obtain ⟨rfl, hsz, hP, hK, hD0, hev⟩ := hv
  have hx := B.exec
  have hb := B.bytes
  have hr := B.returns
  have hts : ∀ w ∈ gb, w.before [.ref (ad 0), .int (nI j)].toArray s = true := fun w h => atoms_spec (ws := Cond.code ⟨"JoinedTrees", "shown", "(I)LJoinedTrees$Replica;"⟩ prog_1_method_32_code 2 (some (.object "JoinedTrees$Replica")) :: gb) B.pre w (List.mem_cons_of_mem _ h)
  have hown : s.vm.findClass "JoinedTrees" = some m.cls := findClass_of_methodNamed B.named
  have hlocks := B.notSynchronized
  subst hsz
  have hNS := ns_of hP
  have hD := hD0.self (sz := s.heap.size)
  generalize hAe : va_A (fxW ad ac ck) s.heap.size = A at hD hev hNS ⊢
  have hA : ∀ q : Nat, s.heap.size ≤ q → A q := fun q h => by rw [← hAe]; exact Or.inr h
  have hS : va_S A s.heap s.heap [] := va_S.rf
  have hP : va_P D cls (fxW ad ac ck) s.heap := hP
  have hl := lv_entry ([.ref (ad 0), .int (nI j)]) (n := 2) (Nat.le_of_ble_eq_true rfl)
  rw [lg_entry_eq]
  generalize (lg_sl ([.ref (ad 0), .int (nI j)]) ++ List.replicate (2 - (lg_sl ([.ref (ad 0), .int (nI j)])).length) Slot.unset).toArray = ls at hl ⊢
  have hl : lv_has ls 2 [(0, .ref (ad 0)), (1, .int (nI j))] := hl
  refine lv_iload_n hx hb d_shown_0 rfl (lv_at hl 1 rfl) ?_
  refine lv_if_lt (tgt := 10) hx hb d_shown_1 (by decide) (fun h => absurd h (nlt0 j hj)) (fun _ => ?_)
  refine lv_iload_n hx hb d_shown_4 rfl (lv_at hl 1 rfl) ?_
  refine lv_bipush (v := 8) hx hb d_shown_5 (by decide) ?_
  refine lv_icmp_lt (tgt := 18) hx hb d_shown_7 (by decide) (fun _ => ?_) (fun h => absurd (lt8 j hj) h)
  refine lv_aload_n hx hb d_shown_18 rfl (lv_at hl 0 rfl) ?_
  refine va_get (D := D) (ci := 11) (v := .ref (ad 3)) (C := R_JT) (T := F_JT) (N := 13) hx hb hts i_JT hown hK hP 0 rfl rfl 2 (by decide) (hts _ kw_423) (fun _ h9 => h9) rfl d_shown_19 ?_
  refine lv_aload_n hx hb d_shown_22 rfl (lv_at hl 0 rfl) ?_
  refine va_get (D := D) (ci := 11) (v := .ref (ad 2)) (C := R_JT) (T := F_JT) (N := 13) hx hb hts i_JT hown hK hP 0 rfl rfl 1 (by decide) (hts _ kw_422) (fun _ h9 => h9) rfl d_shown_23 ?_
  refine lv_iload_n hx hb d_shown_26 rfl (lv_at hl 1 rfl) ?_
  refine va_aldq hx hb hK hP 2 4 rfl rfl (i := nI j) (in8 j hj) d_shown_27 ?_
  refine w_v (y := .ref (ad (18 + j))) (by show va_rf (some (ad (18 + (nI j).toNatClampNeg))) = _; rw [cl8 j hj]; rfl) ?_
  have hFc := fr_all hD hS hA
  refine va_callv (va_runV (As := [.ref (ad (18 + j))]) (rest := []) ⟨hx, hb, hml, hown, hts⟩ (c_show l hfl D ad ac ck s.heap.size j hj) (cw_v 1 hts kw_597 kw_594 kw_595 kw_596 kw_6 rfl rfl (by decide +kernel) ⟨Nat.le_of_ble_eq_true rfl, Nat.le_of_ble_eq_true rfl⟩) ⟨fx_blind, va_recv hK hP (ci := 10) (q0 := 3) rfl rfl, fun U hU hW => fx_pre hU hW hP hK hD hev hNS hS hFc⟩ rfl rfl hl.1 rfl (lv_room (Nat.le_of_ble_eq_true rfl)) d_shown_28 ⟨Nat.le_of_ble_eq_true rfl, Nat.le_of_ble_eq_true rfl⟩) hS (fun q _ h => hFc q h) hFc (fun u_2 t H1 locs ht hvm hw hB hz1 hk1 hS => ?_)
  obtain ⟨hP, -, hD1⟩ := hB
  rw [ht] at hP
  have hD := hD1.weaken (fun _ q _ h => hFc q.1 h)
  generalize H1 = H at hP hS ⊢
  refine W.cs (cells' := 0) (slots' := 0) rfl rfl ?_
  refine lv_aload_n hx hb d_shown_31 rfl (lv_at hl 0 rfl) ?_
  refine va_get (D := D) (ci := 11) (v := .ref (ad 2)) (C := R_JT) (T := F_JT) (N := 13) hx hb hts i_JT hown hK hP 0 rfl rfl 1 (by decide) (hts _ kw_422) (fun _ h9 => h9) rfl d_shown_32 ?_
  refine lv_iload_n hx hb d_shown_35 rfl (lv_at hl 1 rfl) ?_
  refine va_aldq hx hb hK hP 2 4 rfl rfl (i := nI j) (in8 j hj) d_shown_36 ?_
  refine w_v (y := .ref (ad (18 + j))) (by show va_rf (some (ad (18 + (nI j).toNatClampNeg))) = _; rw [cl8 j hj]; rfl) ?_
  exact W.aret (v := .ref (ad (18 + j))) hx hb hr (Or.inl ⟨_, rfl⟩) (Or.inr ⟨_, rfl⟩) (fun t ht hW => ⟨⟨(some (ad (18 + j))), u_2, rfl, rfl, by rw [ht]; exact hP, va_K.moved hW.alike hK, hD⟩, hS.F ht⟩) hS.2.2 d_shown_37
