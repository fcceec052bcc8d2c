/-! CONTRACTS ON A FRESH OBJECT: what many methods need. Printed by wip/gen/fx1.py -/
theorem in_of {x : Int32} {N : Nat} (hN : N < 2 ^ 31) (h1 : ¬ x < 0) (h2 : x < nI N) : vp_in x N := by
  obtain ⟨j, hj, rfl⟩ := nI_of h1
  exact vp_in_nI ((nI_ltI hj hN).mp h2) hN
theorem d_take_0 : decode prog_1_method_30_code 0 = .ok (.aload_n 0, 1) := by decide +kernel
theorem d_take_1 : decode prog_1_method_30_code 1 = .ok (.getfield 96, 3) := by decide +kernel
theorem d_take_4 : decode prog_1_method_30_code 4 = .ok (.istore_n 1, 1) := by decide +kernel
theorem d_take_5 : decode prog_1_method_30_code 5 = .ok (.aload_n 0, 1) := by decide +kernel
theorem d_take_6 : decode prog_1_method_30_code 6 = .ok (.iconst 0, 1) := by decide +kernel
theorem d_take_7 : decode prog_1_method_30_code 7 = .ok (.putfield 96, 3) := by decide +kernel
theorem d_take_10 : decode prog_1_method_30_code 10 = .ok (.iload_n 1, 1) := by decide +kernel
theorem d_take_11 : decode prog_1_method_30_code 11 = .ok (.ireturn, 1) := by decide +kernel
set_option maxHeartbeats 4000000 in
set_option maxRecDepth 100000 in
theorem c_take (l : Launch) (hfl : l.flags = flags0) (D : va_G) (ad : Nat → Nat) (ac : Nat → ClassId) (ck : Nat → Int32) (sz : Nat) : Met l ⟨"JoinedTrees", "takeArguments", "()I"⟩ (Cond.code ⟨"JoinedTrees", "takeArguments", "()I"⟩ prog_1_method_30_code 2 (some .int) :: gb) ({ frames := 0, cells := 0, slots := 0, locals := 0 }) (fxPc D ad ac ck sz [.ref (ad 0)]) (va_Qi (fun (r : Int32) (_ : Nat → Int32) => r = 0) (fun u t => fxO D ad ac (va_A (fxW ad ac ck) sz) u t) (va_A (fxW ad ac ck) sz)) 0 0 (va_A (fxW ad ac ck) sz) := by
  refine Met.ofW (cc := prog_1_method_30_code) (maxL := 2) (ret := (some .int)) (by decide) rfl ?_
  intro p e s m args below meth c s₁ B hml hv
  obtain ⟨rfl, hsz, hP, hK, hD0, hev⟩ := hv
  have hx := B.exec
  have hb := B.bytes
  have hr := B.returns
  have hts : ∀ w9 ∈ gb, w9.before [.ref (ad 0)].toArray s = true := fun w9 h => atoms_spec (ws := Cond.code ⟨"JoinedTrees", "takeArguments", "()I"⟩ prog_1_method_30_code 2 (some .int) :: gb) B.pre w9 (List.mem_cons_of_mem _ h)
  have hown : s.vm.findClass "JoinedTrees" = some m.cls := findClass_of_methodNamed B.named
  have hlocks := B.notSynchronized
  subst hsz
  have hNS := ns_of hP
  have hD := hD0.self (sz := s.heap.size)
  generalize hAe : va_A (fxW ad ac ck) s.heap.size = A at hD hev hNS ⊢
  have hA : ∀ q : Nat, s.heap.size ≤ q → A q := fun q h => by rw [← hAe]; exact Or.inr h
  have hS : va_S A s.heap s.heap [] := va_S.rf
  have hP : va_P D cls (fxW ad ac ck) s.heap := hP
  have hl := lv_entry ([.ref (ad 0)]) (n := 2) (Nat.le_of_ble_eq_true rfl)
  rw [lg_entry_eq]
  generalize (lg_sl ([.ref (ad 0)]) ++ List.replicate (2 - (lg_sl ([.ref (ad 0)])).length) Slot.unset).toArray = ls at hl ⊢
  have hl : lv_has ls 2 [(0, .ref (ad 0))] := hl
  refine lv_aload_n hx hb d_take_0 rfl (lv_at hl 0 rfl) ?_
  refine va_get (D := D) (ci := 11) (v := .int 0) (C := R_JT) (T := F_JT) (N := 13) hx hb hts i_JT hown hK hP 0 rfl rfl 11 (by decide) (hts _ kw_432) (fun _ h9 => h9) rfl d_take_1 ?_
  refine lv_istore_n (lv' := [(1, .int 0), (0, .ref (ad 0))]) hx hb d_take_4 rfl hl (by decide) rfl (fun ls hl => ?_)
  refine lv_aload_n hx hb d_take_5 rfl (lv_at hl 1 rfl) ?_
  refine lv_iconst (v := 0) hx hb d_take_6 (by decide) ?_
  refine w_putS (D := D) (ci := 11) (v := .int 0) (ty := .int) (C := R_JT) (T := F_JT) (N := 13) hx hb hts i_JT t_JT t_JT_ok n_JT hown hK hP hD hS 0 rfl rfl 11 (by decide) (hts _ kw_432) (fun _ h9 => h9) rfl (by decide +kernel) rfl rfl (Nat.le_of_ble_eq_true rfl) rfl d_take_7 (fun H locs hP hD hS => ?_)
  refine lv_iload_n hx hb d_take_10 rfl (lv_at hl 0 rfl) ?_
  exact W.iret (v := 0) hx hb hr (fun t ht hW => ⟨⟨0, ck, rfl, rfl, by rw [ht]; exact hP, va_K.moved hW.alike hK, hD⟩, hS.F ht⟩) hS.2.2 d_take_11
theorem d_show_0 : decode prog_12_method_2_code 0 = .ok (.aload_n 1, 1) := by decide +kernel
theorem d_show_1 : decode prog_12_method_2_code 1 = .ok (.getfield 25, 3) := by decide +kernel
theorem d_show_4 : decode prog_12_method_2_code 4 = .ok (.ifnonnull 10, 3) := by decide +kernel
theorem d_show_7 : decode prog_12_method_2_code 7 = .ok (.aload_n 1, 1) := by decide +kernel
theorem d_show_8 : decode prog_12_method_2_code 8 = .ok (.getfield 31, 3) := by decide +kernel
theorem d_show_11 : decode prog_12_method_2_code 11 = .ok (.goto 10, 3) := by decide +kernel
theorem d_show_21 : decode prog_12_method_2_code 21 = .ok (.astore_n 2, 1) := by decide +kernel
theorem d_show_22 : decode prog_12_method_2_code 22 = .ok (.aload_n 2, 1) := by decide +kernel
theorem d_show_23 : decode prog_12_method_2_code 23 = .ok (.iconst 0, 1) := by decide +kernel
theorem d_show_24 : decode prog_12_method_2_code 24 = .ok (.aload_n 0, 1) := by decide +kernel
theorem d_show_25 : decode prog_12_method_2_code 25 = .ok (.getfield 9, 3) := by decide +kernel
theorem d_show_28 : decode prog_12_method_2_code 28 = .ok (.iconst 0, 1) := by decide +kernel
theorem d_show_29 : decode prog_12_method_2_code 29 = .ok (.bipush 8, 2) := by decide +kernel
theorem d_show_31 : decode prog_12_method_2_code 31 = .ok (.invokestatic 37, 3) := by decide +kernel
theorem d_show_34 : decode prog_12_method_2_code 34 = .ok (.aload_n 1, 1) := by decide +kernel
theorem d_show_35 : decode prog_12_method_2_code 35 = .ok (.getfield 25, 3) := by decide +kernel
theorem d_show_38 : decode prog_12_method_2_code 38 = .ok (.ifnonnull 16, 3) := by decide +kernel
theorem d_show_41 : decode prog_12_method_2_code 41 = .ok (.aload_n 0, 1) := by decide +kernel
theorem d_show_42 : decode prog_12_method_2_code 42 = .ok (.getfield 9, 3) := by decide +kernel
theorem d_show_45 : decode prog_12_method_2_code 45 = .ok (.aload_n 1, 1) := by decide +kernel
theorem d_show_46 : decode prog_12_method_2_code 46 = .ok (.getfield 43, 3) := by decide +kernel
theorem d_show_49 : decode prog_12_method_2_code 49 = .ok (.dup2, 1) := by decide +kernel
theorem d_show_50 : decode prog_12_method_2_code 50 = .ok (.iaload, 1) := by decide +kernel
theorem d_show_51 : decode prog_12_method_2_code 51 = .ok (.iconst 1, 1) := by decide +kernel
theorem d_show_52 : decode prog_12_method_2_code 52 = .ok (.iadd, 1) := by decide +kernel
theorem d_show_53 : decode prog_12_method_2_code 53 = .ok (.iastore, 1) := by decide +kernel
theorem d_show_54 : decode prog_12_method_2_code 54 = .ok (.return_, 1) := by decide +kernel
set_option maxHeartbeats 4000000 in
set_option maxRecDepth 100000 in
theorem c_show (l : Launch) (hfl : l.flags = flags0) (D : va_G) (ad : Nat → Nat) (ac : Nat → ClassId) (ck : Nat → Int32) (sz : Nat) (j : Nat) (hj : j < 8) : Met l ⟨"JoinedTrees$View", "show", "(LJoinedTrees$Replica;)V"⟩ (Cond.code ⟨"JoinedTrees$View", "show", "(LJoinedTrees$Replica;)V"⟩ prog_12_method_2_code 3 none :: gb) ({ frames := 1, cells := 0, slots := 0, locals := 60 }) (fxPc D ad ac ck sz [.ref (ad 3), .ref (ad (18 + j))]) (va_Qv (fun _ : Nat → Int32 => True) (fun u t => fxO D ad ac (va_A (fxW ad ac ck) sz) u t) (va_A (fxW ad ac ck) sz)) 0 0 (va_A (fxW ad ac ck) sz) := by
  refine Met.ofW (cc := prog_12_method_2_code) (maxL := 3) (ret := none) (by decide) rfl ?_
  intro p e s m args below meth c s₁ B hml hv
  obtain ⟨rfl, hsz, hP, hK, hD0, hev⟩ := hv
  have hx := B.exec
  have hb := B.bytes
  have hr := B.returns
  have hts : ∀ w9 ∈ gb, w9.before [.ref (ad 3), .ref (ad (18 + j))].toArray s = true := fun w9 h => atoms_spec (ws := Cond.code ⟨"JoinedTrees$View", "show", "(LJoinedTrees$Replica;)V"⟩ prog_12_method_2_code 3 none :: gb) B.pre w9 (List.mem_cons_of_mem _ h)
  have hown : s.vm.findClass "JoinedTrees$View" = some m.cls := findClass_of_methodNamed B.named
  have hlocks := B.notSynchronized
  subst hsz
  have hNS := ns_of hP
  have hD := hD0.self (sz := s.heap.size)
  generalize hAe : va_A (fxW ad ac ck) s.heap.size = A at hD hev hNS ⊢
  have hA : ∀ q : Nat, s.heap.size ≤ q → A q := fun q h => by rw [← hAe]; exact Or.inr h
  have hS : va_S A s.heap s.heap [] := va_S.rf
  have hP : va_P D cls (fxW ad ac ck) s.heap := hP
  have hl := lv_entry ([.ref (ad 3), .ref (ad (18 + j))]) (n := 3) (Nat.le_of_ble_eq_true rfl)
  rw [lg_entry_eq]
  generalize (lg_sl ([.ref (ad 3), .ref (ad (18 + j))]) ++ List.replicate (3 - (lg_sl ([.ref (ad 3), .ref (ad (18 + j))])).length) Slot.unset).toArray = ls at hl ⊢
  have hl : lv_has ls 3 [(0, .ref (ad 3)), (1, .ref (ad (18 + j)))] := hl
  refine lv_aload_n hx hb d_show_0 rfl (lv_at hl 1 rfl) ?_
  refine va_get (D := D) (ci := 4) (v := .null) (C := R_Rp) (T := F_Rp) (N := 10) hx hb hts i_Rp hown hK hP (18 + j) (fx_rep ad ac ck j hj) rfl 4 (by decide) (hts _ kw_214) (fun _ h9 => h9) rfl d_show_1 ?_
  refine lv_ifnonnullN hx hb d_show_4 ?_
  refine lv_aload_n hx hb d_show_7 rfl (lv_at hl 1 rfl) ?_
  refine va_get (D := D) (ci := 4) (v := .ref (ad (26 + j))) (C := R_Rp) (T := F_Rp) (N := 10) hx hb hts i_Rp hown hK hP (18 + j) (fx_rep ad ac ck j hj) rfl 1 (by decide) (hts _ kw_207) (fun _ h9 => h9) rfl d_show_8 ?_
  refine lv_goto (tgt := 21) hx hb d_show_11 (by decide) ?_
  refine lv_astore_n (lv' := [(2, .ref (ad (26 + j))), (0, .ref (ad 3)), (1, .ref (ad (18 + j)))]) hx hb d_show_21 rfl hl (by decide) rfl (fun ls hl => ?_)
  refine lv_aload_n hx hb d_show_22 rfl (lv_at hl 0 rfl) ?_
  refine lv_iconst (v := 0) hx hb d_show_23 (by decide) ?_
  refine lv_aload_n hx hb d_show_24 rfl (lv_at hl 1 rfl) ?_
  refine va_get (D := D) (ci := 10) (v := .ref (ad 4)) (C := R_Vw) (T := F_Vw) (N := 5) hx hb hts i_Vw hown hK hP 3 rfl rfl 1 (by decide) (hts _ kw_263) (fun _ h9 => h9) rfl d_show_25 ?_
  refine lv_iconst (v := 0) hx hb d_show_28 (by decide) ?_
  refine lv_bipush (v := 8) hx hb d_show_29 (by decide) ?_
  refine va_copyi hx hb (hml.trans hl.1.symm) hown (hts _ kw_598) (hts _ kw_600) (hts _ kw_599) (hts _ kw_17) hK hP hD hS (26 + j) 4 0 0 (fx_has ad ac ck j hj) rfl rfl rfl rfl (by decide) (by decide) (by decide) (by decide) (by decide) (fun _ _ => rfl) (Nat.le_of_ble_eq_true rfl) (Nat.le_of_ble_eq_true rfl) d_show_31 (fun H locs hP hD hS => ?_)
  obtain ⟨k_1, hP, hD⟩ : ∃ f : Nat → Int32, va_P D cls (fxW ad ac f) H ∧ va_D A (fxW ad ac f) := ⟨_, hP, hD⟩
  refine lv_aload_n hx hb d_show_34 rfl (lv_at hl 2 rfl) ?_
  refine va_get (D := D) (ci := 4) (v := .null) (C := R_Rp) (T := F_Rp) (N := 10) hx hb hts i_Rp hown hK hP (18 + j) (fx_rep ad ac k_1 j hj) rfl 4 (by decide) (hts _ kw_214) (fun _ h9 => h9) rfl d_show_35 ?_
  refine lv_ifnonnullN hx hb d_show_38 ?_
  refine lv_aload_n hx hb d_show_41 rfl (lv_at hl 1 rfl) ?_
  refine va_get (D := D) (ci := 10) (v := .ref (ad 4)) (C := R_Vw) (T := F_Vw) (N := 5) hx hb hts i_Vw hown hK hP 3 rfl rfl 1 (by decide) (hts _ kw_263) (fun _ h9 => h9) rfl d_show_42 ?_
  refine lv_aload_n hx hb d_show_45 rfl (lv_at hl 2 rfl) ?_
  refine va_get (D := D) (ci := 4) (v := .int (nI j)) (C := R_Rp) (T := F_Rp) (N := 10) hx hb hts i_Rp hown hK hP (18 + j) (fx_rep ad ac k_1 j hj) rfl 0 (by decide) (hts _ kw_202) (fun _ h9 => h9) rfl d_show_46 ?_
  refine lv_dup2_11 hx hb d_show_49 rfl rfl ?_
  refine va_iald hx hb hK hP 4 0 rfl rfl (i := nI j) (in8 j hj) d_show_50 ?_
  refine lv_topi (fun x_2 ex_2 => ?_)
  refine lv_iconst (v := 1) hx hb d_show_51 (by decide) ?_
  refine lv_iadd hx hb d_show_52 ?_
  refine lv_topi (fun x_3 ex_3 => ?_)
  refine va_iast hx hb hK hP hD hS 4 0 rfl rfl (i := nI j) (x := x_3) (in8 j hj) d_show_53 (fun H locs hP hD hS => ?_)
  obtain ⟨k_4, hP, hD⟩ : ∃ f : Nat → Int32, va_P D cls (fxW ad ac f) H ∧ va_D A (fxW ad ac f) := ⟨_, hP, hD⟩
  exact W.vret hx hb hr (fun t ht hW => ⟨⟨k_4, rfl, trivial, by rw [ht]; exact hP, va_K.moved hW.alike hK, hD⟩, hS.F ht⟩) hS.2.2 d_show_54
theorem d_shown_0 : decode prog_1_method_32_code 0 = .ok (.iload_n 1, 1) := by decide +kernel
theorem d_shown_1 : decode prog_1_method_32_code 1 = .ok (.ifCond .lt 9, 3) := by decide +kernel
theorem d_shown_10 : decode prog_1_method_32_code 10 = .ok (.new 93, 3) := by decide +kernel
theorem d_shown_13 : decode prog_1_method_32_code 13 = .ok (.dup, 1) := by decide +kernel
theorem d_shown_14 : decode prog_1_method_32_code 14 = .ok (.invokespecial 95, 3) := by decide +kernel
theorem d_shown_17 : decode prog_1_method_32_code 17 = .ok (.athrow, 1) := by decide +kernel
theorem d_shown_4 : decode prog_1_method_32_code 4 = .ok (.iload_n 1, 1) := by decide +kernel
theorem d_shown_5 : decode prog_1_method_32_code 5 = .ok (.bipush 8, 2) := by decide +kernel
theorem d_shown_7 : decode prog_1_method_32_code 7 = .ok (.if_icmp .lt 11, 3) := by decide +kernel
set_option maxHeartbeats 4000000 in
set_option maxRecDepth 100000 in
theorem c_shown_T (l : Launch) (hfl : l.flags = flags0) (D : va_G) (ad : Nat → Nat) (ac : Nat → ClassId) (ck : Nat → Int32) (sz : Nat) (r : Int32) (hq : r < 0 ∨ ¬ r < 8) : MeT l ⟨"JoinedTrees", "shown", "(I)LJoinedTrees$Replica;"⟩ (Cond.code ⟨"JoinedTrees", "shown", "(I)LJoinedTrees$Replica;"⟩ prog_1_method_32_code 2 (some (.object "JoinedTrees$Replica")) :: gb) ({ frames := 6, cells := 1, slots := 6, locals := 96 }) (fxPc D ad ac ck sz [.ref (ad 0), .int r]) e_IA (va_A (fxW ad ac ck) sz) 1 6 := by
  refine MeT.ofW (cc := prog_1_method_32_code) (maxL := 2) (ret := (some (.object "JoinedTrees$Replica"))) (by decide) rfl ?_
  intro p e s m args below meth c s₁ B hml hno hv
  obtain ⟨rfl, hsz, hP, hK, hD0, hev⟩ := hv
  have hx := B.exec
  have hb := B.bytes
  have hr := B.returns
  have hts : ∀ w9 ∈ gb, w9.before [.ref (ad 0), .int r].toArray s = true := fun w9 h => atoms_spec (ws := Cond.code ⟨"JoinedTrees", "shown", "(I)LJoinedTrees$Replica;"⟩ prog_1_method_32_code 2 (some (.object "JoinedTrees$Replica")) :: gb) B.pre w9 (List.mem_cons_of_mem _ h)
  have hown : s.vm.findClass "JoinedTrees" = some m.cls := findClass_of_methodNamed B.named
  have hlocks := B.notSynchronized
  subst hsz
  have hNS := ns_of hP
  have hD := hD0.self (sz := s.heap.size)
  generalize hAe : va_A (fxW ad ac ck) s.heap.size = A at hD hev hNS ⊢
  have hA : ∀ q : Nat, s.heap.size ≤ q → A q := fun q h => by rw [← hAe]; exact Or.inr h
  have hS : va_S A s.heap s.heap [] := va_S.rf
  have hP : va_P D cls (fxW ad ac ck) s.heap := hP
  have hl := lv_entry ([.ref (ad 0), .int r]) (n := 2) (Nat.le_of_ble_eq_true rfl)
  rw [lg_entry_eq]
  generalize (lg_sl ([.ref (ad 0), .int r]) ++ List.replicate (2 - (lg_sl ([.ref (ad 0), .int r])).length) Slot.unset).toArray = ls at hl ⊢
  have hl : lv_has ls 2 [(0, .ref (ad 0)), (1, .int r)] := hl
  refine lv_iload_n hx hb d_shown_0 rfl (lv_at hl 1 rfl) ?_
  refine lv_if_lt (tgt := 10) hx hb d_shown_1 (by decide) (fun c_1 => ?_) (fun c_1 => ?_)
  · exact tx_throw (own := "JoinedTrees") (E := e_IA) (names := at_n) (ia := 93) (ic := 95) hfl hx hb hno hlocks hown (by decide +kernel) (by decide +kernel) (hev.atoms hts hev.2.2.2.2.2.1.1 at_IA) (hts _ kw_558) (hts _ kw_16) d_shown_10 d_shown_13 d_shown_14 d_shown_17 (hl.1.trans hml.symm) hS hA hNS (Nat.le_of_ble_eq_true rfl) (Nat.le_of_ble_eq_true rfl) (Nat.le_of_ble_eq_true rfl) (Nat.le_of_ble_eq_true rfl)
  · refine lv_iload_n hx hb d_shown_4 rfl (lv_at hl 1 rfl) ?_
    refine lv_bipush (v := 8) hx hb d_shown_5 (by decide) ?_
    refine lv_icmp_lt (tgt := 18) hx hb d_shown_7 (by decide) (fun c_2 => ?_) (fun c_2 => ?_)
    · first | exact absurd c_2 c_1 | (exfalso; simp_all)
    · exact tx_throw (own := "JoinedTrees") (E := e_IA) (names := at_n) (ia := 93) (ic := 95) hfl hx hb hno hlocks hown (by decide +kernel) (by decide +kernel) (hev.atoms hts hev.2.2.2.2.2.1.1 at_IA) (hts _ kw_558) (hts _ kw_16) d_shown_10 d_shown_13 d_shown_14 d_shown_17 (hl.1.trans hml.symm) hS hA hNS (Nat.le_of_ble_eq_true rfl) (Nat.le_of_ble_eq_true rfl) (Nat.le_of_ble_eq_true rfl) (Nat.le_of_ble_eq_true rfl)
theorem d_shown_18 : decode prog_1_method_32_code 18 = .ok (.aload_n 0, 1) := by decide +kernel
theorem d_shown_19 : decode prog_1_method_32_code 19 = .ok (.getfield 30, 3) := by decide +kernel
theorem d_shown_22 : decode prog_1_method_32_code 22 = .ok (.aload_n 0, 1) := by decide +kernel
theorem d_shown_23 : decode prog_1_method_32_code 23 = .ok (.getfield 18, 3) := by decide +kernel
theorem d_shown_26 : decode prog_1_method_32_code 26 = .ok (.iload_n 1, 1) := by decide +kernel
theorem d_shown_27 : decode prog_1_method_32_code 27 = .ok (.aaload, 1) := by decide +kernel
theorem d_shown_28 : decode prog_1_method_32_code 28 = .ok (.invokevirtual 398, 3) := by decide +kernel
theorem d_shown_31 : decode prog_1_method_32_code 31 = .ok (.aload_n 0, 1) := by decide +kernel
theorem d_shown_32 : decode prog_1_method_32_code 32 = .ok (.getfield 18, 3) := by decide +kernel
theorem d_shown_35 : decode prog_1_method_32_code 35 = .ok (.iload_n 1, 1) := by decide +kernel
theorem d_shown_36 : decode prog_1_method_32_code 36 = .ok (.aaload, 1) := by decide +kernel
theorem d_shown_37 : decode prog_1_method_32_code 37 = .ok (.areturn, 1) := by decide +kernel
set_option maxHeartbeats 4000000 in
set_option maxRecDepth 100000 in
theorem c_shown (l : Launch) (hfl : l.flags = flags0) (D : va_G) (ad : Nat → Nat) (ac : Nat → ClassId) (ck : Nat → Int32) (sz : Nat) (j : Nat) (hj : j < 8) : Met l ⟨"JoinedTrees", "shown", "(I)LJoinedTrees$Replica;"⟩ (Cond.code ⟨"JoinedTrees", "shown", "(I)LJoinedTrees$Replica;"⟩ prog_1_method_32_code 2 (some (.object "JoinedTrees$Replica")) :: gb) ({ frames := 2, cells := 0, slots := 0, locals := 82 }) (fxPc D ad ac ck sz [.ref (ad 0), .int (nI j)]) (va_Qq (fun (r : Option Nat) (_ : Nat → Int32) => r = some (ad (18 + j))) (fun u t => fxO D ad ac (va_A (fxW ad ac ck) sz) u t) (va_A (fxW ad ac ck) sz)) 0 0 (va_A (fxW ad ac ck) sz) := by
  refine Met.ofW (cc := prog_1_method_32_code) (maxL := 2) (ret := (some (.object "JoinedTrees$Replica"))) (by decide) rfl ?_
  intro p e s m args below meth c s₁ B hml hv
  obtain ⟨rfl, hsz, hP, hK, hD0, hev⟩ := hv
  have hx := B.exec
  have hb := B.bytes
  have hr := B.returns
  have hts : ∀ w9 ∈ gb, w9.before [.ref (ad 0), .int (nI j)].toArray s = true := fun w9 h => atoms_spec (ws := Cond.code ⟨"JoinedTrees", "shown", "(I)LJoinedTrees$Replica;"⟩ prog_1_method_32_code 2 (some (.object "JoinedTrees$Replica")) :: gb) B.pre w9 (List.mem_cons_of_mem _ h)
  have hown : s.vm.findClass "JoinedTrees" = some m.cls := findClass_of_methodNamed B.named
  have hlocks := B.notSynchronized
  subst hsz
  have hNS := ns_of hP
  have hD := hD0.self (sz := s.heap.size)
  generalize hAe : va_A (fxW ad ac ck) s.heap.size = A at hD hev hNS ⊢
  have hA : ∀ q : Nat, s.heap.size ≤ q → A q := fun q h => by rw [← hAe]; exact Or.inr h
  have hS : va_S A s.heap s.heap [] := va_S.rf
  have hP : va_P D cls (fxW ad ac ck) s.heap := hP
  have hl := lv_entry ([.ref (ad 0), .int (nI j)]) (n := 2) (Nat.le_of_ble_eq_true rfl)
  rw [lg_entry_eq]
  generalize (lg_sl ([.ref (ad 0), .int (nI j)]) ++ List.replicate (2 - (lg_sl ([.ref (ad 0), .int (nI j)])).length) Slot.unset).toArray = ls at hl ⊢
  have hl : lv_has ls 2 [(0, .ref (ad 0)), (1, .int (nI j))] := hl
  refine lv_iload_n hx hb d_shown_0 rfl (lv_at hl 1 rfl) ?_
  refine lv_if_lt (tgt := 10) hx hb d_shown_1 (by decide) (fun h => absurd h (nlt0 j hj)) (fun _ => ?_)
  refine lv_iload_n hx hb d_shown_4 rfl (lv_at hl 1 rfl) ?_
  refine lv_bipush (v := 8) hx hb d_shown_5 (by decide) ?_
  refine lv_icmp_lt (tgt := 18) hx hb d_shown_7 (by decide) (fun _ => ?_) (fun h => absurd (lt8 j hj) h)
  refine lv_aload_n hx hb d_shown_18 rfl (lv_at hl 0 rfl) ?_
  refine va_get (D := D) (ci := 11) (v := .ref (ad 3)) (C := R_JT) (T := F_JT) (N := 13) hx hb hts i_JT hown hK hP 0 rfl rfl 2 (by decide) (hts _ kw_423) (fun _ h9 => h9) rfl d_shown_19 ?_
  refine lv_aload_n hx hb d_shown_22 rfl (lv_at hl 0 rfl) ?_
  refine va_get (D := D) (ci := 11) (v := .ref (ad 2)) (C := R_JT) (T := F_JT) (N := 13) hx hb hts i_JT hown hK hP 0 rfl rfl 1 (by decide) (hts _ kw_422) (fun _ h9 => h9) rfl d_shown_23 ?_
  refine lv_iload_n hx hb d_shown_26 rfl (lv_at hl 1 rfl) ?_
  refine va_aldq hx hb hK hP 2 4 rfl rfl (i := nI j) (in8 j hj) d_shown_27 ?_
  refine w_v (y := .ref (ad (18 + j))) (by show va_rf (some (ad (18 + (nI j).toNatClampNeg))) = _; rw [cl8 j hj]; rfl) ?_
  have hFc := fr_all hD hS hA
  refine va_callv (va_runV (As := [.ref (ad (18 + j))]) (rest := []) ⟨hx, hb, hml, hown, hts⟩ (c_show l hfl D ad ac ck s.heap.size j hj) (cw_v 1 hts kw_597 kw_594 kw_595 kw_596 kw_6 rfl rfl (by decide +kernel) ⟨Nat.le_of_ble_eq_true rfl, Nat.le_of_ble_eq_true rfl⟩) ⟨fx_blind, va_recv hK hP (ci := 10) (q0 := 3) rfl rfl, fun U hU hW => fx_pre hU hW hP hK hD hev hNS hS hFc⟩ rfl rfl hl.1 rfl (lv_room (Nat.le_of_ble_eq_true rfl)) d_shown_28 ⟨Nat.le_of_ble_eq_true rfl, Nat.le_of_ble_eq_true rfl⟩) hS (fun q _ h => hFc q h) hFc (fun u_2 t H1 locs ht hvm hw hB hz1 hk1 hS => ?_)
  obtain ⟨hP, -, hD1⟩ := hB
  rw [ht] at hP
  have hD := hD1.weaken (fun _ q _ h => hFc q.1 h)
  generalize H1 = H at hP hS ⊢
  refine W.cs (cells' := 0) (slots' := 0) rfl rfl ?_
  refine lv_aload_n hx hb d_shown_31 rfl (lv_at hl 0 rfl) ?_
  refine va_get (D := D) (ci := 11) (v := .ref (ad 2)) (C := R_JT) (T := F_JT) (N := 13) hx hb hts i_JT hown hK hP 0 rfl rfl 1 (by decide) (hts _ kw_422) (fun _ h9 => h9) rfl d_shown_32 ?_
  refine lv_iload_n hx hb d_shown_35 rfl (lv_at hl 1 rfl) ?_
  refine va_aldq hx hb hK hP 2 4 rfl rfl (i := nI j) (in8 j hj) d_shown_36 ?_
  refine w_v (y := .ref (ad (18 + j))) (by show va_rf (some (ad (18 + (nI j).toNatClampNeg))) = _; rw [cl8 j hj]; rfl) ?_
  exact W.aret (v := .ref (ad (18 + j))) hx hb hr (Or.inl ⟨_, rfl⟩) (Or.inr ⟨_, rfl⟩) (fun t ht hW => ⟨⟨(some (ad (18 + j))), u_2, rfl, rfl, by rw [ht]; exact hP, va_K.moved hW.alike hK, hD⟩, hS.F ht⟩) hS.2.2 d_shown_37
theorem d_nv_0 : decode prog_1_method_33_code 0 = .ok (.iload_n 1, 1) := by decide +kernel
theorem d_nv_1 : decode prog_1_method_33_code 1 = .ok (.iconst 4, 1) := by decide +kernel
theorem d_nv_2 : decode prog_1_method_33_code 2 = .ok (.if_icmp .ne 7, 3) := by decide +kernel
theorem d_nv_9 : decode prog_1_method_33_code 9 = .ok (.iconst 0, 1) := by decide +kernel
theorem d_nv_10 : decode prog_1_method_33_code 10 = .ok (.istore 4, 2) := by decide +kernel
theorem d_nv_12 : decode prog_1_method_33_code 12 = .ok (.iload_n 1, 1) := by decide +kernel
theorem d_nv_13 : decode prog_1_method_33_code 13 = .ok (.ifCond .lt 25, 3) := by decide +kernel
theorem d_nv_38 : decode prog_1_method_33_code 38 = .ok (.new 93, 3) := by decide +kernel
theorem d_nv_41 : decode prog_1_method_33_code 41 = .ok (.dup, 1) := by decide +kernel
theorem d_nv_42 : decode prog_1_method_33_code 42 = .ok (.invokespecial 95, 3) := by decide +kernel
theorem d_nv_45 : decode prog_1_method_33_code 45 = .ok (.athrow, 1) := by decide +kernel
theorem d_nv_16 : decode prog_1_method_33_code 16 = .ok (.iload_n 1, 1) := by decide +kernel
theorem d_nv_17 : decode prog_1_method_33_code 17 = .ok (.bipush 8, 2) := by decide +kernel
theorem d_nv_19 : decode prog_1_method_33_code 19 = .ok (.if_icmp .gt 19, 3) := by decide +kernel
theorem d_nv_22 : decode prog_1_method_33_code 22 = .ok (.iload_n 2, 1) := by decide +kernel
theorem d_nv_23 : decode prog_1_method_33_code 23 = .ok (.iload_n 3, 1) := by decide +kernel
theorem d_nv_24 : decode prog_1_method_33_code 24 = .ok (.iload 4, 2) := by decide +kernel
theorem d_nv_26 : decode prog_1_method_33_code 26 = .ok (.ifCond .eq 7, 3) := by decide +kernel
theorem d_nv_33 : decode prog_1_method_33_code 33 = .ok (.iconst 0, 1) := by decide +kernel
theorem d_nv_34 : decode prog_1_method_33_code 34 = .ok (.iadd, 1) := by decide +kernel
theorem d_nv_35 : decode prog_1_method_33_code 35 = .ok (.if_icmp .eq 11, 3) := by decide +kernel
theorem d_nv_5 : decode prog_1_method_33_code 5 = .ok (.iconst 1, 1) := by decide +kernel
theorem d_nv_6 : decode prog_1_method_33_code 6 = .ok (.goto 4, 3) := by decide +kernel
theorem d_nv_29 : decode prog_1_method_33_code 29 = .ok (.iconst 1, 1) := by decide +kernel
theorem d_nv_30 : decode prog_1_method_33_code 30 = .ok (.goto 4, 3) := by decide +kernel
set_option maxHeartbeats 4000000 in
set_option maxRecDepth 100000 in
theorem c_nv1_T (l : Launch) (hfl : l.flags = flags0) (D : va_G) (ad : Nat → Nat) (ac : Nat → ClassId) (ck : Nat → Int32) (sz : Nat) (so : Int32) : MeT l ⟨"JoinedTrees", "needValue", "(III)V"⟩ (Cond.code ⟨"JoinedTrees", "needValue", "(III)V"⟩ prog_1_method_33_code 5 none :: gb) ({ frames := 6, cells := 1, slots := 6, locals := 96 }) (fxPc D ad ac ck sz [.ref (ad 0), .int so, .int 0, .int 1]) e_IA (va_A (fxW ad ac ck) sz) 1 6 := by
  refine MeT.ofW (cc := prog_1_method_33_code) (maxL := 5) (ret := none) (by decide) rfl ?_
  intro p e s m args below meth c s₁ B hml hno hv
  obtain ⟨rfl, hsz, hP, hK, hD0, hev⟩ := hv
  have hx := B.exec
  have hb := B.bytes
  have hr := B.returns
  have hts : ∀ w9 ∈ gb, w9.before [.ref (ad 0), .int so, .int 0, .int 1].toArray s = true := fun w9 h => atoms_spec (ws := Cond.code ⟨"JoinedTrees", "needValue", "(III)V"⟩ prog_1_method_33_code 5 none :: gb) B.pre w9 (List.mem_cons_of_mem _ h)
  have hown : s.vm.findClass "JoinedTrees" = some m.cls := findClass_of_methodNamed B.named
  have hlocks := B.notSynchronized
  subst hsz
  have hNS := ns_of hP
  have hD := hD0.self (sz := s.heap.size)
  generalize hAe : va_A (fxW ad ac ck) s.heap.size = A at hD hev hNS ⊢
  have hA : ∀ q : Nat, s.heap.size ≤ q → A q := fun q h => by rw [← hAe]; exact Or.inr h
  have hS : va_S A s.heap s.heap [] := va_S.rf
  have hP : va_P D cls (fxW ad ac ck) s.heap := hP
  have hl := lv_entry ([.ref (ad 0), .int so, .int 0, .int 1]) (n := 5) (Nat.le_of_ble_eq_true rfl)
  rw [lg_entry_eq]
  generalize (lg_sl ([.ref (ad 0), .int so, .int 0, .int 1]) ++ List.replicate (5 - (lg_sl ([.ref (ad 0), .int so, .int 0, .int 1])).length) Slot.unset).toArray = ls at hl ⊢
  have hl : lv_has ls 5 [(0, .ref (ad 0)), (1, .int so), (2, .int 0), (3, .int 1)] := hl
  refine lv_iload_n hx hb d_nv_0 rfl (lv_at hl 1 rfl) ?_
  refine lv_iconst (v := 4) hx hb d_nv_1 (by decide) ?_
  refine lv_icmp_ne (tgt := 9) hx hb d_nv_2 (by decide) (fun c_1 => ?_) (fun c_1 => ?_)
  · refine lv_iconst (v := 0) hx hb d_nv_9 (by decide) ?_
    refine lv_istore (lv' := [(4, .int 0), (0, .ref (ad 0)), (1, .int so), (2, .int 0), (3, .int 1)]) hx hb d_nv_10 hl (by decide) rfl (fun ls hl => ?_)
    refine lv_iload_n hx hb d_nv_12 rfl (lv_at hl 2 rfl) ?_
    refine lv_if_lt (tgt := 38) hx hb d_nv_13 (by decide) (fun c_2 => ?_) (fun c_2 => ?_)
    · exact tx_throw (own := "JoinedTrees") (E := e_IA) (names := at_n) (ia := 93) (ic := 95) hfl hx hb hno hlocks hown (by decide +kernel) (by decide +kernel) (hev.atoms hts hev.2.2.2.2.2.1.1 at_IA) (hts _ kw_558) (hts _ kw_16) d_nv_38 d_nv_41 d_nv_42 d_nv_45 (hl.1.trans hml.symm) hS hA hNS (Nat.le_of_ble_eq_true rfl) (Nat.le_of_ble_eq_true rfl) (Nat.le_of_ble_eq_true rfl) (Nat.le_of_ble_eq_true rfl)
    · refine lv_iload_n hx hb d_nv_16 rfl (lv_at hl 2 rfl) ?_
      refine lv_bipush (v := 8) hx hb d_nv_17 (by decide) ?_
      refine lv_icmp_gt (tgt := 38) hx hb d_nv_19 (by decide) (fun c_3 => ?_) (fun c_3 => ?_)
      · exact tx_throw (own := "JoinedTrees") (E := e_IA) (names := at_n) (ia := 93) (ic := 95) hfl hx hb hno hlocks hown (by decide +kernel) (by decide +kernel) (hev.atoms hts hev.2.2.2.2.2.1.1 at_IA) (hts _ kw_558) (hts _ kw_16) d_nv_38 d_nv_41 d_nv_42 d_nv_45 (hl.1.trans hml.symm) hS hA hNS (Nat.le_of_ble_eq_true rfl) (Nat.le_of_ble_eq_true rfl) (Nat.le_of_ble_eq_true rfl) (Nat.le_of_ble_eq_true rfl)
      · refine lv_iload_n hx hb d_nv_22 rfl (lv_at hl 3 rfl) ?_
        refine lv_iload_n hx hb d_nv_23 rfl (lv_at hl 4 rfl) ?_
        refine lv_iload hx hb d_nv_24 (lv_at hl 0 rfl) ?_
        refine lv_if_eq (tgt := 33) hx hb d_nv_26 (by decide) (fun _ => ?_) (fun h => absurd h (by decide))
        refine lv_iconst (v := 0) hx hb d_nv_33 (by decide) ?_
        refine lv_iadd hx hb d_nv_34 ?_
        refine w_i (y := 1) (by decide) ?_
        refine lv_icmp_eq (tgt := 46) hx hb d_nv_35 (by decide) (fun h => absurd h (by decide)) (fun _ => ?_)
        exact tx_throw (own := "JoinedTrees") (E := e_IA) (names := at_n) (ia := 93) (ic := 95) hfl hx hb hno hlocks hown (by decide +kernel) (by decide +kernel) (hev.atoms hts hev.2.2.2.2.2.1.1 at_IA) (hts _ kw_558) (hts _ kw_16) d_nv_38 d_nv_41 d_nv_42 d_nv_45 (hl.1.trans hml.symm) hS hA hNS (Nat.le_of_ble_eq_true rfl) (Nat.le_of_ble_eq_true rfl) (Nat.le_of_ble_eq_true rfl) (Nat.le_of_ble_eq_true rfl)
  · refine lv_iconst (v := 1) hx hb d_nv_5 (by decide) ?_
    refine lv_goto (tgt := 10) hx hb d_nv_6 (by decide) ?_
    refine lv_istore (lv' := [(4, .int 1), (0, .ref (ad 0)), (1, .int so), (2, .int 0), (3, .int 1)]) hx hb d_nv_10 hl (by decide) rfl (fun ls hl => ?_)
    refine lv_iload_n hx hb d_nv_12 rfl (lv_at hl 2 rfl) ?_
    refine lv_if_lt (tgt := 38) hx hb d_nv_13 (by decide) (fun c_4 => ?_) (fun c_4 => ?_)
    · exact tx_throw (own := "JoinedTrees") (E := e_IA) (names := at_n) (ia := 93) (ic := 95) hfl hx hb hno hlocks hown (by decide +kernel) (by decide +kernel) (hev.atoms hts hev.2.2.2.2.2.1.1 at_IA) (hts _ kw_558) (hts _ kw_16) d_nv_38 d_nv_41 d_nv_42 d_nv_45 (hl.1.trans hml.symm) hS hA hNS (Nat.le_of_ble_eq_true rfl) (Nat.le_of_ble_eq_true rfl) (Nat.le_of_ble_eq_true rfl) (Nat.le_of_ble_eq_true rfl)
    · refine lv_iload_n hx hb d_nv_16 rfl (lv_at hl 2 rfl) ?_
      refine lv_bipush (v := 8) hx hb d_nv_17 (by decide) ?_
      refine lv_icmp_gt (tgt := 38) hx hb d_nv_19 (by decide) (fun c_5 => ?_) (fun c_5 => ?_)
      · exact tx_throw (own := "JoinedTrees") (E := e_IA) (names := at_n) (ia := 93) (ic := 95) hfl hx hb hno hlocks hown (by decide +kernel) (by decide +kernel) (hev.atoms hts hev.2.2.2.2.2.1.1 at_IA) (hts _ kw_558) (hts _ kw_16) d_nv_38 d_nv_41 d_nv_42 d_nv_45 (hl.1.trans hml.symm) hS hA hNS (Nat.le_of_ble_eq_true rfl) (Nat.le_of_ble_eq_true rfl) (Nat.le_of_ble_eq_true rfl) (Nat.le_of_ble_eq_true rfl)
      · refine lv_iload_n hx hb d_nv_22 rfl (lv_at hl 3 rfl) ?_
        refine lv_iload_n hx hb d_nv_23 rfl (lv_at hl 4 rfl) ?_
        refine lv_iload hx hb d_nv_24 (lv_at hl 0 rfl) ?_
        refine lv_if_eq (tgt := 33) hx hb d_nv_26 (by decide) (fun h => absurd h (by decide)) (fun _ => ?_)
        refine lv_iconst (v := 1) hx hb d_nv_29 (by decide) ?_
        refine lv_goto (tgt := 34) hx hb d_nv_30 (by decide) ?_
        refine lv_iadd hx hb d_nv_34 ?_
        refine w_i (y := 2) (by decide) ?_
        refine lv_icmp_eq (tgt := 46) hx hb d_nv_35 (by decide) (fun h => absurd h (by decide)) (fun _ => ?_)
        exact tx_throw (own := "JoinedTrees") (E := e_IA) (names := at_n) (ia := 93) (ic := 95) hfl hx hb hno hlocks hown (by decide +kernel) (by decide +kernel) (hev.atoms hts hev.2.2.2.2.2.1.1 at_IA) (hts _ kw_558) (hts _ kw_16) d_nv_38 d_nv_41 d_nv_42 d_nv_45 (hl.1.trans hml.symm) hS hA hNS (Nat.le_of_ble_eq_true rfl) (Nat.le_of_ble_eq_true rfl) (Nat.le_of_ble_eq_true rfl) (Nat.le_of_ble_eq_true rfl)
theorem d_nv_46 : decode prog_1_method_33_code 46 = .ok (.iload 4, 2) := by decide +kernel
theorem d_nv_48 : decode prog_1_method_33_code 48 = .ok (.ifCond .eq 35, 3) := by decide +kernel
set_option maxHeartbeats 4000000 in
set_option maxRecDepth 100000 in
theorem c_nv0_T (l : Launch) (hfl : l.flags = flags0) (D : va_G) (ad : Nat → Nat) (ac : Nat → ClassId) (ck : Nat → Int32) (sz : Nat) (so : Int32) (hq : so < 0 ∨ 8 < so ∨ so = 4) : MeT l ⟨"JoinedTrees", "needValue", "(III)V"⟩ (Cond.code ⟨"JoinedTrees", "needValue", "(III)V"⟩ prog_1_method_33_code 5 none :: gb) ({ frames := 6, cells := 1, slots := 6, locals := 96 }) (fxPc D ad ac ck sz [.ref (ad 0), .int so, .int 0, .int 0]) e_IA (va_A (fxW ad ac ck) sz) 1 6 := by
  refine MeT.ofW (cc := prog_1_method_33_code) (maxL := 5) (ret := none) (by decide) rfl ?_
  intro p e s m args below meth c s₁ B hml hno hv
  obtain ⟨rfl, hsz, hP, hK, hD0, hev⟩ := hv
  have hx := B.exec
  have hb := B.bytes
  have hr := B.returns
  have hts : ∀ w9 ∈ gb, w9.before [.ref (ad 0), .int so, .int 0, .int 0].toArray s = true := fun w9 h => atoms_spec (ws := Cond.code ⟨"JoinedTrees", "needValue", "(III)V"⟩ prog_1_method_33_code 5 none :: gb) B.pre w9 (List.mem_cons_of_mem _ h)
  have hown : s.vm.findClass "JoinedTrees" = some m.cls := findClass_of_methodNamed B.named
  have hlocks := B.notSynchronized
  subst hsz
  have hNS := ns_of hP
  have hD := hD0.self (sz := s.heap.size)
  generalize hAe : va_A (fxW ad ac ck) s.heap.size = A at hD hev hNS ⊢
  have hA : ∀ q : Nat, s.heap.size ≤ q → A q := fun q h => by rw [← hAe]; exact Or.inr h
  have hS : va_S A s.heap s.heap [] := va_S.rf
  have hP : va_P D cls (fxW ad ac ck) s.heap := hP
  have hl := lv_entry ([.ref (ad 0), .int so, .int 0, .int 0]) (n := 5) (Nat.le_of_ble_eq_true rfl)
  rw [lg_entry_eq]
  generalize (lg_sl ([.ref (ad 0), .int so, .int 0, .int 0]) ++ List.replicate (5 - (lg_sl ([.ref (ad 0), .int so, .int 0, .int 0])).length) Slot.unset).toArray = ls at hl ⊢
  have hl : lv_has ls 5 [(0, .ref (ad 0)), (1, .int so), (2, .int 0), (3, .int 0)] := hl
  refine lv_iload_n hx hb d_nv_0 rfl (lv_at hl 1 rfl) ?_
  refine lv_iconst (v := 4) hx hb d_nv_1 (by decide) ?_
  refine lv_icmp_ne (tgt := 9) hx hb d_nv_2 (by decide) (fun c_1 => ?_) (fun c_1 => ?_)
  · refine lv_iconst (v := 0) hx hb d_nv_9 (by decide) ?_
    refine lv_istore (lv' := [(4, .int 0), (0, .ref (ad 0)), (1, .int so), (2, .int 0), (3, .int 0)]) hx hb d_nv_10 hl (by decide) rfl (fun ls hl => ?_)
    refine lv_iload_n hx hb d_nv_12 rfl (lv_at hl 2 rfl) ?_
    refine lv_if_lt (tgt := 38) hx hb d_nv_13 (by decide) (fun c_2 => ?_) (fun c_2 => ?_)
    · exact tx_throw (own := "JoinedTrees") (E := e_IA) (names := at_n) (ia := 93) (ic := 95) hfl hx hb hno hlocks hown (by decide +kernel) (by decide +kernel) (hev.atoms hts hev.2.2.2.2.2.1.1 at_IA) (hts _ kw_558) (hts _ kw_16) d_nv_38 d_nv_41 d_nv_42 d_nv_45 (hl.1.trans hml.symm) hS hA hNS (Nat.le_of_ble_eq_true rfl) (Nat.le_of_ble_eq_true rfl) (Nat.le_of_ble_eq_true rfl) (Nat.le_of_ble_eq_true rfl)
    · refine lv_iload_n hx hb d_nv_16 rfl (lv_at hl 2 rfl) ?_
      refine lv_bipush (v := 8) hx hb d_nv_17 (by decide) ?_
      refine lv_icmp_gt (tgt := 38) hx hb d_nv_19 (by decide) (fun c_3 => ?_) (fun c_3 => ?_)
      · exact tx_throw (own := "JoinedTrees") (E := e_IA) (names := at_n) (ia := 93) (ic := 95) hfl hx hb hno hlocks hown (by decide +kernel) (by decide +kernel) (hev.atoms hts hev.2.2.2.2.2.1.1 at_IA) (hts _ kw_558) (hts _ kw_16) d_nv_38 d_nv_41 d_nv_42 d_nv_45 (hl.1.trans hml.symm) hS hA hNS (Nat.le_of_ble_eq_true rfl) (Nat.le_of_ble_eq_true rfl) (Nat.le_of_ble_eq_true rfl) (Nat.le_of_ble_eq_true rfl)
      · refine lv_iload_n hx hb d_nv_22 rfl (lv_at hl 3 rfl) ?_
        refine lv_iload_n hx hb d_nv_23 rfl (lv_at hl 4 rfl) ?_
        refine lv_iload hx hb d_nv_24 (lv_at hl 0 rfl) ?_
        refine lv_if_eq (tgt := 33) hx hb d_nv_26 (by decide) (fun _ => ?_) (fun h => absurd h (by decide))
        refine lv_iconst (v := 0) hx hb d_nv_33 (by decide) ?_
        refine lv_iadd hx hb d_nv_34 ?_
        refine w_i (y := 0) (by decide) ?_
        refine lv_icmp_eq (tgt := 46) hx hb d_nv_35 (by decide) (fun _ => ?_) (fun h => absurd h (by decide))
        refine lv_iload hx hb d_nv_46 (lv_at hl 0 rfl) ?_
        refine lv_if_eq (tgt := 83) hx hb d_nv_48 (by decide) (fun _ => ?_) (fun h => absurd h (by decide))
        exfalso; simp_all
  · refine lv_iconst (v := 1) hx hb d_nv_5 (by decide) ?_
    refine lv_goto (tgt := 10) hx hb d_nv_6 (by decide) ?_
    refine lv_istore (lv' := [(4, .int 1), (0, .ref (ad 0)), (1, .int so), (2, .int 0), (3, .int 0)]) hx hb d_nv_10 hl (by decide) rfl (fun ls hl => ?_)
    refine lv_iload_n hx hb d_nv_12 rfl (lv_at hl 2 rfl) ?_
    refine lv_if_lt (tgt := 38) hx hb d_nv_13 (by decide) (fun c_4 => ?_) (fun c_4 => ?_)
    · exact tx_throw (own := "JoinedTrees") (E := e_IA) (names := at_n) (ia := 93) (ic := 95) hfl hx hb hno hlocks hown (by decide +kernel) (by decide +kernel) (hev.atoms hts hev.2.2.2.2.2.1.1 at_IA) (hts _ kw_558) (hts _ kw_16) d_nv_38 d_nv_41 d_nv_42 d_nv_45 (hl.1.trans hml.symm) hS hA hNS (Nat.le_of_ble_eq_true rfl) (Nat.le_of_ble_eq_true rfl) (Nat.le_of_ble_eq_true rfl) (Nat.le_of_ble_eq_true rfl)
    · refine lv_iload_n hx hb d_nv_16 rfl (lv_at hl 2 rfl) ?_
      refine lv_bipush (v := 8) hx hb d_nv_17 (by decide) ?_
      refine lv_icmp_gt (tgt := 38) hx hb d_nv_19 (by decide) (fun c_5 => ?_) (fun c_5 => ?_)
      · exact tx_throw (own := "JoinedTrees") (E := e_IA) (names := at_n) (ia := 93) (ic := 95) hfl hx hb hno hlocks hown (by decide +kernel) (by decide +kernel) (hev.atoms hts hev.2.2.2.2.2.1.1 at_IA) (hts _ kw_558) (hts _ kw_16) d_nv_38 d_nv_41 d_nv_42 d_nv_45 (hl.1.trans hml.symm) hS hA hNS (Nat.le_of_ble_eq_true rfl) (Nat.le_of_ble_eq_true rfl) (Nat.le_of_ble_eq_true rfl) (Nat.le_of_ble_eq_true rfl)
      · refine lv_iload_n hx hb d_nv_22 rfl (lv_at hl 3 rfl) ?_
        refine lv_iload_n hx hb d_nv_23 rfl (lv_at hl 4 rfl) ?_
        refine lv_iload hx hb d_nv_24 (lv_at hl 0 rfl) ?_
        refine lv_if_eq (tgt := 33) hx hb d_nv_26 (by decide) (fun h => absurd h (by decide)) (fun _ => ?_)
        refine lv_iconst (v := 1) hx hb d_nv_29 (by decide) ?_
        refine lv_goto (tgt := 34) hx hb d_nv_30 (by decide) ?_
        refine lv_iadd hx hb d_nv_34 ?_
        refine w_i (y := 1) (by decide) ?_
        refine lv_icmp_eq (tgt := 46) hx hb d_nv_35 (by decide) (fun h => absurd h (by decide)) (fun _ => ?_)
        exact tx_throw (own := "JoinedTrees") (E := e_IA) (names := at_n) (ia := 93) (ic := 95) hfl hx hb hno hlocks hown (by decide +kernel) (by decide +kernel) (hev.atoms hts hev.2.2.2.2.2.1.1 at_IA) (hts _ kw_558) (hts _ kw_16) d_nv_38 d_nv_41 d_nv_42 d_nv_45 (hl.1.trans hml.symm) hS hA hNS (Nat.le_of_ble_eq_true rfl) (Nat.le_of_ble_eq_true rfl) (Nat.le_of_ble_eq_true rfl) (Nat.le_of_ble_eq_true rfl)
theorem d_nv_83 : decode prog_1_method_33_code 83 = .ok (.return_, 1) := by decide +kernel
set_option maxHeartbeats 4000000 in
set_option maxRecDepth 100000 in
theorem c_nv0 (l : Launch) (hfl : l.flags = flags0) (D : va_G) (ad : Nat → Nat) (ac : Nat → ClassId) (ck : Nat → Int32) (sz : Nat) (so : Int32) (h1 : ¬ so < 0) (h2 : ¬ 8 < so) (h3 : ¬ so = 4) : Met l ⟨"JoinedTrees", "needValue", "(III)V"⟩ (Cond.code ⟨"JoinedTrees", "needValue", "(III)V"⟩ prog_1_method_33_code 5 none :: gb) ({ frames := 0, cells := 0, slots := 0, locals := 0 }) (fxPc D ad ac ck sz [.ref (ad 0), .int so, .int 0, .int 0]) (va_Qv (fun _ : Nat → Int32 => True) (fun u t => fxO D ad ac (va_A (fxW ad ac ck) sz) u t) (va_A (fxW ad ac ck) sz)) 0 0 (va_A (fxW ad ac ck) sz) := by
  refine Met.ofW (cc := prog_1_method_33_code) (maxL := 5) (ret := none) (by decide) rfl ?_
  intro p e s m args below meth c s₁ B hml hv
  obtain ⟨rfl, hsz, hP, hK, hD0, hev⟩ := hv
  have hx := B.exec
  have hb := B.bytes
  have hr := B.returns
  have hts : ∀ w9 ∈ gb, w9.before [.ref (ad 0), .int so, .int 0, .int 0].toArray s = true := fun w9 h => atoms_spec (ws := Cond.code ⟨"JoinedTrees", "needValue", "(III)V"⟩ prog_1_method_33_code 5 none :: gb) B.pre w9 (List.mem_cons_of_mem _ h)
  have hown : s.vm.findClass "JoinedTrees" = some m.cls := findClass_of_methodNamed B.named
  have hlocks := B.notSynchronized
  subst hsz
  have hNS := ns_of hP
  have hD := hD0.self (sz := s.heap.size)
  generalize hAe : va_A (fxW ad ac ck) s.heap.size = A at hD hev hNS ⊢
  have hA : ∀ q : Nat, s.heap.size ≤ q → A q := fun q h => by rw [← hAe]; exact Or.inr h
  have hS : va_S A s.heap s.heap [] := va_S.rf
  have hP : va_P D cls (fxW ad ac ck) s.heap := hP
  have hl := lv_entry ([.ref (ad 0), .int so, .int 0, .int 0]) (n := 5) (Nat.le_of_ble_eq_true rfl)
  rw [lg_entry_eq]
  generalize (lg_sl ([.ref (ad 0), .int so, .int 0, .int 0]) ++ List.replicate (5 - (lg_sl ([.ref (ad 0), .int so, .int 0, .int 0])).length) Slot.unset).toArray = ls at hl ⊢
  have hl : lv_has ls 5 [(0, .ref (ad 0)), (1, .int so), (2, .int 0), (3, .int 0)] := hl
  refine lv_iload_n hx hb d_nv_0 rfl (lv_at hl 1 rfl) ?_
  refine lv_iconst (v := 4) hx hb d_nv_1 (by decide) ?_
  refine lv_icmp_ne (tgt := 9) hx hb d_nv_2 (by decide) (fun c_1 => ?_) (fun c_1 => ?_)
  · refine lv_iconst (v := 0) hx hb d_nv_9 (by decide) ?_
    refine lv_istore (lv' := [(4, .int 0), (0, .ref (ad 0)), (1, .int so), (2, .int 0), (3, .int 0)]) hx hb d_nv_10 hl (by decide) rfl (fun ls hl => ?_)
    refine lv_iload_n hx hb d_nv_12 rfl (lv_at hl 2 rfl) ?_
    refine lv_if_lt (tgt := 38) hx hb d_nv_13 (by decide) (fun c_2 => ?_) (fun c_2 => ?_)
    · exfalso; simp_all
    · refine lv_iload_n hx hb d_nv_16 rfl (lv_at hl 2 rfl) ?_
      refine lv_bipush (v := 8) hx hb d_nv_17 (by decide) ?_
      refine lv_icmp_gt (tgt := 38) hx hb d_nv_19 (by decide) (fun c_3 => ?_) (fun c_3 => ?_)
      · exfalso; simp_all
      · refine lv_iload_n hx hb d_nv_22 rfl (lv_at hl 3 rfl) ?_
        refine lv_iload_n hx hb d_nv_23 rfl (lv_at hl 4 rfl) ?_
        refine lv_iload hx hb d_nv_24 (lv_at hl 0 rfl) ?_
        refine lv_if_eq (tgt := 33) hx hb d_nv_26 (by decide) (fun _ => ?_) (fun h => absurd h (by decide))
        refine lv_iconst (v := 0) hx hb d_nv_33 (by decide) ?_
        refine lv_iadd hx hb d_nv_34 ?_
        refine w_i (y := 0) (by decide) ?_
        refine lv_icmp_eq (tgt := 46) hx hb d_nv_35 (by decide) (fun _ => ?_) (fun h => absurd h (by decide))
        refine lv_iload hx hb d_nv_46 (lv_at hl 0 rfl) ?_
        refine lv_if_eq (tgt := 83) hx hb d_nv_48 (by decide) (fun _ => ?_) (fun h => absurd h (by decide))
        exact W.vret hx hb hr (fun t ht hW => ⟨⟨ck, rfl, trivial, by rw [ht]; exact hP, va_K.moved hW.alike hK, hD⟩, hS.F ht⟩) hS.2.2 d_nv_83
  · refine lv_iconst (v := 1) hx hb d_nv_5 (by decide) ?_
    refine lv_goto (tgt := 10) hx hb d_nv_6 (by decide) ?_
    refine lv_istore (lv' := [(4, .int 1), (0, .ref (ad 0)), (1, .int so), (2, .int 0), (3, .int 0)]) hx hb d_nv_10 hl (by decide) rfl (fun ls hl => ?_)
    refine lv_iload_n hx hb d_nv_12 rfl (lv_at hl 2 rfl) ?_
    refine lv_if_lt (tgt := 38) hx hb d_nv_13 (by decide) (fun c_4 => ?_) (fun c_4 => ?_)
    · exfalso; simp_all
    · refine lv_iload_n hx hb d_nv_16 rfl (lv_at hl 2 rfl) ?_
      refine lv_bipush (v := 8) hx hb d_nv_17 (by decide) ?_
      refine lv_icmp_gt (tgt := 38) hx hb d_nv_19 (by decide) (fun c_5 => ?_) (fun c_5 => ?_)
      · exfalso; simp_all
      · refine lv_iload_n hx hb d_nv_22 rfl (lv_at hl 3 rfl) ?_
        refine lv_iload_n hx hb d_nv_23 rfl (lv_at hl 4 rfl) ?_
        refine lv_iload hx hb d_nv_24 (lv_at hl 0 rfl) ?_
        refine lv_if_eq (tgt := 33) hx hb d_nv_26 (by decide) (fun h => absurd h (by decide)) (fun _ => ?_)
        refine lv_iconst (v := 1) hx hb d_nv_29 (by decide) ?_
        refine lv_goto (tgt := 34) hx hb d_nv_30 (by decide) ?_
        refine lv_iadd hx hb d_nv_34 ?_
        refine w_i (y := 1) (by decide) ?_
        refine lv_icmp_eq (tgt := 46) hx hb d_nv_35 (by decide) (fun h => absurd h (by decide)) (fun _ => ?_)
        exfalso; simp_all
theorem d_np_0 : decode prog_1_method_35_code 0 = .ok (.iload_n 1, 1) := by decide +kernel
theorem d_np_1 : decode prog_1_method_35_code 1 = .ok (.iload_n 2, 1) := by decide +kernel
theorem d_np_2 : decode prog_1_method_35_code 2 = .ok (.iconst (-1), 1) := by decide +kernel
theorem d_np_3 : decode prog_1_method_35_code 3 = .ok (.if_icmp .ne 7, 3) := by decide +kernel
theorem d_np_10 : decode prog_1_method_35_code 10 = .ok (.iconst 0, 1) := by decide +kernel
theorem d_np_11 : decode prog_1_method_35_code 11 = .ok (.if_icmp .eq 11, 3) := by decide +kernel
theorem d_np_6 : decode prog_1_method_35_code 6 = .ok (.iconst 1, 1) := by decide +kernel
theorem d_np_7 : decode prog_1_method_35_code 7 = .ok (.goto 4, 3) := by decide +kernel
theorem d_np_14 : decode prog_1_method_35_code 14 = .ok (.new 93, 3) := by decide +kernel
theorem d_np_17 : decode prog_1_method_35_code 17 = .ok (.dup, 1) := by decide +kernel
theorem d_np_18 : decode prog_1_method_35_code 18 = .ok (.invokespecial 95, 3) := by decide +kernel
theorem d_np_21 : decode prog_1_method_35_code 21 = .ok (.athrow, 1) := by decide +kernel
set_option maxHeartbeats 4000000 in
set_option maxRecDepth 100000 in
theorem c_np_T (l : Launch) (hfl : l.flags = flags0) (D : va_G) (ad : Nat → Nat) (ac : Nat → ClassId) (ck : Nat → Int32) (sz : Nat) (i : Int32) (hq : i = -1) : MeT l ⟨"JoinedTrees", "needPlace", "(II)V"⟩ (Cond.code ⟨"JoinedTrees", "needPlace", "(II)V"⟩ prog_1_method_35_code 3 none :: gb) ({ frames := 6, cells := 1, slots := 6, locals := 96 }) (fxPc D ad ac ck sz [.ref (ad 0), .int 0, .int i]) e_IA (va_A (fxW ad ac ck) sz) 1 6 := by
  refine MeT.ofW (cc := prog_1_method_35_code) (maxL := 3) (ret := none) (by decide) rfl ?_
  intro p e s m args below meth c s₁ B hml hno hv
  obtain ⟨rfl, hsz, hP, hK, hD0, hev⟩ := hv
  have hx := B.exec
  have hb := B.bytes
  have hr := B.returns
  have hts : ∀ w9 ∈ gb, w9.before [.ref (ad 0), .int 0, .int i].toArray s = true := fun w9 h => atoms_spec (ws := Cond.code ⟨"JoinedTrees", "needPlace", "(II)V"⟩ prog_1_method_35_code 3 none :: gb) B.pre w9 (List.mem_cons_of_mem _ h)
  have hown : s.vm.findClass "JoinedTrees" = some m.cls := findClass_of_methodNamed B.named
  have hlocks := B.notSynchronized
  subst hsz
  have hNS := ns_of hP
  have hD := hD0.self (sz := s.heap.size)
  generalize hAe : va_A (fxW ad ac ck) s.heap.size = A at hD hev hNS ⊢
  have hA : ∀ q : Nat, s.heap.size ≤ q → A q := fun q h => by rw [← hAe]; exact Or.inr h
  have hS : va_S A s.heap s.heap [] := va_S.rf
  have hP : va_P D cls (fxW ad ac ck) s.heap := hP
  have hl := lv_entry ([.ref (ad 0), .int 0, .int i]) (n := 3) (Nat.le_of_ble_eq_true rfl)
  rw [lg_entry_eq]
  generalize (lg_sl ([.ref (ad 0), .int 0, .int i]) ++ List.replicate (3 - (lg_sl ([.ref (ad 0), .int 0, .int i])).length) Slot.unset).toArray = ls at hl ⊢
  have hl : lv_has ls 3 [(0, .ref (ad 0)), (1, .int 0), (2, .int i)] := hl
  refine lv_iload_n hx hb d_np_0 rfl (lv_at hl 1 rfl) ?_
  refine lv_iload_n hx hb d_np_1 rfl (lv_at hl 2 rfl) ?_
  refine lv_iconst (v := (-1)) hx hb d_np_2 (by decide) ?_
  refine lv_icmp_ne (tgt := 10) hx hb d_np_3 (by decide) (fun c_1 => ?_) (fun c_1 => ?_)
  · refine lv_iconst (v := 0) hx hb d_np_10 (by decide) ?_
    refine lv_icmp_eq (tgt := 22) hx hb d_np_11 (by decide) (fun _ => ?_) (fun h => absurd h (by decide))
    exfalso; simp_all
  · refine lv_iconst (v := 1) hx hb d_np_6 (by decide) ?_
    refine lv_goto (tgt := 11) hx hb d_np_7 (by decide) ?_
    refine lv_icmp_eq (tgt := 22) hx hb d_np_11 (by decide) (fun h => absurd h (by decide)) (fun _ => ?_)
    exact tx_throw (own := "JoinedTrees") (E := e_IA) (names := at_n) (ia := 93) (ic := 95) hfl hx hb hno hlocks hown (by decide +kernel) (by decide +kernel) (hev.atoms hts hev.2.2.2.2.2.1.1 at_IA) (hts _ kw_558) (hts _ kw_16) d_np_14 d_np_17 d_np_18 d_np_21 (hl.1.trans hml.symm) hS hA hNS (Nat.le_of_ble_eq_true rfl) (Nat.le_of_ble_eq_true rfl) (Nat.le_of_ble_eq_true rfl) (Nat.le_of_ble_eq_true rfl)
theorem d_np_22 : decode prog_1_method_35_code 22 = .ok (.iload_n 2, 1) := by decide +kernel
theorem d_np_23 : decode prog_1_method_35_code 23 = .ok (.iconst (-1), 1) := by decide +kernel
theorem d_np_24 : decode prog_1_method_35_code 24 = .ok (.if_icmp .ne 7, 3) := by decide +kernel
theorem d_np_31 : decode prog_1_method_35_code 31 = .ok (.return_, 1) := by decide +kernel
set_option maxHeartbeats 4000000 in
set_option maxRecDepth 100000 in
theorem c_np (l : Launch) (hfl : l.flags = flags0) (D : va_G) (ad : Nat → Nat) (ac : Nat → ClassId) (ck : Nat → Int32) (sz : Nat) (i : Int32) (hq : ¬ i = -1) : Met l ⟨"JoinedTrees", "needPlace", "(II)V"⟩ (Cond.code ⟨"JoinedTrees", "needPlace", "(II)V"⟩ prog_1_method_35_code 3 none :: gb) ({ frames := 0, cells := 0, slots := 0, locals := 0 }) (fxPc D ad ac ck sz [.ref (ad 0), .int 0, .int i]) (va_Qv (fun _ : Nat → Int32 => True) (fun u t => fxO D ad ac (va_A (fxW ad ac ck) sz) u t) (va_A (fxW ad ac ck) sz)) 0 0 (va_A (fxW ad ac ck) sz) := by
  refine Met.ofW (cc := prog_1_method_35_code) (maxL := 3) (ret := none) (by decide) rfl ?_
  intro p e s m args below meth c s₁ B hml hv
  obtain ⟨rfl, hsz, hP, hK, hD0, hev⟩ := hv
  have hx := B.exec
  have hb := B.bytes
  have hr := B.returns
  have hts : ∀ w9 ∈ gb, w9.before [.ref (ad 0), .int 0, .int i].toArray s = true := fun w9 h => atoms_spec (ws := Cond.code ⟨"JoinedTrees", "needPlace", "(II)V"⟩ prog_1_method_35_code 3 none :: gb) B.pre w9 (List.mem_cons_of_mem _ h)
  have hown : s.vm.findClass "JoinedTrees" = some m.cls := findClass_of_methodNamed B.named
  have hlocks := B.notSynchronized
  subst hsz
  have hNS := ns_of hP
  have hD := hD0.self (sz := s.heap.size)
  generalize hAe : va_A (fxW ad ac ck) s.heap.size = A at hD hev hNS ⊢
  have hA : ∀ q : Nat, s.heap.size ≤ q → A q := fun q h => by rw [← hAe]; exact Or.inr h
  have hS : va_S A s.heap s.heap [] := va_S.rf
  have hP : va_P D cls (fxW ad ac ck) s.heap := hP
  have hl := lv_entry ([.ref (ad 0), .int 0, .int i]) (n := 3) (Nat.le_of_ble_eq_true rfl)
  rw [lg_entry_eq]
  generalize (lg_sl ([.ref (ad 0), .int 0, .int i]) ++ List.replicate (3 - (lg_sl ([.ref (ad 0), .int 0, .int i])).length) Slot.unset).toArray = ls at hl ⊢
  have hl : lv_has ls 3 [(0, .ref (ad 0)), (1, .int 0), (2, .int i)] := hl
  refine lv_iload_n hx hb d_np_0 rfl (lv_at hl 1 rfl) ?_
  refine lv_iload_n hx hb d_np_1 rfl (lv_at hl 2 rfl) ?_
  refine lv_iconst (v := (-1)) hx hb d_np_2 (by decide) ?_
  refine lv_icmp_ne (tgt := 10) hx hb d_np_3 (by decide) (fun c_1 => ?_) (fun c_1 => ?_)
  · refine lv_iconst (v := 0) hx hb d_np_10 (by decide) ?_
    refine lv_icmp_eq (tgt := 22) hx hb d_np_11 (by decide) (fun _ => ?_) (fun h => absurd h (by decide))
    refine lv_iload_n hx hb d_np_22 rfl (lv_at hl 2 rfl) ?_
    refine lv_iconst (v := (-1)) hx hb d_np_23 (by decide) ?_
    refine lv_icmp_ne (tgt := 31) hx hb d_np_24 (by decide) (fun c_2 => ?_) (fun c_2 => ?_)
    · exact W.vret hx hb hr (fun t ht hW => ⟨⟨ck, rfl, trivial, by rw [ht]; exact hP, va_K.moved hW.alike hK, hD⟩, hS.F ht⟩) hS.2.2 d_np_31
    · first | exact absurd c_2 c_1 | (exfalso; simp_all)
  · refine lv_iconst (v := 1) hx hb d_np_6 (by decide) ?_
    refine lv_goto (tgt := 11) hx hb d_np_7 (by decide) ?_
    refine lv_icmp_eq (tgt := 22) hx hb d_np_11 (by decide) (fun h => absurd h (by decide)) (fun _ => ?_)
    exfalso; simp_all
theorem d_opAt_0 : decode prog_12_method_4_code 0 = .ok (.iload_n 1, 1) := by decide +kernel
theorem d_opAt_1 : decode prog_12_method_4_code 1 = .ok (.ifCond .ne 11, 3) := by decide +kernel
theorem d_opAt_4 : decode prog_12_method_4_code 4 = .ok (.aload_n 0, 1) := by decide +kernel
theorem d_opAt_5 : decode prog_12_method_4_code 5 = .ok (.getfield 21, 3) := by decide +kernel
theorem d_opAt_8 : decode prog_12_method_4_code 8 = .ok (.getfield 53, 3) := by decide +kernel
theorem d_opAt_11 : decode prog_12_method_4_code 11 = .ok (.areturn, 1) := by decide +kernel
set_option maxHeartbeats 4000000 in
set_option maxRecDepth 100000 in
theorem c_opAt0 (l : Launch) (hfl : l.flags = flags0) (D : va_G) (ad : Nat → Nat) (ac : Nat → ClassId) (ck : Nat → Int32) (sz : Nat) : Met l ⟨"JoinedTrees$View", "opAt", "(I)LJoinedTrees$Op;"⟩ (Cond.code ⟨"JoinedTrees$View", "opAt", "(I)LJoinedTrees$Op;"⟩ prog_12_method_4_code 3 (some (.object "JoinedTrees$Op")) :: gb) ({ frames := 0, cells := 0, slots := 0, locals := 0 }) (fxPc D ad ac ck sz [.ref (ad 3), .int 0]) (va_Qq (fun (r : Option Nat) (_ : Nat → Int32) => r = some (ad 5)) (fun u t => fxO D ad ac (va_A (fxW ad ac ck) sz) u t) (va_A (fxW ad ac ck) sz)) 0 0 (va_A (fxW ad ac ck) sz) := by
  refine Met.ofW (cc := prog_12_method_4_code) (maxL := 3) (ret := (some (.object "JoinedTrees$Op"))) (by decide) rfl ?_
  intro p e s m args below meth c s₁ B hml hv
  obtain ⟨rfl, hsz, hP, hK, hD0, hev⟩ := hv
  have hx := B.exec
  have hb := B.bytes
  have hr := B.returns
  have hts : ∀ w9 ∈ gb, w9.before [.ref (ad 3), .int 0].toArray s = true := fun w9 h => atoms_spec (ws := Cond.code ⟨"JoinedTrees$View", "opAt", "(I)LJoinedTrees$Op;"⟩ prog_12_method_4_code 3 (some (.object "JoinedTrees$Op")) :: gb) B.pre w9 (List.mem_cons_of_mem _ h)
  have hown : s.vm.findClass "JoinedTrees$View" = some m.cls := findClass_of_methodNamed B.named
  have hlocks := B.notSynchronized
  subst hsz
  have hNS := ns_of hP
  have hD := hD0.self (sz := s.heap.size)
  generalize hAe : va_A (fxW ad ac ck) s.heap.size = A at hD hev hNS ⊢
  have hA : ∀ q : Nat, s.heap.size ≤ q → A q := fun q h => by rw [← hAe]; exact Or.inr h
  have hS : va_S A s.heap s.heap [] := va_S.rf
  have hP : va_P D cls (fxW ad ac ck) s.heap := hP
  have hl := lv_entry ([.ref (ad 3), .int 0]) (n := 3) (Nat.le_of_ble_eq_true rfl)
  rw [lg_entry_eq]
  generalize (lg_sl ([.ref (ad 3), .int 0]) ++ List.replicate (3 - (lg_sl ([.ref (ad 3), .int 0])).length) Slot.unset).toArray = ls at hl ⊢
  have hl : lv_has ls 3 [(0, .ref (ad 3)), (1, .int 0)] := hl
  refine lv_iload_n hx hb d_opAt_0 rfl (lv_at hl 1 rfl) ?_
  refine lv_if_ne (tgt := 12) hx hb d_opAt_1 (by decide) (fun h => absurd rfl h) (fun _ => ?_)
  refine lv_aload_n hx hb d_opAt_4 rfl (lv_at hl 0 rfl) ?_
  refine va_get (D := D) (ci := 10) (v := .ref (ad 1)) (C := R_Vw) (T := F_Vw) (N := 5) hx hb hts i_Vw hown hK hP 3 rfl rfl 0 (by decide) (hts _ kw_261) (fun _ h9 => h9) rfl d_opAt_5 ?_
  refine va_get (D := D) (ci := 8) (v := .ref (ad 5)) (C := R_St) (T := F_St) (N := 6) hx hb hts i_St hown hK hP 1 rfl rfl 0 (by decide) (hts _ kw_162) (fun _ h9 => h9) rfl d_opAt_8 ?_
  exact W.aret (v := .ref (ad 5)) hx hb hr (Or.inl ⟨_, rfl⟩) (Or.inr ⟨_, rfl⟩) (fun t ht hW => ⟨⟨(some (ad 5)), ck, rfl, rfl, by rw [ht]; exact hP, va_K.moved hW.alike hK, hD⟩, hS.F ht⟩) hS.2.2 d_opAt_11
theorem d_opAt_12 : decode prog_12_method_4_code 12 = .ok (.iload_n 1, 1) := by decide +kernel
theorem d_opAt_13 : decode prog_12_method_4_code 13 = .ok (.ifCond .lt 15, 3) := by decide +kernel
theorem d_opAt_28 : decode prog_12_method_4_code 28 = .ok (.aconst_null, 1) := by decide +kernel
theorem d_opAt_29 : decode prog_12_method_4_code 29 = .ok (.goto 12, 3) := by decide +kernel
theorem d_opAt_41 : decode prog_12_method_4_code 41 = .ok (.astore_n 2, 1) := by decide +kernel
theorem d_opAt_42 : decode prog_12_method_4_code 42 = .ok (.aload_n 2, 1) := by decide +kernel
theorem d_opAt_43 : decode prog_12_method_4_code 43 = .ok (.ifnull 11, 3) := by decide +kernel
theorem d_opAt_54 : decode prog_12_method_4_code 54 = .ok (.aconst_null, 1) := by decide +kernel
theorem d_opAt_55 : decode prog_12_method_4_code 55 = .ok (.goto 4, 3) := by decide +kernel
theorem d_opAt_59 : decode prog_12_method_4_code 59 = .ok (.areturn, 1) := by decide +kernel
theorem d_opAt_16 : decode prog_12_method_4_code 16 = .ok (.iload_n 1, 1) := by decide +kernel
theorem d_opAt_17 : decode prog_12_method_4_code 17 = .ok (.aload_n 0, 1) := by decide +kernel
theorem d_opAt_18 : decode prog_12_method_4_code 18 = .ok (.getfield 21, 3) := by decide +kernel
theorem d_opAt_21 : decode prog_12_method_4_code 21 = .ok (.getfield 59, 3) := by decide +kernel
theorem d_opAt_24 : decode prog_12_method_4_code 24 = .ok (.arraylength, 1) := by decide +kernel
theorem d_opAt_25 : decode prog_12_method_4_code 25 = .ok (.if_icmp .lt 7, 3) := by decide +kernel
theorem d_opAt_32 : decode prog_12_method_4_code 32 = .ok (.aload_n 0, 1) := by decide +kernel
theorem d_opAt_33 : decode prog_12_method_4_code 33 = .ok (.getfield 21, 3) := by decide +kernel
theorem d_opAt_36 : decode prog_12_method_4_code 36 = .ok (.getfield 59, 3) := by decide +kernel
theorem d_opAt_39 : decode prog_12_method_4_code 39 = .ok (.iload_n 1, 1) := by decide +kernel
theorem d_opAt_40 : decode prog_12_method_4_code 40 = .ok (.aaload, 1) := by decide +kernel
set_option maxHeartbeats 4000000 in
set_option maxRecDepth 100000 in
theorem c_opAtN (l : Launch) (hfl : l.flags = flags0) (D : va_G) (ad : Nat → Nat) (ac : Nat → ClassId) (ck : Nat → Int32) (sz : Nat) (id : Int32) (hq : ¬ id = 0) : Met l ⟨"JoinedTrees$View", "opAt", "(I)LJoinedTrees$Op;"⟩ (Cond.code ⟨"JoinedTrees$View", "opAt", "(I)LJoinedTrees$Op;"⟩ prog_12_method_4_code 3 (some (.object "JoinedTrees$Op")) :: gb) ({ frames := 0, cells := 0, slots := 0, locals := 0 }) (fxPc D ad ac ck sz [.ref (ad 3), .int id]) (va_Qq (fun (r : Option Nat) (_ : Nat → Int32) => r = none) (fun u t => fxO D ad ac (va_A (fxW ad ac ck) sz) u t) (va_A (fxW ad ac ck) sz)) 0 0 (va_A (fxW ad ac ck) sz) := by
  refine Met.ofW (cc := prog_12_method_4_code) (maxL := 3) (ret := (some (.object "JoinedTrees$Op"))) (by decide) rfl ?_
  intro p e s m args below meth c s₁ B hml hv
  obtain ⟨rfl, hsz, hP, hK, hD0, hev⟩ := hv
  have hx := B.exec
  have hb := B.bytes
  have hr := B.returns
  have hts : ∀ w9 ∈ gb, w9.before [.ref (ad 3), .int id].toArray s = true := fun w9 h => atoms_spec (ws := Cond.code ⟨"JoinedTrees$View", "opAt", "(I)LJoinedTrees$Op;"⟩ prog_12_method_4_code 3 (some (.object "JoinedTrees$Op")) :: gb) B.pre w9 (List.mem_cons_of_mem _ h)
  have hown : s.vm.findClass "JoinedTrees$View" = some m.cls := findClass_of_methodNamed B.named
  have hlocks := B.notSynchronized
  subst hsz
  have hNS := ns_of hP
  have hD := hD0.self (sz := s.heap.size)
  generalize hAe : va_A (fxW ad ac ck) s.heap.size = A at hD hev hNS ⊢
  have hA : ∀ q : Nat, s.heap.size ≤ q → A q := fun q h => by rw [← hAe]; exact Or.inr h
  have hS : va_S A s.heap s.heap [] := va_S.rf
  have hP : va_P D cls (fxW ad ac ck) s.heap := hP
  have hl := lv_entry ([.ref (ad 3), .int id]) (n := 3) (Nat.le_of_ble_eq_true rfl)
  rw [lg_entry_eq]
  generalize (lg_sl ([.ref (ad 3), .int id]) ++ List.replicate (3 - (lg_sl ([.ref (ad 3), .int id])).length) Slot.unset).toArray = ls at hl ⊢
  have hl : lv_has ls 3 [(0, .ref (ad 3)), (1, .int id)] := hl
  refine lv_iload_n hx hb d_opAt_0 rfl (lv_at hl 1 rfl) ?_
  refine lv_if_ne (tgt := 12) hx hb d_opAt_1 (by decide) (fun c_1 => ?_) (fun c_1 => ?_)
  · refine lv_iload_n hx hb d_opAt_12 rfl (lv_at hl 1 rfl) ?_
    refine lv_if_lt (tgt := 28) hx hb d_opAt_13 (by decide) (fun c_2 => ?_) (fun c_2 => ?_)
    · refine lv_null hx hb d_opAt_28 ?_
      refine lv_goto (tgt := 41) hx hb d_opAt_29 (by decide) ?_
      refine lv_astore_nN (lv' := [(2, .null), (0, .ref (ad 3)), (1, .int id)]) hx hb d_opAt_41 rfl hl (by decide) rfl (fun ls hl => ?_)
      refine lv_aload_nN hx hb d_opAt_42 rfl (lv_at hl 0 rfl) ?_
      refine lv_ifnullN (tgt := 54) hx hb d_opAt_43 (by decide) ?_
      refine lv_null hx hb d_opAt_54 ?_
      refine lv_goto (tgt := 59) hx hb d_opAt_55 (by decide) ?_
      exact W.aret (v := .null) hx hb hr (Or.inl ⟨_, rfl⟩) (Or.inl rfl) (fun t ht hW => ⟨⟨none, ck, rfl, rfl, by rw [ht]; exact hP, va_K.moved hW.alike hK, hD⟩, hS.F ht⟩) hS.2.2 d_opAt_59
    · refine lv_iload_n hx hb d_opAt_16 rfl (lv_at hl 1 rfl) ?_
      refine lv_aload_n hx hb d_opAt_17 rfl (lv_at hl 0 rfl) ?_
      refine va_get (D := D) (ci := 10) (v := .ref (ad 1)) (C := R_Vw) (T := F_Vw) (N := 5) hx hb hts i_Vw hown hK hP 3 rfl rfl 0 (by decide) (hts _ kw_261) (fun _ h9 => h9) rfl d_opAt_18 ?_
      refine va_get (D := D) (ci := 8) (v := .ref (ad 6)) (C := R_St) (T := F_St) (N := 6) hx hb hts i_St hown hK hP 1 rfl rfl 1 (by decide) (hts _ kw_165) (fun _ h9 => h9) rfl d_opAt_21 ?_
      refine va_alen (v := 32008) hx hb hK hP 6 3 rfl rfl (by decide) d_opAt_24 ?_
      refine lv_icmp_lt (tgt := 32) hx hb d_opAt_25 (by decide) (fun c_3 => ?_) (fun c_3 => ?_)
      · refine lv_aload_n hx hb d_opAt_32 rfl (lv_at hl 0 rfl) ?_
        refine va_get (D := D) (ci := 10) (v := .ref (ad 1)) (C := R_Vw) (T := F_Vw) (N := 5) hx hb hts i_Vw hown hK hP 3 rfl rfl 0 (by decide) (hts _ kw_261) (fun _ h9 => h9) rfl d_opAt_33 ?_
        refine va_get (D := D) (ci := 8) (v := .ref (ad 6)) (C := R_St) (T := F_St) (N := 6) hx hb hts i_St hown hK hP 1 rfl rfl 1 (by decide) (hts _ kw_165) (fun _ h9 => h9) rfl d_opAt_36 ?_
        refine lv_iload_n hx hb d_opAt_39 rfl (lv_at hl 1 rfl) ?_
        refine va_aldq hx hb hK hP 6 3 rfl rfl (i := id) (in_of (by decide) c_2 c_3) d_opAt_40 ?_
        refine w_v (y := .null) rfl ?_
        refine lv_astore_nN (lv' := [(2, .null), (0, .ref (ad 3)), (1, .int id)]) hx hb d_opAt_41 rfl hl (by decide) rfl (fun ls hl => ?_)
        refine lv_aload_nN hx hb d_opAt_42 rfl (lv_at hl 0 rfl) ?_
        refine lv_ifnullN (tgt := 54) hx hb d_opAt_43 (by decide) ?_
        refine lv_null hx hb d_opAt_54 ?_
        refine lv_goto (tgt := 59) hx hb d_opAt_55 (by decide) ?_
        exact W.aret (v := .null) hx hb hr (Or.inl ⟨_, rfl⟩) (Or.inl rfl) (fun t ht hW => ⟨⟨none, ck, rfl, rfl, by rw [ht]; exact hP, va_K.moved hW.alike hK, hD⟩, hS.F ht⟩) hS.2.2 d_opAt_59
      · refine lv_null hx hb d_opAt_28 ?_
        refine lv_goto (tgt := 41) hx hb d_opAt_29 (by decide) ?_
        refine lv_astore_nN (lv' := [(2, .null), (0, .ref (ad 3)), (1, .int id)]) hx hb d_opAt_41 rfl hl (by decide) rfl (fun ls hl => ?_)
        refine lv_aload_nN hx hb d_opAt_42 rfl (lv_at hl 0 rfl) ?_
        refine lv_ifnullN (tgt := 54) hx hb d_opAt_43 (by decide) ?_
        refine lv_null hx hb d_opAt_54 ?_
        refine lv_goto (tgt := 59) hx hb d_opAt_55 (by decide) ?_
        exact W.aret (v := .null) hx hb hr (Or.inl ⟨_, rfl⟩) (Or.inl rfl) (fun t ht hW => ⟨⟨none, ck, rfl, rfl, by rw [ht]; exact hP, va_K.moved hW.alike hK, hD⟩, hS.F ht⟩) hS.2.2 d_opAt_59
  · exfalso; simp_all
theorem d_isObj_0 : decode prog_5_method_2_code 0 = .ok (.aload_n 0, 1) := by decide +kernel
theorem d_isObj_1 : decode prog_5_method_2_code 1 = .ok (.getfield 19, 3) := by decide +kernel
theorem d_isObj_4 : decode prog_5_method_2_code 4 = .ok (.bipush 6, 2) := by decide +kernel
theorem d_isObj_6 : decode prog_5_method_2_code 6 = .ok (.if_icmp .lt 16, 3) := by decide +kernel
theorem d_isObj_9 : decode prog_5_method_2_code 9 = .ok (.aload_n 0, 1) := by decide +kernel
theorem d_isObj_10 : decode prog_5_method_2_code 10 = .ok (.getfield 19, 3) := by decide +kernel
theorem d_isObj_13 : decode prog_5_method_2_code 13 = .ok (.bipush 8, 2) := by decide +kernel
theorem d_isObj_15 : decode prog_5_method_2_code 15 = .ok (.if_icmp .gt 7, 3) := by decide +kernel
theorem d_isObj_18 : decode prog_5_method_2_code 18 = .ok (.iconst 1, 1) := by decide +kernel
theorem d_isObj_19 : decode prog_5_method_2_code 19 = .ok (.goto 4, 3) := by decide +kernel
theorem d_isObj_23 : decode prog_5_method_2_code 23 = .ok (.ireturn, 1) := by decide +kernel
set_option maxHeartbeats 4000000 in
set_option maxRecDepth 100000 in
theorem c_isObj (l : Launch) (hfl : l.flags = flags0) (D : va_G) (ad : Nat → Nat) (ac : Nat → ClassId) (ck : Nat → Int32) (sz : Nat) : Met l ⟨"JoinedTrees$Op", "isObject", "()Z"⟩ (Cond.code ⟨"JoinedTrees$Op", "isObject", "()Z"⟩ prog_5_method_2_code 1 (some .boolean) :: gb) ({ frames := 0, cells := 0, slots := 0, locals := 0 }) (fxPc D ad ac ck sz [.ref (ad 5)]) (va_Qi (fun (r : Int32) (_ : Nat → Int32) => r = 1) (fun u t => fxO D ad ac (va_A (fxW ad ac ck) sz) u t) (va_A (fxW ad ac ck) sz)) 0 0 (va_A (fxW ad ac ck) sz) := by
  refine Met.ofW (cc := prog_5_method_2_code) (maxL := 1) (ret := (some .boolean)) (by decide) rfl ?_
  intro p e s m args below meth c s₁ B hml hv
  obtain ⟨rfl, hsz, hP, hK, hD0, hev⟩ := hv
  have hx := B.exec
  have hb := B.bytes
  have hr := B.returns
  have hts : ∀ w9 ∈ gb, w9.before [.ref (ad 5)].toArray s = true := fun w9 h => atoms_spec (ws := Cond.code ⟨"JoinedTrees$Op", "isObject", "()Z"⟩ prog_5_method_2_code 1 (some .boolean) :: gb) B.pre w9 (List.mem_cons_of_mem _ h)
  have hown : s.vm.findClass "JoinedTrees$Op" = some m.cls := findClass_of_methodNamed B.named
  have hlocks := B.notSynchronized
  subst hsz
  have hNS := ns_of hP
  have hD := hD0.self (sz := s.heap.size)
  generalize hAe : va_A (fxW ad ac ck) s.heap.size = A at hD hev hNS ⊢
  have hA : ∀ q : Nat, s.heap.size ≤ q → A q := fun q h => by rw [← hAe]; exact Or.inr h
  have hS : va_S A s.heap s.heap [] := va_S.rf
  have hP : va_P D cls (fxW ad ac ck) s.heap := hP
  have hl := lv_entry ([.ref (ad 5)]) (n := 1) (Nat.le_of_ble_eq_true rfl)
  rw [lg_entry_eq]
  generalize (lg_sl ([.ref (ad 5)]) ++ List.replicate (1 - (lg_sl ([.ref (ad 5)])).length) Slot.unset).toArray = ls at hl ⊢
  have hl : lv_has ls 1 [(0, .ref (ad 5))] := hl
  refine lv_aload_n hx hb d_isObj_0 rfl (lv_at hl 0 rfl) ?_
  refine va_get (D := D) (ci := 3) (v := .int 6) (C := R_Op) (T := F_Op) (N := 15) hx hb hts i_Op hown hK hP 5 rfl rfl 2 (by decide) (hts _ kw_59) (fun _ h9 => h9) rfl d_isObj_1 ?_
  refine lv_bipush (v := 6) hx hb d_isObj_4 (by decide) ?_
  refine lv_icmp_lt (tgt := 22) hx hb d_isObj_6 (by decide) (fun h => absurd h (by decide)) (fun _ => ?_)
  refine lv_aload_n hx hb d_isObj_9 rfl (lv_at hl 0 rfl) ?_
  refine va_get (D := D) (ci := 3) (v := .int 6) (C := R_Op) (T := F_Op) (N := 15) hx hb hts i_Op hown hK hP 5 rfl rfl 2 (by decide) (hts _ kw_59) (fun _ h9 => h9) rfl d_isObj_10 ?_
  refine lv_bipush (v := 8) hx hb d_isObj_13 (by decide) ?_
  refine lv_icmp_gt (tgt := 22) hx hb d_isObj_15 (by decide) (fun h => absurd h (by decide)) (fun _ => ?_)
  refine lv_iconst (v := 1) hx hb d_isObj_18 (by decide) ?_
  refine lv_goto (tgt := 23) hx hb d_isObj_19 (by decide) ?_
  exact W.zret (ty := .boolean) (v := 1) hx hb hr rfl (fun t ht hW => ⟨⟨1, ck, rfl, rfl, by rw [ht]; exact hP, va_K.moved hW.alike hK, hD⟩, hS.F ht⟩) hS.2.2 d_isObj_23
theorem d_objAt_0 : decode prog_1_method_41_code 0 = .ok (.aload_n 0, 1) := by decide +kernel
theorem d_objAt_1 : decode prog_1_method_41_code 1 = .ok (.getfield 30, 3) := by decide +kernel
theorem d_objAt_4 : decode prog_1_method_41_code 4 = .ok (.iload_n 1, 1) := by decide +kernel
theorem d_objAt_5 : decode prog_1_method_41_code 5 = .ok (.invokevirtual 306, 3) := by decide +kernel
theorem d_objAt_8 : decode prog_1_method_41_code 8 = .ok (.astore_n 2, 1) := by decide +kernel
theorem d_objAt_9 : decode prog_1_method_41_code 9 = .ok (.aload_n 2, 1) := by decide +kernel
theorem d_objAt_10 : decode prog_1_method_41_code 10 = .ok (.ifnull 10, 3) := by decide +kernel
theorem d_objAt_13 : decode prog_1_method_41_code 13 = .ok (.aload_n 2, 1) := by decide +kernel
theorem d_objAt_14 : decode prog_1_method_41_code 14 = .ok (.invokevirtual 401, 3) := by decide +kernel
theorem d_objAt_17 : decode prog_1_method_41_code 17 = .ok (.ifCond .ne 11, 3) := by decide +kernel
theorem d_objAt_28 : decode prog_1_method_41_code 28 = .ok (.aload_n 2, 1) := by decide +kernel
theorem d_objAt_29 : decode prog_1_method_41_code 29 = .ok (.areturn, 1) := by decide +kernel
set_option maxHeartbeats 4000000 in
set_option maxRecDepth 100000 in
theorem c_objAt0 (l : Launch) (hfl : l.flags = flags0) (D : va_G) (ad : Nat → Nat) (ac : Nat → ClassId) (ck : Nat → Int32) (sz : Nat) : Met l ⟨"JoinedTrees", "objectAt", "(I)LJoinedTrees$Op;"⟩ (Cond.code ⟨"JoinedTrees", "objectAt", "(I)LJoinedTrees$Op;"⟩ prog_1_method_41_code 3 (some (.object "JoinedTrees$Op")) :: gb) ({ frames := 1, cells := 0, slots := 0, locals := 22 }) (fxPc D ad ac ck sz [.ref (ad 0), .int 0]) (va_Qq (fun (r : Option Nat) (_ : Nat → Int32) => r = some (ad 5)) (fun u t => fxO D ad ac (va_A (fxW ad ac ck) sz) u t) (va_A (fxW ad ac ck) sz)) 0 0 (va_A (fxW ad ac ck) sz) := by
  refine Met.ofW (cc := prog_1_method_41_code) (maxL := 3) (ret := (some (.object "JoinedTrees$Op"))) (by decide) rfl ?_
  intro p e s m args below meth c s₁ B hml hv
  obtain ⟨rfl, hsz, hP, hK, hD0, hev⟩ := hv
  have hx := B.exec
  have hb := B.bytes
  have hr := B.returns
  have hts : ∀ w9 ∈ gb, w9.before [.ref (ad 0), .int 0].toArray s = true := fun w9 h => atoms_spec (ws := Cond.code ⟨"JoinedTrees", "objectAt", "(I)LJoinedTrees$Op;"⟩ prog_1_method_41_code 3 (some (.object "JoinedTrees$Op")) :: gb) B.pre w9 (List.mem_cons_of_mem _ h)
  have hown : s.vm.findClass "JoinedTrees" = some m.cls := findClass_of_methodNamed B.named
  have hlocks := B.notSynchronized
  subst hsz
  have hNS := ns_of hP
  have hD := hD0.self (sz := s.heap.size)
  generalize hAe : va_A (fxW ad ac ck) s.heap.size = A at hD hev hNS ⊢
  have hA : ∀ q : Nat, s.heap.size ≤ q → A q := fun q h => by rw [← hAe]; exact Or.inr h
  have hS : va_S A s.heap s.heap [] := va_S.rf
  have hP : va_P D cls (fxW ad ac ck) s.heap := hP
  have hl := lv_entry ([.ref (ad 0), .int 0]) (n := 3) (Nat.le_of_ble_eq_true rfl)
  rw [lg_entry_eq]
  generalize (lg_sl ([.ref (ad 0), .int 0]) ++ List.replicate (3 - (lg_sl ([.ref (ad 0), .int 0])).length) Slot.unset).toArray = ls at hl ⊢
  have hl : lv_has ls 3 [(0, .ref (ad 0)), (1, .int 0)] := hl
  refine lv_aload_n hx hb d_objAt_0 rfl (lv_at hl 0 rfl) ?_
  refine va_get (D := D) (ci := 11) (v := .ref (ad 3)) (C := R_JT) (T := F_JT) (N := 13) hx hb hts i_JT hown hK hP 0 rfl rfl 2 (by decide) (hts _ kw_423) (fun _ h9 => h9) rfl d_objAt_1 ?_
  refine lv_iload_n hx hb d_objAt_4 rfl (lv_at hl 1 rfl) ?_
  have hFc := fr_all hD hS hA
  refine va_callq (va_runV (As := [.int 0]) (rest := []) ⟨hx, hb, hml, hown, hts⟩ (c_opAt0 l hfl D ad ac ck s.heap.size) (cw_v 1 hts kw_620 kw_617 kw_618 kw_619 kw_6 rfl rfl (by decide +kernel) ⟨Nat.le_of_ble_eq_true rfl, Nat.le_of_ble_eq_true rfl⟩) ⟨fx_blind, va_recv hK hP (ci := 10) (q0 := 3) rfl rfl, fun U hU hW => fx_pre hU hW hP hK hD hev hNS hS hFc⟩ rfl rfl hl.1 rfl (lv_room (Nat.le_of_ble_eq_true rfl)) d_objAt_5 ⟨Nat.le_of_ble_eq_true rfl, Nat.le_of_ble_eq_true rfl⟩) hS (fun q _ h => hFc q h) hFc (fun r_1 u_2 t H1 locs ht hvm hw hB hz1 hk1 hS => ?_)
  obtain ⟨hP, -, hD1⟩ := hB
  rw [ht] at hP
  have hD := hD1.weaken (fun _ q _ h => hFc q.1 h)
  generalize H1 = H at hP hS ⊢
  refine W.cs (cells' := 0) (slots' := 0) rfl rfl ?_
  subst hw
  refine w_v (y := .ref (ad 5)) rfl ?_
  refine lv_astore_n (lv' := [(2, .ref (ad 5)), (0, .ref (ad 0)), (1, .int 0)]) hx hb d_objAt_8 rfl hl (by decide) rfl (fun ls hl => ?_)
  refine lv_aload_n hx hb d_objAt_9 rfl (lv_at hl 0 rfl) ?_
  refine lv_ifnull hx hb d_objAt_10 ?_
  refine lv_aload_n hx hb d_objAt_13 rfl (lv_at hl 0 rfl) ?_
  have hFc := fr_all hD hS hA
  refine va_calli (va_runV (As := []) (rest := []) ⟨hx, hb, hml, hown, hts⟩ (c_isObj l hfl D ad ac u_2 H.size) (cw_v 0 hts kw_628 kw_625 kw_626 kw_627 kw_3 rfl rfl (by decide +kernel) ⟨Nat.le_of_ble_eq_true rfl, Nat.le_of_ble_eq_true rfl⟩) ⟨fx_blind, va_recv hK hP (ci := 3) (q0 := 5) rfl rfl, fun U hU hW => fx_pre hU hW hP hK hD hev hNS hS hFc⟩ rfl rfl hl.1 rfl (lv_room (Nat.le_of_ble_eq_true rfl)) d_objAt_14 ⟨Nat.le_of_ble_eq_true rfl, Nat.le_of_ble_eq_true rfl⟩) hS (fun q _ h => hFc q h) hFc (fun r_3 u_4 t H1 locs ht hvm hw hB hz1 hk1 hS => ?_)
  obtain ⟨hP, -, hD1⟩ := hB
  rw [ht] at hP
  have hD := hD1.weaken (fun _ q _ h => hFc q.1 h)
  generalize H1 = H at hP hS ⊢
  refine W.cs (cells' := 0) (slots' := 0) rfl rfl ?_
  subst hw
  refine lv_if_ne (tgt := 28) hx hb d_objAt_17 (by decide) (fun _ => ?_) (fun h => absurd h (by decide))
  refine lv_aload_n hx hb d_objAt_28 rfl (lv_at hl 0 rfl) ?_
  exact W.aret (v := .ref (ad 5)) hx hb hr (Or.inl ⟨_, rfl⟩) (Or.inr ⟨_, rfl⟩) (fun t ht hW => ⟨⟨(some (ad 5)), u_4, rfl, rfl, by rw [ht]; exact hP, va_K.moved hW.alike hK, hD⟩, hS.F ht⟩) hS.2.2 d_objAt_29
theorem d_objAt_20 : decode prog_1_method_41_code 20 = .ok (.new 178, 3) := by decide +kernel
theorem d_objAt_23 : decode prog_1_method_41_code 23 = .ok (.dup, 1) := by decide +kernel
theorem d_objAt_24 : decode prog_1_method_41_code 24 = .ok (.invokespecial 180, 3) := by decide +kernel
theorem d_objAt_27 : decode prog_1_method_41_code 27 = .ok (.athrow, 1) := by decide +kernel
set_option maxHeartbeats 4000000 in
set_option maxRecDepth 100000 in
theorem c_objAtN (l : Launch) (hfl : l.flags = flags0) (D : va_G) (ad : Nat → Nat) (ac : Nat → ClassId) (ck : Nat → Int32) (sz : Nat) (o : Int32) (hq : ¬ o = 0) : MeT l ⟨"JoinedTrees", "objectAt", "(I)LJoinedTrees$Op;"⟩ (Cond.code ⟨"JoinedTrees", "objectAt", "(I)LJoinedTrees$Op;"⟩ prog_1_method_41_code 3 (some (.object "JoinedTrees$Op")) :: gb) ({ frames := 6, cells := 1, slots := 6, locals := 96 }) (fxPc D ad ac ck sz [.ref (ad 0), .int o]) e_NE (va_A (fxW ad ac ck) sz) 1 6 := by
  refine MeT.ofW (cc := prog_1_method_41_code) (maxL := 3) (ret := (some (.object "JoinedTrees$Op"))) (by decide) rfl ?_
  intro p e s m args below meth c s₁ B hml hno hv
  obtain ⟨rfl, hsz, hP, hK, hD0, hev⟩ := hv
  have hx := B.exec
  have hb := B.bytes
  have hr := B.returns
  have hts : ∀ w9 ∈ gb, w9.before [.ref (ad 0), .int o].toArray s = true := fun w9 h => atoms_spec (ws := Cond.code ⟨"JoinedTrees", "objectAt", "(I)LJoinedTrees$Op;"⟩ prog_1_method_41_code 3 (some (.object "JoinedTrees$Op")) :: gb) B.pre w9 (List.mem_cons_of_mem _ h)
  have hown : s.vm.findClass "JoinedTrees" = some m.cls := findClass_of_methodNamed B.named
  have hlocks := B.notSynchronized
  subst hsz
  have hNS := ns_of hP
  have hD := hD0.self (sz := s.heap.size)
  generalize hAe : va_A (fxW ad ac ck) s.heap.size = A at hD hev hNS ⊢
  have hA : ∀ q : Nat, s.heap.size ≤ q → A q := fun q h => by rw [← hAe]; exact Or.inr h
  have hS : va_S A s.heap s.heap [] := va_S.rf
  have hP : va_P D cls (fxW ad ac ck) s.heap := hP
  have hl := lv_entry ([.ref (ad 0), .int o]) (n := 3) (Nat.le_of_ble_eq_true rfl)
  rw [lg_entry_eq]
  generalize (lg_sl ([.ref (ad 0), .int o]) ++ List.replicate (3 - (lg_sl ([.ref (ad 0), .int o])).length) Slot.unset).toArray = ls at hl ⊢
  have hl : lv_has ls 3 [(0, .ref (ad 0)), (1, .int o)] := hl
  refine lv_aload_n hx hb d_objAt_0 rfl (lv_at hl 0 rfl) ?_
  refine va_get (D := D) (ci := 11) (v := .ref (ad 3)) (C := R_JT) (T := F_JT) (N := 13) hx hb hts i_JT hown hK hP 0 rfl rfl 2 (by decide) (hts _ kw_423) (fun _ h9 => h9) rfl d_objAt_1 ?_
  refine lv_iload_n hx hb d_objAt_4 rfl (lv_at hl 1 rfl) ?_
  have hFc := fr_all hD hS hA
  refine va_callq (va_runV (As := [.int o]) (rest := []) ⟨hx, hb, hml, hown, hts⟩ (c_opAtN l hfl D ad ac ck s.heap.size o hq) (cw_v 1 hts kw_620 kw_617 kw_618 kw_619 kw_6 rfl rfl (by decide +kernel) ⟨Nat.le_of_ble_eq_true rfl, Nat.le_of_ble_eq_true rfl⟩) ⟨fx_blind, va_recv hK hP (ci := 10) (q0 := 3) rfl rfl, fun U hU hW => fx_pre hU hW hP hK hD hev hNS hS hFc⟩ rfl rfl hl.1 rfl (lv_room (Nat.le_of_ble_eq_true rfl)) d_objAt_5 ⟨Nat.le_of_ble_eq_true rfl, Nat.le_of_ble_eq_true rfl⟩) hS (fun q _ h => hFc q h) hFc (fun r_1 u_2 t H1 locs ht hvm hw hB hz1 hk1 hS => ?_)
  obtain ⟨hP, -, hD1⟩ := hB
  rw [ht] at hP
  have hD := hD1.weaken (fun _ q _ h => hFc q.1 h)
  generalize H1 = H at hP hS ⊢
  refine W.cs (cells' := 0) (slots' := 0) rfl rfl ?_
  subst hw
  refine w_v (y := .null) rfl ?_
  refine lv_astore_nN (lv' := [(2, .null), (0, .ref (ad 0)), (1, .int o)]) hx hb d_objAt_8 rfl hl (by decide) rfl (fun ls hl => ?_)
  refine lv_aload_nN hx hb d_objAt_9 rfl (lv_at hl 0 rfl) ?_
  refine lv_ifnullN (tgt := 20) hx hb d_objAt_10 (by decide) ?_
  exact tx_throw (own := "JoinedTrees") (E := e_NE) (names := at_n) (ia := 178) (ic := 180) hfl hx hb hno hlocks hown (by decide +kernel) (by decide +kernel) (hev.atoms hts hev.2.2.2.2.2.1.2.2.1 at_NE) (hts _ kw_629) (hts _ kw_18) d_objAt_20 d_objAt_23 d_objAt_24 d_objAt_27 (hl.1.trans hml.symm) hS hA hNS (Nat.le_of_ble_eq_true rfl) (Nat.le_of_ble_eq_true rfl) (Nat.le_of_ble_eq_true rfl) (Nat.le_of_ble_eq_true rfl)
theorem d_mapAt_0 : decode prog_1_method_42_code 0 = .ok (.aload_n 0, 1) := by decide +kernel
theorem d_mapAt_1 : decode prog_1_method_42_code 1 = .ok (.iload_n 1, 1) := by decide +kernel
theorem d_mapAt_2 : decode prog_1_method_42_code 2 = .ok (.invokevirtual 168, 3) := by decide +kernel
theorem d_mapAt_5 : decode prog_1_method_42_code 5 = .ok (.astore_n 2, 1) := by decide +kernel
theorem d_mapAt_6 : decode prog_1_method_42_code 6 = .ok (.aload_n 2, 1) := by decide +kernel
theorem d_mapAt_7 : decode prog_1_method_42_code 7 = .ok (.getfield 171, 3) := by decide +kernel
theorem d_mapAt_10 : decode prog_1_method_42_code 10 = .ok (.bipush 6, 2) := by decide +kernel
theorem d_mapAt_12 : decode prog_1_method_42_code 12 = .ok (.if_icmp .eq 11, 3) := by decide +kernel
theorem d_mapAt_23 : decode prog_1_method_42_code 23 = .ok (.aload_n 2, 1) := by decide +kernel
theorem d_mapAt_24 : decode prog_1_method_42_code 24 = .ok (.areturn, 1) := by decide +kernel
set_option maxHeartbeats 4000000 in
set_option maxRecDepth 100000 in
theorem c_mapAt0 (l : Launch) (hfl : l.flags = flags0) (D : va_G) (ad : Nat → Nat) (ac : Nat → ClassId) (ck : Nat → Int32) (sz : Nat) : Met l ⟨"JoinedTrees", "mapAt", "(I)LJoinedTrees$Op;"⟩ (Cond.code ⟨"JoinedTrees", "mapAt", "(I)LJoinedTrees$Op;"⟩ prog_1_method_42_code 3 (some (.object "JoinedTrees$Op")) :: gb) ({ frames := 2, cells := 0, slots := 0, locals := 44 }) (fxPc D ad ac ck sz [.ref (ad 0), .int 0]) (va_Qq (fun (r : Option Nat) (_ : Nat → Int32) => r = some (ad 5)) (fun u t => fxO D ad ac (va_A (fxW ad ac ck) sz) u t) (va_A (fxW ad ac ck) sz)) 0 0 (va_A (fxW ad ac ck) sz) := by
  refine Met.ofW (cc := prog_1_method_42_code) (maxL := 3) (ret := (some (.object "JoinedTrees$Op"))) (by decide) rfl ?_
  intro p e s m args below meth c s₁ B hml hv
  obtain ⟨rfl, hsz, hP, hK, hD0, hev⟩ := hv
  have hx := B.exec
  have hb := B.bytes
  have hr := B.returns
  have hts : ∀ w9 ∈ gb, w9.before [.ref (ad 0), .int 0].toArray s = true := fun w9 h => atoms_spec (ws := Cond.code ⟨"JoinedTrees", "mapAt", "(I)LJoinedTrees$Op;"⟩ prog_1_method_42_code 3 (some (.object "JoinedTrees$Op")) :: gb) B.pre w9 (List.mem_cons_of_mem _ h)
  have hown : s.vm.findClass "JoinedTrees" = some m.cls := findClass_of_methodNamed B.named
  have hlocks := B.notSynchronized
  subst hsz
  have hNS := ns_of hP
  have hD := hD0.self (sz := s.heap.size)
  generalize hAe : va_A (fxW ad ac ck) s.heap.size = A at hD hev hNS ⊢
  have hA : ∀ q : Nat, s.heap.size ≤ q → A q := fun q h => by rw [← hAe]; exact Or.inr h
  have hS : va_S A s.heap s.heap [] := va_S.rf
  have hP : va_P D cls (fxW ad ac ck) s.heap := hP
  have hl := lv_entry ([.ref (ad 0), .int 0]) (n := 3) (Nat.le_of_ble_eq_true rfl)
  rw [lg_entry_eq]
  generalize (lg_sl ([.ref (ad 0), .int 0]) ++ List.replicate (3 - (lg_sl ([.ref (ad 0), .int 0])).length) Slot.unset).toArray = ls at hl ⊢
  have hl : lv_has ls 3 [(0, .ref (ad 0)), (1, .int 0)] := hl
  refine lv_aload_n hx hb d_mapAt_0 rfl (lv_at hl 0 rfl) ?_
  refine lv_iload_n hx hb d_mapAt_1 rfl (lv_at hl 1 rfl) ?_
  have hFc := fr_all hD hS hA
  refine va_callq (va_runV (As := [.int 0]) (rest := []) ⟨hx, hb, hml, hown, hts⟩ (c_objAt0 l hfl D ad ac ck s.heap.size) (cw_v 1 hts kw_616 kw_613 kw_615 kp_7 kw_1 rfl rfl (by decide +kernel) ⟨Nat.le_of_ble_eq_true rfl, Nat.le_of_ble_eq_true rfl⟩) ⟨fx_blind, va_recv hK hP (ci := 11) (q0 := 0) rfl rfl, fun U hU hW => fx_pre hU hW hP hK hD hev hNS hS hFc⟩ rfl rfl hl.1 rfl (lv_room (Nat.le_of_ble_eq_true rfl)) d_mapAt_2 ⟨Nat.le_of_ble_eq_true rfl, Nat.le_of_ble_eq_true rfl⟩) hS (fun q _ h => hFc q h) hFc (fun r_1 u_2 t H1 locs ht hvm hw hB hz1 hk1 hS => ?_)
  obtain ⟨hP, -, hD1⟩ := hB
  rw [ht] at hP
  have hD := hD1.weaken (fun _ q _ h => hFc q.1 h)
  generalize H1 = H at hP hS ⊢
  refine W.cs (cells' := 0) (slots' := 0) rfl rfl ?_
  subst hw
  refine w_v (y := .ref (ad 5)) rfl ?_
  refine lv_astore_n (lv' := [(2, .ref (ad 5)), (0, .ref (ad 0)), (1, .int 0)]) hx hb d_mapAt_5 rfl hl (by decide) rfl (fun ls hl => ?_)
  refine lv_aload_n hx hb d_mapAt_6 rfl (lv_at hl 0 rfl) ?_
  refine va_get (D := D) (ci := 3) (v := .int 6) (C := R_Op) (T := F_Op) (N := 15) hx hb hts i_Op hown hK hP 5 rfl rfl 2 (by decide) (hts _ kw_62) (fun _ h9 => h9) rfl d_mapAt_7 ?_
  refine lv_bipush (v := 6) hx hb d_mapAt_10 (by decide) ?_
  refine lv_icmp_eq (tgt := 23) hx hb d_mapAt_12 (by decide) (fun _ => ?_) (fun h => absurd h (by decide))
  refine lv_aload_n hx hb d_mapAt_23 rfl (lv_at hl 0 rfl) ?_
  exact W.aret (v := .ref (ad 5)) hx hb hr (Or.inl ⟨_, rfl⟩) (Or.inr ⟨_, rfl⟩) (fun t ht hW => ⟨⟨(some (ad 5)), u_2, rfl, rfl, by rw [ht]; exact hP, va_K.moved hW.alike hK, hD⟩, hS.F ht⟩) hS.2.2 d_mapAt_24
set_option maxHeartbeats 4000000 in
set_option maxRecDepth 100000 in
theorem c_mapAtN (l : Launch) (hfl : l.flags = flags0) (D : va_G) (ad : Nat → Nat) (ac : Nat → ClassId) (ck : Nat → Int32) (sz : Nat) (o : Int32) (hq : ¬ o = 0) : MeT l ⟨"JoinedTrees", "mapAt", "(I)LJoinedTrees$Op;"⟩ (Cond.code ⟨"JoinedTrees", "mapAt", "(I)LJoinedTrees$Op;"⟩ prog_1_method_42_code 3 (some (.object "JoinedTrees$Op")) :: gb) ({ frames := 7, cells := 1, slots := 6, locals := 118 }) (fxPc D ad ac ck sz [.ref (ad 0), .int o]) e_NE (va_A (fxW ad ac ck) sz) 1 6 := by
  refine MeT.ofW (cc := prog_1_method_42_code) (maxL := 3) (ret := (some (.object "JoinedTrees$Op"))) (by decide) rfl ?_
  intro p e s m args below meth c s₁ B hml hno hv
  obtain ⟨rfl, hsz, hP, hK, hD0, hev⟩ := hv
  have hx := B.exec
  have hb := B.bytes
  have hr := B.returns
  have hts : ∀ w9 ∈ gb, w9.before [.ref (ad 0), .int o].toArray s = true := fun w9 h => atoms_spec (ws := Cond.code ⟨"JoinedTrees", "mapAt", "(I)LJoinedTrees$Op;"⟩ prog_1_method_42_code 3 (some (.object "JoinedTrees$Op")) :: gb) B.pre w9 (List.mem_cons_of_mem _ h)
  have hown : s.vm.findClass "JoinedTrees" = some m.cls := findClass_of_methodNamed B.named
  have hlocks := B.notSynchronized
  subst hsz
  have hNS := ns_of hP
  have hD := hD0.self (sz := s.heap.size)
  generalize hAe : va_A (fxW ad ac ck) s.heap.size = A at hD hev hNS ⊢
  have hA : ∀ q : Nat, s.heap.size ≤ q → A q := fun q h => by rw [← hAe]; exact Or.inr h
  have hS : va_S A s.heap s.heap [] := va_S.rf
  have hP : va_P D cls (fxW ad ac ck) s.heap := hP
  have hl := lv_entry ([.ref (ad 0), .int o]) (n := 3) (Nat.le_of_ble_eq_true rfl)
  rw [lg_entry_eq]
  generalize (lg_sl ([.ref (ad 0), .int o]) ++ List.replicate (3 - (lg_sl ([.ref (ad 0), .int o])).length) Slot.unset).toArray = ls at hl ⊢
  have hl : lv_has ls 3 [(0, .ref (ad 0)), (1, .int o)] := hl
  refine lv_aload_n hx hb d_mapAt_0 rfl (lv_at hl 0 rfl) ?_
  refine lv_iload_n hx hb d_mapAt_1 rfl (lv_at hl 1 rfl) ?_
  have hFc := fr_all hD hS hA
  exact tx_on (tx_runV (As := [.int o]) (rest := []) ⟨hx, hb, hml, hown, hts⟩ (c_objAtN l hfl D ad ac ck s.heap.size o hq) (cw_v 1 hts kw_616 kw_613 kw_615 kp_7 kw_1 rfl rfl (by decide +kernel) ⟨Nat.le_of_ble_eq_true rfl, Nat.le_of_ble_eq_true rfl⟩) ⟨fx_blind, va_recv hK hP (ci := 11) (q0 := 0) rfl rfl, fun U hU hW => fx_pre hU hW hP hK hD hev hNS hS hFc⟩ rfl rfl hl.1 rfl (lv_room (Nat.le_of_ble_eq_true rfl)) d_mapAt_2 ⟨Nat.le_of_ble_eq_true rfl, Nat.le_of_ble_eq_true rfl⟩) hno hlocks hS hFc
theorem d_listAt_0 : decode prog_1_method_43_code 0 = .ok (.aload_n 0, 1) := by decide +kernel
theorem d_listAt_1 : decode prog_1_method_43_code 1 = .ok (.iload_n 1, 1) := by decide +kernel
theorem d_listAt_2 : decode prog_1_method_43_code 2 = .ok (.invokevirtual 168, 3) := by decide +kernel
theorem d_listAt_5 : decode prog_1_method_43_code 5 = .ok (.astore_n 2, 1) := by decide +kernel
theorem d_listAt_6 : decode prog_1_method_43_code 6 = .ok (.aload_n 2, 1) := by decide +kernel
theorem d_listAt_7 : decode prog_1_method_43_code 7 = .ok (.getfield 171, 3) := by decide +kernel
theorem d_listAt_10 : decode prog_1_method_43_code 10 = .ok (.bipush 6, 2) := by decide +kernel
theorem d_listAt_12 : decode prog_1_method_43_code 12 = .ok (.if_icmp .ne 11, 3) := by decide +kernel
theorem d_listAt_15 : decode prog_1_method_43_code 15 = .ok (.new 93, 3) := by decide +kernel
theorem d_listAt_18 : decode prog_1_method_43_code 18 = .ok (.dup, 1) := by decide +kernel
theorem d_listAt_19 : decode prog_1_method_43_code 19 = .ok (.invokespecial 95, 3) := by decide +kernel
theorem d_listAt_22 : decode prog_1_method_43_code 22 = .ok (.athrow, 1) := by decide +kernel
set_option maxHeartbeats 4000000 in
set_option maxRecDepth 100000 in
theorem c_listAt0 (l : Launch) (hfl : l.flags = flags0) (D : va_G) (ad : Nat → Nat) (ac : Nat → ClassId) (ck : Nat → Int32) (sz : Nat) : MeT l ⟨"JoinedTrees", "listAt", "(I)LJoinedTrees$Op;"⟩ (Cond.code ⟨"JoinedTrees", "listAt", "(I)LJoinedTrees$Op;"⟩ prog_1_method_43_code 3 (some (.object "JoinedTrees$Op")) :: gb) ({ frames := 6, cells := 1, slots := 6, locals := 96 }) (fxPc D ad ac ck sz [.ref (ad 0), .int 0]) e_IA (va_A (fxW ad ac ck) sz) 1 6 := by
  refine MeT.ofW (cc := prog_1_method_43_code) (maxL := 3) (ret := (some (.object "JoinedTrees$Op"))) (by decide) rfl ?_
  intro p e s m args below meth c s₁ B hml hno hv
  obtain ⟨rfl, hsz, hP, hK, hD0, hev⟩ := hv
  have hx := B.exec
  have hb := B.bytes
  have hr := B.returns
  have hts : ∀ w9 ∈ gb, w9.before [.ref (ad 0), .int 0].toArray s = true := fun w9 h => atoms_spec (ws := Cond.code ⟨"JoinedTrees", "listAt", "(I)LJoinedTrees$Op;"⟩ prog_1_method_43_code 3 (some (.object "JoinedTrees$Op")) :: gb) B.pre w9 (List.mem_cons_of_mem _ h)
  have hown : s.vm.findClass "JoinedTrees" = some m.cls := findClass_of_methodNamed B.named
  have hlocks := B.notSynchronized
  subst hsz
  have hNS := ns_of hP
  have hD := hD0.self (sz := s.heap.size)
  generalize hAe : va_A (fxW ad ac ck) s.heap.size = A at hD hev hNS ⊢
  have hA : ∀ q : Nat, s.heap.size ≤ q → A q := fun q h => by rw [← hAe]; exact Or.inr h
  have hS : va_S A s.heap s.heap [] := va_S.rf
  have hP : va_P D cls (fxW ad ac ck) s.heap := hP
  have hl := lv_entry ([.ref (ad 0), .int 0]) (n := 3) (Nat.le_of_ble_eq_true rfl)
  rw [lg_entry_eq]
  generalize (lg_sl ([.ref (ad 0), .int 0]) ++ List.replicate (3 - (lg_sl ([.ref (ad 0), .int 0])).length) Slot.unset).toArray = ls at hl ⊢
  have hl : lv_has ls 3 [(0, .ref (ad 0)), (1, .int 0)] := hl
  refine lv_aload_n hx hb d_listAt_0 rfl (lv_at hl 0 rfl) ?_
  refine lv_iload_n hx hb d_listAt_1 rfl (lv_at hl 1 rfl) ?_
  have hFc := fr_all hD hS hA
  refine va_callq (va_runV (As := [.int 0]) (rest := []) ⟨hx, hb, hml, hown, hts⟩ (c_objAt0 l hfl D ad ac ck s.heap.size) (cw_v 1 hts kw_616 kw_613 kw_615 kp_7 kw_1 rfl rfl (by decide +kernel) ⟨Nat.le_of_ble_eq_true rfl, Nat.le_of_ble_eq_true rfl⟩) ⟨fx_blind, va_recv hK hP (ci := 11) (q0 := 0) rfl rfl, fun U hU hW => fx_pre hU hW hP hK hD hev hNS hS hFc⟩ rfl rfl hl.1 rfl (lv_room (Nat.le_of_ble_eq_true rfl)) d_listAt_2 ⟨Nat.le_of_ble_eq_true rfl, Nat.le_of_ble_eq_true rfl⟩) hS (fun q _ h => hFc q h) hFc (fun r_1 u_2 t H1 locs ht hvm hw hB hz1 hk1 hS => ?_)
  obtain ⟨hP, -, hD1⟩ := hB
  rw [ht] at hP
  have hD := hD1.weaken (fun _ q _ h => hFc q.1 h)
  generalize H1 = H at hP hS ⊢
  refine W.cs (cells' := 0) (slots' := 0) rfl rfl ?_
  subst hw
  refine w_v (y := .ref (ad 5)) rfl ?_
  refine lv_astore_n (lv' := [(2, .ref (ad 5)), (0, .ref (ad 0)), (1, .int 0)]) hx hb d_listAt_5 rfl hl (by decide) rfl (fun ls hl => ?_)
  refine lv_aload_n hx hb d_listAt_6 rfl (lv_at hl 0 rfl) ?_
  refine va_get (D := D) (ci := 3) (v := .int 6) (C := R_Op) (T := F_Op) (N := 15) hx hb hts i_Op hown hK hP 5 rfl rfl 2 (by decide) (hts _ kw_62) (fun _ h9 => h9) rfl d_listAt_7 ?_
  refine lv_bipush (v := 6) hx hb d_listAt_10 (by decide) ?_
  refine lv_icmp_ne (tgt := 23) hx hb d_listAt_12 (by decide) (fun h => absurd rfl h) (fun _ => ?_)
  exact tx_throw (own := "JoinedTrees") (E := e_IA) (names := at_n) (ia := 93) (ic := 95) hfl hx hb hno hlocks hown (by decide +kernel) (by decide +kernel) (hev.atoms hts hev.2.2.2.2.2.1.1 at_IA) (hts _ kw_558) (hts _ kw_16) d_listAt_15 d_listAt_18 d_listAt_19 d_listAt_22 (hl.1.trans hml.symm) hS hA hNS (Nat.le_of_ble_eq_true rfl) (Nat.le_of_ble_eq_true rfl) (Nat.le_of_ble_eq_true rfl) (Nat.le_of_ble_eq_true rfl)
set_option maxHeartbeats 4000000 in
set_option maxRecDepth 100000 in
theorem c_listAtN (l : Launch) (hfl : l.flags = flags0) (D : va_G) (ad : Nat → Nat) (ac : Nat → ClassId) (ck : Nat → Int32) (sz : Nat) (o : Int32) (hq : ¬ o = 0) : MeT l ⟨"JoinedTrees", "listAt", "(I)LJoinedTrees$Op;"⟩ (Cond.code ⟨"JoinedTrees", "listAt", "(I)LJoinedTrees$Op;"⟩ prog_1_method_43_code 3 (some (.object "JoinedTrees$Op")) :: gb) ({ frames := 7, cells := 1, slots := 6, locals := 118 }) (fxPc D ad ac ck sz [.ref (ad 0), .int o]) e_NE (va_A (fxW ad ac ck) sz) 1 6 := by
  refine MeT.ofW (cc := prog_1_method_43_code) (maxL := 3) (ret := (some (.object "JoinedTrees$Op"))) (by decide) rfl ?_
  intro p e s m args below meth c s₁ B hml hno hv
  obtain ⟨rfl, hsz, hP, hK, hD0, hev⟩ := hv
  have hx := B.exec
  have hb := B.bytes
  have hr := B.returns
  have hts : ∀ w9 ∈ gb, w9.before [.ref (ad 0), .int o].toArray s = true := fun w9 h => atoms_spec (ws := Cond.code ⟨"JoinedTrees", "listAt", "(I)LJoinedTrees$Op;"⟩ prog_1_method_43_code 3 (some (.object "JoinedTrees$Op")) :: gb) B.pre w9 (List.mem_cons_of_mem _ h)
  have hown : s.vm.findClass "JoinedTrees" = some m.cls := findClass_of_methodNamed B.named
  have hlocks := B.notSynchronized
  subst hsz
  have hNS := ns_of hP
  have hD := hD0.self (sz := s.heap.size)
  generalize hAe : va_A (fxW ad ac ck) s.heap.size = A at hD hev hNS ⊢
  have hA : ∀ q : Nat, s.heap.size ≤ q → A q := fun q h => by rw [← hAe]; exact Or.inr h
  have hS : va_S A s.heap s.heap [] := va_S.rf
  have hP : va_P D cls (fxW ad ac ck) s.heap := hP
  have hl := lv_entry ([.ref (ad 0), .int o]) (n := 3) (Nat.le_of_ble_eq_true rfl)
  rw [lg_entry_eq]
  generalize (lg_sl ([.ref (ad 0), .int o]) ++ List.replicate (3 - (lg_sl ([.ref (ad 0), .int o])).length) Slot.unset).toArray = ls at hl ⊢
  have hl : lv_has ls 3 [(0, .ref (ad 0)), (1, .int o)] := hl
  refine lv_aload_n hx hb d_listAt_0 rfl (lv_at hl 0 rfl) ?_
  refine lv_iload_n hx hb d_listAt_1 rfl (lv_at hl 1 rfl) ?_
  have hFc := fr_all hD hS hA
  exact tx_on (tx_runV (As := [.int o]) (rest := []) ⟨hx, hb, hml, hown, hts⟩ (c_objAtN l hfl D ad ac ck s.heap.size o hq) (cw_v 1 hts kw_616 kw_613 kw_615 kp_7 kw_1 rfl rfl (by decide +kernel) ⟨Nat.le_of_ble_eq_true rfl, Nat.le_of_ble_eq_true rfl⟩) ⟨fx_blind, va_recv hK hP (ci := 11) (q0 := 0) rfl rfl, fun U hU hW => fx_pre hU hW hP hK hD hev hNS hS hFc⟩ rfl rfl hl.1 rfl (lv_room (Nat.le_of_ble_eq_true rfl)) d_listAt_2 ⟨Nat.le_of_ble_eq_true rfl, Nat.le_of_ble_eq_true rfl⟩) hno hlocks hS hFc
theorem d_plAt_0 : decode prog_1_method_44_code 0 = .ok (.iload_n 2, 1) := by decide +kernel
theorem d_plAt_1 : decode prog_1_method_44_code 1 = .ok (.iconst (-1), 1) := by decide +kernel
theorem d_plAt_2 : decode prog_1_method_44_code 2 = .ok (.if_icmp .ne 30, 3) := by decide +kernel
theorem d_plAt_32 : decode prog_1_method_44_code 32 = .ok (.aload_n 0, 1) := by decide +kernel
theorem d_plAt_33 : decode prog_1_method_44_code 33 = .ok (.getfield 30, 3) := by decide +kernel
theorem d_plAt_36 : decode prog_1_method_44_code 36 = .ok (.aload_n 0, 1) := by decide +kernel
theorem d_plAt_37 : decode prog_1_method_44_code 37 = .ok (.iload_n 1, 1) := by decide +kernel
theorem d_plAt_38 : decode prog_1_method_44_code 38 = .ok (.invokevirtual 145, 3) := by decide +kernel
set_option maxHeartbeats 4000000 in
set_option maxRecDepth 100000 in
theorem c_plAt0 (l : Launch) (hfl : l.flags = flags0) (D : va_G) (ad : Nat → Nat) (ac : Nat → ClassId) (ck : Nat → Int32) (sz : Nat) (i : Int32) (hi : ¬ i = -1) : MeT l ⟨"JoinedTrees", "placeAt", "(II)LJoinedTrees$Spot;"⟩ (Cond.code ⟨"JoinedTrees", "placeAt", "(II)LJoinedTrees$Spot;"⟩ prog_1_method_44_code 4 (some (.object "JoinedTrees$Spot")) :: gb) ({ frames := 7, cells := 1, slots := 6, locals := 118 }) (fxPc D ad ac ck sz [.ref (ad 0), .int 0, .int i]) e_IA (va_A (fxW ad ac ck) sz) 1 6 := by
  refine MeT.ofW (cc := prog_1_method_44_code) (maxL := 4) (ret := (some (.object "JoinedTrees$Spot"))) (by decide) rfl ?_
  intro p e s m args below meth c s₁ B hml hno hv
  obtain ⟨rfl, hsz, hP, hK, hD0, hev⟩ := hv
  have hx := B.exec
  have hb := B.bytes
  have hr := B.returns
  have hts : ∀ w9 ∈ gb, w9.before [.ref (ad 0), .int 0, .int i].toArray s = true := fun w9 h => atoms_spec (ws := Cond.code ⟨"JoinedTrees", "placeAt", "(II)LJoinedTrees$Spot;"⟩ prog_1_method_44_code 4 (some (.object "JoinedTrees$Spot")) :: gb) B.pre w9 (List.mem_cons_of_mem _ h)
  have hown : s.vm.findClass "JoinedTrees" = some m.cls := findClass_of_methodNamed B.named
  have hlocks := B.notSynchronized
  subst hsz
  have hNS := ns_of hP
  have hD := hD0.self (sz := s.heap.size)
  generalize hAe : va_A (fxW ad ac ck) s.heap.size = A at hD hev hNS ⊢
  have hA : ∀ q : Nat, s.heap.size ≤ q → A q := fun q h => by rw [← hAe]; exact Or.inr h
  have hS : va_S A s.heap s.heap [] := va_S.rf
  have hP : va_P D cls (fxW ad ac ck) s.heap := hP
  have hl := lv_entry ([.ref (ad 0), .int 0, .int i]) (n := 4) (Nat.le_of_ble_eq_true rfl)
  rw [lg_entry_eq]
  generalize (lg_sl ([.ref (ad 0), .int 0, .int i]) ++ List.replicate (4 - (lg_sl ([.ref (ad 0), .int 0, .int i])).length) Slot.unset).toArray = ls at hl ⊢
  have hl : lv_has ls 4 [(0, .ref (ad 0)), (1, .int 0), (2, .int i)] := hl
  refine lv_iload_n hx hb d_plAt_0 rfl (lv_at hl 2 rfl) ?_
  refine lv_iconst (v := (-1)) hx hb d_plAt_1 (by decide) ?_
  refine lv_icmp_ne (tgt := 32) hx hb d_plAt_2 (by decide) (fun c_1 => ?_) (fun c_1 => ?_)
  · refine lv_aload_n hx hb d_plAt_32 rfl (lv_at hl 0 rfl) ?_
    refine va_get (D := D) (ci := 11) (v := .ref (ad 3)) (C := R_JT) (T := F_JT) (N := 13) hx hb hts i_JT hown hK hP 0 rfl rfl 2 (by decide) (hts _ kw_423) (fun _ h9 => h9) rfl d_plAt_33 ?_
    refine lv_aload_n hx hb d_plAt_36 rfl (lv_at hl 0 rfl) ?_
    refine lv_iload_n hx hb d_plAt_37 rfl (lv_at hl 1 rfl) ?_
    have hFc := fr_all hD hS hA
    exact tx_on (tx_runV (As := [.int 0]) (rest := [.ref (ad 3)]) ⟨hx, hb, hml, hown, hts⟩ (c_listAt0 l hfl D ad ac ck s.heap.size) (cw_v 1 hts kw_776 kw_773 kw_775 kp_13 kw_1 rfl rfl (by decide +kernel) ⟨Nat.le_of_ble_eq_true rfl, Nat.le_of_ble_eq_true rfl⟩) ⟨fx_blind, va_recv hK hP (ci := 11) (q0 := 0) rfl rfl, fun U hU hW => fx_pre hU hW hP hK hD hev hNS hS hFc⟩ rfl rfl hl.1 rfl (lv_room (Nat.le_of_ble_eq_true rfl)) d_plAt_38 ⟨Nat.le_of_ble_eq_true rfl, Nat.le_of_ble_eq_true rfl⟩) hno hlocks hS hFc
  · exfalso; simp_all
set_option maxHeartbeats 4000000 in
set_option maxRecDepth 100000 in
theorem c_plAtN (l : Launch) (hfl : l.flags = flags0) (D : va_G) (ad : Nat → Nat) (ac : Nat → ClassId) (ck : Nat → Int32) (sz : Nat) (o i : Int32) (hq : ¬ o = 0) (hi : ¬ i = -1) : MeT l ⟨"JoinedTrees", "placeAt", "(II)LJoinedTrees$Spot;"⟩ (Cond.code ⟨"JoinedTrees", "placeAt", "(II)LJoinedTrees$Spot;"⟩ prog_1_method_44_code 4 (some (.object "JoinedTrees$Spot")) :: gb) ({ frames := 8, cells := 1, slots := 6, locals := 140 }) (fxPc D ad ac ck sz [.ref (ad 0), .int o, .int i]) e_NE (va_A (fxW ad ac ck) sz) 1 6 := by
  refine MeT.ofW (cc := prog_1_method_44_code) (maxL := 4) (ret := (some (.object "JoinedTrees$Spot"))) (by decide) rfl ?_
  intro p e s m args below meth c s₁ B hml hno hv
  obtain ⟨rfl, hsz, hP, hK, hD0, hev⟩ := hv
  have hx := B.exec
  have hb := B.bytes
  have hr := B.returns
  have hts : ∀ w9 ∈ gb, w9.before [.ref (ad 0), .int o, .int i].toArray s = true := fun w9 h => atoms_spec (ws := Cond.code ⟨"JoinedTrees", "placeAt", "(II)LJoinedTrees$Spot;"⟩ prog_1_method_44_code 4 (some (.object "JoinedTrees$Spot")) :: gb) B.pre w9 (List.mem_cons_of_mem _ h)
  have hown : s.vm.findClass "JoinedTrees" = some m.cls := findClass_of_methodNamed B.named
  have hlocks := B.notSynchronized
  subst hsz
  have hNS := ns_of hP
  have hD := hD0.self (sz := s.heap.size)
  generalize hAe : va_A (fxW ad ac ck) s.heap.size = A at hD hev hNS ⊢
  have hA : ∀ q : Nat, s.heap.size ≤ q → A q := fun q h => by rw [← hAe]; exact Or.inr h
  have hS : va_S A s.heap s.heap [] := va_S.rf
  have hP : va_P D cls (fxW ad ac ck) s.heap := hP
  have hl := lv_entry ([.ref (ad 0), .int o, .int i]) (n := 4) (Nat.le_of_ble_eq_true rfl)
  rw [lg_entry_eq]
  generalize (lg_sl ([.ref (ad 0), .int o, .int i]) ++ List.replicate (4 - (lg_sl ([.ref (ad 0), .int o, .int i])).length) Slot.unset).toArray = ls at hl ⊢
  have hl : lv_has ls 4 [(0, .ref (ad 0)), (1, .int o), (2, .int i)] := hl
  refine lv_iload_n hx hb d_plAt_0 rfl (lv_at hl 2 rfl) ?_
  refine lv_iconst (v := (-1)) hx hb d_plAt_1 (by decide) ?_
  refine lv_icmp_ne (tgt := 32) hx hb d_plAt_2 (by decide) (fun c_1 => ?_) (fun c_1 => ?_)
  · refine lv_aload_n hx hb d_plAt_32 rfl (lv_at hl 0 rfl) ?_
    refine va_get (D := D) (ci := 11) (v := .ref (ad 3)) (C := R_JT) (T := F_JT) (N := 13) hx hb hts i_JT hown hK hP 0 rfl rfl 2 (by decide) (hts _ kw_423) (fun _ h9 => h9) rfl d_plAt_33 ?_
    refine lv_aload_n hx hb d_plAt_36 rfl (lv_at hl 0 rfl) ?_
    refine lv_iload_n hx hb d_plAt_37 rfl (lv_at hl 1 rfl) ?_
    have hFc := fr_all hD hS hA
    exact tx_on (tx_runV (As := [.int o]) (rest := [.ref (ad 3)]) ⟨hx, hb, hml, hown, hts⟩ (c_listAtN l hfl D ad ac ck s.heap.size o hq) (cw_v 1 hts kw_776 kw_773 kw_775 kp_13 kw_1 rfl rfl (by decide +kernel) ⟨Nat.le_of_ble_eq_true rfl, Nat.le_of_ble_eq_true rfl⟩) ⟨fx_blind, va_recv hK hP (ci := 11) (q0 := 0) rfl rfl, fun U hU hW => fx_pre hU hW hP hK hD hev hNS hS hFc⟩ rfl rfl hl.1 rfl (lv_room (Nat.le_of_ble_eq_true rfl)) d_plAt_38 ⟨Nat.le_of_ble_eq_true rfl, Nat.le_of_ble_eq_true rfl⟩) hno hlocks hS hFc
  · exfalso; simp_all
theorem d_nno_0 : decode prog_1_method_38_code 0 = .ok (.aload_n 1, 1) := by decide +kernel
theorem d_nno_1 : decode prog_1_method_38_code 1 = .ok (.getfield 220, 3) := by decide +kernel
theorem d_nno_4 : decode prog_1_method_38_code 4 = .ok (.ifCond .le 11, 3) := by decide +kernel
theorem d_nno_15 : decode prog_1_method_38_code 15 = .ok (.return_, 1) := by decide +kernel
set_option maxHeartbeats 4000000 in
set_option maxRecDepth 100000 in
theorem c_nno (l : Launch) (hfl : l.flags = flags0) (D : va_G) (ad : Nat → Nat) (ac : Nat → ClassId) (ck : Nat → Int32) (sz : Nat) (j : Nat) (hj : j < 8) : Met l ⟨"JoinedTrees", "needNoneOpen", "(LJoinedTrees$Replica;)V"⟩ (Cond.code ⟨"JoinedTrees", "needNoneOpen", "(LJoinedTrees$Replica;)V"⟩ prog_1_method_38_code 2 none :: gb) ({ frames := 0, cells := 0, slots := 0, locals := 0 }) (fxPc D ad ac ck sz [.ref (ad 0), .ref (ad (18 + j))]) (va_Qv (fun _ : Nat → Int32 => True) (fun u t => fxO D ad ac (va_A (fxW ad ac ck) sz) u t) (va_A (fxW ad ac ck) sz)) 0 0 (va_A (fxW ad ac ck) sz) := by
  refine Met.ofW (cc := prog_1_method_38_code) (maxL := 2) (ret := none) (by decide) rfl ?_
  intro p e s m args below meth c s₁ B hml hv
  obtain ⟨rfl, hsz, hP, hK, hD0, hev⟩ := hv
  have hx := B.exec
  have hb := B.bytes
  have hr := B.returns
  have hts : ∀ w9 ∈ gb, w9.before [.ref (ad 0), .ref (ad (18 + j))].toArray s = true := fun w9 h => atoms_spec (ws := Cond.code ⟨"JoinedTrees", "needNoneOpen", "(LJoinedTrees$Replica;)V"⟩ prog_1_method_38_code 2 none :: gb) B.pre w9 (List.mem_cons_of_mem _ h)
  have hown : s.vm.findClass "JoinedTrees" = some m.cls := findClass_of_methodNamed B.named
  have hlocks := B.notSynchronized
  subst hsz
  have hNS := ns_of hP
  have hD := hD0.self (sz := s.heap.size)
  generalize hAe : va_A (fxW ad ac ck) s.heap.size = A at hD hev hNS ⊢
  have hA : ∀ q : Nat, s.heap.size ≤ q → A q := fun q h => by rw [← hAe]; exact Or.inr h
  have hS : va_S A s.heap s.heap [] := va_S.rf
  have hP : va_P D cls (fxW ad ac ck) s.heap := hP
  have hl := lv_entry ([.ref (ad 0), .ref (ad (18 + j))]) (n := 2) (Nat.le_of_ble_eq_true rfl)
  rw [lg_entry_eq]
  generalize (lg_sl ([.ref (ad 0), .ref (ad (18 + j))]) ++ List.replicate (2 - (lg_sl ([.ref (ad 0), .ref (ad (18 + j))])).length) Slot.unset).toArray = ls at hl ⊢
  have hl : lv_has ls 2 [(0, .ref (ad 0)), (1, .ref (ad (18 + j)))] := hl
  refine lv_aload_n hx hb d_nno_0 rfl (lv_at hl 1 rfl) ?_
  refine va_get (D := D) (ci := 4) (v := .int 0) (C := R_Rp) (T := F_Rp) (N := 10) hx hb hts i_Rp hown hK hP (18 + j) (fx_rep ad ac ck j hj) rfl 9 (by decide) (hts _ kw_230) (fun _ h9 => h9) rfl d_nno_1 ?_
  refine lv_if_le (tgt := 15) hx hb d_nno_4 (by decide) (fun _ => ?_) (fun h => absurd h (by decide))
  exact W.vret hx hb hr (fun t ht hW => ⟨⟨ck, rfl, trivial, by rw [ht]; exact hP, va_K.moved hW.alike hK, hD⟩, hS.F ht⟩) hS.2.2 d_nno_15
theorem d_nsp_0 : decode prog_1_method_36_code 0 = .ok (.aload_n 1, 1) := by decide +kernel
theorem d_nsp_1 : decode prog_1_method_36_code 1 = .ok (.ifnonnull 11, 3) := by decide +kernel
theorem d_nsp_4 : decode prog_1_method_36_code 4 = .ok (.new 178, 3) := by decide +kernel
theorem d_nsp_7 : decode prog_1_method_36_code 7 = .ok (.dup, 1) := by decide +kernel
theorem d_nsp_8 : decode prog_1_method_36_code 8 = .ok (.invokespecial 180, 3) := by decide +kernel
theorem d_nsp_11 : decode prog_1_method_36_code 11 = .ok (.athrow, 1) := by decide +kernel
set_option maxHeartbeats 4000000 in
set_option maxRecDepth 100000 in
theorem c_nsp (l : Launch) (hfl : l.flags = flags0) (D : va_G) (ad : Nat → Nat) (ac : Nat → ClassId) (ck : Nat → Int32) (sz : Nat) : MeT l ⟨"JoinedTrees", "needSpot", "(LJoinedTrees$Spot;)V"⟩ (Cond.code ⟨"JoinedTrees", "needSpot", "(LJoinedTrees$Spot;)V"⟩ prog_1_method_36_code 2 none :: gb) ({ frames := 6, cells := 1, slots := 6, locals := 96 }) (fxPc D ad ac ck sz [.ref (ad 0), .null]) e_NE (va_A (fxW ad ac ck) sz) 1 6 := by
  refine MeT.ofW (cc := prog_1_method_36_code) (maxL := 2) (ret := none) (by decide) rfl ?_
  intro p e s m args below meth c s₁ B hml hno hv
  obtain ⟨rfl, hsz, hP, hK, hD0, hev⟩ := hv
  have hx := B.exec
  have hb := B.bytes
  have hr := B.returns
  have hts : ∀ w9 ∈ gb, w9.before [.ref (ad 0), .null].toArray s = true := fun w9 h => atoms_spec (ws := Cond.code ⟨"JoinedTrees", "needSpot", "(LJoinedTrees$Spot;)V"⟩ prog_1_method_36_code 2 none :: gb) B.pre w9 (List.mem_cons_of_mem _ h)
  have hown : s.vm.findClass "JoinedTrees" = some m.cls := findClass_of_methodNamed B.named
  have hlocks := B.notSynchronized
  subst hsz
  have hNS := ns_of hP
  have hD := hD0.self (sz := s.heap.size)
  generalize hAe : va_A (fxW ad ac ck) s.heap.size = A at hD hev hNS ⊢
  have hA : ∀ q : Nat, s.heap.size ≤ q → A q := fun q h => by rw [← hAe]; exact Or.inr h
  have hS : va_S A s.heap s.heap [] := va_S.rf
  have hP : va_P D cls (fxW ad ac ck) s.heap := hP
  have hl := lv_entry ([.ref (ad 0), .null]) (n := 2) (Nat.le_of_ble_eq_true rfl)
  rw [lg_entry_eq]
  generalize (lg_sl ([.ref (ad 0), .null]) ++ List.replicate (2 - (lg_sl ([.ref (ad 0), .null])).length) Slot.unset).toArray = ls at hl ⊢
  have hl : lv_has ls 2 [(0, .ref (ad 0)), (1, .null)] := hl
  refine lv_aload_nN hx hb d_nsp_0 rfl (lv_at hl 1 rfl) ?_
  refine lv_ifnonnullN hx hb d_nsp_1 ?_
  exact tx_throw (own := "JoinedTrees") (E := e_NE) (names := at_n) (ia := 178) (ic := 180) hfl hx hb hno hlocks hown (by decide +kernel) (by decide +kernel) (hev.atoms hts hev.2.2.2.2.2.1.2.2.1 at_NE) (hts _ kw_629) (hts _ kw_18) d_nsp_4 d_nsp_7 d_nsp_8 d_nsp_11 (hl.1.trans hml.symm) hS hA hNS (Nat.le_of_ble_eq_true rfl) (Nat.le_of_ble_eq_true rfl) (Nat.le_of_ble_eq_true rfl) (Nat.le_of_ble_eq_true rfl)
theorem d_chAt_0 : decode prog_10_method_12_code 0 = .ok (.iconst 0, 1) := by decide +kernel
theorem d_chAt_1 : decode prog_10_method_12_code 1 = .ok (.istore_n 3, 1) := by decide +kernel
theorem d_chAt_2 : decode prog_10_method_12_code 2 = .ok (.iload_n 3, 1) := by decide +kernel
theorem d_chAt_3 : decode prog_10_method_12_code 3 = .ok (.aload_n 0, 1) := by decide +kernel
theorem d_chAt_4 : decode prog_10_method_12_code 4 = .ok (.getfield 126, 3) := by decide +kernel
theorem d_chAt_7 : decode prog_10_method_12_code 7 = .ok (.if_icmp .ge 42, 3) := by decide +kernel
theorem d_chAt_49 : decode prog_10_method_12_code 49 = .ok (.aconst_null, 1) := by decide +kernel
theorem d_chAt_50 : decode prog_10_method_12_code 50 = .ok (.areturn, 1) := by decide +kernel
set_option maxHeartbeats 4000000 in
set_option maxRecDepth 100000 in
theorem c_chAt (l : Launch) (hfl : l.flags = flags0) (D : va_G) (ad : Nat → Nat) (ac : Nat → ClassId) (ck : Nat → Int32) (sz : Nat) (x y : Int32) : Met l ⟨"JoinedTrees$Store", "changeAt", "(II)LJoinedTrees$Change;"⟩ (Cond.code ⟨"JoinedTrees$Store", "changeAt", "(II)LJoinedTrees$Change;"⟩ prog_10_method_12_code 4 (some (.object "JoinedTrees$Change")) :: gb) ({ frames := 0, cells := 0, slots := 0, locals := 0 }) (fxPc D ad ac ck sz [.ref (ad 1), .int x, .int y]) (va_Qq (fun (r : Option Nat) (_ : Nat → Int32) => r = none) (fun u t => fxO D ad ac (va_A (fxW ad ac ck) sz) u t) (va_A (fxW ad ac ck) sz)) 0 0 (va_A (fxW ad ac ck) sz) := by
  refine Met.ofW (cc := prog_10_method_12_code) (maxL := 4) (ret := (some (.object "JoinedTrees$Change"))) (by decide) rfl ?_
  intro p e s m args below meth c s₁ B hml hv
  obtain ⟨rfl, hsz, hP, hK, hD0, hev⟩ := hv
  have hx := B.exec
  have hb := B.bytes
  have hr := B.returns
  have hts : ∀ w9 ∈ gb, w9.before [.ref (ad 1), .int x, .int y].toArray s = true := fun w9 h => atoms_spec (ws := Cond.code ⟨"JoinedTrees$Store", "changeAt", "(II)LJoinedTrees$Change;"⟩ prog_10_method_12_code 4 (some (.object "JoinedTrees$Change")) :: gb) B.pre w9 (List.mem_cons_of_mem _ h)
  have hown : s.vm.findClass "JoinedTrees$Store" = some m.cls := findClass_of_methodNamed B.named
  have hlocks := B.notSynchronized
  subst hsz
  have hNS := ns_of hP
  have hD := hD0.self (sz := s.heap.size)
  generalize hAe : va_A (fxW ad ac ck) s.heap.size = A at hD hev hNS ⊢
  have hA : ∀ q : Nat, s.heap.size ≤ q → A q := fun q h => by rw [← hAe]; exact Or.inr h
  have hS : va_S A s.heap s.heap [] := va_S.rf
  have hP : va_P D cls (fxW ad ac ck) s.heap := hP
  have hl := lv_entry ([.ref (ad 1), .int x, .int y]) (n := 4) (Nat.le_of_ble_eq_true rfl)
  rw [lg_entry_eq]
  generalize (lg_sl ([.ref (ad 1), .int x, .int y]) ++ List.replicate (4 - (lg_sl ([.ref (ad 1), .int x, .int y])).length) Slot.unset).toArray = ls at hl ⊢
  have hl : lv_has ls 4 [(0, .ref (ad 1)), (1, .int x), (2, .int y)] := hl
  refine lv_iconst (v := 0) hx hb d_chAt_0 (by decide) ?_
  refine lv_istore_n (lv' := [(3, .int 0), (0, .ref (ad 1)), (1, .int x), (2, .int y)]) hx hb d_chAt_1 rfl hl (by decide) rfl (fun ls hl => ?_)
  refine lv_iload_n hx hb d_chAt_2 rfl (lv_at hl 0 rfl) ?_
  refine lv_aload_n hx hb d_chAt_3 rfl (lv_at hl 1 rfl) ?_
  refine va_get (D := D) (ci := 8) (v := .int 0) (C := R_St) (T := F_St) (N := 6) hx hb hts i_St hown hK hP 1 rfl rfl 4 (by decide) (hts _ kw_175) (fun _ h9 => h9) rfl d_chAt_4 ?_
  refine lv_icmp_ge (tgt := 49) hx hb d_chAt_7 (by decide) (fun _ => ?_) (fun h => absurd h (by decide))
  refine lv_null hx hb d_chAt_49 ?_
  exact W.aret (v := .null) hx hb hr (Or.inl ⟨_, rfl⟩) (Or.inl rfl) (fun t ht hW => ⟨⟨none, ck, rfl, rfl, by rw [ht]; exact hP, va_K.moved hW.alike hK, hD⟩, hS.F ht⟩) hS.2.2 d_chAt_50
theorem d_settle_0 : decode prog_10_method_13_code 0 = .ok (.iconst 0, 1) := by decide +kernel
theorem d_settle_1 : decode prog_10_method_13_code 1 = .ok (.istore_n 2, 1) := by decide +kernel
theorem d_settle_2 : decode prog_10_method_13_code 2 = .ok (.iconst 0, 1) := by decide +kernel
theorem d_settle_3 : decode prog_10_method_13_code 3 = .ok (.istore_n 3, 1) := by decide +kernel
theorem d_settle_4 : decode prog_10_method_13_code 4 = .ok (.iload_n 3, 1) := by decide +kernel
theorem d_settle_5 : decode prog_10_method_13_code 5 = .ok (.aload_n 0, 1) := by decide +kernel
theorem d_settle_6 : decode prog_10_method_13_code 6 = .ok (.getfield 126, 3) := by decide +kernel
theorem d_settle_9 : decode prog_10_method_13_code 9 = .ok (.if_icmp .ge 106, 3) := by decide +kernel
theorem d_settle_115 : decode prog_10_method_13_code 115 = .ok (.iload_n 2, 1) := by decide +kernel
theorem d_settle_116 : decode prog_10_method_13_code 116 = .ok (.ireturn, 1) := by decide +kernel
set_option maxHeartbeats 4000000 in
set_option maxRecDepth 100000 in
theorem c_settle (l : Launch) (hfl : l.flags = flags0) (D : va_G) (ad : Nat → Nat) (ac : Nat → ClassId) (ck : Nat → Int32) (sz : Nat) (j : Nat) (hj : j < 8) : Met l ⟨"JoinedTrees$Store", "settle", "(LJoinedTrees$Replica;)I"⟩ (Cond.code ⟨"JoinedTrees$Store", "settle", "(LJoinedTrees$Replica;)I"⟩ prog_10_method_13_code 5 (some .int) :: gb) ({ frames := 0, cells := 0, slots := 0, locals := 0 }) (fxPc D ad ac ck sz [.ref (ad 1), .ref (ad (18 + j))]) (va_Qi (fun (r : Int32) (_ : Nat → Int32) => r = 0) (fun u t => fxO D ad ac (va_A (fxW ad ac ck) sz) u t) (va_A (fxW ad ac ck) sz)) 0 0 (va_A (fxW ad ac ck) sz) := by
  refine Met.ofW (cc := prog_10_method_13_code) (maxL := 5) (ret := (some .int)) (by decide) rfl ?_
  intro p e s m args below meth c s₁ B hml hv
  obtain ⟨rfl, hsz, hP, hK, hD0, hev⟩ := hv
  have hx := B.exec
  have hb := B.bytes
  have hr := B.returns
  have hts : ∀ w9 ∈ gb, w9.before [.ref (ad 1), .ref (ad (18 + j))].toArray s = true := fun w9 h => atoms_spec (ws := Cond.code ⟨"JoinedTrees$Store", "settle", "(LJoinedTrees$Replica;)I"⟩ prog_10_method_13_code 5 (some .int) :: gb) B.pre w9 (List.mem_cons_of_mem _ h)
  have hown : s.vm.findClass "JoinedTrees$Store" = some m.cls := findClass_of_methodNamed B.named
  have hlocks := B.notSynchronized
  subst hsz
  have hNS := ns_of hP
  have hD := hD0.self (sz := s.heap.size)
  generalize hAe : va_A (fxW ad ac ck) s.heap.size = A at hD hev hNS ⊢
  have hA : ∀ q : Nat, s.heap.size ≤ q → A q := fun q h => by rw [← hAe]; exact Or.inr h
  have hS : va_S A s.heap s.heap [] := va_S.rf
  have hP : va_P D cls (fxW ad ac ck) s.heap := hP
  have hl := lv_entry ([.ref (ad 1), .ref (ad (18 + j))]) (n := 5) (Nat.le_of_ble_eq_true rfl)
  rw [lg_entry_eq]
  generalize (lg_sl ([.ref (ad 1), .ref (ad (18 + j))]) ++ List.replicate (5 - (lg_sl ([.ref (ad 1), .ref (ad (18 + j))])).length) Slot.unset).toArray = ls at hl ⊢
  have hl : lv_has ls 5 [(0, .ref (ad 1)), (1, .ref (ad (18 + j)))] := hl
  refine lv_iconst (v := 0) hx hb d_settle_0 (by decide) ?_
  refine lv_istore_n (lv' := [(2, .int 0), (0, .ref (ad 1)), (1, .ref (ad (18 + j)))]) hx hb d_settle_1 rfl hl (by decide) rfl (fun ls hl => ?_)
  refine lv_iconst (v := 0) hx hb d_settle_2 (by decide) ?_
  refine lv_istore_n (lv' := [(3, .int 0), (2, .int 0), (0, .ref (ad 1)), (1, .ref (ad (18 + j)))]) hx hb d_settle_3 rfl hl (by decide) rfl (fun ls hl => ?_)
  refine lv_iload_n hx hb d_settle_4 rfl (lv_at hl 0 rfl) ?_
  refine lv_aload_n hx hb d_settle_5 rfl (lv_at hl 2 rfl) ?_
  refine va_get (D := D) (ci := 8) (v := .int 0) (C := R_St) (T := F_St) (N := 6) hx hb hts i_St hown hK hP 1 rfl rfl 4 (by decide) (hts _ kw_175) (fun _ h9 => h9) rfl d_settle_6 ?_
  refine lv_icmp_ge (tgt := 115) hx hb d_settle_9 (by decide) (fun _ => ?_) (fun h => absurd h (by decide))
  refine lv_iload_n hx hb d_settle_115 rfl (lv_at hl 1 rfl) ?_
  exact W.iret (v := 0) hx hb hr (fun t ht hW => ⟨⟨0, ck, rfl, rfl, by rw [ht]; exact hP, va_K.moved hW.alike hK, hD⟩, hS.F ht⟩) hS.2.2 d_settle_116
theorem d_civ_0 : decode prog_6_method_8_code 0 = .ok (.aload_n 0, 1) := by decide +kernel
theorem d_civ_1 : decode prog_6_method_8_code 1 = .ok (.getfield 53, 3) := by decide +kernel
theorem d_civ_4 : decode prog_6_method_8_code 4 = .ok (.ifnonnull 8, 3) := by decide +kernel
theorem d_civ_7 : decode prog_6_method_8_code 7 = .ok (.aload_n 0, 1) := by decide +kernel
theorem d_civ_8 : decode prog_6_method_8_code 8 = .ok (.getfield 46, 3) := by decide +kernel
theorem d_civ_11 : decode prog_6_method_8_code 11 = .ok (.ireturn, 1) := by decide +kernel
set_option maxHeartbeats 4000000 in
set_option maxRecDepth 100000 in
theorem c_civ (l : Launch) (hfl : l.flags = flags0) (D : va_G) (ad : Nat → Nat) (ac : Nat → ClassId) (ck : Nat → Int32) (sz : Nat) (j : Nat) (hj : j < 8) : Met l ⟨"JoinedTrees$Replica", "changesInView", "()I"⟩ (Cond.code ⟨"JoinedTrees$Replica", "changesInView", "()I"⟩ prog_6_method_8_code 3 (some .int) :: gb) ({ frames := 0, cells := 0, slots := 0, locals := 0 }) (fxPc D ad ac ck sz [.ref (ad (18 + j))]) (va_Qi (fun (r : Int32) (_ : Nat → Int32) => r = 0) (fun u t => fxO D ad ac (va_A (fxW ad ac ck) sz) u t) (va_A (fxW ad ac ck) sz)) 0 0 (va_A (fxW ad ac ck) sz) := by
  refine Met.ofW (cc := prog_6_method_8_code) (maxL := 3) (ret := (some .int)) (by decide) rfl ?_
  intro p e s m args below meth c s₁ B hml hv
  obtain ⟨rfl, hsz, hP, hK, hD0, hev⟩ := hv
  have hx := B.exec
  have hb := B.bytes
  have hr := B.returns
  have hts : ∀ w9 ∈ gb, w9.before [.ref (ad (18 + j))].toArray s = true := fun w9 h => atoms_spec (ws := Cond.code ⟨"JoinedTrees$Replica", "changesInView", "()I"⟩ prog_6_method_8_code 3 (some .int) :: gb) B.pre w9 (List.mem_cons_of_mem _ h)
  have hown : s.vm.findClass "JoinedTrees$Replica" = some m.cls := findClass_of_methodNamed B.named
  have hlocks := B.notSynchronized
  subst hsz
  have hNS := ns_of hP
  have hD := hD0.self (sz := s.heap.size)
  generalize hAe : va_A (fxW ad ac ck) s.heap.size = A at hD hev hNS ⊢
  have hA : ∀ q : Nat, s.heap.size ≤ q → A q := fun q h => by rw [← hAe]; exact Or.inr h
  have hS : va_S A s.heap s.heap [] := va_S.rf
  have hP : va_P D cls (fxW ad ac ck) s.heap := hP
  have hl := lv_entry ([.ref (ad (18 + j))]) (n := 3) (Nat.le_of_ble_eq_true rfl)
  rw [lg_entry_eq]
  generalize (lg_sl ([.ref (ad (18 + j))]) ++ List.replicate (3 - (lg_sl ([.ref (ad (18 + j))])).length) Slot.unset).toArray = ls at hl ⊢
  have hl : lv_has ls 3 [(0, .ref (ad (18 + j)))] := hl
  refine lv_aload_n hx hb d_civ_0 rfl (lv_at hl 0 rfl) ?_
  refine va_get (D := D) (ci := 4) (v := .null) (C := R_Rp) (T := F_Rp) (N := 10) hx hb hts i_Rp hown hK hP (18 + j) (fx_rep ad ac ck j hj) rfl 4 (by decide) (hts _ kw_215) (fun _ h9 => h9) rfl d_civ_1 ?_
  refine lv_ifnonnullN hx hb d_civ_4 ?_
  refine lv_aload_n hx hb d_civ_7 rfl (lv_at hl 0 rfl) ?_
  refine va_get (D := D) (ci := 4) (v := .int 0) (C := R_Rp) (T := F_Rp) (N := 10) hx hb hts i_Rp hown hK hP (18 + j) (fx_rep ad ac ck j hj) rfl 5 (by decide) (hts _ kw_218) (fun _ h9 => h9) rfl d_civ_8 ?_
  exact W.iret (v := 0) hx hb hr (fun t ht hW => ⟨⟨0, ck, rfl, rfl, by rw [ht]; exact hP, va_K.moved hW.alike hK, hD⟩, hS.F ht⟩) hS.2.2 d_civ_11
theorem d_heads_0 : decode prog_6_method_6_code 0 = .ok (.iconst 0, 1) := by decide +kernel
theorem d_heads_1 : decode prog_6_method_6_code 1 = .ok (.istore_n 1, 1) := by decide +kernel
theorem d_heads_2 : decode prog_6_method_6_code 2 = .ok (.iconst 0, 1) := by decide +kernel
theorem d_heads_3 : decode prog_6_method_6_code 3 = .ok (.istore_n 2, 1) := by decide +kernel
theorem d_heads_4 : decode prog_6_method_6_code 4 = .ok (.iload_n 2, 1) := by decide +kernel
theorem d_heads_5 : decode prog_6_method_6_code 5 = .ok (.bipush 8, 2) := by decide +kernel
theorem d_heads_7 : decode prog_6_method_6_code 7 = .ok (.if_icmp .ge 21, 3) := by decide +kernel
theorem d_heads_10 : decode prog_6_method_6_code 10 = .ok (.aload_n 0, 1) := by decide +kernel
theorem d_heads_11 : decode prog_6_method_6_code 11 = .ok (.getfield 21, 3) := by decide +kernel
theorem d_heads_14 : decode prog_6_method_6_code 14 = .ok (.iload_n 2, 1) := by decide +kernel
theorem d_heads_15 : decode prog_6_method_6_code 15 = .ok (.aaload, 1) := by decide +kernel
theorem d_heads_16 : decode prog_6_method_6_code 16 = .ok (.ifnull 6, 3) := by decide +kernel
theorem d_heads_22 : decode prog_6_method_6_code 22 = .ok (.iinc 2 1, 3) := by decide +kernel
theorem d_heads_25 : decode prog_6_method_6_code 25 = .ok (.goto (-21), 3) := by decide +kernel
theorem d_heads_28 : decode prog_6_method_6_code 28 = .ok (.iload_n 1, 1) := by decide +kernel
theorem d_heads_29 : decode prog_6_method_6_code 29 = .ok (.ireturn, 1) := by decide +kernel
set_option maxHeartbeats 4000000 in
set_option maxRecDepth 100000 in
theorem c_heads (l : Launch) (hfl : l.flags = flags0) (D : va_G) (ad : Nat → Nat) (ac : Nat → ClassId) (ck : Nat → Int32) (sz : Nat) (j : Nat) (hj : j < 8) : Met l ⟨"JoinedTrees$Replica", "headsNow", "()I"⟩ (Cond.code ⟨"JoinedTrees$Replica", "headsNow", "()I"⟩ prog_6_method_6_code 3 (some .int) :: gb) ({ frames := 0, cells := 0, slots := 0, locals := 0 }) (fxPc D ad ac ck sz [.ref (ad (18 + j))]) (va_Qi (fun (r : Int32) (_ : Nat → Int32) => r = 0) (fun u t => fxO D ad ac (va_A (fxW ad ac ck) sz) u t) (va_A (fxW ad ac ck) sz)) 0 0 (va_A (fxW ad ac ck) sz) := by
  refine Met.ofW (cc := prog_6_method_6_code) (maxL := 3) (ret := (some .int)) (by decide) rfl ?_
  intro p e s m args below meth c s₁ B hml hv
  obtain ⟨rfl, hsz, hP, hK, hD0, hev⟩ := hv
  have hx := B.exec
  have hb := B.bytes
  have hr := B.returns
  have hts : ∀ w9 ∈ gb, w9.before [.ref (ad (18 + j))].toArray s = true := fun w9 h => atoms_spec (ws := Cond.code ⟨"JoinedTrees$Replica", "headsNow", "()I"⟩ prog_6_method_6_code 3 (some .int) :: gb) B.pre w9 (List.mem_cons_of_mem _ h)
  have hown : s.vm.findClass "JoinedTrees$Replica" = some m.cls := findClass_of_methodNamed B.named
  have hlocks := B.notSynchronized
  subst hsz
  have hNS := ns_of hP
  have hD := hD0.self (sz := s.heap.size)
  generalize hAe : va_A (fxW ad ac ck) s.heap.size = A at hD hev hNS ⊢
  have hA : ∀ q : Nat, s.heap.size ≤ q → A q := fun q h => by rw [← hAe]; exact Or.inr h
  have hS : va_S A s.heap s.heap [] := va_S.rf
  have hP : va_P D cls (fxW ad ac ck) s.heap := hP
  have hl := lv_entry ([.ref (ad (18 + j))]) (n := 3) (Nat.le_of_ble_eq_true rfl)
  rw [lg_entry_eq]
  generalize (lg_sl ([.ref (ad (18 + j))]) ++ List.replicate (3 - (lg_sl ([.ref (ad (18 + j))])).length) Slot.unset).toArray = ls at hl ⊢
  have hl : lv_has ls 3 [(0, .ref (ad (18 + j)))] := hl
  refine lv_iconst (v := 0) hx hb d_heads_0 (by decide) ?_
  refine lv_istore_n (lv' := [(1, .int 0), (0, .ref (ad (18 + j)))]) hx hb d_heads_1 rfl hl (by decide) rfl (fun ls hl => ?_)
  refine lv_iconst (v := 0) hx hb d_heads_2 (by decide) ?_
  refine lv_istore_n (lv' := [(2, .int 0), (1, .int 0), (0, .ref (ad (18 + j)))]) hx hb d_heads_3 rfl hl (by decide) rfl (fun ls hl => ?_)
  refine lv_iload_n hx hb d_heads_4 rfl (lv_at hl 0 rfl) ?_
  refine lv_bipush (v := 8) hx hb d_heads_5 (by decide) ?_
  refine lv_icmp_ge (tgt := 28) hx hb d_heads_7 (by decide) (fun h => absurd h (by decide)) (fun _ => ?_)
  refine lv_aload_n hx hb d_heads_10 rfl (lv_at hl 2 rfl) ?_
  refine va_get (D := D) (ci := 4) (v := .ref (ad (34 + j))) (C := R_Rp) (T := F_Rp) (N := 10) hx hb hts i_Rp hown hK hP (18 + j) (fx_rep ad ac ck j hj) rfl 3 (by decide) (hts _ kw_213) (fun _ h9 => h9) rfl d_heads_11 ?_
  refine lv_iload_n hx hb d_heads_14 rfl (lv_at hl 0 rfl) ?_
  refine va_aldq hx hb hK hP (34 + j) 5 (fx_heads ad ac ck j hj) rfl (i := 0) (vp_in_nI (n := 0) (N := 8) (by decide) (by decide)) d_heads_15 ?_
  refine w_v (y := .null) rfl ?_
  refine lv_ifnullN (tgt := 22) hx hb d_heads_16 (by decide) ?_
  refine lv_iinc (v := 1) (lv' := [(2, .int 1), (1, .int 0), (0, .ref (ad (18 + j)))]) hx hb d_heads_22 hl (k := 0) rfl (by decide) (by decide) rfl (fun ls hl => ?_)
  refine lv_goto (tgt := 4) hx hb d_heads_25 (by decide) ?_
  refine lv_iload_n hx hb d_heads_4 rfl (lv_at hl 0 rfl) ?_
  refine lv_bipush (v := 8) hx hb d_heads_5 (by decide) ?_
  refine lv_icmp_ge (tgt := 28) hx hb d_heads_7 (by decide) (fun h => absurd h (by decide)) (fun _ => ?_)
  refine lv_aload_n hx hb d_heads_10 rfl (lv_at hl 2 rfl) ?_
  refine va_get (D := D) (ci := 4) (v := .ref (ad (34 + j))) (C := R_Rp) (T := F_Rp) (N := 10) hx hb hts i_Rp hown hK hP (18 + j) (fx_rep ad ac ck j hj) rfl 3 (by decide) (hts _ kw_213) (fun _ h9 => h9) rfl d_heads_11 ?_
  refine lv_iload_n hx hb d_heads_14 rfl (lv_at hl 0 rfl) ?_
  refine va_aldq hx hb hK hP (34 + j) 5 (fx_heads ad ac ck j hj) rfl (i := 1) (vp_in_nI (n := 1) (N := 8) (by decide) (by decide)) d_heads_15 ?_
  refine w_v (y := .null) rfl ?_
  refine lv_ifnullN (tgt := 22) hx hb d_heads_16 (by decide) ?_
  refine lv_iinc (v := 2) (lv' := [(2, .int 2), (1, .int 0), (0, .ref (ad (18 + j)))]) hx hb d_heads_22 hl (k := 0) rfl (by decide) (by decide) rfl (fun ls hl => ?_)
  refine lv_goto (tgt := 4) hx hb d_heads_25 (by decide) ?_
  refine lv_iload_n hx hb d_heads_4 rfl (lv_at hl 0 rfl) ?_
  refine lv_bipush (v := 8) hx hb d_heads_5 (by decide) ?_
  refine lv_icmp_ge (tgt := 28) hx hb d_heads_7 (by decide) (fun h => absurd h (by decide)) (fun _ => ?_)
  refine lv_aload_n hx hb d_heads_10 rfl (lv_at hl 2 rfl) ?_
  refine va_get (D := D) (ci := 4) (v := .ref (ad (34 + j))) (C := R_Rp) (T := F_Rp) (N := 10) hx hb hts i_Rp hown hK hP (18 + j) (fx_rep ad ac ck j hj) rfl 3 (by decide) (hts _ kw_213) (fun _ h9 => h9) rfl d_heads_11 ?_
  refine lv_iload_n hx hb d_heads_14 rfl (lv_at hl 0 rfl) ?_
  refine va_aldq hx hb hK hP (34 + j) 5 (fx_heads ad ac ck j hj) rfl (i := 2) (vp_in_nI (n := 2) (N := 8) (by decide) (by decide)) d_heads_15 ?_
  refine w_v (y := .null) rfl ?_
  refine lv_ifnullN (tgt := 22) hx hb d_heads_16 (by decide) ?_
  refine lv_iinc (v := 3) (lv' := [(2, .int 3), (1, .int 0), (0, .ref (ad (18 + j)))]) hx hb d_heads_22 hl (k := 0) rfl (by decide) (by decide) rfl (fun ls hl => ?_)
  refine lv_goto (tgt := 4) hx hb d_heads_25 (by decide) ?_
  refine lv_iload_n hx hb d_heads_4 rfl (lv_at hl 0 rfl) ?_
  refine lv_bipush (v := 8) hx hb d_heads_5 (by decide) ?_
  refine lv_icmp_ge (tgt := 28) hx hb d_heads_7 (by decide) (fun h => absurd h (by decide)) (fun _ => ?_)
  refine lv_aload_n hx hb d_heads_10 rfl (lv_at hl 2 rfl) ?_
  refine va_get (D := D) (ci := 4) (v := .ref (ad (34 + j))) (C := R_Rp) (T := F_Rp) (N := 10) hx hb hts i_Rp hown hK hP (18 + j) (fx_rep ad ac ck j hj) rfl 3 (by decide) (hts _ kw_213) (fun _ h9 => h9) rfl d_heads_11 ?_
  refine lv_iload_n hx hb d_heads_14 rfl (lv_at hl 0 rfl) ?_
  refine va_aldq hx hb hK hP (34 + j) 5 (fx_heads ad ac ck j hj) rfl (i := 3) (vp_in_nI (n := 3) (N := 8) (by decide) (by decide)) d_heads_15 ?_
  refine w_v (y := .null) rfl ?_
  refine lv_ifnullN (tgt := 22) hx hb d_heads_16 (by decide) ?_
  refine lv_iinc (v := 4) (lv' := [(2, .int 4), (1, .int 0), (0, .ref (ad (18 + j)))]) hx hb d_heads_22 hl (k := 0) rfl (by decide) (by decide) rfl (fun ls hl => ?_)
  refine lv_goto (tgt := 4) hx hb d_heads_25 (by decide) ?_
  refine lv_iload_n hx hb d_heads_4 rfl (lv_at hl 0 rfl) ?_
  refine lv_bipush (v := 8) hx hb d_heads_5 (by decide) ?_
  refine lv_icmp_ge (tgt := 28) hx hb d_heads_7 (by decide) (fun h => absurd h (by decide)) (fun _ => ?_)
  refine lv_aload_n hx hb d_heads_10 rfl (lv_at hl 2 rfl) ?_
  refine va_get (D := D) (ci := 4) (v := .ref (ad (34 + j))) (C := R_Rp) (T := F_Rp) (N := 10) hx hb hts i_Rp hown hK hP (18 + j) (fx_rep ad ac ck j hj) rfl 3 (by decide) (hts _ kw_213) (fun _ h9 => h9) rfl d_heads_11 ?_
  refine lv_iload_n hx hb d_heads_14 rfl (lv_at hl 0 rfl) ?_
  refine va_aldq hx hb hK hP (34 + j) 5 (fx_heads ad ac ck j hj) rfl (i := 4) (vp_in_nI (n := 4) (N := 8) (by decide) (by decide)) d_heads_15 ?_
  refine w_v (y := .null) rfl ?_
  refine lv_ifnullN (tgt := 22) hx hb d_heads_16 (by decide) ?_
  refine lv_iinc (v := 5) (lv' := [(2, .int 5), (1, .int 0), (0, .ref (ad (18 + j)))]) hx hb d_heads_22 hl (k := 0) rfl (by decide) (by decide) rfl (fun ls hl => ?_)
  refine lv_goto (tgt := 4) hx hb d_heads_25 (by decide) ?_
  refine lv_iload_n hx hb d_heads_4 rfl (lv_at hl 0 rfl) ?_
  refine lv_bipush (v := 8) hx hb d_heads_5 (by decide) ?_
  refine lv_icmp_ge (tgt := 28) hx hb d_heads_7 (by decide) (fun h => absurd h (by decide)) (fun _ => ?_)
  refine lv_aload_n hx hb d_heads_10 rfl (lv_at hl 2 rfl) ?_
  refine va_get (D := D) (ci := 4) (v := .ref (ad (34 + j))) (C := R_Rp) (T := F_Rp) (N := 10) hx hb hts i_Rp hown hK hP (18 + j) (fx_rep ad ac ck j hj) rfl 3 (by decide) (hts _ kw_213) (fun _ h9 => h9) rfl d_heads_11 ?_
  refine lv_iload_n hx hb d_heads_14 rfl (lv_at hl 0 rfl) ?_
  refine va_aldq hx hb hK hP (34 + j) 5 (fx_heads ad ac ck j hj) rfl (i := 5) (vp_in_nI (n := 5) (N := 8) (by decide) (by decide)) d_heads_15 ?_
  refine w_v (y := .null) rfl ?_
  refine lv_ifnullN (tgt := 22) hx hb d_heads_16 (by decide) ?_
  refine lv_iinc (v := 6) (lv' := [(2, .int 6), (1, .int 0), (0, .ref (ad (18 + j)))]) hx hb d_heads_22 hl (k := 0) rfl (by decide) (by decide) rfl (fun ls hl => ?_)
  refine lv_goto (tgt := 4) hx hb d_heads_25 (by decide) ?_
  refine lv_iload_n hx hb d_heads_4 rfl (lv_at hl 0 rfl) ?_
  refine lv_bipush (v := 8) hx hb d_heads_5 (by decide) ?_
  refine lv_icmp_ge (tgt := 28) hx hb d_heads_7 (by decide) (fun h => absurd h (by decide)) (fun _ => ?_)
  refine lv_aload_n hx hb d_heads_10 rfl (lv_at hl 2 rfl) ?_
  refine va_get (D := D) (ci := 4) (v := .ref (ad (34 + j))) (C := R_Rp) (T := F_Rp) (N := 10) hx hb hts i_Rp hown hK hP (18 + j) (fx_rep ad ac ck j hj) rfl 3 (by decide) (hts _ kw_213) (fun _ h9 => h9) rfl d_heads_11 ?_
  refine lv_iload_n hx hb d_heads_14 rfl (lv_at hl 0 rfl) ?_
  refine va_aldq hx hb hK hP (34 + j) 5 (fx_heads ad ac ck j hj) rfl (i := 6) (vp_in_nI (n := 6) (N := 8) (by decide) (by decide)) d_heads_15 ?_
  refine w_v (y := .null) rfl ?_
  refine lv_ifnullN (tgt := 22) hx hb d_heads_16 (by decide) ?_
  refine lv_iinc (v := 7) (lv' := [(2, .int 7), (1, .int 0), (0, .ref (ad (18 + j)))]) hx hb d_heads_22 hl (k := 0) rfl (by decide) (by decide) rfl (fun ls hl => ?_)
  refine lv_goto (tgt := 4) hx hb d_heads_25 (by decide) ?_
  refine lv_iload_n hx hb d_heads_4 rfl (lv_at hl 0 rfl) ?_
  refine lv_bipush (v := 8) hx hb d_heads_5 (by decide) ?_
  refine lv_icmp_ge (tgt := 28) hx hb d_heads_7 (by decide) (fun h => absurd h (by decide)) (fun _ => ?_)
  refine lv_aload_n hx hb d_heads_10 rfl (lv_at hl 2 rfl) ?_
  refine va_get (D := D) (ci := 4) (v := .ref (ad (34 + j))) (C := R_Rp) (T := F_Rp) (N := 10) hx hb hts i_Rp hown hK hP (18 + j) (fx_rep ad ac ck j hj) rfl 3 (by decide) (hts _ kw_213) (fun _ h9 => h9) rfl d_heads_11 ?_
  refine lv_iload_n hx hb d_heads_14 rfl (lv_at hl 0 rfl) ?_
  refine va_aldq hx hb hK hP (34 + j) 5 (fx_heads ad ac ck j hj) rfl (i := 7) (vp_in_nI (n := 7) (N := 8) (by decide) (by decide)) d_heads_15 ?_
  refine w_v (y := .null) rfl ?_
  refine lv_ifnullN (tgt := 22) hx hb d_heads_16 (by decide) ?_
  refine lv_iinc (v := 8) (lv' := [(2, .int 8), (1, .int 0), (0, .ref (ad (18 + j)))]) hx hb d_heads_22 hl (k := 0) rfl (by decide) (by decide) rfl (fun ls hl => ?_)
  refine lv_goto (tgt := 4) hx hb d_heads_25 (by decide) ?_
  refine lv_iload_n hx hb d_heads_4 rfl (lv_at hl 0 rfl) ?_
  refine lv_bipush (v := 8) hx hb d_heads_5 (by decide) ?_
  refine lv_icmp_ge (tgt := 28) hx hb d_heads_7 (by decide) (fun _ => ?_) (fun h => absurd h (by decide))
  refine lv_iload_n hx hb d_heads_28 rfl (lv_at hl 1 rfl) ?_
  exact W.iret (v := 0) hx hb hr (fun t ht hW => ⟨⟨0, ck, rfl, rfl, by rw [ht]; exact hP, va_K.moved hW.alike hK, hD⟩, hS.F ht⟩) hS.2.2 d_heads_29
theorem d_spotAt_0 : decode prog_12_method_13_code 0 = .ok (.iload_n 2, 1) := by decide +kernel
theorem d_spotAt_1 : decode prog_12_method_13_code 1 = .ok (.istore_n 3, 1) := by decide +kernel
theorem d_spotAt_2 : decode prog_12_method_13_code 2 = .ok (.aload_n 1, 1) := by decide +kernel
theorem d_spotAt_3 : decode prog_12_method_13_code 3 = .ok (.getfield 112, 3) := by decide +kernel
theorem d_spotAt_6 : decode prog_12_method_13_code 6 = .ok (.astore 4, 2) := by decide +kernel
theorem d_spotAt_8 : decode prog_12_method_13_code 8 = .ok (.aload 4, 2) := by decide +kernel
theorem d_spotAt_10 : decode prog_12_method_13_code 10 = .ok (.ifnull 36, 3) := by decide +kernel
theorem d_spotAt_46 : decode prog_12_method_13_code 46 = .ok (.aconst_null, 1) := by decide +kernel
theorem d_spotAt_47 : decode prog_12_method_13_code 47 = .ok (.areturn, 1) := by decide +kernel
set_option maxHeartbeats 4000000 in
set_option maxRecDepth 100000 in
theorem c_spotAt (l : Launch) (hfl : l.flags = flags0) (D : va_G) (ad : Nat → Nat) (ac : Nat → ClassId) (ck : Nat → Int32) (sz : Nat) (i : Int32) : Met l ⟨"JoinedTrees$View", "spotAt", "(LJoinedTrees$Op;I)LJoinedTrees$Spot;"⟩ (Cond.code ⟨"JoinedTrees$View", "spotAt", "(LJoinedTrees$Op;I)LJoinedTrees$Spot;"⟩ prog_12_method_13_code 5 (some (.object "JoinedTrees$Spot")) :: gb) ({ frames := 0, cells := 0, slots := 0, locals := 0 }) (fxPc D ad ac ck sz [.ref (ad 3), .ref (ad 5), .int i]) (va_Qq (fun (r : Option Nat) (_ : Nat → Int32) => r = none) (fun u t => fxO D ad ac (va_A (fxW ad ac ck) sz) u t) (va_A (fxW ad ac ck) sz)) 0 0 (va_A (fxW ad ac ck) sz) := by
  refine Met.ofW (cc := prog_12_method_13_code) (maxL := 5) (ret := (some (.object "JoinedTrees$Spot"))) (by decide) rfl ?_
  intro p e s m args below meth c s₁ B hml hv
  obtain ⟨rfl, hsz, hP, hK, hD0, hev⟩ := hv
  have hx := B.exec
  have hb := B.bytes
  have hr := B.returns
  have hts : ∀ w9 ∈ gb, w9.before [.ref (ad 3), .ref (ad 5), .int i].toArray s = true := fun w9 h => atoms_spec (ws := Cond.code ⟨"JoinedTrees$View", "spotAt", "(LJoinedTrees$Op;I)LJoinedTrees$Spot;"⟩ prog_12_method_13_code 5 (some (.object "JoinedTrees$Spot")) :: gb) B.pre w9 (List.mem_cons_of_mem _ h)
  have hown : s.vm.findClass "JoinedTrees$View" = some m.cls := findClass_of_methodNamed B.named
  have hlocks := B.notSynchronized
  subst hsz
  have hNS := ns_of hP
  have hD := hD0.self (sz := s.heap.size)
  generalize hAe : va_A (fxW ad ac ck) s.heap.size = A at hD hev hNS ⊢
  have hA : ∀ q : Nat, s.heap.size ≤ q → A q := fun q h => by rw [← hAe]; exact Or.inr h
  have hS : va_S A s.heap s.heap [] := va_S.rf
  have hP : va_P D cls (fxW ad ac ck) s.heap := hP
  have hl := lv_entry ([.ref (ad 3), .ref (ad 5), .int i]) (n := 5) (Nat.le_of_ble_eq_true rfl)
  rw [lg_entry_eq]
  generalize (lg_sl ([.ref (ad 3), .ref (ad 5), .int i]) ++ List.replicate (5 - (lg_sl ([.ref (ad 3), .ref (ad 5), .int i])).length) Slot.unset).toArray = ls at hl ⊢
  have hl : lv_has ls 5 [(0, .ref (ad 3)), (1, .ref (ad 5)), (2, .int i)] := hl
  refine lv_iload_n hx hb d_spotAt_0 rfl (lv_at hl 2 rfl) ?_
  refine lv_istore_n (lv' := [(3, .int i), (0, .ref (ad 3)), (1, .ref (ad 5)), (2, .int i)]) hx hb d_spotAt_1 rfl hl (by decide) rfl (fun ls hl => ?_)
  refine lv_aload_n hx hb d_spotAt_2 rfl (lv_at hl 2 rfl) ?_
  refine va_get (D := D) (ci := 3) (v := .null) (C := R_Op) (T := F_Op) (N := 15) hx hb hts i_Op hown hK hP 5 rfl rfl 13 (by decide) (hts _ kw_100) (fun _ h9 => h9) rfl d_spotAt_3 ?_
  refine lv_astoreN (lv' := [(4, .null), (3, .int i), (0, .ref (ad 3)), (1, .ref (ad 5)), (2, .int i)]) hx hb d_spotAt_6 hl (by decide) rfl (fun ls hl => ?_)
  refine lv_aloadN hx hb d_spotAt_8 (lv_at hl 0 rfl) ?_
  refine lv_ifnullN (tgt := 46) hx hb d_spotAt_10 (by decide) ?_
  refine lv_null hx hb d_spotAt_46 ?_
  exact W.aret (v := .null) hx hb hr (Or.inl ⟨_, rfl⟩) (Or.inl rfl) (fun t ht hW => ⟨⟨none, ck, rfl, rfl, by rw [ht]; exact hP, va_K.moved hW.alike hK, hD⟩, hS.F ht⟩) hS.2.2 d_spotAt_47
theorem d_fillB_0 : decode prog_12_method_12_code 0 = .ok (.iconst 0, 1) := by decide +kernel
theorem d_fillB_1 : decode prog_12_method_12_code 1 = .ok (.istore_n 3, 1) := by decide +kernel
theorem d_fillB_2 : decode prog_12_method_12_code 2 = .ok (.aload_n 2, 1) := by decide +kernel
theorem d_fillB_3 : decode prog_12_method_12_code 3 = .ok (.getfield 112, 3) := by decide +kernel
theorem d_fillB_6 : decode prog_12_method_12_code 6 = .ok (.astore 4, 2) := by decide +kernel
theorem d_fillB_8 : decode prog_12_method_12_code 8 = .ok (.aload 4, 2) := by decide +kernel
theorem d_fillB_10 : decode prog_12_method_12_code 10 = .ok (.ifnull 31, 3) := by decide +kernel
theorem d_fillB_41 : decode prog_12_method_12_code 41 = .ok (.iload_n 3, 1) := by decide +kernel
theorem d_fillB_42 : decode prog_12_method_12_code 42 = .ok (.ireturn, 1) := by decide +kernel
set_option maxHeartbeats 4000000 in
set_option maxRecDepth 100000 in
theorem c_fillB (l : Launch) (hfl : l.flags = flags0) (D : va_G) (ad : Nat → Nat) (ac : Nat → ClassId) (ck : Nat → Int32) (sz : Nat) : Met l ⟨"JoinedTrees$View", "filledBefore", "(LJoinedTrees$Spot;LJoinedTrees$Op;)I"⟩ (Cond.code ⟨"JoinedTrees$View", "filledBefore", "(LJoinedTrees$Spot;LJoinedTrees$Op;)I"⟩ prog_12_method_12_code 5 (some .int) :: gb) ({ frames := 0, cells := 0, slots := 0, locals := 0 }) (fxPc D ad ac ck sz [.ref (ad 3), .null, .ref (ad 5)]) (va_Qi (fun (r : Int32) (_ : Nat → Int32) => r = 0) (fun u t => fxO D ad ac (va_A (fxW ad ac ck) sz) u t) (va_A (fxW ad ac ck) sz)) 0 0 (va_A (fxW ad ac ck) sz) := by
  refine Met.ofW (cc := prog_12_method_12_code) (maxL := 5) (ret := (some .int)) (by decide) rfl ?_
  intro p e s m args below meth c s₁ B hml hv
  obtain ⟨rfl, hsz, hP, hK, hD0, hev⟩ := hv
  have hx := B.exec
  have hb := B.bytes
  have hr := B.returns
  have hts : ∀ w9 ∈ gb, w9.before [.ref (ad 3), .null, .ref (ad 5)].toArray s = true := fun w9 h => atoms_spec (ws := Cond.code ⟨"JoinedTrees$View", "filledBefore", "(LJoinedTrees$Spot;LJoinedTrees$Op;)I"⟩ prog_12_method_12_code 5 (some .int) :: gb) B.pre w9 (List.mem_cons_of_mem _ h)
  have hown : s.vm.findClass "JoinedTrees$View" = some m.cls := findClass_of_methodNamed B.named
  have hlocks := B.notSynchronized
  subst hsz
  have hNS := ns_of hP
  have hD := hD0.self (sz := s.heap.size)
  generalize hAe : va_A (fxW ad ac ck) s.heap.size = A at hD hev hNS ⊢
  have hA : ∀ q : Nat, s.heap.size ≤ q → A q := fun q h => by rw [← hAe]; exact Or.inr h
  have hS : va_S A s.heap s.heap [] := va_S.rf
  have hP : va_P D cls (fxW ad ac ck) s.heap := hP
  have hl := lv_entry ([.ref (ad 3), .null, .ref (ad 5)]) (n := 5) (Nat.le_of_ble_eq_true rfl)
  rw [lg_entry_eq]
  generalize (lg_sl ([.ref (ad 3), .null, .ref (ad 5)]) ++ List.replicate (5 - (lg_sl ([.ref (ad 3), .null, .ref (ad 5)])).length) Slot.unset).toArray = ls at hl ⊢
  have hl : lv_has ls 5 [(0, .ref (ad 3)), (1, .null), (2, .ref (ad 5))] := hl
  refine lv_iconst (v := 0) hx hb d_fillB_0 (by decide) ?_
  refine lv_istore_n (lv' := [(3, .int 0), (0, .ref (ad 3)), (1, .null), (2, .ref (ad 5))]) hx hb d_fillB_1 rfl hl (by decide) rfl (fun ls hl => ?_)
  refine lv_aload_n hx hb d_fillB_2 rfl (lv_at hl 3 rfl) ?_
  refine va_get (D := D) (ci := 3) (v := .null) (C := R_Op) (T := F_Op) (N := 15) hx hb hts i_Op hown hK hP 5 rfl rfl 13 (by decide) (hts _ kw_100) (fun _ h9 => h9) rfl d_fillB_3 ?_
  refine lv_astoreN (lv' := [(4, .null), (3, .int 0), (0, .ref (ad 3)), (1, .null), (2, .ref (ad 5))]) hx hb d_fillB_6 hl (by decide) rfl (fun ls hl => ?_)
  refine lv_aloadN hx hb d_fillB_8 (lv_at hl 0 rfl) ?_
  refine lv_ifnullN (tgt := 41) hx hb d_fillB_10 (by decide) ?_
  refine lv_iload_n hx hb d_fillB_41 rfl (lv_at hl 1 rfl) ?_
  exact W.iret (v := 0) hx hb hr (fun t ht hW => ⟨⟨0, ck, rfl, rfl, by rw [ht]; exact hP, va_K.moved hW.alike hK, hD⟩, hS.F ht⟩) hS.2.2 d_fillB_42
theorem d_fillI_0 : decode prog_12_method_11_code 0 = .ok (.aload_n 0, 1) := by decide +kernel
theorem d_fillI_1 : decode prog_12_method_11_code 1 = .ok (.aconst_null, 1) := by decide +kernel
theorem d_fillI_2 : decode prog_12_method_11_code 2 = .ok (.aload_n 1, 1) := by decide +kernel
theorem d_fillI_3 : decode prog_12_method_11_code 3 = .ok (.invokevirtual 108, 3) := by decide +kernel
theorem d_fillI_6 : decode prog_12_method_11_code 6 = .ok (.ireturn, 1) := by decide +kernel
set_option maxHeartbeats 4000000 in
set_option maxRecDepth 100000 in
theorem c_fillI (l : Launch) (hfl : l.flags = flags0) (D : va_G) (ad : Nat → Nat) (ac : Nat → ClassId) (ck : Nat → Int32) (sz : Nat) : Met l ⟨"JoinedTrees$View", "filledIn", "(LJoinedTrees$Op;)I"⟩ (Cond.code ⟨"JoinedTrees$View", "filledIn", "(LJoinedTrees$Op;)I"⟩ prog_12_method_11_code 2 (some .int) :: gb) ({ frames := 1, cells := 0, slots := 0, locals := 24 }) (fxPc D ad ac ck sz [.ref (ad 3), .ref (ad 5)]) (va_Qi (fun (r : Int32) (_ : Nat → Int32) => r = 0) (fun u t => fxO D ad ac (va_A (fxW ad ac ck) sz) u t) (va_A (fxW ad ac ck) sz)) 0 0 (va_A (fxW ad ac ck) sz) := by
  refine Met.ofW (cc := prog_12_method_11_code) (maxL := 2) (ret := (some .int)) (by decide) rfl ?_
  intro p e s m args below meth c s₁ B hml hv
  obtain ⟨rfl, hsz, hP, hK, hD0, hev⟩ := hv
  have hx := B.exec
  have hb := B.bytes
  have hr := B.returns
  have hts : ∀ w9 ∈ gb, w9.before [.ref (ad 3), .ref (ad 5)].toArray s = true := fun w9 h => atoms_spec (ws := Cond.code ⟨"JoinedTrees$View", "filledIn", "(LJoinedTrees$Op;)I"⟩ prog_12_method_11_code 2 (some .int) :: gb) B.pre w9 (List.mem_cons_of_mem _ h)
  have hown : s.vm.findClass "JoinedTrees$View" = some m.cls := findClass_of_methodNamed B.named
  have hlocks := B.notSynchronized
  subst hsz
  have hNS := ns_of hP
  have hD := hD0.self (sz := s.heap.size)
  generalize hAe : va_A (fxW ad ac ck) s.heap.size = A at hD hev hNS ⊢
  have hA : ∀ q : Nat, s.heap.size ≤ q → A q := fun q h => by rw [← hAe]; exact Or.inr h
  have hS : va_S A s.heap s.heap [] := va_S.rf
  have hP : va_P D cls (fxW ad ac ck) s.heap := hP
  have hl := lv_entry ([.ref (ad 3), .ref (ad 5)]) (n := 2) (Nat.le_of_ble_eq_true rfl)
  rw [lg_entry_eq]
  generalize (lg_sl ([.ref (ad 3), .ref (ad 5)]) ++ List.replicate (2 - (lg_sl ([.ref (ad 3), .ref (ad 5)])).length) Slot.unset).toArray = ls at hl ⊢
  have hl : lv_has ls 2 [(0, .ref (ad 3)), (1, .ref (ad 5))] := hl
  refine lv_aload_n hx hb d_fillI_0 rfl (lv_at hl 0 rfl) ?_
  refine lv_null hx hb d_fillI_1 ?_
  refine lv_aload_n hx hb d_fillI_2 rfl (lv_at hl 1 rfl) ?_
  have hFc := fr_all hD hS hA
  refine va_calli (va_runV (As := [.null, .ref (ad 5)]) (rest := []) ⟨hx, hb, hml, hown, hts⟩ (c_fillB l hfl D ad ac ck s.heap.size) (cw_v 2 hts kw_823 kw_820 kw_821 kw_822 kw_6 rfl rfl (by decide +kernel) ⟨Nat.le_of_ble_eq_true rfl, Nat.le_of_ble_eq_true rfl⟩) ⟨fx_blind, va_recv hK hP (ci := 10) (q0 := 3) rfl rfl, fun U hU hW => fx_pre hU hW hP hK hD hev hNS hS hFc⟩ rfl rfl hl.1 rfl (lv_room (Nat.le_of_ble_eq_true rfl)) d_fillI_3 ⟨Nat.le_of_ble_eq_true rfl, Nat.le_of_ble_eq_true rfl⟩) hS (fun q _ h => hFc q h) hFc (fun r_1 u_2 t H1 locs ht hvm hw hB hz1 hk1 hS => ?_)
  obtain ⟨hP, -, hD1⟩ := hB
  rw [ht] at hP
  have hD := hD1.weaken (fun _ q _ h => hFc q.1 h)
  generalize H1 = H at hP hS ⊢
  refine W.cs (cells' := 0) (slots' := 0) rfl rfl ?_
  subst hw
  exact W.iret (v := 0) hx hb hr (fun t ht hW => ⟨⟨0, u_2, rfl, rfl, by rw [ht]; exact hP, va_K.moved hW.alike hK, hD⟩, hS.F ht⟩) hS.2.2 d_fillI_6
theorem d_argB_0 : decode prog_1_method_31_code 0 = .ok (.aload_n 0, 1) := by decide +kernel
theorem d_argB_1 : decode prog_1_method_31_code 1 = .ok (.getfield 96, 3) := by decide +kernel
theorem d_argB_4 : decode prog_1_method_31_code 4 = .ok (.ifCond .le 13, 3) := by decide +kernel
theorem d_argB_17 : decode prog_1_method_31_code 17 = .ok (.iconst 0, 1) := by decide +kernel
theorem d_argB_18 : decode prog_1_method_31_code 18 = .ok (.aload_n 0, 1) := by decide +kernel
theorem d_argB_19 : decode prog_1_method_31_code 19 = .ok (.getfield 96, 3) := by decide +kernel
theorem d_argB_22 : decode prog_1_method_31_code 22 = .ok (.iconst 1, 1) := by decide +kernel
theorem d_argB_23 : decode prog_1_method_31_code 23 = .ok (.if_icmp .le 13, 3) := by decide +kernel
theorem d_argB_36 : decode prog_1_method_31_code 36 = .ok (.iconst 0, 1) := by decide +kernel
theorem d_argB_37 : decode prog_1_method_31_code 37 = .ok (.iadd, 1) := by decide +kernel
theorem d_argB_38 : decode prog_1_method_31_code 38 = .ok (.ireturn, 1) := by decide +kernel
set_option maxHeartbeats 4000000 in
set_option maxRecDepth 100000 in
theorem c_argB (l : Launch) (hfl : l.flags = flags0) (D : va_G) (ad : Nat → Nat) (ac : Nat → ClassId) (ck : Nat → Int32) (sz : Nat) : Met l ⟨"JoinedTrees", "argumentBytes", "()I"⟩ (Cond.code ⟨"JoinedTrees", "argumentBytes", "()I"⟩ prog_1_method_31_code 1 (some .int) :: gb) ({ frames := 0, cells := 0, slots := 0, locals := 0 }) (fxPc D ad ac ck sz [.ref (ad 0)]) (va_Qi (fun (r : Int32) (_ : Nat → Int32) => r = 0) (fun u t => fxO D ad ac (va_A (fxW ad ac ck) sz) u t) (va_A (fxW ad ac ck) sz)) 0 0 (va_A (fxW ad ac ck) sz) := by
  refine Met.ofW (cc := prog_1_method_31_code) (maxL := 1) (ret := (some .int)) (by decide) rfl ?_
  intro p e s m args below meth c s₁ B hml hv
  obtain ⟨rfl, hsz, hP, hK, hD0, hev⟩ := hv
  have hx := B.exec
  have hb := B.bytes
  have hr := B.returns
  have hts : ∀ w9 ∈ gb, w9.before [.ref (ad 0)].toArray s = true := fun w9 h => atoms_spec (ws := Cond.code ⟨"JoinedTrees", "argumentBytes", "()I"⟩ prog_1_method_31_code 1 (some .int) :: gb) B.pre w9 (List.mem_cons_of_mem _ h)
  have hown : s.vm.findClass "JoinedTrees" = some m.cls := findClass_of_methodNamed B.named
  have hlocks := B.notSynchronized
  subst hsz
  have hNS := ns_of hP
  have hD := hD0.self (sz := s.heap.size)
  generalize hAe : va_A (fxW ad ac ck) s.heap.size = A at hD hev hNS ⊢
  have hA : ∀ q : Nat, s.heap.size ≤ q → A q := fun q h => by rw [← hAe]; exact Or.inr h
  have hS : va_S A s.heap s.heap [] := va_S.rf
  have hP : va_P D cls (fxW ad ac ck) s.heap := hP
  have hl := lv_entry ([.ref (ad 0)]) (n := 1) (Nat.le_of_ble_eq_true rfl)
  rw [lg_entry_eq]
  generalize (lg_sl ([.ref (ad 0)]) ++ List.replicate (1 - (lg_sl ([.ref (ad 0)])).length) Slot.unset).toArray = ls at hl ⊢
  have hl : lv_has ls 1 [(0, .ref (ad 0))] := hl
  refine lv_aload_n hx hb d_argB_0 rfl (lv_at hl 0 rfl) ?_
  refine va_get (D := D) (ci := 11) (v := .int 0) (C := R_JT) (T := F_JT) (N := 13) hx hb hts i_JT hown hK hP 0 rfl rfl 11 (by decide) (hts _ kw_432) (fun _ h9 => h9) rfl d_argB_1 ?_
  refine lv_if_le (tgt := 17) hx hb d_argB_4 (by decide) (fun _ => ?_) (fun h => absurd h (by decide))
  refine lv_iconst (v := 0) hx hb d_argB_17 (by decide) ?_
  refine lv_aload_n hx hb d_argB_18 rfl (lv_at hl 0 rfl) ?_
  refine va_get (D := D) (ci := 11) (v := .int 0) (C := R_JT) (T := F_JT) (N := 13) hx hb hts i_JT hown hK hP 0 rfl rfl 11 (by decide) (hts _ kw_432) (fun _ h9 => h9) rfl d_argB_19 ?_
  refine lv_iconst (v := 1) hx hb d_argB_22 (by decide) ?_
  refine lv_icmp_le (tgt := 36) hx hb d_argB_23 (by decide) (fun _ => ?_) (fun h => absurd h (by decide))
  refine lv_iconst (v := 0) hx hb d_argB_36 (by decide) ?_
  refine lv_iadd hx hb d_argB_37 ?_
  refine w_i (y := 0) (by decide) ?_
  exact W.iret (v := 0) hx hb hr (fun t ht hW => ⟨⟨0, ck, rfl, rfl, by rw [ht]; exact hP, va_K.moved hW.alike hK, hD⟩, hS.F ht⟩) hS.2.2 d_argB_38
