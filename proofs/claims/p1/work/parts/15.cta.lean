/-! CONSTRUCTORS. Printed by wip/gen/ct.py -/
theorem d_opI_0 : decode prog_5_method_1_code 0 = .ok (.aload_n 0, 1) := by decide +kernel
theorem d_opI_1 : decode prog_5_method_1_code 1 = .ok (.invokespecial 3, 3) := by decide +kernel
theorem d_opI_4 : decode prog_5_method_1_code 4 = .ok (.aload_n 0, 1) := by decide +kernel
theorem d_opI_5 : decode prog_5_method_1_code 5 = .ok (.iload_n 1, 1) := by decide +kernel
theorem d_opI_6 : decode prog_5_method_1_code 6 = .ok (.putfield 9, 3) := by decide +kernel
theorem d_opI_9 : decode prog_5_method_1_code 9 = .ok (.aload_n 0, 1) := by decide +kernel
theorem d_opI_10 : decode prog_5_method_1_code 10 = .ok (.aload_n 2, 1) := by decide +kernel
theorem d_opI_11 : decode prog_5_method_1_code 11 = .ok (.putfield 15, 3) := by decide +kernel
theorem d_opI_14 : decode prog_5_method_1_code 14 = .ok (.aload_n 0, 1) := by decide +kernel
theorem d_opI_15 : decode prog_5_method_1_code 15 = .ok (.iload_n 3, 1) := by decide +kernel
theorem d_opI_16 : decode prog_5_method_1_code 16 = .ok (.putfield 19, 3) := by decide +kernel
theorem d_opI_19 : decode prog_5_method_1_code 19 = .ok (.aload_n 0, 1) := by decide +kernel
theorem d_opI_20 : decode prog_5_method_1_code 20 = .ok (.iload_n 3, 1) := by decide +kernel
theorem d_opI_21 : decode prog_5_method_1_code 21 = .ok (.iconst 3, 1) := by decide +kernel
theorem d_opI_22 : decode prog_5_method_1_code 22 = .ok (.if_icmp .eq 14, 3) := by decide +kernel
theorem d_opI_25 : decode prog_5_method_1_code 25 = .ok (.iload_n 3, 1) := by decide +kernel
theorem d_opI_26 : decode prog_5_method_1_code 26 = .ok (.iconst 5, 1) := by decide +kernel
theorem d_opI_27 : decode prog_5_method_1_code 27 = .ok (.if_icmp .eq 9, 3) := by decide +kernel
theorem d_opI_30 : decode prog_5_method_1_code 30 = .ok (.iload_n 3, 1) := by decide +kernel
theorem d_opI_31 : decode prog_5_method_1_code 31 = .ok (.bipush 10, 2) := by decide +kernel
theorem d_opI_33 : decode prog_5_method_1_code 33 = .ok (.if_icmp .ne 8, 3) := by decide +kernel
theorem d_opI_41 : decode prog_5_method_1_code 41 = .ok (.lconst 0, 1) := by decide +kernel
theorem d_opI_42 : decode prog_5_method_1_code 42 = .ok (.putfield 22, 3) := by decide +kernel
theorem d_opI_45 : decode prog_5_method_1_code 45 = .ok (.return_, 1) := by decide +kernel
set_option maxHeartbeats 4000000 in
set_option maxRecDepth 100000 in
theorem g_opI (l : Launch) (D : va_G) (sz : Nat) (h0 : Nat) : Met l ⟨"JoinedTrees$Op", "<init>", "(ILJoinedTrees$Op;IJ)V"⟩ (Cond.code ⟨"JoinedTrees$Op", "<init>", "(ILJoinedTrees$Op;IJ)V"⟩ prog_5_method_1_code 6 none :: gb) ({ frames := 1, cells := 0, slots := 0, locals := 24 }) (gPc D [(h0, .inr (3, [.int 0, .null, .int 0, .long 0, .int 0, .int 0, .null, .null, .int 0, .int 0, .int 0, .null, .null, .null, .int 0]))] [] sz [.ref h0, .int 0, .null, .int 6, .long 0]) (va_Qv (fun u : Unit => True) (fun _ t => gO D [(h0, .inr (3, [.int 0, .null, .int 6, .long 0, .int 0, .int 0, .null, .null, .int 0, .int 0, .int 0, .null, .null, .null, .int 0]))] [] (va_A [(h0, .inr (3, [.int 0, .null, .int 0, .long 0, .int 0, .int 0, .null, .null, .int 0, .int 0, .int 0, .null, .null, .null, .int 0]))] sz) t) (va_A [(h0, .inr (3, [.int 0, .null, .int 0, .long 0, .int 0, .int 0, .null, .null, .int 0, .int 0, .int 0, .null, .null, .null, .int 0]))] sz)) 0 0 (va_A [(h0, .inr (3, [.int 0, .null, .int 0, .long 0, .int 0, .int 0, .null, .null, .int 0, .int 0, .int 0, .null, .null, .null, .int 0]))] sz) := by
  refine Met.ofW (cc := prog_5_method_1_code) (maxL := 6) (ret := none) (by decide) rfl ?_
  intro p e s m args below meth c s₁ B hml hv
  obtain ⟨rfl, hsz, hP, hK, hD0⟩ := hv
  have hx := B.exec
  have hb := B.bytes
  have hr := B.returns
  have hts : ∀ w9 ∈ gb, w9.before [.ref h0, .int 0, .null, .int 6, .long 0].toArray s = true := fun w9 h => atoms_spec (ws := Cond.code ⟨"JoinedTrees$Op", "<init>", "(ILJoinedTrees$Op;IJ)V"⟩ prog_5_method_1_code 6 none :: gb) B.pre w9 (List.mem_cons_of_mem _ h)
  have hown : s.vm.findClass "JoinedTrees$Op" = some m.cls := findClass_of_methodNamed B.named
  have hlocks := B.notSynchronized
  have hin : meth.name = "<init>" := (name_of_methodNamed B.named B.method).1
  subst hsz
  have hD := hD0.self (sz := s.heap.size)
  generalize hAe : va_A [(h0, .inr (3, [.int 0, .null, .int 0, .long 0, .int 0, .int 0, .null, .null, .int 0, .int 0, .int 0, .null, .null, .null, .int 0]))] s.heap.size = A at hD ⊢
  have hA : ∀ q : Nat, s.heap.size ≤ q → A q := fun q h => by rw [← hAe]; exact Or.inr h
  have hS : va_S A s.heap s.heap [] := va_S.rf
  have hP : va_P D cls [(h0, .inr (3, [.int 0, .null, .int 0, .long 0, .int 0, .int 0, .null, .null, .int 0, .int 0, .int 0, .null, .null, .null, .int 0]))] s.heap := hP
  have hl := lv_entry ([.ref h0, .int 0, .null, .int 6, .long 0]) (n := 6) (Nat.le_of_ble_eq_true rfl)
  rw [lg_entry_eq]
  generalize (lg_sl ([.ref h0, .int 0, .null, .int 6, .long 0]) ++ List.replicate (6 - (lg_sl ([.ref h0, .int 0, .null, .int 6, .long 0])).length) Slot.unset).toArray = ls at hl ⊢
  have hl : lv_has ls 6 [(0, .ref h0), (1, .int 0), (2, .null), (3, .int 6), (4, .long 0)] := hl
  refine lv_aload_n hx hb d_opI_0 rfl (lv_at hl 0 rfl) ?_
  refine W.objInit hx hb hown (hts _ kw_47) (hts _ kw_34) (hts _ kw_35) rfl (by rw [hml]; exact hl.1) rfl d_opI_1 (Nat.le_of_ble_eq_true rfl) (Nat.le_of_ble_eq_true rfl) ?_
  refine W.eq (g2 := F0 m 4 ls []) rfl ?_
  refine lv_aload_n hx hb d_opI_4 rfl (lv_at hl 0 rfl) ?_
  refine lv_iload_n hx hb d_opI_5 rfl (lv_at hl 1 rfl) ?_
  refine va_putF (D := D) (ci := 3) (v := .int 0) (ty := .int) (C := R_Op) (T := F_Op) (N := 15) hx hb hts i_Op t_Op t_Op_ok n_Op hown hK hP hD hS 0 rfl rfl 0 (by decide) (hts _ kw_48) (fun _ h9 => h9) rfl hin rfl (by decide +kernel) rfl rfl (Nat.le_of_ble_eq_true rfl) d_opI_6 (fun H locs hP hD hS => ?_)
  have hP : va_P D cls [(h0, .inr (3, [.int 0, .null, .int 0, .long 0, .int 0, .int 0, .null, .null, .int 0, .int 0, .int 0, .null, .null, .null, .int 0]))] H := hP
  have hD : va_D A [(h0, .inr (3, [.int 0, .null, .int 0, .long 0, .int 0, .int 0, .null, .null, .int 0, .int 0, .int 0, .null, .null, .null, .int 0]))] := hD
  refine lv_aload_n hx hb d_opI_9 rfl (lv_at hl 0 rfl) ?_
  refine lv_aload_nN hx hb d_opI_10 rfl (lv_at hl 2 rfl) ?_
  refine va_putF (D := D) (ci := 3) (v := .null) (ty := .object "JoinedTrees$Op") (C := R_Op) (T := F_Op) (N := 15) hx hb hts i_Op t_Op t_Op_ok n_Op hown hK hP hD hS 0 rfl rfl 1 (by decide) (hts _ kw_54) (fun _ h9 => h9) rfl hin rfl (by decide +kernel) rfl rfl (Nat.le_of_ble_eq_true rfl) d_opI_11 (fun H locs hP hD hS => ?_)
  have hP : va_P D cls [(h0, .inr (3, [.int 0, .null, .int 0, .long 0, .int 0, .int 0, .null, .null, .int 0, .int 0, .int 0, .null, .null, .null, .int 0]))] H := hP
  have hD : va_D A [(h0, .inr (3, [.int 0, .null, .int 0, .long 0, .int 0, .int 0, .null, .null, .int 0, .int 0, .int 0, .null, .null, .null, .int 0]))] := hD
  refine lv_aload_n hx hb d_opI_14 rfl (lv_at hl 0 rfl) ?_
  refine lv_iload_n hx hb d_opI_15 rfl (lv_at hl 3 rfl) ?_
  refine va_putF (D := D) (ci := 3) (v := .int 6) (ty := .int) (C := R_Op) (T := F_Op) (N := 15) hx hb hts i_Op t_Op t_Op_ok n_Op hown hK hP hD hS 0 rfl rfl 2 (by decide) (hts _ kw_59) (fun _ h9 => h9) rfl hin rfl (by decide +kernel) rfl rfl (Nat.le_of_ble_eq_true rfl) d_opI_16 (fun H locs hP hD hS => ?_)
  have hP : va_P D cls [(h0, .inr (3, [.int 0, .null, .int 6, .long 0, .int 0, .int 0, .null, .null, .int 0, .int 0, .int 0, .null, .null, .null, .int 0]))] H := hP
  have hD : va_D A [(h0, .inr (3, [.int 0, .null, .int 6, .long 0, .int 0, .int 0, .null, .null, .int 0, .int 0, .int 0, .null, .null, .null, .int 0]))] := hD
  refine lv_aload_n hx hb d_opI_19 rfl (lv_at hl 0 rfl) ?_
  refine lv_iload_n hx hb d_opI_20 rfl (lv_at hl 3 rfl) ?_
  refine lv_iconst (v := 3) hx hb d_opI_21 (by decide) ?_
  refine lv_icmp_eq (tgt := 36) hx hb d_opI_22 (by decide) (fun h => absurd h (by decide)) (fun _ => ?_)
  refine lv_iload_n hx hb d_opI_25 rfl (lv_at hl 3 rfl) ?_
  refine lv_iconst (v := 5) hx hb d_opI_26 (by decide) ?_
  refine lv_icmp_eq (tgt := 36) hx hb d_opI_27 (by decide) (fun h => absurd h (by decide)) (fun _ => ?_)
  refine lv_iload_n hx hb d_opI_30 rfl (lv_at hl 3 rfl) ?_
  refine lv_bipush (v := 10) hx hb d_opI_31 (by decide) ?_
  refine lv_icmp_ne (tgt := 41) hx hb d_opI_33 (by decide) (fun _ => ?_) (fun h => absurd h (by decide))
  refine lv_lconst (v := 0) hx hb d_opI_41 (by decide) ?_
  refine va_putF (D := D) (ci := 3) (v := .long 0) (ty := .long) (C := R_Op) (T := F_Op) (N := 15) hx hb hts i_Op t_Op t_Op_ok n_Op hown hK hP hD hS 0 rfl rfl 3 (by decide) (hts _ kw_64) (fun _ h9 => h9) rfl hin rfl (by decide +kernel) rfl rfl (Nat.le_of_ble_eq_true rfl) d_opI_42 (fun H locs hP hD hS => ?_)
  have hP : va_P D cls [(h0, .inr (3, [.int 0, .null, .int 6, .long 0, .int 0, .int 0, .null, .null, .int 0, .int 0, .int 0, .null, .null, .null, .int 0]))] H := hP
  have hD : va_D A [(h0, .inr (3, [.int 0, .null, .int 6, .long 0, .int 0, .int 0, .null, .null, .int 0, .int 0, .int 0, .null, .null, .null, .int 0]))] := hD
  exact W.vret hx hb hr (fun t ht hW => ⟨⟨(), rfl, trivial, by rw [ht]; exact hP.sub [0] rfl, va_K.moved hW.alike hK, hD.sub [0] (by decide) rfl⟩, hS.F ht⟩) hS.2.2 d_opI_45
theorem d_rowI_0 : decode prog_7_method_1_code 0 = .ok (.aload_n 0, 1) := by decide +kernel
theorem d_rowI_1 : decode prog_7_method_1_code 1 = .ok (.invokespecial 1, 3) := by decide +kernel
theorem d_rowI_4 : decode prog_7_method_1_code 4 = .ok (.aload_n 0, 1) := by decide +kernel
theorem d_rowI_5 : decode prog_7_method_1_code 5 = .ok (.iload_n 1, 1) := by decide +kernel
theorem d_rowI_6 : decode prog_7_method_1_code 6 = .ok (.newarray .byte, 2) := by decide +kernel
theorem d_rowI_8 : decode prog_7_method_1_code 8 = .ok (.putfield 7, 3) := by decide +kernel
theorem d_rowI_11 : decode prog_7_method_1_code 11 = .ok (.return_, 1) := by decide +kernel
set_option maxHeartbeats 4000000 in
set_option maxRecDepth 100000 in
theorem g_rowI (l : Launch) (D : va_G) (sz : Nat) (h0 N : Nat) (hN : N ≤ 300000) : Met l ⟨"JoinedTrees$Row", "<init>", "(I)V"⟩ (Cond.code ⟨"JoinedTrees$Row", "<init>", "(I)V"⟩ prog_7_method_1_code 2 none :: gb) ({ frames := 1, cells := 1, slots := N, locals := 24 }) (gPc D [(h0, .inr (5, [.null, .int 0, .int 0]))] [] sz [.ref h0, .int (nI N)]) (va_Qv (fun u : Nat × ClassId => True) (fun u t => gO D [(h0, .inr (5, [.ref u.1, .int 0, .int 0])), (u.1, .inl (u.2, N, .inl (fun _ => 0)))] [(u.2, .byte)] (va_A [(h0, .inr (5, [.null, .int 0, .int 0]))] sz) t) (va_A [(h0, .inr (5, [.null, .int 0, .int 0]))] sz)) 1 N (va_A [(h0, .inr (5, [.null, .int 0, .int 0]))] sz) := by
  refine Met.ofW (cc := prog_7_method_1_code) (maxL := 2) (ret := none) (by decide) rfl ?_
  intro p e s m args below meth c s₁ B hml hv
  obtain ⟨rfl, hsz, hP, hK, hD0⟩ := hv
  have hx := B.exec
  have hb := B.bytes
  have hr := B.returns
  have hts : ∀ w9 ∈ gb, w9.before [.ref h0, .int (nI N)].toArray s = true := fun w9 h => atoms_spec (ws := Cond.code ⟨"JoinedTrees$Row", "<init>", "(I)V"⟩ prog_7_method_1_code 2 none :: gb) B.pre w9 (List.mem_cons_of_mem _ h)
  have hown : s.vm.findClass "JoinedTrees$Row" = some m.cls := findClass_of_methodNamed B.named
  have hlocks := B.notSynchronized
  have hin : meth.name = "<init>" := (name_of_methodNamed B.named B.method).1
  subst hsz
  have hD := hD0.self (sz := s.heap.size)
  generalize hAe : va_A [(h0, .inr (5, [.null, .int 0, .int 0]))] s.heap.size = A at hD ⊢
  have hA : ∀ q : Nat, s.heap.size ≤ q → A q := fun q h => by rw [← hAe]; exact Or.inr h
  have hS : va_S A s.heap s.heap [] := va_S.rf
  have hP : va_P D cls [(h0, .inr (5, [.null, .int 0, .int 0]))] s.heap := hP
  have hl := lv_entry ([.ref h0, .int (nI N)]) (n := 2) (Nat.le_of_ble_eq_true rfl)
  rw [lg_entry_eq]
  generalize (lg_sl ([.ref h0, .int (nI N)]) ++ List.replicate (2 - (lg_sl ([.ref h0, .int (nI N)])).length) Slot.unset).toArray = ls at hl ⊢
  have hl : lv_has ls 2 [(0, .ref h0), (1, .int (nI N))] := hl
  refine lv_aload_n hx hb d_rowI_0 rfl (lv_at hl 0 rfl) ?_
  refine W.objInit hx hb hown (hts _ kw_139) (hts _ kw_34) (hts _ kw_35) rfl (by rw [hml]; exact hl.1) rfl d_rowI_1 (Nat.le_of_ble_eq_true rfl) (Nat.le_of_ble_eq_true rfl) ?_
  refine W.eq (g2 := F0 m 4 ls []) rfl ?_
  refine lv_aload_n hx hb d_rowI_4 rfl (lv_at hl 0 rfl) ?_
  refine lv_iload_n hx hb d_rowI_5 rfl (lv_at hl 1 rfl) ?_
  refine va_newa (atype := .byte) (N' := N) (a0 := (N, .inl (fun _ => 0))) (ty := .byte) hx hb (hts _ kw_158) rfl hK hP hD hS hA (fun _ => rfl) (nI_pos (by omega)) (nI_clamp (by omega)) (by show N * 1 ≤ _; omega) (Nat.le_of_ble_eq_true rfl) (by show 0 + N ≤ N; omega) d_rowI_6 (fun q_1 cA_2 H hK hP hD hS => ?_)
  have hK : va_K D cls [(cA_2, .byte)] s := hK
  have hP : va_P D cls [(h0, .inr (5, [.null, .int 0, .int 0])), (q_1, .inl (cA_2, N, .inl (fun _ => 0)))] H := hP
  have hD : va_D A [(h0, .inr (5, [.null, .int 0, .int 0])), (q_1, .inl (cA_2, N, .inl (fun _ => 0)))] := hD
  refine W.cs (cells' := 1) (slots' := N) rfl (Nat.zero_add N) ?_
  refine va_putF (D := D) (ci := 5) (v := .ref q_1) (ty := .array (.byte)) (C := R_Rw) (T := F_Rw) (N := 3) hx hb hts i_Rw t_Rw t_Rw_ok n_Rw hown hK hP hD hS 0 rfl rfl 0 (by decide) (hts _ kw_140) (fun _ h9 => h9) rfl hin rfl (by decide +kernel) rfl rfl (Nat.le_of_ble_eq_true rfl) d_rowI_8 (fun H locs hP hD hS => ?_)
  have hP : va_P D cls [(h0, .inr (5, [.ref q_1, .int 0, .int 0])), (q_1, .inl (cA_2, N, .inl (fun _ => 0)))] H := hP
  have hD : va_D A [(h0, .inr (5, [.ref q_1, .int 0, .int 0])), (q_1, .inl (cA_2, N, .inl (fun _ => 0)))] := hD
  exact W.vret hx hb hr (fun t ht hW => ⟨⟨(q_1, cA_2), rfl, trivial, by rw [ht]; exact hP, va_K.moved hW.alike hK, hD⟩, hS.F ht⟩) hS.2.2 d_rowI_11
theorem d_repI_0 : decode prog_6_method_1_code 0 = .ok (.aload_n 0, 1) := by decide +kernel
theorem d_repI_1 : decode prog_6_method_1_code 1 = .ok (.invokespecial 3, 3) := by decide +kernel
theorem d_repI_4 : decode prog_6_method_1_code 4 = .ok (.aload_n 0, 1) := by decide +kernel
theorem d_repI_5 : decode prog_6_method_1_code 5 = .ok (.bipush 8, 2) := by decide +kernel
theorem d_repI_7 : decode prog_6_method_1_code 7 = .ok (.newarray .int, 2) := by decide +kernel
theorem d_repI_9 : decode prog_6_method_1_code 9 = .ok (.putfield 9, 3) := by decide +kernel
theorem d_repI_12 : decode prog_6_method_1_code 12 = .ok (.aload_n 0, 1) := by decide +kernel
theorem d_repI_13 : decode prog_6_method_1_code 13 = .ok (.sipush 1000, 3) := by decide +kernel
theorem d_repI_16 : decode prog_6_method_1_code 16 = .ok (.newarray .boolean, 2) := by decide +kernel
theorem d_repI_18 : decode prog_6_method_1_code 18 = .ok (.putfield 15, 3) := by decide +kernel
theorem d_repI_21 : decode prog_6_method_1_code 21 = .ok (.aload_n 0, 1) := by decide +kernel
theorem d_repI_22 : decode prog_6_method_1_code 22 = .ok (.bipush 8, 2) := by decide +kernel
theorem d_repI_24 : decode prog_6_method_1_code 24 = .ok (.anewarray 19, 3) := by decide +kernel
theorem d_repI_27 : decode prog_6_method_1_code 27 = .ok (.putfield 21, 3) := by decide +kernel
theorem d_repI_30 : decode prog_6_method_1_code 30 = .ok (.aload_n 0, 1) := by decide +kernel
theorem d_repI_31 : decode prog_6_method_1_code 31 = .ok (.iload_n 1, 1) := by decide +kernel
theorem d_repI_32 : decode prog_6_method_1_code 32 = .ok (.putfield 25, 3) := by decide +kernel
theorem d_repI_35 : decode prog_6_method_1_code 35 = .ok (.return_, 1) := by decide +kernel
set_option maxHeartbeats 4000000 in
set_option maxRecDepth 100000 in
theorem g_repI (l : Launch) (D : va_G) (sz : Nat) (h0 : Nat) (x : Int32) : Met l ⟨"JoinedTrees$Replica", "<init>", "(I)V"⟩ (Cond.code ⟨"JoinedTrees$Replica", "<init>", "(I)V"⟩ prog_6_method_1_code 2 none :: gb) ({ frames := 1, cells := 3, slots := 1016, locals := 24 }) (gPv D [(h0, .inr (4, [.int 0, .null, .null, .null, .null, .int 0, .int 0, .int 0, .int 0, .int 0]))] [] sz [.ref h0, .int x]) (va_Qv (fun u : List Nat × List ClassId => True) (fun u t => gO D [(h0, .inr (4, [.int x, .ref (u.1.getD 0 0), .ref (u.1.getD 2 0), .ref (u.1.getD 1 0), .null, .int 0, .int 0, .int 0, .int 0, .int 0])), ((u.1.getD 0 0), .inl ((u.2.getD 0 0), 8, .inl (fun _ => 0))), ((u.1.getD 1 0), .inl ((u.2.getD 1 0), 8, .inr (.inr (.inr (.inr (fun _ => none))))))] [((u.2.getD 0 0), .int), ((u.2.getD 1 0), .object "JoinedTrees$Change")] (va_A [(h0, .inr (4, [.int 0, .null, .null, .null, .null, .int 0, .int 0, .int 0, .int 0, .int 0]))] sz) t) (va_A [(h0, .inr (4, [.int 0, .null, .null, .null, .null, .int 0, .int 0, .int 0, .int 0, .int 0]))] sz)) 3 1016 (va_A [(h0, .inr (4, [.int 0, .null, .null, .null, .null, .int 0, .int 0, .int 0, .int 0, .int 0]))] sz) := by
  refine Met.ofW (cc := prog_6_method_1_code) (maxL := 2) (ret := none) (by decide) rfl ?_
  intro p e s m args below meth c s₁ B hml hv
  obtain ⟨rfl, hsz, hP, hK, hD0, hev⟩ := hv
  have hx := B.exec
  have hb := B.bytes
  have hr := B.returns
  have hts : ∀ w9 ∈ gb, w9.before [.ref h0, .int x].toArray s = true := fun w9 h => atoms_spec (ws := Cond.code ⟨"JoinedTrees$Replica", "<init>", "(I)V"⟩ prog_6_method_1_code 2 none :: gb) B.pre w9 (List.mem_cons_of_mem _ h)
  have hown : s.vm.findClass "JoinedTrees$Replica" = some m.cls := findClass_of_methodNamed B.named
  have hlocks := B.notSynchronized
  have hin : meth.name = "<init>" := (name_of_methodNamed B.named B.method).1
  subst hsz
  have hD := hD0.self (sz := s.heap.size)
  generalize hAe : va_A [(h0, .inr (4, [.int 0, .null, .null, .null, .null, .int 0, .int 0, .int 0, .int 0, .int 0]))] s.heap.size = A at hD ⊢
  have hA : ∀ q : Nat, s.heap.size ≤ q → A q := fun q h => by rw [← hAe]; exact Or.inr h
  have hS : va_S A s.heap s.heap [] := va_S.rf
  have hP : va_P D cls [(h0, .inr (4, [.int 0, .null, .null, .null, .null, .int 0, .int 0, .int 0, .int 0, .int 0]))] s.heap := hP
  have hl := lv_entry ([.ref h0, .int x]) (n := 2) (Nat.le_of_ble_eq_true rfl)
  rw [lg_entry_eq]
  generalize (lg_sl ([.ref h0, .int x]) ++ List.replicate (2 - (lg_sl ([.ref h0, .int x])).length) Slot.unset).toArray = ls at hl ⊢
  have hl : lv_has ls 2 [(0, .ref h0), (1, .int x)] := hl
  refine lv_aload_n hx hb d_repI_0 rfl (lv_at hl 0 rfl) ?_
  refine W.objInit hx hb hown (hts _ kw_198) (hts _ kw_34) (hts _ kw_35) rfl (by rw [hml]; exact hl.1) rfl d_repI_1 (Nat.le_of_ble_eq_true rfl) (Nat.le_of_ble_eq_true rfl) ?_
  refine W.eq (g2 := F0 m 4 ls []) rfl ?_
  refine lv_aload_n hx hb d_repI_4 rfl (lv_at hl 0 rfl) ?_
  refine lv_bipush (v := 8) hx hb d_repI_5 (by decide) ?_
  refine va_newa (atype := .int) (N' := 8) (a0 := (8, .inl (fun _ => 0))) (ty := .int) hx hb (hts _ kw_252) rfl hK hP hD hS hA (fun _ => rfl) (by decide) (by decide) (by decide) (Nat.le_of_ble_eq_true rfl) (Nat.le_of_ble_eq_true rfl) d_repI_7 (fun q_1 cA_2 H hK hP hD hS => ?_)
  have hK : va_K D cls [(cA_2, .int)] s := hK
  have hP : va_P D cls [(h0, .inr (4, [.int 0, .null, .null, .null, .null, .int 0, .int 0, .int 0, .int 0, .int 0])), (q_1, .inl (cA_2, 8, .inl (fun _ => 0)))] H := hP
  have hD : va_D A [(h0, .inr (4, [.int 0, .null, .null, .null, .null, .int 0, .int 0, .int 0, .int 0, .int 0])), (q_1, .inl (cA_2, 8, .inl (fun _ => 0)))] := hD
  refine W.cs (cells' := 1) (slots' := 8) rfl rfl ?_
  refine va_putF (D := D) (ci := 4) (v := .ref q_1) (ty := .array (.int)) (C := R_Rp) (T := F_Rp) (N := 10) hx hb hts i_Rp t_Rp t_Rp_ok n_Rp hown hK hP hD hS 0 rfl rfl 1 (by decide) (hts _ kw_205) (fun _ h9 => h9) rfl hin rfl (by decide +kernel) rfl rfl (Nat.le_of_ble_eq_true rfl) d_repI_9 (fun H locs hP hD hS => ?_)
  have hP : va_P D cls [(h0, .inr (4, [.int 0, .ref q_1, .null, .null, .null, .int 0, .int 0, .int 0, .int 0, .int 0])), (q_1, .inl (cA_2, 8, .inl (fun _ => 0)))] H := hP
  have hD : va_D A [(h0, .inr (4, [.int 0, .ref q_1, .null, .null, .null, .int 0, .int 0, .int 0, .int 0, .int 0])), (q_1, .inl (cA_2, 8, .inl (fun _ => 0)))] := hD
  refine lv_aload_n hx hb d_repI_12 rfl (lv_at hl 0 rfl) ?_
  refine lv_sipush (v := 1000) hx hb d_repI_13 (by decide) ?_
  refine va_newa (atype := .boolean) (N' := 1000) (a0 := (1000, .inl (fun _ => 0))) (ty := .boolean) hx hb (hts _ kw_253) rfl hK hP hD hS hA (fun _ => rfl) (by decide) (by decide) (by decide) (Nat.le_of_ble_eq_true rfl) (Nat.le_of_ble_eq_true rfl) d_repI_16 (fun q_3 cA_4 H hK hP hD hS => ?_)
  have hK : va_K D cls [(cA_2, .int), (cA_4, .boolean)] s := hK
  have hP : va_P D cls [(h0, .inr (4, [.int 0, .ref q_1, .null, .null, .null, .int 0, .int 0, .int 0, .int 0, .int 0])), (q_1, .inl (cA_2, 8, .inl (fun _ => 0))), (q_3, .inl (cA_4, 1000, .inl (fun _ => 0)))] H := hP
  have hD : va_D A [(h0, .inr (4, [.int 0, .ref q_1, .null, .null, .null, .int 0, .int 0, .int 0, .int 0, .int 0])), (q_1, .inl (cA_2, 8, .inl (fun _ => 0))), (q_3, .inl (cA_4, 1000, .inl (fun _ => 0)))] := hD
  refine W.cs (cells' := 2) (slots' := 1008) rfl rfl ?_
  refine va_putF (D := D) (ci := 4) (v := .ref q_3) (ty := .array (.boolean)) (C := R_Rp) (T := F_Rp) (N := 10) hx hb hts i_Rp t_Rp t_Rp_ok n_Rp hown hK hP hD hS 0 rfl rfl 2 (by decide) (hts _ kw_210) (fun _ h9 => h9) rfl hin rfl (by decide +kernel) rfl rfl (Nat.le_of_ble_eq_true rfl) d_repI_18 (fun H locs hP hD hS => ?_)
  have hP : va_P D cls [(h0, .inr (4, [.int 0, .ref q_1, .ref q_3, .null, .null, .int 0, .int 0, .int 0, .int 0, .int 0])), (q_1, .inl (cA_2, 8, .inl (fun _ => 0))), (q_3, .inl (cA_4, 1000, .inl (fun _ => 0)))] H := hP
  have hD : va_D A [(h0, .inr (4, [.int 0, .ref q_1, .ref q_3, .null, .null, .int 0, .int 0, .int 0, .int 0, .int 0])), (q_1, .inl (cA_2, 8, .inl (fun _ => 0))), (q_3, .inl (cA_4, 1000, .inl (fun _ => 0)))] := hD
  refine lv_aload_n hx hb d_repI_21 rfl (lv_at hl 0 rfl) ?_
  refine lv_bipush (v := 8) hx hb d_repI_22 (by decide) ?_
  refine va_newq (C := "JoinedTrees$Change") (N' := 8) hx hb hown (hts _ kw_199) hev.1.2.1 hK hP hD hS hA (by decide) (by decide) (by decide) (Nat.le_of_ble_eq_true rfl) (Nat.le_of_ble_eq_true rfl) d_repI_24 (fun q_5 cA_6 H hK hP hD hS => ?_)
  have hK : va_K D cls [(cA_2, .int), (cA_4, .boolean), (cA_6, .object "JoinedTrees$Change")] s := hK
  have hP : va_P D cls [(h0, .inr (4, [.int 0, .ref q_1, .ref q_3, .null, .null, .int 0, .int 0, .int 0, .int 0, .int 0])), (q_1, .inl (cA_2, 8, .inl (fun _ => 0))), (q_3, .inl (cA_4, 1000, .inl (fun _ => 0))), (q_5, .inl (cA_6, 8, .inr (.inr (.inr (.inr (fun _ => none))))))] H := hP
  have hD : va_D A [(h0, .inr (4, [.int 0, .ref q_1, .ref q_3, .null, .null, .int 0, .int 0, .int 0, .int 0, .int 0])), (q_1, .inl (cA_2, 8, .inl (fun _ => 0))), (q_3, .inl (cA_4, 1000, .inl (fun _ => 0))), (q_5, .inl (cA_6, 8, .inr (.inr (.inr (.inr (fun _ => none))))))] := hD
  refine W.cs (cells' := 3) (slots' := 1016) rfl rfl ?_
  refine va_putF (D := D) (ci := 4) (v := .ref q_5) (ty := .array (.object "JoinedTrees$Change")) (C := R_Rp) (T := F_Rp) (N := 10) hx hb hts i_Rp t_Rp t_Rp_ok n_Rp hown hK hP hD hS 0 rfl rfl 3 (by decide) (hts _ kw_213) (fun _ h9 => h9) rfl hin rfl (by decide +kernel) rfl rfl (Nat.le_of_ble_eq_true rfl) d_repI_27 (fun H locs hP hD hS => ?_)
  have hP : va_P D cls [(h0, .inr (4, [.int 0, .ref q_1, .ref q_3, .ref q_5, .null, .int 0, .int 0, .int 0, .int 0, .int 0])), (q_1, .inl (cA_2, 8, .inl (fun _ => 0))), (q_3, .inl (cA_4, 1000, .inl (fun _ => 0))), (q_5, .inl (cA_6, 8, .inr (.inr (.inr (.inr (fun _ => none))))))] H := hP
  have hD : va_D A [(h0, .inr (4, [.int 0, .ref q_1, .ref q_3, .ref q_5, .null, .int 0, .int 0, .int 0, .int 0, .int 0])), (q_1, .inl (cA_2, 8, .inl (fun _ => 0))), (q_3, .inl (cA_4, 1000, .inl (fun _ => 0))), (q_5, .inl (cA_6, 8, .inr (.inr (.inr (.inr (fun _ => none))))))] := hD
  refine lv_aload_n hx hb d_repI_30 rfl (lv_at hl 0 rfl) ?_
  refine lv_iload_n hx hb d_repI_31 rfl (lv_at hl 1 rfl) ?_
  refine va_putF (D := D) (ci := 4) (v := .int x) (ty := .int) (C := R_Rp) (T := F_Rp) (N := 10) hx hb hts i_Rp t_Rp t_Rp_ok n_Rp hown hK hP hD hS 0 rfl rfl 0 (by decide) (hts _ kw_201) (fun _ h9 => h9) rfl hin rfl (by decide +kernel) rfl rfl (Nat.le_of_ble_eq_true rfl) d_repI_32 (fun H locs hP hD hS => ?_)
  have hP : va_P D cls [(h0, .inr (4, [.int x, .ref q_1, .ref q_3, .ref q_5, .null, .int 0, .int 0, .int 0, .int 0, .int 0])), (q_1, .inl (cA_2, 8, .inl (fun _ => 0))), (q_3, .inl (cA_4, 1000, .inl (fun _ => 0))), (q_5, .inl (cA_6, 8, .inr (.inr (.inr (.inr (fun _ => none))))))] H := hP
  have hD : va_D A [(h0, .inr (4, [.int x, .ref q_1, .ref q_3, .ref q_5, .null, .int 0, .int 0, .int 0, .int 0, .int 0])), (q_1, .inl (cA_2, 8, .inl (fun _ => 0))), (q_3, .inl (cA_4, 1000, .inl (fun _ => 0))), (q_5, .inl (cA_6, 8, .inr (.inr (.inr (.inr (fun _ => none))))))] := hD
  exact W.vret hx hb hr (fun t ht hW => ⟨⟨([q_1, q_5, q_3], [cA_2, cA_6]), rfl, trivial, by rw [ht]; exact hP.sub [0, 1, 3] rfl, va_K.moved hW.alike (hK.sub [0, 2] rfl), hD.sub [0, 1, 3] (by decide) rfl⟩, hS.F ht⟩) hS.2.2 d_repI_35
theorem d_vwI_0 : decode prog_12_method_1_code 0 = .ok (.aload_n 0, 1) := by decide +kernel
theorem d_vwI_1 : decode prog_12_method_1_code 1 = .ok (.invokespecial 3, 3) := by decide +kernel
theorem d_vwI_4 : decode prog_12_method_1_code 4 = .ok (.aload_n 0, 1) := by decide +kernel
theorem d_vwI_5 : decode prog_12_method_1_code 5 = .ok (.bipush 8, 2) := by decide +kernel
theorem d_vwI_7 : decode prog_12_method_1_code 7 = .ok (.newarray .int, 2) := by decide +kernel
theorem d_vwI_9 : decode prog_12_method_1_code 9 = .ok (.putfield 9, 3) := by decide +kernel
theorem d_vwI_12 : decode prog_12_method_1_code 12 = .ok (.aload_n 0, 1) := by decide +kernel
theorem d_vwI_13 : decode prog_12_method_1_code 13 = .ok (.bipush 8, 2) := by decide +kernel
theorem d_vwI_15 : decode prog_12_method_1_code 15 = .ok (.anewarray 15, 3) := by decide +kernel
theorem d_vwI_18 : decode prog_12_method_1_code 18 = .ok (.putfield 17, 3) := by decide +kernel
theorem d_vwI_21 : decode prog_12_method_1_code 21 = .ok (.aload_n 0, 1) := by decide +kernel
theorem d_vwI_22 : decode prog_12_method_1_code 22 = .ok (.aload_n 1, 1) := by decide +kernel
theorem d_vwI_23 : decode prog_12_method_1_code 23 = .ok (.putfield 21, 3) := by decide +kernel
theorem d_vwI_26 : decode prog_12_method_1_code 26 = .ok (.return_, 1) := by decide +kernel
set_option maxHeartbeats 4000000 in
set_option maxRecDepth 100000 in
theorem g_vwI (l : Launch) (D : va_G) (sz : Nat) (h0 b0 : Nat) : Met l ⟨"JoinedTrees$View", "<init>", "(LJoinedTrees$Store;)V"⟩ (Cond.code ⟨"JoinedTrees$View", "<init>", "(LJoinedTrees$Store;)V"⟩ prog_12_method_1_code 2 none :: gb) ({ frames := 1, cells := 2, slots := 16, locals := 24 }) (gPv D [(h0, .inr (10, [.null, .null, .null, .int 0, .int 0]))] [] sz [.ref h0, .ref b0]) (va_Qv (fun u : List Nat × List ClassId => True) (fun u t => gO D [(h0, .inr (10, [.ref b0, .ref (u.1.getD 0 0), .ref (u.1.getD 1 0), .int 0, .int 0])), ((u.1.getD 0 0), .inl ((u.2.getD 0 0), 8, .inl (fun _ => 0)))] [((u.2.getD 0 0), .int)] (va_A [(h0, .inr (10, [.null, .null, .null, .int 0, .int 0]))] sz) t) (va_A [(h0, .inr (10, [.null, .null, .null, .int 0, .int 0]))] sz)) 2 16 (va_A [(h0, .inr (10, [.null, .null, .null, .int 0, .int 0]))] sz) := by
  refine Met.ofW (cc := prog_12_method_1_code) (maxL := 2) (ret := none) (by decide) rfl ?_
  intro p e s m args below meth c s₁ B hml hv
  obtain ⟨rfl, hsz, hP, hK, hD0, hev⟩ := hv
  have hx := B.exec
  have hb := B.bytes
  have hr := B.returns
  have hts : ∀ w9 ∈ gb, w9.before [.ref h0, .ref b0].toArray s = true := fun w9 h => atoms_spec (ws := Cond.code ⟨"JoinedTrees$View", "<init>", "(LJoinedTrees$Store;)V"⟩ prog_12_method_1_code 2 none :: gb) B.pre w9 (List.mem_cons_of_mem _ h)
  have hown : s.vm.findClass "JoinedTrees$View" = some m.cls := findClass_of_methodNamed B.named
  have hlocks := B.notSynchronized
  have hin : meth.name = "<init>" := (name_of_methodNamed B.named B.method).1
  subst hsz
  have hD := hD0.self (sz := s.heap.size)
  generalize hAe : va_A [(h0, .inr (10, [.null, .null, .null, .int 0, .int 0]))] s.heap.size = A at hD ⊢
  have hA : ∀ q : Nat, s.heap.size ≤ q → A q := fun q h => by rw [← hAe]; exact Or.inr h
  have hS : va_S A s.heap s.heap [] := va_S.rf
  have hP : va_P D cls [(h0, .inr (10, [.null, .null, .null, .int 0, .int 0]))] s.heap := hP
  have hl := lv_entry ([.ref h0, .ref b0]) (n := 2) (Nat.le_of_ble_eq_true rfl)
  rw [lg_entry_eq]
  generalize (lg_sl ([.ref h0, .ref b0]) ++ List.replicate (2 - (lg_sl ([.ref h0, .ref b0])).length) Slot.unset).toArray = ls at hl ⊢
  have hl : lv_has ls 2 [(0, .ref h0), (1, .ref b0)] := hl
  refine lv_aload_n hx hb d_vwI_0 rfl (lv_at hl 0 rfl) ?_
  refine W.objInit hx hb hown (hts _ kw_259) (hts _ kw_34) (hts _ kw_35) rfl (by rw [hml]; exact hl.1) rfl d_vwI_1 (Nat.le_of_ble_eq_true rfl) (Nat.le_of_ble_eq_true rfl) ?_
  refine W.eq (g2 := F0 m 4 ls []) rfl ?_
  refine lv_aload_n hx hb d_vwI_4 rfl (lv_at hl 0 rfl) ?_
  refine lv_bipush (v := 8) hx hb d_vwI_5 (by decide) ?_
  refine va_newa (atype := .int) (N' := 8) (a0 := (8, .inl (fun _ => 0))) (ty := .int) hx hb (hts _ kw_252) rfl hK hP hD hS hA (fun _ => rfl) (by decide) (by decide) (by decide) (Nat.le_of_ble_eq_true rfl) (Nat.le_of_ble_eq_true rfl) d_vwI_7 (fun q_1 cA_2 H hK hP hD hS => ?_)
  have hK : va_K D cls [(cA_2, .int)] s := hK
  have hP : va_P D cls [(h0, .inr (10, [.null, .null, .null, .int 0, .int 0])), (q_1, .inl (cA_2, 8, .inl (fun _ => 0)))] H := hP
  have hD : va_D A [(h0, .inr (10, [.null, .null, .null, .int 0, .int 0])), (q_1, .inl (cA_2, 8, .inl (fun _ => 0)))] := hD
  refine W.cs (cells' := 1) (slots' := 8) rfl rfl ?_
  refine va_putF (D := D) (ci := 10) (v := .ref q_1) (ty := .array (.int)) (C := R_Vw) (T := F_Vw) (N := 5) hx hb hts i_Vw t_Vw t_Vw_ok n_Vw hown hK hP hD hS 0 rfl rfl 1 (by decide) (hts _ kw_263) (fun _ h9 => h9) rfl hin rfl (by decide +kernel) rfl rfl (Nat.le_of_ble_eq_true rfl) d_vwI_9 (fun H locs hP hD hS => ?_)
  have hP : va_P D cls [(h0, .inr (10, [.null, .ref q_1, .null, .int 0, .int 0])), (q_1, .inl (cA_2, 8, .inl (fun _ => 0)))] H := hP
  have hD : va_D A [(h0, .inr (10, [.null, .ref q_1, .null, .int 0, .int 0])), (q_1, .inl (cA_2, 8, .inl (fun _ => 0)))] := hD
  refine lv_aload_n hx hb d_vwI_12 rfl (lv_at hl 0 rfl) ?_
  refine lv_bipush (v := 8) hx hb d_vwI_13 (by decide) ?_
  refine va_newq (C := "JoinedTrees$Op") (N' := 8) hx hb hown (hts _ kw_260) hev.1.1 hK hP hD hS hA (by decide) (by decide) (by decide) (Nat.le_of_ble_eq_true rfl) (Nat.le_of_ble_eq_true rfl) d_vwI_15 (fun q_3 cA_4 H hK hP hD hS => ?_)
  have hK : va_K D cls [(cA_2, .int), (cA_4, .object "JoinedTrees$Op")] s := hK
  have hP : va_P D cls [(h0, .inr (10, [.null, .ref q_1, .null, .int 0, .int 0])), (q_1, .inl (cA_2, 8, .inl (fun _ => 0))), (q_3, .inl (cA_4, 8, .inr (.inr (.inr (.inr (fun _ => none))))))] H := hP
  have hD : va_D A [(h0, .inr (10, [.null, .ref q_1, .null, .int 0, .int 0])), (q_1, .inl (cA_2, 8, .inl (fun _ => 0))), (q_3, .inl (cA_4, 8, .inr (.inr (.inr (.inr (fun _ => none))))))] := hD
  refine W.cs (cells' := 2) (slots' := 16) rfl rfl ?_
  refine va_putF (D := D) (ci := 10) (v := .ref q_3) (ty := .array (.object "JoinedTrees$Op")) (C := R_Vw) (T := F_Vw) (N := 5) hx hb hts i_Vw t_Vw t_Vw_ok n_Vw hown hK hP hD hS 0 rfl rfl 2 (by decide) (hts _ kw_264) (fun _ h9 => h9) rfl hin rfl (by decide +kernel) rfl rfl (Nat.le_of_ble_eq_true rfl) d_vwI_18 (fun H locs hP hD hS => ?_)
  have hP : va_P D cls [(h0, .inr (10, [.null, .ref q_1, .ref q_3, .int 0, .int 0])), (q_1, .inl (cA_2, 8, .inl (fun _ => 0))), (q_3, .inl (cA_4, 8, .inr (.inr (.inr (.inr (fun _ => none))))))] H := hP
  have hD : va_D A [(h0, .inr (10, [.null, .ref q_1, .ref q_3, .int 0, .int 0])), (q_1, .inl (cA_2, 8, .inl (fun _ => 0))), (q_3, .inl (cA_4, 8, .inr (.inr (.inr (.inr (fun _ => none))))))] := hD
  refine lv_aload_n hx hb d_vwI_21 rfl (lv_at hl 0 rfl) ?_
  refine lv_aload_n hx hb d_vwI_22 rfl (lv_at hl 1 rfl) ?_
  refine va_putF (D := D) (ci := 10) (v := .ref b0) (ty := .object "JoinedTrees$Store") (C := R_Vw) (T := F_Vw) (N := 5) hx hb hts i_Vw t_Vw t_Vw_ok n_Vw hown hK hP hD hS 0 rfl rfl 0 (by decide) (hts _ kw_261) (fun _ h9 => h9) rfl hin rfl (by decide +kernel) rfl rfl (Nat.le_of_ble_eq_true rfl) d_vwI_23 (fun H locs hP hD hS => ?_)
  have hP : va_P D cls [(h0, .inr (10, [.ref b0, .ref q_1, .ref q_3, .int 0, .int 0])), (q_1, .inl (cA_2, 8, .inl (fun _ => 0))), (q_3, .inl (cA_4, 8, .inr (.inr (.inr (.inr (fun _ => none))))))] H := hP
  have hD : va_D A [(h0, .inr (10, [.ref b0, .ref q_1, .ref q_3, .int 0, .int 0])), (q_1, .inl (cA_2, 8, .inl (fun _ => 0))), (q_3, .inl (cA_4, 8, .inr (.inr (.inr (.inr (fun _ => none))))))] := hD
  exact W.vret hx hb hr (fun t ht hW => ⟨⟨([q_1, q_3], [cA_2]), rfl, trivial, by rw [ht]; exact hP.sub [0, 1] rfl, va_K.moved hW.alike (hK.sub [0] rfl), hD.sub [0, 1] (by decide) rfl⟩, hS.F ht⟩) hS.2.2 d_vwI_26
theorem d_wrI_0 : decode prog_4_method_1_code 0 = .ok (.aload_n 0, 1) := by decide +kernel
theorem d_wrI_1 : decode prog_4_method_1_code 1 = .ok (.invokespecial 3, 3) := by decide +kernel
theorem d_wrI_4 : decode prog_4_method_1_code 4 = .ok (.aload_n 0, 1) := by decide +kernel
theorem d_wrI_5 : decode prog_4_method_1_code 5 = .ok (.new 9, 3) := by decide +kernel
theorem d_wrI_8 : decode prog_4_method_1_code 8 = .ok (.dup, 1) := by decide +kernel
theorem d_wrI_9 : decode prog_4_method_1_code 9 = .ok (.sipush 16384, 3) := by decide +kernel
theorem d_wrI_12 : decode prog_4_method_1_code 12 = .ok (.invokespecial 11, 3) := by decide +kernel
theorem d_wrI_15 : decode prog_4_method_1_code 15 = .ok (.putfield 14, 3) := by decide +kernel
theorem d_wrI_18 : decode prog_4_method_1_code 18 = .ok (.aload_n 0, 1) := by decide +kernel
theorem d_wrI_19 : decode prog_4_method_1_code 19 = .ok (.aload_n 1, 1) := by decide +kernel
theorem d_wrI_20 : decode prog_4_method_1_code 20 = .ok (.putfield 20, 3) := by decide +kernel
theorem d_wrI_23 : decode prog_4_method_1_code 23 = .ok (.return_, 1) := by decide +kernel
set_option maxHeartbeats 4000000 in
set_option maxRecDepth 100000 in
theorem g_wrI (l : Launch) (D : va_G) (sz : Nat) (h0 b0 : Nat) : Met l ⟨"JoinedTrees$JsonWriter", "<init>", "(LJoinedTrees$View;)V"⟩ (Cond.code ⟨"JoinedTrees$JsonWriter", "<init>", "(LJoinedTrees$View;)V"⟩ prog_4_method_1_code 2 none :: gb) ({ frames := 2, cells := 2, slots := 16387, locals := 45 }) (gPc D [(h0, .inr (2, [.null, .null]))] [] sz [.ref h0, .ref b0]) (va_Qv (fun u : List Nat × List ClassId => True) (fun u t => gO D [(h0, .inr (2, [.ref b0, .ref (u.1.getD 0 0)])), ((u.1.getD 0 0), .inr (5, [.ref (u.1.getD 1 0), .int 0, .int 0])), ((u.1.getD 1 0), .inl ((u.2.getD 0 0), 16384, .inl (fun _ => 0)))] [((u.2.getD 0 0), .byte)] (va_A [(h0, .inr (2, [.null, .null]))] sz) t) (va_A [(h0, .inr (2, [.null, .null]))] sz)) 2 16387 (va_A [(h0, .inr (2, [.null, .null]))] sz) := by
  refine Met.ofW (cc := prog_4_method_1_code) (maxL := 2) (ret := none) (by decide) rfl ?_
  intro p e s m args below meth c s₁ B hml hv
  obtain ⟨rfl, hsz, hP, hK, hD0⟩ := hv
  have hx := B.exec
  have hb := B.bytes
  have hr := B.returns
  have hts : ∀ w9 ∈ gb, w9.before [.ref h0, .ref b0].toArray s = true := fun w9 h => atoms_spec (ws := Cond.code ⟨"JoinedTrees$JsonWriter", "<init>", "(LJoinedTrees$View;)V"⟩ prog_4_method_1_code 2 none :: gb) B.pre w9 (List.mem_cons_of_mem _ h)
  have hown : s.vm.findClass "JoinedTrees$JsonWriter" = some m.cls := findClass_of_methodNamed B.named
  have hlocks := B.notSynchronized
  have hin : meth.name = "<init>" := (name_of_methodNamed B.named B.method).1
  subst hsz
  have hD := hD0.self (sz := s.heap.size)
  generalize hAe : va_A [(h0, .inr (2, [.null, .null]))] s.heap.size = A at hD ⊢
  have hA : ∀ q : Nat, s.heap.size ≤ q → A q := fun q h => by rw [← hAe]; exact Or.inr h
  have hS : va_S A s.heap s.heap [] := va_S.rf
  have hP : va_P D cls [(h0, .inr (2, [.null, .null]))] s.heap := hP
  have hl := lv_entry ([.ref h0, .ref b0]) (n := 2) (Nat.le_of_ble_eq_true rfl)
  rw [lg_entry_eq]
  generalize (lg_sl ([.ref h0, .ref b0]) ++ List.replicate (2 - (lg_sl ([.ref h0, .ref b0])).length) Slot.unset).toArray = ls at hl ⊢
  have hl : lv_has ls 2 [(0, .ref h0), (1, .ref b0)] := hl
  refine lv_aload_n hx hb d_wrI_0 rfl (lv_at hl 0 rfl) ?_
  refine W.objInit hx hb hown (hts _ kw_382) (hts _ kw_34) (hts _ kw_35) rfl (by rw [hml]; exact hl.1) rfl d_wrI_1 (Nat.le_of_ble_eq_true rfl) (Nat.le_of_ble_eq_true rfl) ?_
  refine W.eq (g2 := F0 m 4 ls []) rfl ?_
  refine lv_aload_n hx hb d_wrI_4 rfl (lv_at hl 0 rfl) ?_
  refine va_new (D := D) (ci := 5) (fs := [.null, .int 0, .int 0]) (C := R_Rw) (T := F_Rw) (N := 3) hx hb hts i_Rw t_Rw t_Rw_ok hown (hts _ kw_383) (hts _ kw_135) (hts _ kw_4) hK hP hD hS hA rfl (by decide +kernel) (Nat.le_of_ble_eq_true rfl) (Nat.le_of_ble_eq_true rfl) d_wrI_5 (fun q_1 H hP hD hS => ?_)
  have hP : va_P D cls [(h0, .inr (2, [.null, .null])), (q_1, .inr (5, [.null, .int 0, .int 0]))] H := hP
  have hD : va_D A [(h0, .inr (2, [.null, .null])), (q_1, .inr (5, [.null, .int 0, .int 0]))] := hD
  refine W.cs (cells' := 1) (slots' := 3) rfl rfl ?_
  refine lv_dup hx hb d_wrI_8 rfl ?_
  refine lv_sipush (v := 16384) hx hb d_wrI_9 (by decide) ?_
  have hPc := hP.sub (ws' := [(q_1, .inr (5, [.null, .int 0, .int 0]))]) [1] rfl
  have hDc := hD.sub (ws' := [(q_1, .inr (5, [.null, .int 0, .int 0]))]) [1] (by decide) rfl
  have hKc := hK.sub (tys' := []) [] rfl
  have hFc := va_free (wc := [(q_1, .inr (5, [.null, .int 0, .int 0]))]) hD hS hA [1] rfl
  refine va_callv (va_runI (As := [.int 16384]) (rest := [.ref q_1, .ref h0]) ⟨hx, hb, hml, hown, hts⟩ (g_rowI l D H.size q_1 16384 (by decide)) (cw_i 1 hts kw_138 kw_384 kw_137 kw_4 rfl rfl rfl (by decide +kernel) ⟨Nat.le_of_ble_eq_true rfl, Nat.le_of_ble_eq_true rfl⟩) ⟨g_blind, fun U hU hW => g_pre hU hW hPc hKc hDc⟩ rfl rfl hl.1 rfl (lv_room (Nat.le_of_ble_eq_true rfl)) d_wrI_12 ⟨Nat.le_of_ble_eq_true rfl, Nat.le_of_ble_eq_true rfl⟩) hS (fun q _ h => hFc q h) hFc (fun u_3 t H1 locs ht hvm hw hB hz1 hk1 hS => ?_)
  obtain ⟨b_4, cB_5⟩ := u_3
  obtain ⟨hP1, hK1, hD1⟩ := hB
  rw [ht] at hP1
  have hK1 := va_K.moved hvm.symm hK1
  obtain ⟨hP, hD⟩ := va_join (wr := [(h0, .inr (2, [.null, .null]))]) (w1 := [(q_1, .inr (5, [.ref b_4, .int 0, .int 0])), (b_4, .inl (cB_5, 16384, .inl (fun _ => 0)))]) hP hD [1] [0] rfl rfl (by decide) (by decide) hk1 hFc hP1 hD1
  have hK := (hK.sub (tys' := []) [] rfl).app hK1
  have hK : va_K D cls [(cB_5, .byte)] s := hK
  generalize H1 = H at hP hS ⊢
  have hP : va_P D cls [(h0, .inr (2, [.null, .null])), (q_1, .inr (5, [.ref b_4, .int 0, .int 0])), (b_4, .inl (cB_5, 16384, .inl (fun _ => 0)))] H := hP
  have hD : va_D A [(h0, .inr (2, [.null, .null])), (q_1, .inr (5, [.ref b_4, .int 0, .int 0])), (b_4, .inl (cB_5, 16384, .inl (fun _ => 0)))] := hD
  refine W.cs (cells' := 2) (slots' := 16387) rfl rfl ?_
  refine va_putF (D := D) (ci := 2) (v := .ref q_1) (ty := .object "JoinedTrees$Row") (C := R_Wr) (T := F_Wr) (N := 2) hx hb hts i_Wr t_Wr t_Wr_ok n_Wr hown hK hP hD hS 0 rfl rfl 1 (by decide) (hts _ kw_386) (fun _ h9 => h9) rfl hin rfl (by decide +kernel) rfl rfl (Nat.le_of_ble_eq_true rfl) d_wrI_15 (fun H locs hP hD hS => ?_)
  have hP : va_P D cls [(h0, .inr (2, [.null, .ref q_1])), (q_1, .inr (5, [.ref b_4, .int 0, .int 0])), (b_4, .inl (cB_5, 16384, .inl (fun _ => 0)))] H := hP
  have hD : va_D A [(h0, .inr (2, [.null, .ref q_1])), (q_1, .inr (5, [.ref b_4, .int 0, .int 0])), (b_4, .inl (cB_5, 16384, .inl (fun _ => 0)))] := hD
  refine lv_aload_n hx hb d_wrI_18 rfl (lv_at hl 0 rfl) ?_
  refine lv_aload_n hx hb d_wrI_19 rfl (lv_at hl 1 rfl) ?_
  refine va_putF (D := D) (ci := 2) (v := .ref b0) (ty := .object "JoinedTrees$View") (C := R_Wr) (T := F_Wr) (N := 2) hx hb hts i_Wr t_Wr t_Wr_ok n_Wr hown hK hP hD hS 0 rfl rfl 0 (by decide) (hts _ kw_385) (fun _ h9 => h9) rfl hin rfl (by decide +kernel) rfl rfl (Nat.le_of_ble_eq_true rfl) d_wrI_20 (fun H locs hP hD hS => ?_)
  have hP : va_P D cls [(h0, .inr (2, [.ref b0, .ref q_1])), (q_1, .inr (5, [.ref b_4, .int 0, .int 0])), (b_4, .inl (cB_5, 16384, .inl (fun _ => 0)))] H := hP
  have hD : va_D A [(h0, .inr (2, [.ref b0, .ref q_1])), (q_1, .inr (5, [.ref b_4, .int 0, .int 0])), (b_4, .inl (cB_5, 16384, .inl (fun _ => 0)))] := hD
  exact W.vret hx hb hr (fun t ht hW => ⟨⟨([q_1, b_4], [cB_5]), rfl, trivial, by rw [ht]; exact hP.sub [0, 1, 2] rfl, va_K.moved hW.alike (hK.sub [0] rfl), hD.sub [0, 1, 2] (by decide) rfl⟩, hS.F ht⟩) hS.2.2 d_wrI_23
theorem d_svI_0 : decode prog_8_method_1_code 0 = .ok (.aload_n 0, 1) := by decide +kernel
theorem d_svI_1 : decode prog_8_method_1_code 1 = .ok (.invokespecial 3, 3) := by decide +kernel
theorem d_svI_4 : decode prog_8_method_1_code 4 = .ok (.aload_n 0, 1) := by decide +kernel
theorem d_svI_5 : decode prog_8_method_1_code 5 = .ok (.bipush 8, 2) := by decide +kernel
theorem d_svI_7 : decode prog_8_method_1_code 7 = .ok (.newarray .int, 2) := by decide +kernel
theorem d_svI_9 : decode prog_8_method_1_code 9 = .ok (.putfield 9, 3) := by decide +kernel
theorem d_svI_12 : decode prog_8_method_1_code 12 = .ok (.aload_n 0, 1) := by decide +kernel
theorem d_svI_13 : decode prog_8_method_1_code 13 = .ok (.aload_n 1, 1) := by decide +kernel
theorem d_svI_14 : decode prog_8_method_1_code 14 = .ok (.putfield 15, 3) := by decide +kernel
theorem d_svI_17 : decode prog_8_method_1_code 17 = .ok (.aload_n 0, 1) := by decide +kernel
theorem d_svI_18 : decode prog_8_method_1_code 18 = .ok (.aload_n 2, 1) := by decide +kernel
theorem d_svI_19 : decode prog_8_method_1_code 19 = .ok (.putfield 19, 3) := by decide +kernel
theorem d_svI_22 : decode prog_8_method_1_code 22 = .ok (.return_, 1) := by decide +kernel
set_option maxHeartbeats 4000000 in
set_option maxRecDepth 100000 in
theorem g_svI (l : Launch) (D : va_G) (sz : Nat) (h0 b0 b1 : Nat) : Met l ⟨"JoinedTrees$Saver", "<init>", "(LJoinedTrees$Store;LJoinedTrees$Row;)V"⟩ (Cond.code ⟨"JoinedTrees$Saver", "<init>", "(LJoinedTrees$Store;LJoinedTrees$Row;)V"⟩ prog_8_method_1_code 3 none :: gb) ({ frames := 1, cells := 1, slots := 8, locals := 24 }) (gPc D [(h0, .inr (6, [.null, .null, .null, .int 0, .int 0, .int 0]))] [] sz [.ref h0, .ref b0, .ref b1]) (va_Qv (fun u : List Nat × List ClassId => True) (fun u t => gO D [(h0, .inr (6, [.ref b0, .ref b1, .ref (u.1.getD 0 0), .int 0, .int 0, .int 0]))] [] (va_A [(h0, .inr (6, [.null, .null, .null, .int 0, .int 0, .int 0]))] sz) t) (va_A [(h0, .inr (6, [.null, .null, .null, .int 0, .int 0, .int 0]))] sz)) 1 8 (va_A [(h0, .inr (6, [.null, .null, .null, .int 0, .int 0, .int 0]))] sz) := by
  refine Met.ofW (cc := prog_8_method_1_code) (maxL := 3) (ret := none) (by decide) rfl ?_
  intro p e s m args below meth c s₁ B hml hv
  obtain ⟨rfl, hsz, hP, hK, hD0⟩ := hv
  have hx := B.exec
  have hb := B.bytes
  have hr := B.returns
  have hts : ∀ w9 ∈ gb, w9.before [.ref h0, .ref b0, .ref b1].toArray s = true := fun w9 h => atoms_spec (ws := Cond.code ⟨"JoinedTrees$Saver", "<init>", "(LJoinedTrees$Store;LJoinedTrees$Row;)V"⟩ prog_8_method_1_code 3 none :: gb) B.pre w9 (List.mem_cons_of_mem _ h)
  have hown : s.vm.findClass "JoinedTrees$Saver" = some m.cls := findClass_of_methodNamed B.named
  have hlocks := B.notSynchronized
  have hin : meth.name = "<init>" := (name_of_methodNamed B.named B.method).1
  subst hsz
  have hD := hD0.self (sz := s.heap.size)
  generalize hAe : va_A [(h0, .inr (6, [.null, .null, .null, .int 0, .int 0, .int 0]))] s.heap.size = A at hD ⊢
  have hA : ∀ q : Nat, s.heap.size ≤ q → A q := fun q h => by rw [← hAe]; exact Or.inr h
  have hS : va_S A s.heap s.heap [] := va_S.rf
  have hP : va_P D cls [(h0, .inr (6, [.null, .null, .null, .int 0, .int 0, .int 0]))] s.heap := hP
  have hl := lv_entry ([.ref h0, .ref b0, .ref b1]) (n := 3) (Nat.le_of_ble_eq_true rfl)
  rw [lg_entry_eq]
  generalize (lg_sl ([.ref h0, .ref b0, .ref b1]) ++ List.replicate (3 - (lg_sl ([.ref h0, .ref b0, .ref b1])).length) Slot.unset).toArray = ls at hl ⊢
  have hl : lv_has ls 3 [(0, .ref h0), (1, .ref b0), (2, .ref b1)] := hl
  refine lv_aload_n hx hb d_svI_0 rfl (lv_at hl 0 rfl) ?_
  refine W.objInit hx hb hown (hts _ kw_400) (hts _ kw_34) (hts _ kw_35) rfl (by rw [hml]; exact hl.1) rfl d_svI_1 (Nat.le_of_ble_eq_true rfl) (Nat.le_of_ble_eq_true rfl) ?_
  refine W.eq (g2 := F0 m 4 ls []) rfl ?_
  refine lv_aload_n hx hb d_svI_4 rfl (lv_at hl 0 rfl) ?_
  refine lv_bipush (v := 8) hx hb d_svI_5 (by decide) ?_
  refine va_newa (atype := .int) (N' := 8) (a0 := (8, .inl (fun _ => 0))) (ty := .int) hx hb (hts _ kw_252) rfl hK hP hD hS hA (fun _ => rfl) (by decide) (by decide) (by decide) (Nat.le_of_ble_eq_true rfl) (Nat.le_of_ble_eq_true rfl) d_svI_7 (fun q_1 cA_2 H hK hP hD hS => ?_)
  have hK : va_K D cls [(cA_2, .int)] s := hK
  have hP : va_P D cls [(h0, .inr (6, [.null, .null, .null, .int 0, .int 0, .int 0])), (q_1, .inl (cA_2, 8, .inl (fun _ => 0)))] H := hP
  have hD : va_D A [(h0, .inr (6, [.null, .null, .null, .int 0, .int 0, .int 0])), (q_1, .inl (cA_2, 8, .inl (fun _ => 0)))] := hD
  refine W.cs (cells' := 1) (slots' := 8) rfl rfl ?_
  refine va_putF (D := D) (ci := 6) (v := .ref q_1) (ty := .array (.int)) (C := R_Sv) (T := F_Sv) (N := 6) hx hb hts i_Sv t_Sv t_Sv_ok n_Sv hown hK hP hD hS 0 rfl rfl 2 (by decide) (hts _ kw_403) (fun _ h9 => h9) rfl hin rfl (by decide +kernel) rfl rfl (Nat.le_of_ble_eq_true rfl) d_svI_9 (fun H locs hP hD hS => ?_)
  have hP : va_P D cls [(h0, .inr (6, [.null, .null, .ref q_1, .int 0, .int 0, .int 0])), (q_1, .inl (cA_2, 8, .inl (fun _ => 0)))] H := hP
  have hD : va_D A [(h0, .inr (6, [.null, .null, .ref q_1, .int 0, .int 0, .int 0])), (q_1, .inl (cA_2, 8, .inl (fun _ => 0)))] := hD
  refine lv_aload_n hx hb d_svI_12 rfl (lv_at hl 0 rfl) ?_
  refine lv_aload_n hx hb d_svI_13 rfl (lv_at hl 1 rfl) ?_
  refine va_putF (D := D) (ci := 6) (v := .ref b0) (ty := .object "JoinedTrees$Store") (C := R_Sv) (T := F_Sv) (N := 6) hx hb hts i_Sv t_Sv t_Sv_ok n_Sv hown hK hP hD hS 0 rfl rfl 0 (by decide) (hts _ kw_401) (fun _ h9 => h9) rfl hin rfl (by decide +kernel) rfl rfl (Nat.le_of_ble_eq_true rfl) d_svI_14 (fun H locs hP hD hS => ?_)
  have hP : va_P D cls [(h0, .inr (6, [.ref b0, .null, .ref q_1, .int 0, .int 0, .int 0])), (q_1, .inl (cA_2, 8, .inl (fun _ => 0)))] H := hP
  have hD : va_D A [(h0, .inr (6, [.ref b0, .null, .ref q_1, .int 0, .int 0, .int 0])), (q_1, .inl (cA_2, 8, .inl (fun _ => 0)))] := hD
  refine lv_aload_n hx hb d_svI_17 rfl (lv_at hl 0 rfl) ?_
  refine lv_aload_n hx hb d_svI_18 rfl (lv_at hl 2 rfl) ?_
  refine va_putF (D := D) (ci := 6) (v := .ref b1) (ty := .object "JoinedTrees$Row") (C := R_Sv) (T := F_Sv) (N := 6) hx hb hts i_Sv t_Sv t_Sv_ok n_Sv hown hK hP hD hS 0 rfl rfl 1 (by decide) (hts _ kw_402) (fun _ h9 => h9) rfl hin rfl (by decide +kernel) rfl rfl (Nat.le_of_ble_eq_true rfl) d_svI_19 (fun H locs hP hD hS => ?_)
  have hP : va_P D cls [(h0, .inr (6, [.ref b0, .ref b1, .ref q_1, .int 0, .int 0, .int 0])), (q_1, .inl (cA_2, 8, .inl (fun _ => 0)))] H := hP
  have hD : va_D A [(h0, .inr (6, [.ref b0, .ref b1, .ref q_1, .int 0, .int 0, .int 0])), (q_1, .inl (cA_2, 8, .inl (fun _ => 0)))] := hD
  exact W.vret hx hb hr (fun t ht hW => ⟨⟨([q_1], []), rfl, trivial, by rw [ht]; exact hP.sub [0] rfl, va_K.moved hW.alike (hK.sub [] rfl), hD.sub [0] (by decide) rfl⟩, hS.F ht⟩) hS.2.2 d_svI_22
theorem d_stI_0 : decode prog_10_method_1_code 0 = .ok (.aload_n 0, 1) := by decide +kernel
theorem d_stI_1 : decode prog_10_method_1_code 1 = .ok (.invokespecial 3, 3) := by decide +kernel
theorem d_stI_4 : decode prog_10_method_1_code 4 = .ok (.aload_n 0, 1) := by decide +kernel
theorem d_stI_5 : decode prog_10_method_1_code 5 = .ok (.new 9, 3) := by decide +kernel
theorem d_stI_8 : decode prog_10_method_1_code 8 = .ok (.dup, 1) := by decide +kernel
theorem d_stI_9 : decode prog_10_method_1_code 9 = .ok (.iconst 0, 1) := by decide +kernel
theorem d_stI_10 : decode prog_10_method_1_code 10 = .ok (.aconst_null, 1) := by decide +kernel
theorem d_stI_11 : decode prog_10_method_1_code 11 = .ok (.bipush 6, 2) := by decide +kernel
theorem d_stI_13 : decode prog_10_method_1_code 13 = .ok (.lconst 0, 1) := by decide +kernel
theorem d_stI_14 : decode prog_10_method_1_code 14 = .ok (.invokespecial 11, 3) := by decide +kernel
theorem d_stI_17 : decode prog_10_method_1_code 17 = .ok (.putfield 14, 3) := by decide +kernel
theorem d_stI_20 : decode prog_10_method_1_code 20 = .ok (.aload_n 0, 1) := by decide +kernel
theorem d_stI_21 : decode prog_10_method_1_code 21 = .ok (.sipush 32008, 3) := by decide +kernel
theorem d_stI_24 : decode prog_10_method_1_code 24 = .ok (.anewarray 9, 3) := by decide +kernel
theorem d_stI_27 : decode prog_10_method_1_code 27 = .ok (.putfield 20, 3) := by decide +kernel
theorem d_stI_30 : decode prog_10_method_1_code 30 = .ok (.aload_n 0, 1) := by decide +kernel
theorem d_stI_31 : decode prog_10_method_1_code 31 = .ok (.new 24, 3) := by decide +kernel
theorem d_stI_34 : decode prog_10_method_1_code 34 = .ok (.dup, 1) := by decide +kernel
theorem d_stI_35 : decode prog_10_method_1_code 35 = .ok (.sipush 24576, 3) := by decide +kernel
theorem d_stI_38 : decode prog_10_method_1_code 38 = .ok (.invokespecial 26, 3) := by decide +kernel
theorem d_stI_41 : decode prog_10_method_1_code 41 = .ok (.putfield 29, 3) := by decide +kernel
theorem d_stI_44 : decode prog_10_method_1_code 44 = .ok (.aload_n 0, 1) := by decide +kernel
theorem d_stI_45 : decode prog_10_method_1_code 45 = .ok (.sipush 1000, 3) := by decide +kernel
theorem d_stI_48 : decode prog_10_method_1_code 48 = .ok (.anewarray 33, 3) := by decide +kernel
theorem d_stI_51 : decode prog_10_method_1_code 51 = .ok (.putfield 35, 3) := by decide +kernel
theorem d_stI_54 : decode prog_10_method_1_code 54 = .ok (.return_, 1) := by decide +kernel
set_option maxHeartbeats 4000000 in
set_option maxRecDepth 100000 in
theorem g_stI (l : Launch) (D : va_G) (sz : Nat) (h0 : Nat) : Met l ⟨"JoinedTrees$Store", "<init>", "()V"⟩ (Cond.code ⟨"JoinedTrees$Store", "<init>", "()V"⟩ prog_10_method_1_code 1 none :: gb) ({ frames := 2, cells := 5, slots := 57602, locals := 49 }) (gPv D [(h0, .inr (8, [.null, .null, .null, .null, .int 0, .int 0]))] [] sz [.ref h0]) (va_Qv (fun u : List Nat × List ClassId => True) (fun u t => gO D [(h0, .inr (8, [.ref (u.1.getD 0 0), .ref (u.1.getD 1 0), .ref (u.1.getD 2 0), .ref (u.1.getD 3 0), .int 0, .int 0])), ((u.1.getD 0 0), .inr (3, [.int 0, .null, .int 6, .long 0, .int 0, .int 0, .null, .null, .int 0, .int 0, .int 0, .null, .null, .null, .int 0])), ((u.1.getD 1 0), .inl ((u.2.getD 0 0), 32008, .inr (.inr (.inr (.inr (fun _ => none)))))), ((u.1.getD 2 0), .inr (5, [.ref (u.1.getD 4 0), .int 0, .int 0]))] [((u.2.getD 0 0), .object "JoinedTrees$Op")] (va_A [(h0, .inr (8, [.null, .null, .null, .null, .int 0, .int 0]))] sz) t) (va_A [(h0, .inr (8, [.null, .null, .null, .null, .int 0, .int 0]))] sz)) 5 57602 (va_A [(h0, .inr (8, [.null, .null, .null, .null, .int 0, .int 0]))] sz) := by
  refine Met.ofW (cc := prog_10_method_1_code) (maxL := 1) (ret := none) (by decide) rfl ?_
  intro p e s m args below meth c s₁ B hml hv
  obtain ⟨rfl, hsz, hP, hK, hD0, hev⟩ := hv
  have hx := B.exec
  have hb := B.bytes
  have hr := B.returns
  have hts : ∀ w9 ∈ gb, w9.before [.ref h0].toArray s = true := fun w9 h => atoms_spec (ws := Cond.code ⟨"JoinedTrees$Store", "<init>", "()V"⟩ prog_10_method_1_code 1 none :: gb) B.pre w9 (List.mem_cons_of_mem _ h)
  have hown : s.vm.findClass "JoinedTrees$Store" = some m.cls := findClass_of_methodNamed B.named
  have hlocks := B.notSynchronized
  have hin : meth.name = "<init>" := (name_of_methodNamed B.named B.method).1
  subst hsz
  have hD := hD0.self (sz := s.heap.size)
  generalize hAe : va_A [(h0, .inr (8, [.null, .null, .null, .null, .int 0, .int 0]))] s.heap.size = A at hD ⊢
  have hA : ∀ q : Nat, s.heap.size ≤ q → A q := fun q h => by rw [← hAe]; exact Or.inr h
  have hS : va_S A s.heap s.heap [] := va_S.rf
  have hP : va_P D cls [(h0, .inr (8, [.null, .null, .null, .null, .int 0, .int 0]))] s.heap := hP
  have hl := lv_entry ([.ref h0]) (n := 1) (Nat.le_of_ble_eq_true rfl)
  rw [lg_entry_eq]
  generalize (lg_sl ([.ref h0]) ++ List.replicate (1 - (lg_sl ([.ref h0])).length) Slot.unset).toArray = ls at hl ⊢
  have hl : lv_has ls 1 [(0, .ref h0)] := hl
  refine lv_aload_n hx hb d_stI_0 rfl (lv_at hl 0 rfl) ?_
  refine W.objInit hx hb hown (hts _ kw_41) (hts _ kw_34) (hts _ kw_35) rfl (by rw [hml]; exact hl.1) rfl d_stI_1 (Nat.le_of_ble_eq_true rfl) (Nat.le_of_ble_eq_true rfl) ?_
  refine W.eq (g2 := F0 m 4 ls []) rfl ?_
  refine lv_aload_n hx hb d_stI_4 rfl (lv_at hl 0 rfl) ?_
  refine va_new (D := D) (ci := 3) (fs := [.int 0, .null, .int 0, .long 0, .int 0, .int 0, .null, .null, .int 0, .int 0, .int 0, .null, .null, .null, .int 0]) (C := R_Op) (T := F_Op) (N := 15) hx hb hts i_Op t_Op t_Op_ok hown (hts _ kw_42) (hts _ kw_43) (hts _ kw_3) hK hP hD hS hA rfl (by decide +kernel) (Nat.le_of_ble_eq_true rfl) (Nat.le_of_ble_eq_true rfl) d_stI_5 (fun q_1 H hP hD hS => ?_)
  have hP : va_P D cls [(h0, .inr (8, [.null, .null, .null, .null, .int 0, .int 0])), (q_1, .inr (3, [.int 0, .null, .int 0, .long 0, .int 0, .int 0, .null, .null, .int 0, .int 0, .int 0, .null, .null, .null, .int 0]))] H := hP
  have hD : va_D A [(h0, .inr (8, [.null, .null, .null, .null, .int 0, .int 0])), (q_1, .inr (3, [.int 0, .null, .int 0, .long 0, .int 0, .int 0, .null, .null, .int 0, .int 0, .int 0, .null, .null, .null, .int 0]))] := hD
  refine W.cs (cells' := 1) (slots' := 15) rfl rfl ?_
  refine lv_dup hx hb d_stI_8 rfl ?_
  refine lv_iconst (v := 0) hx hb d_stI_9 (by decide) ?_
  refine lv_null hx hb d_stI_10 ?_
  refine lv_bipush (v := 6) hx hb d_stI_11 (by decide) ?_
  refine lv_lconst (v := 0) hx hb d_stI_13 (by decide) ?_
  have hPc := hP.sub (ws' := [(q_1, .inr (3, [.int 0, .null, .int 0, .long 0, .int 0, .int 0, .null, .null, .int 0, .int 0, .int 0, .null, .null, .null, .int 0]))]) [1] rfl
  have hDc := hD.sub (ws' := [(q_1, .inr (3, [.int 0, .null, .int 0, .long 0, .int 0, .int 0, .null, .null, .int 0, .int 0, .int 0, .null, .null, .null, .int 0]))]) [1] (by decide) rfl
  have hKc := hK.sub (tys' := []) [] rfl
  have hFc := va_free (wc := [(q_1, .inr (3, [.int 0, .null, .int 0, .long 0, .int 0, .int 0, .null, .null, .int 0, .int 0, .int 0, .null, .null, .null, .int 0]))]) hD hS hA [1] rfl
  refine va_callv (va_runI (As := [.int 0, .null, .int 6, .long 0]) (rest := [.ref q_1, .ref h0]) ⟨hx, hb, hml, hown, hts⟩ (g_opI l D H.size q_1) (cw_i 4 hts kw_46 kw_44 kw_45 kw_3 rfl rfl rfl (by decide +kernel) ⟨Nat.le_of_ble_eq_true rfl, Nat.le_of_ble_eq_true rfl⟩) ⟨g_blind, fun U hU hW => g_pre hU hW hPc hKc hDc⟩ rfl rfl hl.1 rfl (lv_room (Nat.le_of_ble_eq_true rfl)) d_stI_14 ⟨Nat.le_of_ble_eq_true rfl, Nat.le_of_ble_eq_true rfl⟩) hS (fun q _ h => hFc q h) hFc (fun u_3 t H1 locs ht hvm hw hB hz1 hk1 hS => ?_)
  obtain ⟨⟩ := u_3
  obtain ⟨hP1, hK1, hD1⟩ := hB
  rw [ht] at hP1
  have hK1 := va_K.moved hvm.symm hK1
  obtain ⟨hP, hD⟩ := va_join (wr := [(h0, .inr (8, [.null, .null, .null, .null, .int 0, .int 0]))]) (w1 := [(q_1, .inr (3, [.int 0, .null, .int 6, .long 0, .int 0, .int 0, .null, .null, .int 0, .int 0, .int 0, .null, .null, .null, .int 0]))]) hP hD [1] [0] rfl rfl (by decide) (by decide) hk1 hFc hP1 hD1
  generalize H1 = H at hP hS ⊢
  have hP : va_P D cls [(h0, .inr (8, [.null, .null, .null, .null, .int 0, .int 0])), (q_1, .inr (3, [.int 0, .null, .int 6, .long 0, .int 0, .int 0, .null, .null, .int 0, .int 0, .int 0, .null, .null, .null, .int 0]))] H := hP
  have hD : va_D A [(h0, .inr (8, [.null, .null, .null, .null, .int 0, .int 0])), (q_1, .inr (3, [.int 0, .null, .int 6, .long 0, .int 0, .int 0, .null, .null, .int 0, .int 0, .int 0, .null, .null, .null, .int 0]))] := hD
  refine W.cs (cells' := 1) (slots' := 15) rfl rfl ?_
  refine va_putF (D := D) (ci := 8) (v := .ref q_1) (ty := .object "JoinedTrees$Op") (C := R_St) (T := F_St) (N := 6) hx hb hts i_St t_St t_St_ok n_St hown hK hP hD hS 0 rfl rfl 0 (by decide) (hts _ kw_161) (fun _ h9 => h9) rfl hin rfl (by decide +kernel) rfl rfl (Nat.le_of_ble_eq_true rfl) d_stI_17 (fun H locs hP hD hS => ?_)
  have hP : va_P D cls [(h0, .inr (8, [.ref q_1, .null, .null, .null, .int 0, .int 0])), (q_1, .inr (3, [.int 0, .null, .int 6, .long 0, .int 0, .int 0, .null, .null, .int 0, .int 0, .int 0, .null, .null, .null, .int 0]))] H := hP
  have hD : va_D A [(h0, .inr (8, [.ref q_1, .null, .null, .null, .int 0, .int 0])), (q_1, .inr (3, [.int 0, .null, .int 6, .long 0, .int 0, .int 0, .null, .null, .int 0, .int 0, .int 0, .null, .null, .null, .int 0]))] := hD
  refine lv_aload_n hx hb d_stI_20 rfl (lv_at hl 0 rfl) ?_
  refine lv_sipush (v := 32008) hx hb d_stI_21 (by decide) ?_
  refine va_newq (C := "JoinedTrees$Op") (N' := 32008) hx hb hown (hts _ kw_42) hev.1.1 hK hP hD hS hA (by decide) (by decide) (by decide) (Nat.le_of_ble_eq_true rfl) (Nat.le_of_ble_eq_true rfl) d_stI_24 (fun q_4 cA_5 H hK hP hD hS => ?_)
  have hK : va_K D cls [(cA_5, .object "JoinedTrees$Op")] s := hK
  have hP : va_P D cls [(h0, .inr (8, [.ref q_1, .null, .null, .null, .int 0, .int 0])), (q_1, .inr (3, [.int 0, .null, .int 6, .long 0, .int 0, .int 0, .null, .null, .int 0, .int 0, .int 0, .null, .null, .null, .int 0])), (q_4, .inl (cA_5, 32008, .inr (.inr (.inr (.inr (fun _ => none))))))] H := hP
  have hD : va_D A [(h0, .inr (8, [.ref q_1, .null, .null, .null, .int 0, .int 0])), (q_1, .inr (3, [.int 0, .null, .int 6, .long 0, .int 0, .int 0, .null, .null, .int 0, .int 0, .int 0, .null, .null, .null, .int 0])), (q_4, .inl (cA_5, 32008, .inr (.inr (.inr (.inr (fun _ => none))))))] := hD
  refine W.cs (cells' := 2) (slots' := 32023) rfl rfl ?_
  refine va_putF (D := D) (ci := 8) (v := .ref q_4) (ty := .array (.object "JoinedTrees$Op")) (C := R_St) (T := F_St) (N := 6) hx hb hts i_St t_St t_St_ok n_St hown hK hP hD hS 0 rfl rfl 1 (by decide) (hts _ kw_164) (fun _ h9 => h9) rfl hin rfl (by decide +kernel) rfl rfl (Nat.le_of_ble_eq_true rfl) d_stI_27 (fun H locs hP hD hS => ?_)
  have hP : va_P D cls [(h0, .inr (8, [.ref q_1, .ref q_4, .null, .null, .int 0, .int 0])), (q_1, .inr (3, [.int 0, .null, .int 6, .long 0, .int 0, .int 0, .null, .null, .int 0, .int 0, .int 0, .null, .null, .null, .int 0])), (q_4, .inl (cA_5, 32008, .inr (.inr (.inr (.inr (fun _ => none))))))] H := hP
  have hD : va_D A [(h0, .inr (8, [.ref q_1, .ref q_4, .null, .null, .int 0, .int 0])), (q_1, .inr (3, [.int 0, .null, .int 6, .long 0, .int 0, .int 0, .null, .null, .int 0, .int 0, .int 0, .null, .null, .null, .int 0])), (q_4, .inl (cA_5, 32008, .inr (.inr (.inr (.inr (fun _ => none))))))] := hD
  refine lv_aload_n hx hb d_stI_30 rfl (lv_at hl 0 rfl) ?_
  refine va_new (D := D) (ci := 5) (fs := [.null, .int 0, .int 0]) (C := R_Rw) (T := F_Rw) (N := 3) hx hb hts i_Rw t_Rw t_Rw_ok hown (hts _ kw_134) (hts _ kw_135) (hts _ kw_4) hK hP hD hS hA rfl (by decide +kernel) (Nat.le_of_ble_eq_true rfl) (Nat.le_of_ble_eq_true rfl) d_stI_31 (fun q_6 H hP hD hS => ?_)
  have hP : va_P D cls [(h0, .inr (8, [.ref q_1, .ref q_4, .null, .null, .int 0, .int 0])), (q_1, .inr (3, [.int 0, .null, .int 6, .long 0, .int 0, .int 0, .null, .null, .int 0, .int 0, .int 0, .null, .null, .null, .int 0])), (q_4, .inl (cA_5, 32008, .inr (.inr (.inr (.inr (fun _ => none)))))), (q_6, .inr (5, [.null, .int 0, .int 0]))] H := hP
  have hD : va_D A [(h0, .inr (8, [.ref q_1, .ref q_4, .null, .null, .int 0, .int 0])), (q_1, .inr (3, [.int 0, .null, .int 6, .long 0, .int 0, .int 0, .null, .null, .int 0, .int 0, .int 0, .null, .null, .null, .int 0])), (q_4, .inl (cA_5, 32008, .inr (.inr (.inr (.inr (fun _ => none)))))), (q_6, .inr (5, [.null, .int 0, .int 0]))] := hD
  refine W.cs (cells' := 3) (slots' := 32026) rfl rfl ?_
  refine lv_dup hx hb d_stI_34 rfl ?_
  refine lv_sipush (v := 24576) hx hb d_stI_35 (by decide) ?_
  have hPc := hP.sub (ws' := [(q_6, .inr (5, [.null, .int 0, .int 0]))]) [3] rfl
  have hDc := hD.sub (ws' := [(q_6, .inr (5, [.null, .int 0, .int 0]))]) [3] (by decide) rfl
  have hKc := hK.sub (tys' := []) [] rfl
  have hFc := va_free (wc := [(q_6, .inr (5, [.null, .int 0, .int 0]))]) hD hS hA [3] rfl
  refine va_callv (va_runI (As := [.int 24576]) (rest := [.ref q_6, .ref h0]) ⟨hx, hb, hml, hown, hts⟩ (g_rowI l D H.size q_6 24576 (by decide)) (cw_i 1 hts kw_138 kw_136 kw_137 kw_4 rfl rfl rfl (by decide +kernel) ⟨Nat.le_of_ble_eq_true rfl, Nat.le_of_ble_eq_true rfl⟩) ⟨g_blind, fun U hU hW => g_pre hU hW hPc hKc hDc⟩ rfl rfl hl.1 rfl (lv_room (Nat.le_of_ble_eq_true rfl)) d_stI_38 ⟨Nat.le_of_ble_eq_true rfl, Nat.le_of_ble_eq_true rfl⟩) hS (fun q _ h => hFc q h) hFc (fun u_8 t H1 locs ht hvm hw hB hz1 hk1 hS => ?_)
  obtain ⟨b_9, cB_10⟩ := u_8
  obtain ⟨hP1, hK1, hD1⟩ := hB
  rw [ht] at hP1
  have hK1 := va_K.moved hvm.symm hK1
  obtain ⟨hP, hD⟩ := va_join (wr := [(h0, .inr (8, [.ref q_1, .ref q_4, .null, .null, .int 0, .int 0])), (q_1, .inr (3, [.int 0, .null, .int 6, .long 0, .int 0, .int 0, .null, .null, .int 0, .int 0, .int 0, .null, .null, .null, .int 0])), (q_4, .inl (cA_5, 32008, .inr (.inr (.inr (.inr (fun _ => none))))))]) (w1 := [(q_6, .inr (5, [.ref b_9, .int 0, .int 0])), (b_9, .inl (cB_10, 24576, .inl (fun _ => 0)))]) hP hD [3] [0, 1, 2] rfl rfl (by decide) (by decide) hk1 hFc hP1 hD1
  have hK := (hK.sub (tys' := [(cA_5, .object "JoinedTrees$Op")]) [0] rfl).app hK1
  have hK : va_K D cls [(cA_5, .object "JoinedTrees$Op"), (cB_10, .byte)] s := hK
  generalize H1 = H at hP hS ⊢
  have hP : va_P D cls [(h0, .inr (8, [.ref q_1, .ref q_4, .null, .null, .int 0, .int 0])), (q_1, .inr (3, [.int 0, .null, .int 6, .long 0, .int 0, .int 0, .null, .null, .int 0, .int 0, .int 0, .null, .null, .null, .int 0])), (q_4, .inl (cA_5, 32008, .inr (.inr (.inr (.inr (fun _ => none)))))), (q_6, .inr (5, [.ref b_9, .int 0, .int 0])), (b_9, .inl (cB_10, 24576, .inl (fun _ => 0)))] H := hP
  have hD : va_D A [(h0, .inr (8, [.ref q_1, .ref q_4, .null, .null, .int 0, .int 0])), (q_1, .inr (3, [.int 0, .null, .int 6, .long 0, .int 0, .int 0, .null, .null, .int 0, .int 0, .int 0, .null, .null, .null, .int 0])), (q_4, .inl (cA_5, 32008, .inr (.inr (.inr (.inr (fun _ => none)))))), (q_6, .inr (5, [.ref b_9, .int 0, .int 0])), (b_9, .inl (cB_10, 24576, .inl (fun _ => 0)))] := hD
  refine W.cs (cells' := 4) (slots' := 56602) rfl rfl ?_
  refine va_putF (D := D) (ci := 8) (v := .ref q_6) (ty := .object "JoinedTrees$Row") (C := R_St) (T := F_St) (N := 6) hx hb hts i_St t_St t_St_ok n_St hown hK hP hD hS 0 rfl rfl 2 (by decide) (hts _ kw_167) (fun _ h9 => h9) rfl hin rfl (by decide +kernel) rfl rfl (Nat.le_of_ble_eq_true rfl) d_stI_41 (fun H locs hP hD hS => ?_)
  have hP : va_P D cls [(h0, .inr (8, [.ref q_1, .ref q_4, .ref q_6, .null, .int 0, .int 0])), (q_1, .inr (3, [.int 0, .null, .int 6, .long 0, .int 0, .int 0, .null, .null, .int 0, .int 0, .int 0, .null, .null, .null, .int 0])), (q_4, .inl (cA_5, 32008, .inr (.inr (.inr (.inr (fun _ => none)))))), (q_6, .inr (5, [.ref b_9, .int 0, .int 0])), (b_9, .inl (cB_10, 24576, .inl (fun _ => 0)))] H := hP
  have hD : va_D A [(h0, .inr (8, [.ref q_1, .ref q_4, .ref q_6, .null, .int 0, .int 0])), (q_1, .inr (3, [.int 0, .null, .int 6, .long 0, .int 0, .int 0, .null, .null, .int 0, .int 0, .int 0, .null, .null, .null, .int 0])), (q_4, .inl (cA_5, 32008, .inr (.inr (.inr (.inr (fun _ => none)))))), (q_6, .inr (5, [.ref b_9, .int 0, .int 0])), (b_9, .inl (cB_10, 24576, .inl (fun _ => 0)))] := hD
  refine lv_aload_n hx hb d_stI_44 rfl (lv_at hl 0 rfl) ?_
  refine lv_sipush (v := 1000) hx hb d_stI_45 (by decide) ?_
  refine va_newq (C := "JoinedTrees$Change") (N' := 1000) hx hb hown (hts _ kw_159) hev.1.2.1 hK hP hD hS hA (by decide) (by decide) (by decide) (Nat.le_of_ble_eq_true rfl) (Nat.le_of_ble_eq_true rfl) d_stI_48 (fun q_11 cA_12 H hK hP hD hS => ?_)
  have hK : va_K D cls [(cA_5, .object "JoinedTrees$Op"), (cB_10, .byte), (cA_12, .object "JoinedTrees$Change")] s := hK
  have hP : va_P D cls [(h0, .inr (8, [.ref q_1, .ref q_4, .ref q_6, .null, .int 0, .int 0])), (q_1, .inr (3, [.int 0, .null, .int 6, .long 0, .int 0, .int 0, .null, .null, .int 0, .int 0, .int 0, .null, .null, .null, .int 0])), (q_4, .inl (cA_5, 32008, .inr (.inr (.inr (.inr (fun _ => none)))))), (q_6, .inr (5, [.ref b_9, .int 0, .int 0])), (b_9, .inl (cB_10, 24576, .inl (fun _ => 0))), (q_11, .inl (cA_12, 1000, .inr (.inr (.inr (.inr (fun _ => none))))))] H := hP
  have hD : va_D A [(h0, .inr (8, [.ref q_1, .ref q_4, .ref q_6, .null, .int 0, .int 0])), (q_1, .inr (3, [.int 0, .null, .int 6, .long 0, .int 0, .int 0, .null, .null, .int 0, .int 0, .int 0, .null, .null, .null, .int 0])), (q_4, .inl (cA_5, 32008, .inr (.inr (.inr (.inr (fun _ => none)))))), (q_6, .inr (5, [.ref b_9, .int 0, .int 0])), (b_9, .inl (cB_10, 24576, .inl (fun _ => 0))), (q_11, .inl (cA_12, 1000, .inr (.inr (.inr (.inr (fun _ => none))))))] := hD
  refine W.cs (cells' := 5) (slots' := 57602) rfl rfl ?_
  refine va_putF (D := D) (ci := 8) (v := .ref q_11) (ty := .array (.object "JoinedTrees$Change")) (C := R_St) (T := F_St) (N := 6) hx hb hts i_St t_St t_St_ok n_St hown hK hP hD hS 0 rfl rfl 3 (by decide) (hts _ kw_171) (fun _ h9 => h9) rfl hin rfl (by decide +kernel) rfl rfl (Nat.le_of_ble_eq_true rfl) d_stI_51 (fun H locs hP hD hS => ?_)
  have hP : va_P D cls [(h0, .inr (8, [.ref q_1, .ref q_4, .ref q_6, .ref q_11, .int 0, .int 0])), (q_1, .inr (3, [.int 0, .null, .int 6, .long 0, .int 0, .int 0, .null, .null, .int 0, .int 0, .int 0, .null, .null, .null, .int 0])), (q_4, .inl (cA_5, 32008, .inr (.inr (.inr (.inr (fun _ => none)))))), (q_6, .inr (5, [.ref b_9, .int 0, .int 0])), (b_9, .inl (cB_10, 24576, .inl (fun _ => 0))), (q_11, .inl (cA_12, 1000, .inr (.inr (.inr (.inr (fun _ => none))))))] H := hP
  have hD : va_D A [(h0, .inr (8, [.ref q_1, .ref q_4, .ref q_6, .ref q_11, .int 0, .int 0])), (q_1, .inr (3, [.int 0, .null, .int 6, .long 0, .int 0, .int 0, .null, .null, .int 0, .int 0, .int 0, .null, .null, .null, .int 0])), (q_4, .inl (cA_5, 32008, .inr (.inr (.inr (.inr (fun _ => none)))))), (q_6, .inr (5, [.ref b_9, .int 0, .int 0])), (b_9, .inl (cB_10, 24576, .inl (fun _ => 0))), (q_11, .inl (cA_12, 1000, .inr (.inr (.inr (.inr (fun _ => none))))))] := hD
  exact W.vret hx hb hr (fun t ht hW => ⟨⟨([q_1, q_4, q_6, q_11, b_9], [cA_5]), rfl, trivial, by rw [ht]; exact hP.sub [0, 1, 2, 3] rfl, va_K.moved hW.alike (hK.sub [0] rfl), hD.sub [0, 1, 2, 3] (by decide) rfl⟩, hS.F ht⟩) hS.2.2 d_stI_54
theorem d_vaI_0 : decode prog_11_method_1_code 0 = .ok (.aload_n 0, 1) := by decide +kernel
theorem d_vaI_1 : decode prog_11_method_1_code 1 = .ok (.invokespecial 1, 3) := by decide +kernel
theorem d_vaI_4 : decode prog_11_method_1_code 4 = .ok (.return_, 1) := by decide +kernel
set_option maxHeartbeats 4000000 in
set_option maxRecDepth 100000 in
theorem g_vaI (l : Launch) (D : va_G) (sz : Nat) (h0 : Nat) : Met l ⟨"JoinedTrees$Value", "<init>", "()V"⟩ (Cond.code ⟨"JoinedTrees$Value", "<init>", "()V"⟩ prog_11_method_1_code 1 none :: gb) ({ frames := 1, cells := 0, slots := 0, locals := 24 }) (gPc D [(h0, .inr (9, [.int 0, .long 0, .null, .int 0, .int 0, .int 0, .int 0, .int 0, .null, .null]))] [] sz [.ref h0]) (va_Qv (fun u : Unit => True) (fun _ t => gO D [(h0, .inr (9, [.int 0, .long 0, .null, .int 0, .int 0, .int 0, .int 0, .int 0, .null, .null]))] [] (va_A [(h0, .inr (9, [.int 0, .long 0, .null, .int 0, .int 0, .int 0, .int 0, .int 0, .null, .null]))] sz) t) (va_A [(h0, .inr (9, [.int 0, .long 0, .null, .int 0, .int 0, .int 0, .int 0, .int 0, .null, .null]))] sz)) 0 0 (va_A [(h0, .inr (9, [.int 0, .long 0, .null, .int 0, .int 0, .int 0, .int 0, .int 0, .null, .null]))] sz) := by
  refine Met.ofW (cc := prog_11_method_1_code) (maxL := 1) (ret := none) (by decide) rfl ?_
  intro p e s m args below meth c s₁ B hml hv
  obtain ⟨rfl, hsz, hP, hK, hD0⟩ := hv
  have hx := B.exec
  have hb := B.bytes
  have hr := B.returns
  have hts : ∀ w9 ∈ gb, w9.before [.ref h0].toArray s = true := fun w9 h => atoms_spec (ws := Cond.code ⟨"JoinedTrees$Value", "<init>", "()V"⟩ prog_11_method_1_code 1 none :: gb) B.pre w9 (List.mem_cons_of_mem _ h)
  have hown : s.vm.findClass "JoinedTrees$Value" = some m.cls := findClass_of_methodNamed B.named
  have hlocks := B.notSynchronized
  have hin : meth.name = "<init>" := (name_of_methodNamed B.named B.method).1
  subst hsz
  have hD := hD0.self (sz := s.heap.size)
  generalize hAe : va_A [(h0, .inr (9, [.int 0, .long 0, .null, .int 0, .int 0, .int 0, .int 0, .int 0, .null, .null]))] s.heap.size = A at hD ⊢
  have hA : ∀ q : Nat, s.heap.size ≤ q → A q := fun q h => by rw [← hAe]; exact Or.inr h
  have hS : va_S A s.heap s.heap [] := va_S.rf
  have hP : va_P D cls [(h0, .inr (9, [.int 0, .long 0, .null, .int 0, .int 0, .int 0, .int 0, .int 0, .null, .null]))] s.heap := hP
  have hl := lv_entry ([.ref h0]) (n := 1) (Nat.le_of_ble_eq_true rfl)
  rw [lg_entry_eq]
  generalize (lg_sl ([.ref h0]) ++ List.replicate (1 - (lg_sl ([.ref h0])).length) Slot.unset).toArray = ls at hl ⊢
  have hl : lv_has ls 1 [(0, .ref h0)] := hl
  refine lv_aload_n hx hb d_vaI_0 rfl (lv_at hl 0 rfl) ?_
  refine W.objInit hx hb hown (hts _ kw_294) (hts _ kw_34) (hts _ kw_35) rfl (by rw [hml]; exact hl.1) rfl d_vaI_1 (Nat.le_of_ble_eq_true rfl) (Nat.le_of_ble_eq_true rfl) ?_
  refine W.eq (g2 := F0 m 4 ls []) rfl ?_
  exact W.vret hx hb hr (fun t ht hW => ⟨⟨(), rfl, trivial, by rw [ht]; exact hP.sub [0] rfl, va_K.moved hW.alike hK, hD.sub [0] (by decide) rfl⟩, hS.F ht⟩) hS.2.2 d_vaI_4
