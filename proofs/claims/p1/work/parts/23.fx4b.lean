theorem d_sem_0 : decode prog_8_method_5_code 0 = .ok (.aload_n 0, 1) := by decide +kernel
theorem d_sem_1 : decode prog_8_method_5_code 1 = .ok (.getfield 23, 3) := by decide +kernel
theorem d_sem_4 : decode prog_8_method_5_code 4 = .ok (.ifCond .ne 12, 3) := by decide +kernel
theorem d_sem_7 : decode prog_8_method_5_code 7 = .ok (.aload_n 0, 1) := by decide +kernel
theorem d_sem_8 : decode prog_8_method_5_code 8 = .ok (.getfield 19, 3) := by decide +kernel
theorem d_sem_11 : decode prog_8_method_5_code 11 = .ok (.iload_n 1, 1) := by decide +kernel
theorem d_sem_12 : decode prog_8_method_5_code 12 = .ok (.invokevirtual 95, 3) := by decide +kernel
theorem d_sem_15 : decode prog_8_method_5_code 15 = .ok (.return_, 1) := by decide +kernel
set_option maxHeartbeats 4000000 in
set_option maxRecDepth 100000 in
theorem g_emit (l : Launch) (D : va_G) (sz : Nat) (h0 s0 g0 t0 c0 : Nat) (k0 : ClassId) (g : Nat → Int32) : Met l ⟨"JoinedTrees$Saver", "emit", "(I)V"⟩ (Cond.code ⟨"JoinedTrees$Saver", "emit", "(I)V"⟩ prog_8_method_5_code 2 none :: gb) ({ frames := 1, cells := 0, slots := 0, locals := 21 }) (gPc D [(h0, .inr (6, [.ref s0, .ref g0, .ref t0, .int 0, .int 0, .int 0])), (g0, .inr (5, [.ref c0, .int 0, .int 0])), (c0, .inl (k0, 224582, .inl g))] [(k0, .byte)] sz [.ref h0, .int 0]) (va_Qv (fun u : Nat → Int32 => True) (fun u t => gO D [(h0, .inr (6, [.ref s0, .ref g0, .ref t0, .int 0, .int 0, .int 0])), (g0, .inr (5, [.ref c0, .int 1, .int 0])), (c0, .inl (k0, 224582, .inl u))] [(k0, .byte)] (va_A [(h0, .inr (6, [.ref s0, .ref g0, .ref t0, .int 0, .int 0, .int 0])), (g0, .inr (5, [.ref c0, .int 0, .int 0])), (c0, .inl (k0, 224582, .inl g))] sz) t) (va_A [(h0, .inr (6, [.ref s0, .ref g0, .ref t0, .int 0, .int 0, .int 0])), (g0, .inr (5, [.ref c0, .int 0, .int 0])), (c0, .inl (k0, 224582, .inl g))] sz)) 0 0 (va_A [(h0, .inr (6, [.ref s0, .ref g0, .ref t0, .int 0, .int 0, .int 0])), (g0, .inr (5, [.ref c0, .int 0, .int 0])), (c0, .inl (k0, 224582, .inl g))] sz) := by
  refine Met.ofW (cc := prog_8_method_5_code) (maxL := 2) (ret := none) (by decide) rfl ?_
  intro p e s m args below meth c s₁ B hml hv
  obtain ⟨rfl, hsz, hP, hK, hD0⟩ := hv
  have hx := B.exec
  have hb := B.bytes
  have hr := B.returns
  have hts : ∀ w9 ∈ gb, w9.before [.ref h0, .int 0].toArray s = true := fun w9 h => atoms_spec (ws := Cond.code ⟨"JoinedTrees$Saver", "emit", "(I)V"⟩ prog_8_method_5_code 2 none :: gb) B.pre w9 (List.mem_cons_of_mem _ h)
  have hown : s.vm.findClass "JoinedTrees$Saver" = some m.cls := findClass_of_methodNamed B.named
  have hlocks := B.notSynchronized
  subst hsz
  have hD := hD0.self (sz := s.heap.size)
  generalize hAe : va_A [(h0, .inr (6, [.ref s0, .ref g0, .ref t0, .int 0, .int 0, .int 0])), (g0, .inr (5, [.ref c0, .int 0, .int 0])), (c0, .inl (k0, 224582, .inl g))] s.heap.size = A at hD ⊢
  have hA : ∀ q : Nat, s.heap.size ≤ q → A q := fun q h => by rw [← hAe]; exact Or.inr h
  have hS : va_S A s.heap s.heap [] := va_S.rf
  have hP : va_P D cls [(h0, .inr (6, [.ref s0, .ref g0, .ref t0, .int 0, .int 0, .int 0])), (g0, .inr (5, [.ref c0, .int 0, .int 0])), (c0, .inl (k0, 224582, .inl g))] s.heap := hP
  have hl := lv_entry ([.ref h0, .int 0]) (n := 2) (Nat.le_of_ble_eq_true rfl)
  rw [lg_entry_eq]
  generalize (lg_sl ([.ref h0, .int 0]) ++ List.replicate (2 - (lg_sl ([.ref h0, .int 0])).length) Slot.unset).toArray = ls at hl ⊢
  have hl : lv_has ls 2 [(0, .ref h0), (1, .int 0)] := hl
  refine lv_aload_n hx hb d_sem_0 rfl (lv_at hl 0 rfl) ?_
  refine va_get (D := D) (ci := 6) (v := .int 0) (C := R_Sv) (T := F_Sv) (N := 6) hx hb hts i_Sv hown hK hP 0 rfl rfl 3 (by decide) (hts _ kw_405) (fun _ h9 => h9) rfl d_sem_1 ?_
  refine lv_if_ne (tgt := 16) hx hb d_sem_4 (by decide) (fun h => absurd rfl h) (fun _ => ?_)
  refine lv_aload_n hx hb d_sem_7 rfl (lv_at hl 0 rfl) ?_
  refine va_get (D := D) (ci := 6) (v := .ref g0) (C := R_Sv) (T := F_Sv) (N := 6) hx hb hts i_Sv hown hK hP 0 rfl rfl 1 (by decide) (hts _ kw_402) (fun _ h9 => h9) rfl d_sem_8 ?_
  refine lv_iload_n hx hb d_sem_11 rfl (lv_at hl 1 rfl) ?_
  have hPc := hP.sub (ws' := [(g0, .inr (5, [.ref c0, .int 0, .int 0])), (c0, .inl (k0, 224582, .inl g))]) [1, 2] rfl
  have hDc := hD.sub (ws' := [(g0, .inr (5, [.ref c0, .int 0, .int 0])), (c0, .inl (k0, 224582, .inl g))]) [1, 2] (by decide) rfl
  have hKc := hK.sub (tys' := [(k0, .byte)]) [0] rfl
  have hFc := va_free (wc := [(g0, .inr (5, [.ref c0, .int 0, .int 0])), (c0, .inl (k0, 224582, .inl g))]) hD hS hA [1, 2] rfl
  refine va_callv (va_runV (As := [.int 0]) (rest := []) ⟨hx, hb, hml, hown, hts⟩ (g_wr224582 l D s.heap.size g0 c0 k0 0 0 g (vp_in_nI (n := 0) (N := 224582) (by decide) (by decide))) (cw_v 1 hts kw_549 kw_1289 kw_547 kw_548 kw_4 rfl rfl (by decide +kernel) ⟨Nat.le_of_ble_eq_true rfl, Nat.le_of_ble_eq_true rfl⟩) ⟨g_blind, va_recv hKc hPc (ci := 5) (q0 := 0) rfl rfl, fun U hU hW => g_pre hU hW hPc hKc hDc⟩ rfl rfl hl.1 rfl (lv_room (Nat.le_of_ble_eq_true rfl)) d_sem_12 ⟨Nat.le_of_ble_eq_true rfl, Nat.le_of_ble_eq_true rfl⟩) hS (fun q _ h => hFc q h) hFc (fun u_2 t H1 locs ht hvm hw hB hz1 hk1 hS => ?_)
  obtain ⟨hP1, hK1, hD1⟩ := hB
  rw [ht] at hP1
  have hK1 := va_K.moved hvm.symm hK1
  obtain ⟨hP, hD⟩ := va_join (wr := [(h0, .inr (6, [.ref s0, .ref g0, .ref t0, .int 0, .int 0, .int 0]))]) (w1 := [(g0, .inr (5, [.ref c0, .int 1, .int 0])), (c0, .inl (k0, 224582, .inl u_2))]) hP hD [1, 2] [0] rfl rfl (by decide) (by decide) hk1 hFc hP1 hD1
  generalize H1 = H at hP hS ⊢
  have hP : va_P D cls [(h0, .inr (6, [.ref s0, .ref g0, .ref t0, .int 0, .int 0, .int 0])), (g0, .inr (5, [.ref c0, .int 1, .int 0])), (c0, .inl (k0, 224582, .inl u_2))] H := hP
  have hD : va_D A [(h0, .inr (6, [.ref s0, .ref g0, .ref t0, .int 0, .int 0, .int 0])), (g0, .inr (5, [.ref c0, .int 1, .int 0])), (c0, .inl (k0, 224582, .inl u_2))] := hD
  refine W.cs (cells' := 0) (slots' := 0) rfl rfl ?_
  exact W.vret hx hb hr (fun t ht hW => ⟨⟨u_2, rfl, trivial, by rw [ht]; exact hP.sub [0, 1, 2] rfl, va_K.moved hW.alike hK, hD.sub [0, 1, 2] (by decide) rfl⟩, hS.F ht⟩) hS.2.2 d_sem_15
theorem d_semn_0 : decode prog_8_method_6_code 0 = .ok (.lload_n 1, 1) := by decide +kernel
theorem d_semn_1 : decode prog_8_method_6_code 1 = .ok (.lstore_n 3, 1) := by decide +kernel
theorem d_semn_2 : decode prog_8_method_6_code 2 = .ok (.iconst 0, 1) := by decide +kernel
theorem d_semn_3 : decode prog_8_method_6_code 3 = .ok (.istore 5, 2) := by decide +kernel
theorem d_semn_5 : decode prog_8_method_6_code 5 = .ok (.iload 5, 2) := by decide +kernel
theorem d_semn_7 : decode prog_8_method_6_code 7 = .ok (.bipush 9, 2) := by decide +kernel
theorem d_semn_9 : decode prog_8_method_6_code 9 = .ok (.if_icmp .ge 37, 3) := by decide +kernel
theorem d_semn_12 : decode prog_8_method_6_code 12 = .ok (.lload_n 3, 1) := by decide +kernel
theorem d_semn_13 : decode prog_8_method_6_code 13 = .ok (.bipush 7, 2) := by decide +kernel
theorem d_semn_15 : decode prog_8_method_6_code 15 = .ok (.lushr, 1) := by decide +kernel
theorem d_semn_16 : decode prog_8_method_6_code 16 = .ok (.lconst 0, 1) := by decide +kernel
theorem d_semn_17 : decode prog_8_method_6_code 17 = .ok (.lcmp, 1) := by decide +kernel
theorem d_semn_18 : decode prog_8_method_6_code 18 = .ok (.ifCond .eq 28, 3) := by decide +kernel
theorem d_semn_46 : decode prog_8_method_6_code 46 = .ok (.aload_n 0, 1) := by decide +kernel
theorem d_semn_47 : decode prog_8_method_6_code 47 = .ok (.lload_n 3, 1) := by decide +kernel
theorem d_semn_48 : decode prog_8_method_6_code 48 = .ok (.l2i, 1) := by decide +kernel
theorem d_semn_49 : decode prog_8_method_6_code 49 = .ok (.invokevirtual 86, 3) := by decide +kernel
theorem d_semn_52 : decode prog_8_method_6_code 52 = .ok (.return_, 1) := by decide +kernel
set_option maxHeartbeats 4000000 in
set_option maxRecDepth 100000 in
theorem g_emn (l : Launch) (D : va_G) (sz : Nat) (h0 s0 g0 t0 c0 : Nat) (k0 : ClassId) (g : Nat → Int32) : Met l ⟨"JoinedTrees$Saver", "emitNumber", "(J)V"⟩ (Cond.code ⟨"JoinedTrees$Saver", "emitNumber", "(J)V"⟩ prog_8_method_6_code 6 none :: gb) ({ frames := 2, cells := 0, slots := 0, locals := 42 }) (gPc D [(h0, .inr (6, [.ref s0, .ref g0, .ref t0, .int 0, .int 0, .int 0])), (g0, .inr (5, [.ref c0, .int 0, .int 0])), (c0, .inl (k0, 224582, .inl g))] [(k0, .byte)] sz [.ref h0, .long 0]) (va_Qv (fun u : Nat → Int32 => True) (fun u t => gO D [(h0, .inr (6, [.ref s0, .ref g0, .ref t0, .int 0, .int 0, .int 0])), (g0, .inr (5, [.ref c0, .int 1, .int 0])), (c0, .inl (k0, 224582, .inl u))] [(k0, .byte)] (va_A [(h0, .inr (6, [.ref s0, .ref g0, .ref t0, .int 0, .int 0, .int 0])), (g0, .inr (5, [.ref c0, .int 0, .int 0])), (c0, .inl (k0, 224582, .inl g))] sz) t) (va_A [(h0, .inr (6, [.ref s0, .ref g0, .ref t0, .int 0, .int 0, .int 0])), (g0, .inr (5, [.ref c0, .int 0, .int 0])), (c0, .inl (k0, 224582, .inl g))] sz)) 0 0 (va_A [(h0, .inr (6, [.ref s0, .ref g0, .ref t0, .int 0, .int 0, .int 0])), (g0, .inr (5, [.ref c0, .int 0, .int 0])), (c0, .inl (k0, 224582, .inl g))] sz) := by
  refine Met.ofW (cc := prog_8_method_6_code) (maxL := 6) (ret := none) (by decide) rfl ?_
  intro p e s m args below meth c s₁ B hml hv
  obtain ⟨rfl, hsz, hP, hK, hD0⟩ := hv
  have hx := B.exec
  have hb := B.bytes
  have hr := B.returns
  have hts : ∀ w9 ∈ gb, w9.before [.ref h0, .long 0].toArray s = true := fun w9 h => atoms_spec (ws := Cond.code ⟨"JoinedTrees$Saver", "emitNumber", "(J)V"⟩ prog_8_method_6_code 6 none :: gb) B.pre w9 (List.mem_cons_of_mem _ h)
  have hown : s.vm.findClass "JoinedTrees$Saver" = some m.cls := findClass_of_methodNamed B.named
  have hlocks := B.notSynchronized
  subst hsz
  have hD := hD0.self (sz := s.heap.size)
  generalize hAe : va_A [(h0, .inr (6, [.ref s0, .ref g0, .ref t0, .int 0, .int 0, .int 0])), (g0, .inr (5, [.ref c0, .int 0, .int 0])), (c0, .inl (k0, 224582, .inl g))] s.heap.size = A at hD ⊢
  have hA : ∀ q : Nat, s.heap.size ≤ q → A q := fun q h => by rw [← hAe]; exact Or.inr h
  have hS : va_S A s.heap s.heap [] := va_S.rf
  have hP : va_P D cls [(h0, .inr (6, [.ref s0, .ref g0, .ref t0, .int 0, .int 0, .int 0])), (g0, .inr (5, [.ref c0, .int 0, .int 0])), (c0, .inl (k0, 224582, .inl g))] s.heap := hP
  have hl := lv_entry ([.ref h0, .long 0]) (n := 6) (Nat.le_of_ble_eq_true rfl)
  rw [lg_entry_eq]
  generalize (lg_sl ([.ref h0, .long 0]) ++ List.replicate (6 - (lg_sl ([.ref h0, .long 0])).length) Slot.unset).toArray = ls at hl ⊢
  have hl : lv_has ls 6 [(0, .ref h0), (1, .long 0)] := hl
  refine lv_lload_n hx hb d_semn_0 rfl (lv_at hl 1 rfl) ?_
  refine lv_lstore_n (lv' := [(3, .long 0), (0, .ref h0), (1, .long 0)]) hx hb d_semn_1 rfl hl (by decide) rfl (fun ls hl => ?_)
  refine lv_iconst (v := 0) hx hb d_semn_2 (by decide) ?_
  refine lv_istore (lv' := [(5, .int 0), (3, .long 0), (0, .ref h0), (1, .long 0)]) hx hb d_semn_3 hl (by decide) rfl (fun ls hl => ?_)
  refine lv_iload hx hb d_semn_5 (lv_at hl 0 rfl) ?_
  refine lv_bipush (v := 9) hx hb d_semn_7 (by decide) ?_
  refine lv_icmp_ge (tgt := 46) hx hb d_semn_9 (by decide) (fun h => absurd h (by decide)) (fun _ => ?_)
  refine lv_lload_n hx hb d_semn_12 rfl (lv_at hl 1 rfl) ?_
  refine lv_bipush (v := 7) hx hb d_semn_13 (by decide) ?_
  refine lv_lushr hx hb d_semn_15 rfl ?_
  refine w_l (y := 0) (by decide) ?_
  refine lv_lconst (v := 0) hx hb d_semn_16 (by decide) ?_
  refine W.lcmp hx hb d_semn_17 ?_
  refine w_i (y := 0) (by decide) ?_
  refine lv_if_eq (tgt := 46) hx hb d_semn_18 (by decide) (fun _ => ?_) (fun h => absurd h (by decide))
  refine lv_aload_n hx hb d_semn_46 rfl (lv_at hl 2 rfl) ?_
  refine lv_lload_n hx hb d_semn_47 rfl (lv_at hl 1 rfl) ?_
  refine lv_l2i hx hb d_semn_48 rfl ?_
  refine w_i (y := 0) (by decide) ?_
  have hPc := hP.sub (ws' := [(h0, .inr (6, [.ref s0, .ref g0, .ref t0, .int 0, .int 0, .int 0])), (g0, .inr (5, [.ref c0, .int 0, .int 0])), (c0, .inl (k0, 224582, .inl g))]) [0, 1, 2] rfl
  have hDc := hD.sub (ws' := [(h0, .inr (6, [.ref s0, .ref g0, .ref t0, .int 0, .int 0, .int 0])), (g0, .inr (5, [.ref c0, .int 0, .int 0])), (c0, .inl (k0, 224582, .inl g))]) [0, 1, 2] (by decide) rfl
  have hKc := hK.sub (tys' := [(k0, .byte)]) [0] rfl
  have hFc := va_free (wc := [(h0, .inr (6, [.ref s0, .ref g0, .ref t0, .int 0, .int 0, .int 0])), (g0, .inr (5, [.ref c0, .int 0, .int 0])), (c0, .inl (k0, 224582, .inl g))]) hD hS hA [0, 1, 2] rfl
  refine va_callv (va_runV (As := [.int 0]) (rest := []) ⟨hx, hb, hml, hown, hts⟩ (g_emit l D s.heap.size h0 s0 g0 t0 c0 k0 g) (cw_v 1 hts kw_1288 kw_1285 kw_1286 kw_1287 kw_10 rfl rfl (by decide +kernel) ⟨Nat.le_of_ble_eq_true rfl, Nat.le_of_ble_eq_true rfl⟩) ⟨g_blind, va_recv hKc hPc (ci := 6) (q0 := 0) rfl rfl, fun U hU hW => g_pre hU hW hPc hKc hDc⟩ rfl rfl hl.1 rfl (lv_room (Nat.le_of_ble_eq_true rfl)) d_semn_49 ⟨Nat.le_of_ble_eq_true rfl, Nat.le_of_ble_eq_true rfl⟩) hS (fun q _ h => hFc q h) hFc (fun u_2 t H1 locs ht hvm hw hB hz1 hk1 hS => ?_)
  obtain ⟨hP1, hK1, hD1⟩ := hB
  rw [ht] at hP1
  have hK1 := va_K.moved hvm.symm hK1
  obtain ⟨hP, hD⟩ := va_join (wr := []) (w1 := [(h0, .inr (6, [.ref s0, .ref g0, .ref t0, .int 0, .int 0, .int 0])), (g0, .inr (5, [.ref c0, .int 1, .int 0])), (c0, .inl (k0, 224582, .inl u_2))]) hP hD [0, 1, 2] [] rfl rfl (by decide) (by decide) hk1 hFc hP1 hD1
  generalize H1 = H at hP hS ⊢
  have hP : va_P D cls [(h0, .inr (6, [.ref s0, .ref g0, .ref t0, .int 0, .int 0, .int 0])), (g0, .inr (5, [.ref c0, .int 1, .int 0])), (c0, .inl (k0, 224582, .inl u_2))] H := hP
  have hD : va_D A [(h0, .inr (6, [.ref s0, .ref g0, .ref t0, .int 0, .int 0, .int 0])), (g0, .inr (5, [.ref c0, .int 1, .int 0])), (c0, .inl (k0, 224582, .inl u_2))] := hD
  refine W.cs (cells' := 0) (slots' := 0) rfl rfl ?_
  exact W.vret hx hb hr (fun t ht hW => ⟨⟨u_2, rfl, trivial, by rw [ht]; exact hP.sub [0, 1, 2] rfl, va_K.moved hW.alike hK, hD.sub [0, 1, 2] (by decide) rfl⟩, hS.F ht⟩) hS.2.2 d_semn_52
theorem d_scrc_0 : decode prog_8_method_10_code 0 = .ok (.iconst (-1), 1) := by decide +kernel
theorem d_scrc_1 : decode prog_8_method_10_code 1 = .ok (.istore_n 2, 1) := by decide +kernel
theorem d_scrc_2 : decode prog_8_method_10_code 2 = .ok (.iconst 0, 1) := by decide +kernel
theorem d_scrc_3 : decode prog_8_method_10_code 3 = .ok (.istore_n 3, 1) := by decide +kernel
theorem d_scrc_4 : decode prog_8_method_10_code 4 = .ok (.iload_n 3, 1) := by decide +kernel
theorem d_scrc_5 : decode prog_8_method_10_code 5 = .ok (.iload_n 1, 1) := by decide +kernel
theorem d_scrc_6 : decode prog_8_method_10_code 6 = .ok (.if_icmp .ge 50, 3) := by decide +kernel
theorem d_scrc_9 : decode prog_8_method_10_code 9 = .ok (.iload_n 2, 1) := by decide +kernel
theorem d_scrc_10 : decode prog_8_method_10_code 10 = .ok (.iconst 0, 1) := by decide +kernel
theorem d_scrc_11 : decode prog_8_method_10_code 11 = .ok (.aload_n 0, 1) := by decide +kernel
theorem d_scrc_12 : decode prog_8_method_10_code 12 = .ok (.getfield 19, 3) := by decide +kernel
theorem d_scrc_15 : decode prog_8_method_10_code 15 = .ok (.iload_n 3, 1) := by decide +kernel
theorem d_scrc_16 : decode prog_8_method_10_code 16 = .ok (.invokevirtual 84, 3) := by decide +kernel
theorem d_scrc_19 : decode prog_8_method_10_code 19 = .ok (.invokestatic 89, 3) := by decide +kernel
theorem d_scrc_22 : decode prog_8_method_10_code 22 = .ok (.ixor, 1) := by decide +kernel
theorem d_scrc_23 : decode prog_8_method_10_code 23 = .ok (.istore_n 2, 1) := by decide +kernel
theorem d_scrc_24 : decode prog_8_method_10_code 24 = .ok (.iload_n 2, 1) := by decide +kernel
theorem d_scrc_25 : decode prog_8_method_10_code 25 = .ok (.iconst 4, 1) := by decide +kernel
theorem d_scrc_26 : decode prog_8_method_10_code 26 = .ok (.iushr, 1) := by decide +kernel
theorem d_scrc_27 : decode prog_8_method_10_code 27 = .ok (.getstatic 174, 3) := by decide +kernel
theorem d_scrc_30 : decode prog_8_method_10_code 30 = .ok (.iload_n 2, 1) := by decide +kernel
theorem d_scrc_31 : decode prog_8_method_10_code 31 = .ok (.bipush 15, 2) := by decide +kernel
theorem d_scrc_33 : decode prog_8_method_10_code 33 = .ok (.iand, 1) := by decide +kernel
theorem d_scrc_34 : decode prog_8_method_10_code 34 = .ok (.iaload, 1) := by decide +kernel
theorem d_scrc_35 : decode prog_8_method_10_code 35 = .ok (.ixor, 1) := by decide +kernel
theorem d_scrc_36 : decode prog_8_method_10_code 36 = .ok (.istore_n 2, 1) := by decide +kernel
theorem d_scrc_37 : decode prog_8_method_10_code 37 = .ok (.iload_n 2, 1) := by decide +kernel
theorem d_scrc_38 : decode prog_8_method_10_code 38 = .ok (.iconst 4, 1) := by decide +kernel
theorem d_scrc_39 : decode prog_8_method_10_code 39 = .ok (.iushr, 1) := by decide +kernel
theorem d_scrc_40 : decode prog_8_method_10_code 40 = .ok (.getstatic 174, 3) := by decide +kernel
theorem d_scrc_43 : decode prog_8_method_10_code 43 = .ok (.iload_n 2, 1) := by decide +kernel
theorem d_scrc_44 : decode prog_8_method_10_code 44 = .ok (.bipush 15, 2) := by decide +kernel
theorem d_scrc_46 : decode prog_8_method_10_code 46 = .ok (.iand, 1) := by decide +kernel
theorem d_scrc_47 : decode prog_8_method_10_code 47 = .ok (.iaload, 1) := by decide +kernel
theorem d_scrc_48 : decode prog_8_method_10_code 48 = .ok (.ixor, 1) := by decide +kernel
theorem d_scrc_49 : decode prog_8_method_10_code 49 = .ok (.istore_n 2, 1) := by decide +kernel
theorem d_scrc_50 : decode prog_8_method_10_code 50 = .ok (.iinc 3 1, 3) := by decide +kernel
theorem d_scrc_53 : decode prog_8_method_10_code 53 = .ok (.goto (-49), 3) := by decide +kernel
theorem d_scrc_56 : decode prog_8_method_10_code 56 = .ok (.iload_n 2, 1) := by decide +kernel
theorem d_scrc_57 : decode prog_8_method_10_code 57 = .ok (.iconst (-1), 1) := by decide +kernel
theorem d_scrc_58 : decode prog_8_method_10_code 58 = .ok (.ixor, 1) := by decide +kernel
theorem d_scrc_59 : decode prog_8_method_10_code 59 = .ok (.ireturn, 1) := by decide +kernel
set_option maxHeartbeats 4000000 in
set_option maxRecDepth 100000 in
theorem g_crc (l : Launch) (D : va_G) (sz : Nat) (h0 s0 g0 t0 c0 : Nat) (k0 : ClassId) (g : Nat → Int32) : Met l ⟨"JoinedTrees$Saver", "crcOf", "(I)I"⟩ (Cond.code ⟨"JoinedTrees$Saver", "crcOf", "(I)I"⟩ prog_8_method_10_code 4 (some .int) :: gb) ({ frames := 1, cells := 0, slots := 0, locals := 24 }) (gPf D [(h0, .inr (6, [.ref s0, .ref g0, .ref t0, .int 0, .int 0, .int 0])), (g0, .inr (5, [.ref c0, .int 1, .int 0])), (c0, .inl (k0, 224582, .inl g))] [(k0, .byte)] sz [.ref h0, .int 1]) (va_Qi (fun (r : Int32) (u : Unit) => True) (fun _ t => gO D [(h0, .inr (6, [.ref s0, .ref g0, .ref t0, .int 0, .int 0, .int 0])), (g0, .inr (5, [.ref c0, .int 1, .int 0])), (c0, .inl (k0, 224582, .inl g))] [(k0, .byte)] (va_A [(h0, .inr (6, [.ref s0, .ref g0, .ref t0, .int 0, .int 0, .int 0])), (g0, .inr (5, [.ref c0, .int 1, .int 0])), (c0, .inl (k0, 224582, .inl g))] sz) t) (va_A [(h0, .inr (6, [.ref s0, .ref g0, .ref t0, .int 0, .int 0, .int 0])), (g0, .inr (5, [.ref c0, .int 1, .int 0])), (c0, .inl (k0, 224582, .inl g))] sz)) 0 0 (va_A [(h0, .inr (6, [.ref s0, .ref g0, .ref t0, .int 0, .int 0, .int 0])), (g0, .inr (5, [.ref c0, .int 1, .int 0])), (c0, .inl (k0, 224582, .inl g))] sz) := by
  refine Met.ofW (cc := prog_8_method_10_code) (maxL := 4) (ret := (some .int)) (by decide) rfl ?_
  intro p e s m args below meth c s₁ B hml hv
  obtain ⟨rfl, hsz, hP, hK, hD0, hev⟩ := hv
  have hx := B.exec
  have hb := B.bytes
  have hr := B.returns
  have hts : ∀ w9 ∈ gb, w9.before [.ref h0, .int 1].toArray s = true := fun w9 h => atoms_spec (ws := Cond.code ⟨"JoinedTrees$Saver", "crcOf", "(I)I"⟩ prog_8_method_10_code 4 (some .int) :: gb) B.pre w9 (List.mem_cons_of_mem _ h)
  have hown : s.vm.findClass "JoinedTrees$Saver" = some m.cls := findClass_of_methodNamed B.named
  have hlocks := B.notSynchronized
  subst hsz
  have hD := hD0.self (sz := s.heap.size)
  have hNS := ns_of hP
  generalize hAe : va_A [(h0, .inr (6, [.ref s0, .ref g0, .ref t0, .int 0, .int 0, .int 0])), (g0, .inr (5, [.ref c0, .int 1, .int 0])), (c0, .inl (k0, 224582, .inl g))] s.heap.size = A at hD hev hNS ⊢
  have hA : ∀ q : Nat, s.heap.size ≤ q → A q := fun q h => by rw [← hAe]; exact Or.inr h
  have hS : va_S A s.heap s.heap [] := va_S.rf
  have hP : va_P D cls [(h0, .inr (6, [.ref s0, .ref g0, .ref t0, .int 0, .int 0, .int 0])), (g0, .inr (5, [.ref c0, .int 1, .int 0])), (c0, .inl (k0, 224582, .inl g))] s.heap := hP
  have hl := lv_entry ([.ref h0, .int 1]) (n := 4) (Nat.le_of_ble_eq_true rfl)
  rw [lg_entry_eq]
  generalize (lg_sl ([.ref h0, .int 1]) ++ List.replicate (4 - (lg_sl ([.ref h0, .int 1])).length) Slot.unset).toArray = ls at hl ⊢
  have hl : lv_has ls 4 [(0, .ref h0), (1, .int 1)] := hl
  refine lv_iconst (v := (-1)) hx hb d_scrc_0 (by decide) ?_
  refine lv_istore_n (lv' := [(2, .int (-1)), (0, .ref h0), (1, .int 1)]) hx hb d_scrc_1 rfl hl (by decide) rfl (fun ls hl => ?_)
  refine lv_iconst (v := 0) hx hb d_scrc_2 (by decide) ?_
  refine lv_istore_n (lv' := [(3, .int 0), (2, .int (-1)), (0, .ref h0), (1, .int 1)]) hx hb d_scrc_3 rfl hl (by decide) rfl (fun ls hl => ?_)
  refine lv_iload_n hx hb d_scrc_4 rfl (lv_at hl 0 rfl) ?_
  refine lv_iload_n hx hb d_scrc_5 rfl (lv_at hl 3 rfl) ?_
  refine lv_icmp_ge (tgt := 56) hx hb d_scrc_6 (by decide) (fun h => absurd h (by decide)) (fun _ => ?_)
  refine lv_iload_n hx hb d_scrc_9 rfl (lv_at hl 1 rfl) ?_
  refine lv_iconst (v := 0) hx hb d_scrc_10 (by decide) ?_
  refine lv_aload_n hx hb d_scrc_11 rfl (lv_at hl 2 rfl) ?_
  refine va_get (D := D) (ci := 6) (v := .ref g0) (C := R_Sv) (T := F_Sv) (N := 6) hx hb hts i_Sv hown hK hP 0 rfl rfl 1 (by decide) (hts _ kw_402) (fun _ h9 => h9) rfl d_scrc_12 ?_
  refine lv_iload_n hx hb d_scrc_15 rfl (lv_at hl 0 rfl) ?_
  have hPc := hP.sub (ws' := [(g0, .inr (5, [.ref c0, .int 1, .int 0])), (c0, .inl (k0, 224582, .inl g))]) [1, 2] rfl
  have hDc := hD.sub (ws' := [(g0, .inr (5, [.ref c0, .int 1, .int 0])), (c0, .inl (k0, 224582, .inl g))]) [1, 2] (by decide) rfl
  have hKc := hK.sub (tys' := [(k0, .byte)]) [0] rfl
  have hFc := va_free (wc := [(g0, .inr (5, [.ref c0, .int 1, .int 0])), (c0, .inl (k0, 224582, .inl g))]) hD hS hA [1, 2] rfl
  refine va_calli (va_runV (As := [.int 0]) (rest := [.int 0, .int (-1)]) ⟨hx, hb, hml, hown, hts⟩ (g_rat224582 l D s.heap.size g0 c0 k0 1 0 g (by decide) (by decide) (vp_in_nI (n := 0) (N := 224582) (by decide) (by decide))) (cw_v 1 hts kw_689 kw_1290 kw_687 kw_688 kw_4 rfl rfl (by decide +kernel) ⟨Nat.le_of_ble_eq_true rfl, Nat.le_of_ble_eq_true rfl⟩) ⟨g_blind, va_recv hKc hPc (ci := 5) (q0 := 0) rfl rfl, fun U hU hW => g_pre hU hW hPc hKc hDc⟩ rfl rfl hl.1 rfl (lv_room (Nat.le_of_ble_eq_true rfl)) d_scrc_16 ⟨Nat.le_of_ble_eq_true rfl, Nat.le_of_ble_eq_true rfl⟩) hS (fun q _ h => hFc q h) hFc (fun r_1 u_2 t H1 locs ht hvm hw hB hz1 hk1 hS => ?_)
  obtain ⟨⟩ := u_2
  obtain ⟨hP1, hK1, hD1⟩ := hB
  rw [ht] at hP1
  have hK1 := va_K.moved hvm.symm hK1
  obtain ⟨hP, hD⟩ := va_join (wr := [(h0, .inr (6, [.ref s0, .ref g0, .ref t0, .int 0, .int 0, .int 0]))]) (w1 := [(g0, .inr (5, [.ref c0, .int 1, .int 0])), (c0, .inl (k0, 224582, .inl g))]) hP hD [1, 2] [0] rfl rfl (by decide) (by decide) hk1 hFc hP1 hD1
  generalize H1 = H at hP hS ⊢
  have hP : va_P D cls [(h0, .inr (6, [.ref s0, .ref g0, .ref t0, .int 0, .int 0, .int 0])), (g0, .inr (5, [.ref c0, .int 1, .int 0])), (c0, .inl (k0, 224582, .inl g))] H := hP
  have hD : va_D A [(h0, .inr (6, [.ref s0, .ref g0, .ref t0, .int 0, .int 0, .int 0])), (g0, .inr (5, [.ref c0, .int 1, .int 0])), (c0, .inl (k0, 224582, .inl g))] := hD
  refine W.cs (cells' := 0) (slots' := 0) rfl rfl ?_
  refine va_mmax hx hb (hml.trans hl.1.symm) hown (hts _ kw_1312) (hts _ kw_1102) (hts _ kw_21) (hts _ kw_1103) (Nat.le_of_ble_eq_true rfl) (Nat.le_of_ble_eq_true rfl) (Nat.le_of_ble_eq_true rfl) (Nat.le_of_ble_eq_true rfl) d_scrc_19 ?_
  refine lv_topi (fun x_3 ex_3 => ?_)
  refine lv_ixor hx hb d_scrc_22 ?_
  refine lv_topi (fun x_4 ex_4 => ?_)
  refine lv_istore_n (lv' := [(2, .int x_4), (3, .int 0), (0, .ref h0), (1, .int 1)]) hx hb d_scrc_23 rfl hl (by decide) rfl (fun ls hl => ?_)
  refine lv_iload_n hx hb d_scrc_24 rfl (lv_at hl 0 rfl) ?_
  refine lv_iconst (v := 4) hx hb d_scrc_25 (by decide) ?_
  refine lv_iushr hx hb d_scrc_26 rfl ?_
  refine lv_topi (fun x_5 ex_5 => ?_)
  obtain ⟨tc, hZc, hTc⟩ := hev.1.2
  refine va_gets hx hb hZc hS hown (hts _ kw_1313) (fun _ h9 => h9) d_scrc_27 ?_
  refine lv_iload_n hx hb d_scrc_30 rfl (lv_at hl 0 rfl) ?_
  refine lv_bipush (v := 15) hx hb d_scrc_31 (by decide) ?_
  refine lv_iand hx hb d_scrc_33 ?_
  refine lv_topi (fun x_6 ex_6 => ?_)
  refine va_ti hx hb hTc hS (i := x_6) (by rw [ex_6]; exact pk_andIn _ 4 rfl (by decide)) rfl d_scrc_34 ?_
  refine lv_topi (fun x_7 ex_7 => ?_)
  refine lv_ixor hx hb d_scrc_35 ?_
  refine lv_topi (fun x_8 ex_8 => ?_)
  refine lv_istore_n (lv' := [(2, .int x_8), (3, .int 0), (0, .ref h0), (1, .int 1)]) hx hb d_scrc_36 rfl hl (by decide) rfl (fun ls hl => ?_)
  refine lv_iload_n hx hb d_scrc_37 rfl (lv_at hl 0 rfl) ?_
  refine lv_iconst (v := 4) hx hb d_scrc_38 (by decide) ?_
  refine lv_iushr hx hb d_scrc_39 rfl ?_
  refine lv_topi (fun x_9 ex_9 => ?_)
  refine va_gets hx hb hZc hS hown (hts _ kw_1313) (fun _ h9 => h9) d_scrc_40 ?_
  refine lv_iload_n hx hb d_scrc_43 rfl (lv_at hl 0 rfl) ?_
  refine lv_bipush (v := 15) hx hb d_scrc_44 (by decide) ?_
  refine lv_iand hx hb d_scrc_46 ?_
  refine lv_topi (fun x_10 ex_10 => ?_)
  refine va_ti hx hb hTc hS (i := x_10) (by rw [ex_10]; exact pk_andIn _ 4 rfl (by decide)) rfl d_scrc_47 ?_
  refine lv_topi (fun x_11 ex_11 => ?_)
  refine lv_ixor hx hb d_scrc_48 ?_
  refine lv_topi (fun x_12 ex_12 => ?_)
  refine lv_istore_n (lv' := [(2, .int x_12), (3, .int 0), (0, .ref h0), (1, .int 1)]) hx hb d_scrc_49 rfl hl (by decide) rfl (fun ls hl => ?_)
  refine lv_iinc (v := 1) (lv' := [(3, .int 1), (2, .int x_12), (0, .ref h0), (1, .int 1)]) hx hb d_scrc_50 hl (k := 1) rfl (by decide) (by decide) rfl (fun ls hl => ?_)
  refine lv_goto (tgt := 4) hx hb d_scrc_53 (by decide) ?_
  refine lv_iload_n hx hb d_scrc_4 rfl (lv_at hl 0 rfl) ?_
  refine lv_iload_n hx hb d_scrc_5 rfl (lv_at hl 3 rfl) ?_
  refine lv_icmp_ge (tgt := 56) hx hb d_scrc_6 (by decide) (fun _ => ?_) (fun h => absurd h (by decide))
  refine lv_iload_n hx hb d_scrc_56 rfl (lv_at hl 1 rfl) ?_
  refine lv_iconst (v := (-1)) hx hb d_scrc_57 (by decide) ?_
  refine lv_ixor hx hb d_scrc_58 ?_
  refine lv_topi (fun x_13 ex_13 => ?_)
  exact W.iret (v := x_13) hx hb hr (fun t ht hW => ⟨⟨x_13, (), rfl, trivial, by rw [ht]; exact hP.sub [0, 1, 2] rfl, va_K.moved hW.alike hK, hD.sub [0, 1, 2] (by decide) rfl⟩, hS.F ht⟩) hS.2.2 d_scrc_59
theorem d_swsv_0 : decode prog_8_method_2_code 0 = .ok (.aload_n 0, 1) := by decide +kernel
theorem d_swsv_1 : decode prog_8_method_2_code 1 = .ok (.iconst 0, 1) := by decide +kernel
theorem d_swsv_2 : decode prog_8_method_2_code 2 = .ok (.putfield 23, 3) := by decide +kernel
theorem d_swsv_5 : decode prog_8_method_2_code 5 = .ok (.aload_n 0, 1) := by decide +kernel
theorem d_swsv_6 : decode prog_8_method_2_code 6 = .ok (.getfield 19, 3) := by decide +kernel
theorem d_swsv_9 : decode prog_8_method_2_code 9 = .ok (.invokevirtual 27, 3) := by decide +kernel
theorem d_swsv_12 : decode prog_8_method_2_code 12 = .ok (.aload_n 0, 1) := by decide +kernel
theorem d_swsv_13 : decode prog_8_method_2_code 13 = .ok (.aload_n 1, 1) := by decide +kernel
theorem d_swsv_14 : decode prog_8_method_2_code 14 = .ok (.getfield 32, 3) := by decide +kernel
theorem d_swsv_17 : decode prog_8_method_2_code 17 = .ok (.i2l, 1) := by decide +kernel
theorem d_swsv_18 : decode prog_8_method_2_code 18 = .ok (.invokevirtual 38, 3) := by decide +kernel
theorem d_swsv_21 : decode prog_8_method_2_code 21 = .ok (.iconst 0, 1) := by decide +kernel
theorem d_swsv_22 : decode prog_8_method_2_code 22 = .ok (.istore_n 2, 1) := by decide +kernel
theorem d_swsv_23 : decode prog_8_method_2_code 23 = .ok (.iload_n 2, 1) := by decide +kernel
theorem d_swsv_24 : decode prog_8_method_2_code 24 = .ok (.bipush 8, 2) := by decide +kernel
theorem d_swsv_26 : decode prog_8_method_2_code 26 = .ok (.if_icmp .ge 63, 3) := by decide +kernel
theorem d_swsv_29 : decode prog_8_method_2_code 29 = .ok (.iconst 0, 1) := by decide +kernel
theorem d_swsv_30 : decode prog_8_method_2_code 30 = .ok (.istore_n 3, 1) := by decide +kernel
theorem d_swsv_31 : decode prog_8_method_2_code 31 = .ok (.iload_n 3, 1) := by decide +kernel
theorem d_swsv_32 : decode prog_8_method_2_code 32 = .ok (.aload_n 0, 1) := by decide +kernel
theorem d_swsv_33 : decode prog_8_method_2_code 33 = .ok (.getfield 15, 3) := by decide +kernel
theorem d_swsv_36 : decode prog_8_method_2_code 36 = .ok (.getfield 42, 3) := by decide +kernel
theorem d_swsv_39 : decode prog_8_method_2_code 39 = .ok (.if_icmp .ge 44, 3) := by decide +kernel
theorem d_swsv_83 : decode prog_8_method_2_code 83 = .ok (.iinc 2 1, 3) := by decide +kernel
theorem d_swsv_86 : decode prog_8_method_2_code 86 = .ok (.goto (-63), 3) := by decide +kernel
theorem d_swsv_89 : decode prog_8_method_2_code 89 = .ok (.aload_n 0, 1) := by decide +kernel
theorem d_swsv_90 : decode prog_8_method_2_code 90 = .ok (.getfield 19, 3) := by decide +kernel
theorem d_swsv_93 : decode prog_8_method_2_code 93 = .ok (.aload_n 0, 1) := by decide +kernel
theorem d_swsv_94 : decode prog_8_method_2_code 94 = .ok (.aload_n 0, 1) := by decide +kernel
theorem d_swsv_95 : decode prog_8_method_2_code 95 = .ok (.getfield 19, 3) := by decide +kernel
theorem d_swsv_98 : decode prog_8_method_2_code 98 = .ok (.getfield 63, 3) := by decide +kernel
theorem d_swsv_101 : decode prog_8_method_2_code 101 = .ok (.invokevirtual 66, 3) := by decide +kernel
theorem d_swsv_104 : decode prog_8_method_2_code 104 = .ok (.invokevirtual 70, 3) := by decide +kernel
theorem d_swsv_107 : decode prog_8_method_2_code 107 = .ok (.return_, 1) := by decide +kernel
set_option maxHeartbeats 4000000 in
set_option maxRecDepth 100000 in
theorem g_wsv (l : Launch) (D : va_G) (sz : Nat) (h0 s0 g0 t0 c0 s1 s2 s3 s4 r0 r1 r2 r3 : Nat) (k0 : ClassId) (g : Nat → Int32) (x : Int32) : Met l ⟨"JoinedTrees$Saver", "writeSaved", "(LJoinedTrees$Replica;)V"⟩ (Cond.code ⟨"JoinedTrees$Saver", "writeSaved", "(LJoinedTrees$Replica;)V"⟩ prog_8_method_2_code 5 none :: gb) ({ frames := 3, cells := 0, slots := 0, locals := 67 }) (gPf D [(h0, .inr (6, [.ref s0, .ref g0, .ref t0, .int 0, .int 0, .int 0])), (g0, .inr (5, [.ref c0, .int 0, .int 0])), (c0, .inl (k0, 224582, .inl g)), (s0, .inr (8, [.ref s1, .ref s2, .ref s3, .ref s4, .int 0, .int 0])), (r0, .inr (4, [.int x, .ref r1, .ref r2, .ref r3, .null, .int 0, .int 0, .int 0, .int 0, .int 0]))] [(k0, .byte)] sz [.ref h0, .ref r0]) (va_Qv (fun u : Nat → Int32 => True) (fun u t => gO D [(h0, .inr (6, [.ref s0, .ref g0, .ref t0, .int 0, .int 0, .int 0])), (g0, .inr (5, [.ref c0, .int 5, .int 0])), (c0, .inl (k0, 224582, .inl u)), (s0, .inr (8, [.ref s1, .ref s2, .ref s3, .ref s4, .int 0, .int 0])), (r0, .inr (4, [.int x, .ref r1, .ref r2, .ref r3, .null, .int 0, .int 0, .int 0, .int 0, .int 0]))] [(k0, .byte)] (va_A [(h0, .inr (6, [.ref s0, .ref g0, .ref t0, .int 0, .int 0, .int 0])), (g0, .inr (5, [.ref c0, .int 0, .int 0])), (c0, .inl (k0, 224582, .inl g)), (s0, .inr (8, [.ref s1, .ref s2, .ref s3, .ref s4, .int 0, .int 0])), (r0, .inr (4, [.int x, .ref r1, .ref r2, .ref r3, .null, .int 0, .int 0, .int 0, .int 0, .int 0]))] sz) t) (va_A [(h0, .inr (6, [.ref s0, .ref g0, .ref t0, .int 0, .int 0, .int 0])), (g0, .inr (5, [.ref c0, .int 0, .int 0])), (c0, .inl (k0, 224582, .inl g)), (s0, .inr (8, [.ref s1, .ref s2, .ref s3, .ref s4, .int 0, .int 0])), (r0, .inr (4, [.int x, .ref r1, .ref r2, .ref r3, .null, .int 0, .int 0, .int 0, .int 0, .int 0]))] sz)) 0 0 (va_A [(h0, .inr (6, [.ref s0, .ref g0, .ref t0, .int 0, .int 0, .int 0])), (g0, .inr (5, [.ref c0, .int 0, .int 0])), (c0, .inl (k0, 224582, .inl g)), (s0, .inr (8, [.ref s1, .ref s2, .ref s3, .ref s4, .int 0, .int 0])), (r0, .inr (4, [.int x, .ref r1, .ref r2, .ref r3, .null, .int 0, .int 0, .int 0, .int 0, .int 0]))] sz) := by
  refine Met.ofW (cc := prog_8_method_2_code) (maxL := 5) (ret := none) (by decide) rfl ?_
  intro p e s m args below meth c s₁ B hml hv
  obtain ⟨rfl, hsz, hP, hK, hD0, hev⟩ := hv
  have hx := B.exec
  have hb := B.bytes
  have hr := B.returns
  have hts : ∀ w9 ∈ gb, w9.before [.ref h0, .ref r0].toArray s = true := fun w9 h => atoms_spec (ws := Cond.code ⟨"JoinedTrees$Saver", "writeSaved", "(LJoinedTrees$Replica;)V"⟩ prog_8_method_2_code 5 none :: gb) B.pre w9 (List.mem_cons_of_mem _ h)
  have hown : s.vm.findClass "JoinedTrees$Saver" = some m.cls := findClass_of_methodNamed B.named
  have hlocks := B.notSynchronized
  subst hsz
  have hD := hD0.self (sz := s.heap.size)
  have hNS := ns_of hP
  generalize hAe : va_A [(h0, .inr (6, [.ref s0, .ref g0, .ref t0, .int 0, .int 0, .int 0])), (g0, .inr (5, [.ref c0, .int 0, .int 0])), (c0, .inl (k0, 224582, .inl g)), (s0, .inr (8, [.ref s1, .ref s2, .ref s3, .ref s4, .int 0, .int 0])), (r0, .inr (4, [.int x, .ref r1, .ref r2, .ref r3, .null, .int 0, .int 0, .int 0, .int 0, .int 0]))] s.heap.size = A at hD hev hNS ⊢
  have hA : ∀ q : Nat, s.heap.size ≤ q → A q := fun q h => by rw [← hAe]; exact Or.inr h
  have hS : va_S A s.heap s.heap [] := va_S.rf
  have hP : va_P D cls [(h0, .inr (6, [.ref s0, .ref g0, .ref t0, .int 0, .int 0, .int 0])), (g0, .inr (5, [.ref c0, .int 0, .int 0])), (c0, .inl (k0, 224582, .inl g)), (s0, .inr (8, [.ref s1, .ref s2, .ref s3, .ref s4, .int 0, .int 0])), (r0, .inr (4, [.int x, .ref r1, .ref r2, .ref r3, .null, .int 0, .int 0, .int 0, .int 0, .int 0]))] s.heap := hP
  have hl := lv_entry ([.ref h0, .ref r0]) (n := 5) (Nat.le_of_ble_eq_true rfl)
  rw [lg_entry_eq]
  generalize (lg_sl ([.ref h0, .ref r0]) ++ List.replicate (5 - (lg_sl ([.ref h0, .ref r0])).length) Slot.unset).toArray = ls at hl ⊢
  have hl : lv_has ls 5 [(0, .ref h0), (1, .ref r0)] := hl
  refine lv_aload_n hx hb d_swsv_0 rfl (lv_at hl 0 rfl) ?_
  refine lv_iconst (v := 0) hx hb d_swsv_1 (by decide) ?_
  refine w_putS (D := D) (ci := 6) (v := .int 0) (ty := .boolean) (C := R_Sv) (T := F_Sv) (N := 6) hx hb hts i_Sv t_Sv t_Sv_ok n_Sv hown hK hP hD hS 0 rfl rfl 3 (by decide) (hts _ kw_405) (fun _ h9 => h9) rfl (by decide +kernel) (by decide) (by decide) (Nat.le_of_ble_eq_true rfl) rfl d_swsv_2 (fun H locs hP hD hS => ?_)
  refine lv_aload_n hx hb d_swsv_5 rfl (lv_at hl 0 rfl) ?_
  refine va_get (D := D) (ci := 6) (v := .ref g0) (C := R_Sv) (T := F_Sv) (N := 6) hx hb hts i_Sv hown hK hP 0 rfl rfl 1 (by decide) (hts _ kw_402) (fun _ h9 => h9) rfl d_swsv_6 ?_
  have hPc := hP.sub (ws' := [(g0, .inr (5, [.ref c0, .int 0, .int 0]))]) [1] rfl
  have hDc := hD.sub (ws' := [(g0, .inr (5, [.ref c0, .int 0, .int 0]))]) [1] (by decide) rfl
  have hKc := hK.sub (tys' := []) [] rfl
  have hFc := va_free (wc := [(g0, .inr (5, [.ref c0, .int 0, .int 0]))]) hD hS hA [1] rfl
  refine va_callv (va_runV (As := []) (rest := []) ⟨hx, hb, hml, hown, hts⟩ (g_clear l D H.size g0 c0 0 0) (cw_v 0 hts kw_576 kw_1279 kw_574 kw_575 kw_4 rfl rfl (by decide +kernel) ⟨Nat.le_of_ble_eq_true rfl, Nat.le_of_ble_eq_true rfl⟩) ⟨g_blind, va_recv hKc hPc (ci := 5) (q0 := 0) rfl rfl, fun U hU hW => g_pre hU hW hPc hKc hDc⟩ rfl rfl hl.1 rfl (lv_room (Nat.le_of_ble_eq_true rfl)) d_swsv_9 ⟨Nat.le_of_ble_eq_true rfl, Nat.le_of_ble_eq_true rfl⟩) hS (fun q _ h => hFc q h) hFc (fun u_2 t H1 locs ht hvm hw hB hz1 hk1 hS => ?_)
  obtain ⟨⟩ := u_2
  obtain ⟨hP1, hK1, hD1⟩ := hB
  rw [ht] at hP1
  have hK1 := va_K.moved hvm.symm hK1
  obtain ⟨hP, hD⟩ := va_join (wr := [(h0, .inr (6, [.ref s0, .ref g0, .ref t0, .int 0, .int 0, .int 0])), (c0, .inl (k0, 224582, .inl g)), (s0, .inr (8, [.ref s1, .ref s2, .ref s3, .ref s4, .int 0, .int 0])), (r0, .inr (4, [.int x, .ref r1, .ref r2, .ref r3, .null, .int 0, .int 0, .int 0, .int 0, .int 0]))]) (w1 := [(g0, .inr (5, [.ref c0, .int 0, .int 0]))]) hP hD [1] [0, 2, 3, 4] rfl rfl (by decide) (by decide) hk1 hFc hP1 hD1
  generalize H1 = H at hP hS ⊢
  have hP : va_P D cls [(h0, .inr (6, [.ref s0, .ref g0, .ref t0, .int 0, .int 0, .int 0])), (c0, .inl (k0, 224582, .inl g)), (s0, .inr (8, [.ref s1, .ref s2, .ref s3, .ref s4, .int 0, .int 0])), (r0, .inr (4, [.int x, .ref r1, .ref r2, .ref r3, .null, .int 0, .int 0, .int 0, .int 0, .int 0])), (g0, .inr (5, [.ref c0, .int 0, .int 0]))] H := hP
  have hD : va_D A [(h0, .inr (6, [.ref s0, .ref g0, .ref t0, .int 0, .int 0, .int 0])), (c0, .inl (k0, 224582, .inl g)), (s0, .inr (8, [.ref s1, .ref s2, .ref s3, .ref s4, .int 0, .int 0])), (r0, .inr (4, [.int x, .ref r1, .ref r2, .ref r3, .null, .int 0, .int 0, .int 0, .int 0, .int 0])), (g0, .inr (5, [.ref c0, .int 0, .int 0]))] := hD
  refine W.cs (cells' := 0) (slots' := 0) rfl rfl ?_
  refine lv_aload_n hx hb d_swsv_12 rfl (lv_at hl 0 rfl) ?_
  refine lv_aload_n hx hb d_swsv_13 rfl (lv_at hl 1 rfl) ?_
  refine va_get (D := D) (ci := 4) (v := .int 0) (C := R_Rp) (T := F_Rp) (N := 10) hx hb hts i_Rp hown hK hP 3 rfl rfl 5 (by decide) (hts _ kw_217) (fun _ h9 => h9) rfl d_swsv_14 ?_
  refine lv_i2l hx hb d_swsv_17 rfl ?_
  refine w_l (y := 0) (by decide) ?_
  have hPc := hP.sub (ws' := [(h0, .inr (6, [.ref s0, .ref g0, .ref t0, .int 0, .int 0, .int 0])), (g0, .inr (5, [.ref c0, .int 0, .int 0])), (c0, .inl (k0, 224582, .inl g))]) [0, 4, 1] rfl
  have hDc := hD.sub (ws' := [(h0, .inr (6, [.ref s0, .ref g0, .ref t0, .int 0, .int 0, .int 0])), (g0, .inr (5, [.ref c0, .int 0, .int 0])), (c0, .inl (k0, 224582, .inl g))]) [0, 4, 1] (by decide) rfl
  have hKc := hK.sub (tys' := [(k0, .byte)]) [0] rfl
  have hFc := va_free (wc := [(h0, .inr (6, [.ref s0, .ref g0, .ref t0, .int 0, .int 0, .int 0])), (g0, .inr (5, [.ref c0, .int 0, .int 0])), (c0, .inl (k0, 224582, .inl g))]) hD hS hA [0, 4, 1] rfl
  refine va_callv (va_runV (As := [.long 0]) (rest := []) ⟨hx, hb, hml, hown, hts⟩ (g_emn l D H.size h0 s0 g0 t0 c0 k0 g) (cw_v 1 hts kw_1283 kw_1280 kw_1281 kw_1282 kw_10 rfl rfl (by decide +kernel) ⟨Nat.le_of_ble_eq_true rfl, Nat.le_of_ble_eq_true rfl⟩) ⟨g_blind, va_recv hKc hPc (ci := 6) (q0 := 0) rfl rfl, fun U hU hW => g_pre hU hW hPc hKc hDc⟩ rfl rfl hl.1 rfl (lv_room (Nat.le_of_ble_eq_true rfl)) d_swsv_18 ⟨Nat.le_of_ble_eq_true rfl, Nat.le_of_ble_eq_true rfl⟩) hS (fun q _ h => hFc q h) hFc (fun u_4 t H1 locs ht hvm hw hB hz1 hk1 hS => ?_)
  obtain ⟨hP1, hK1, hD1⟩ := hB
  rw [ht] at hP1
  have hK1 := va_K.moved hvm.symm hK1
  obtain ⟨hP, hD⟩ := va_join (wr := [(s0, .inr (8, [.ref s1, .ref s2, .ref s3, .ref s4, .int 0, .int 0])), (r0, .inr (4, [.int x, .ref r1, .ref r2, .ref r3, .null, .int 0, .int 0, .int 0, .int 0, .int 0]))]) (w1 := [(h0, .inr (6, [.ref s0, .ref g0, .ref t0, .int 0, .int 0, .int 0])), (g0, .inr (5, [.ref c0, .int 1, .int 0])), (c0, .inl (k0, 224582, .inl u_4))]) hP hD [0, 4, 1] [2, 3] rfl rfl (by decide) (by decide) hk1 hFc hP1 hD1
  generalize H1 = H at hP hS ⊢
  have hP : va_P D cls [(s0, .inr (8, [.ref s1, .ref s2, .ref s3, .ref s4, .int 0, .int 0])), (r0, .inr (4, [.int x, .ref r1, .ref r2, .ref r3, .null, .int 0, .int 0, .int 0, .int 0, .int 0])), (h0, .inr (6, [.ref s0, .ref g0, .ref t0, .int 0, .int 0, .int 0])), (g0, .inr (5, [.ref c0, .int 1, .int 0])), (c0, .inl (k0, 224582, .inl u_4))] H := hP
  have hD : va_D A [(s0, .inr (8, [.ref s1, .ref s2, .ref s3, .ref s4, .int 0, .int 0])), (r0, .inr (4, [.int x, .ref r1, .ref r2, .ref r3, .null, .int 0, .int 0, .int 0, .int 0, .int 0])), (h0, .inr (6, [.ref s0, .ref g0, .ref t0, .int 0, .int 0, .int 0])), (g0, .inr (5, [.ref c0, .int 1, .int 0])), (c0, .inl (k0, 224582, .inl u_4))] := hD
  refine W.cs (cells' := 0) (slots' := 0) rfl rfl ?_
  refine lv_iconst (v := 0) hx hb d_swsv_21 (by decide) ?_
  refine lv_istore_n (lv' := [(2, .int 0), (0, .ref h0), (1, .ref r0)]) hx hb d_swsv_22 rfl hl (by decide) rfl (fun ls hl => ?_)
  refine lv_iload_n hx hb d_swsv_23 rfl (lv_at hl 0 rfl) ?_
  refine lv_bipush (v := 8) hx hb d_swsv_24 (by decide) ?_
  refine lv_icmp_ge (tgt := 89) hx hb d_swsv_26 (by decide) (fun h => absurd h (by decide)) (fun _ => ?_)
  refine lv_iconst (v := 0) hx hb d_swsv_29 (by decide) ?_
  refine lv_istore_n (lv' := [(3, .int 0), (2, .int 0), (0, .ref h0), (1, .ref r0)]) hx hb d_swsv_30 rfl hl (by decide) rfl (fun ls hl => ?_)
  refine lv_iload_n hx hb d_swsv_31 rfl (lv_at hl 0 rfl) ?_
  refine lv_aload_n hx hb d_swsv_32 rfl (lv_at hl 2 rfl) ?_
  refine va_get (D := D) (ci := 6) (v := .ref s0) (C := R_Sv) (T := F_Sv) (N := 6) hx hb hts i_Sv hown hK hP 2 rfl rfl 0 (by decide) (hts _ kw_401) (fun _ h9 => h9) rfl d_swsv_33 ?_
  refine va_get (D := D) (ci := 8) (v := .int 0) (C := R_St) (T := F_St) (N := 6) hx hb hts i_St hown hK hP 0 rfl rfl 4 (by decide) (hts _ kw_174) (fun _ h9 => h9) rfl d_swsv_36 ?_
  refine lv_icmp_ge (tgt := 83) hx hb d_swsv_39 (by decide) (fun _ => ?_) (fun h => absurd h (by decide))
  refine lv_iinc (v := 1) (lv' := [(2, .int 1), (3, .int 0), (0, .ref h0), (1, .ref r0)]) hx hb d_swsv_83 hl (k := 1) rfl (by decide) (by decide) rfl (fun ls hl => ?_)
  refine lv_goto (tgt := 23) hx hb d_swsv_86 (by decide) ?_
  refine lv_iload_n hx hb d_swsv_23 rfl (lv_at hl 0 rfl) ?_
  refine lv_bipush (v := 8) hx hb d_swsv_24 (by decide) ?_
  refine lv_icmp_ge (tgt := 89) hx hb d_swsv_26 (by decide) (fun h => absurd h (by decide)) (fun _ => ?_)
  refine lv_iconst (v := 0) hx hb d_swsv_29 (by decide) ?_
  refine lv_istore_n (lv' := [(3, .int 0), (2, .int 1), (0, .ref h0), (1, .ref r0)]) hx hb d_swsv_30 rfl hl (by decide) rfl (fun ls hl => ?_)
  refine lv_iload_n hx hb d_swsv_31 rfl (lv_at hl 0 rfl) ?_
  refine lv_aload_n hx hb d_swsv_32 rfl (lv_at hl 2 rfl) ?_
  refine va_get (D := D) (ci := 6) (v := .ref s0) (C := R_Sv) (T := F_Sv) (N := 6) hx hb hts i_Sv hown hK hP 2 rfl rfl 0 (by decide) (hts _ kw_401) (fun _ h9 => h9) rfl d_swsv_33 ?_
  refine va_get (D := D) (ci := 8) (v := .int 0) (C := R_St) (T := F_St) (N := 6) hx hb hts i_St hown hK hP 0 rfl rfl 4 (by decide) (hts _ kw_174) (fun _ h9 => h9) rfl d_swsv_36 ?_
  refine lv_icmp_ge (tgt := 83) hx hb d_swsv_39 (by decide) (fun _ => ?_) (fun h => absurd h (by decide))
  refine lv_iinc (v := 2) (lv' := [(2, .int 2), (3, .int 0), (0, .ref h0), (1, .ref r0)]) hx hb d_swsv_83 hl (k := 1) rfl (by decide) (by decide) rfl (fun ls hl => ?_)
  refine lv_goto (tgt := 23) hx hb d_swsv_86 (by decide) ?_
  refine lv_iload_n hx hb d_swsv_23 rfl (lv_at hl 0 rfl) ?_
  refine lv_bipush (v := 8) hx hb d_swsv_24 (by decide) ?_
  refine lv_icmp_ge (tgt := 89) hx hb d_swsv_26 (by decide) (fun h => absurd h (by decide)) (fun _ => ?_)
  refine lv_iconst (v := 0) hx hb d_swsv_29 (by decide) ?_
  refine lv_istore_n (lv' := [(3, .int 0), (2, .int 2), (0, .ref h0), (1, .ref r0)]) hx hb d_swsv_30 rfl hl (by decide) rfl (fun ls hl => ?_)
  refine lv_iload_n hx hb d_swsv_31 rfl (lv_at hl 0 rfl) ?_
  refine lv_aload_n hx hb d_swsv_32 rfl (lv_at hl 2 rfl) ?_
  refine va_get (D := D) (ci := 6) (v := .ref s0) (C := R_Sv) (T := F_Sv) (N := 6) hx hb hts i_Sv hown hK hP 2 rfl rfl 0 (by decide) (hts _ kw_401) (fun _ h9 => h9) rfl d_swsv_33 ?_
  refine va_get (D := D) (ci := 8) (v := .int 0) (C := R_St) (T := F_St) (N := 6) hx hb hts i_St hown hK hP 0 rfl rfl 4 (by decide) (hts _ kw_174) (fun _ h9 => h9) rfl d_swsv_36 ?_
  refine lv_icmp_ge (tgt := 83) hx hb d_swsv_39 (by decide) (fun _ => ?_) (fun h => absurd h (by decide))
  refine lv_iinc (v := 3) (lv' := [(2, .int 3), (3, .int 0), (0, .ref h0), (1, .ref r0)]) hx hb d_swsv_83 hl (k := 1) rfl (by decide) (by decide) rfl (fun ls hl => ?_)
  refine lv_goto (tgt := 23) hx hb d_swsv_86 (by decide) ?_
  refine lv_iload_n hx hb d_swsv_23 rfl (lv_at hl 0 rfl) ?_
  refine lv_bipush (v := 8) hx hb d_swsv_24 (by decide) ?_
  refine lv_icmp_ge (tgt := 89) hx hb d_swsv_26 (by decide) (fun h => absurd h (by decide)) (fun _ => ?_)
  refine lv_iconst (v := 0) hx hb d_swsv_29 (by decide) ?_
  refine lv_istore_n (lv' := [(3, .int 0), (2, .int 3), (0, .ref h0), (1, .ref r0)]) hx hb d_swsv_30 rfl hl (by decide) rfl (fun ls hl => ?_)
  refine lv_iload_n hx hb d_swsv_31 rfl (lv_at hl 0 rfl) ?_
  refine lv_aload_n hx hb d_swsv_32 rfl (lv_at hl 2 rfl) ?_
  refine va_get (D := D) (ci := 6) (v := .ref s0) (C := R_Sv) (T := F_Sv) (N := 6) hx hb hts i_Sv hown hK hP 2 rfl rfl 0 (by decide) (hts _ kw_401) (fun _ h9 => h9) rfl d_swsv_33 ?_
  refine va_get (D := D) (ci := 8) (v := .int 0) (C := R_St) (T := F_St) (N := 6) hx hb hts i_St hown hK hP 0 rfl rfl 4 (by decide) (hts _ kw_174) (fun _ h9 => h9) rfl d_swsv_36 ?_
  refine lv_icmp_ge (tgt := 83) hx hb d_swsv_39 (by decide) (fun _ => ?_) (fun h => absurd h (by decide))
  refine lv_iinc (v := 4) (lv' := [(2, .int 4), (3, .int 0), (0, .ref h0), (1, .ref r0)]) hx hb d_swsv_83 hl (k := 1) rfl (by decide) (by decide) rfl (fun ls hl => ?_)
  refine lv_goto (tgt := 23) hx hb d_swsv_86 (by decide) ?_
  refine lv_iload_n hx hb d_swsv_23 rfl (lv_at hl 0 rfl) ?_
  refine lv_bipush (v := 8) hx hb d_swsv_24 (by decide) ?_
  refine lv_icmp_ge (tgt := 89) hx hb d_swsv_26 (by decide) (fun h => absurd h (by decide)) (fun _ => ?_)
  refine lv_iconst (v := 0) hx hb d_swsv_29 (by decide) ?_
  refine lv_istore_n (lv' := [(3, .int 0), (2, .int 4), (0, .ref h0), (1, .ref r0)]) hx hb d_swsv_30 rfl hl (by decide) rfl (fun ls hl => ?_)
  refine lv_iload_n hx hb d_swsv_31 rfl (lv_at hl 0 rfl) ?_
  refine lv_aload_n hx hb d_swsv_32 rfl (lv_at hl 2 rfl) ?_
  refine va_get (D := D) (ci := 6) (v := .ref s0) (C := R_Sv) (T := F_Sv) (N := 6) hx hb hts i_Sv hown hK hP 2 rfl rfl 0 (by decide) (hts _ kw_401) (fun _ h9 => h9) rfl d_swsv_33 ?_
  refine va_get (D := D) (ci := 8) (v := .int 0) (C := R_St) (T := F_St) (N := 6) hx hb hts i_St hown hK hP 0 rfl rfl 4 (by decide) (hts _ kw_174) (fun _ h9 => h9) rfl d_swsv_36 ?_
  refine lv_icmp_ge (tgt := 83) hx hb d_swsv_39 (by decide) (fun _ => ?_) (fun h => absurd h (by decide))
  refine lv_iinc (v := 5) (lv' := [(2, .int 5), (3, .int 0), (0, .ref h0), (1, .ref r0)]) hx hb d_swsv_83 hl (k := 1) rfl (by decide) (by decide) rfl (fun ls hl => ?_)
  refine lv_goto (tgt := 23) hx hb d_swsv_86 (by decide) ?_
  refine lv_iload_n hx hb d_swsv_23 rfl (lv_at hl 0 rfl) ?_
  refine lv_bipush (v := 8) hx hb d_swsv_24 (by decide) ?_
  refine lv_icmp_ge (tgt := 89) hx hb d_swsv_26 (by decide) (fun h => absurd h (by decide)) (fun _ => ?_)
  refine lv_iconst (v := 0) hx hb d_swsv_29 (by decide) ?_
  refine lv_istore_n (lv' := [(3, .int 0), (2, .int 5), (0, .ref h0), (1, .ref r0)]) hx hb d_swsv_30 rfl hl (by decide) rfl (fun ls hl => ?_)
  refine lv_iload_n hx hb d_swsv_31 rfl (lv_at hl 0 rfl) ?_
  refine lv_aload_n hx hb d_swsv_32 rfl (lv_at hl 2 rfl) ?_
  refine va_get (D := D) (ci := 6) (v := .ref s0) (C := R_Sv) (T := F_Sv) (N := 6) hx hb hts i_Sv hown hK hP 2 rfl rfl 0 (by decide) (hts _ kw_401) (fun _ h9 => h9) rfl d_swsv_33 ?_
  refine va_get (D := D) (ci := 8) (v := .int 0) (C := R_St) (T := F_St) (N := 6) hx hb hts i_St hown hK hP 0 rfl rfl 4 (by decide) (hts _ kw_174) (fun _ h9 => h9) rfl d_swsv_36 ?_
  refine lv_icmp_ge (tgt := 83) hx hb d_swsv_39 (by decide) (fun _ => ?_) (fun h => absurd h (by decide))
  refine lv_iinc (v := 6) (lv' := [(2, .int 6), (3, .int 0), (0, .ref h0), (1, .ref r0)]) hx hb d_swsv_83 hl (k := 1) rfl (by decide) (by decide) rfl (fun ls hl => ?_)
  refine lv_goto (tgt := 23) hx hb d_swsv_86 (by decide) ?_
  refine lv_iload_n hx hb d_swsv_23 rfl (lv_at hl 0 rfl) ?_
  refine lv_bipush (v := 8) hx hb d_swsv_24 (by decide) ?_
  refine lv_icmp_ge (tgt := 89) hx hb d_swsv_26 (by decide) (fun h => absurd h (by decide)) (fun _ => ?_)
  refine lv_iconst (v := 0) hx hb d_swsv_29 (by decide) ?_
  refine lv_istore_n (lv' := [(3, .int 0), (2, .int 6), (0, .ref h0), (1, .ref r0)]) hx hb d_swsv_30 rfl hl (by decide) rfl (fun ls hl => ?_)
  refine lv_iload_n hx hb d_swsv_31 rfl (lv_at hl 0 rfl) ?_
  refine lv_aload_n hx hb d_swsv_32 rfl (lv_at hl 2 rfl) ?_
  refine va_get (D := D) (ci := 6) (v := .ref s0) (C := R_Sv) (T := F_Sv) (N := 6) hx hb hts i_Sv hown hK hP 2 rfl rfl 0 (by decide) (hts _ kw_401) (fun _ h9 => h9) rfl d_swsv_33 ?_
  refine va_get (D := D) (ci := 8) (v := .int 0) (C := R_St) (T := F_St) (N := 6) hx hb hts i_St hown hK hP 0 rfl rfl 4 (by decide) (hts _ kw_174) (fun _ h9 => h9) rfl d_swsv_36 ?_
  refine lv_icmp_ge (tgt := 83) hx hb d_swsv_39 (by decide) (fun _ => ?_) (fun h => absurd h (by decide))
  refine lv_iinc (v := 7) (lv' := [(2, .int 7), (3, .int 0), (0, .ref h0), (1, .ref r0)]) hx hb d_swsv_83 hl (k := 1) rfl (by decide) (by decide) rfl (fun ls hl => ?_)
  refine lv_goto (tgt := 23) hx hb d_swsv_86 (by decide) ?_
  refine lv_iload_n hx hb d_swsv_23 rfl (lv_at hl 0 rfl) ?_
  refine lv_bipush (v := 8) hx hb d_swsv_24 (by decide) ?_
  refine lv_icmp_ge (tgt := 89) hx hb d_swsv_26 (by decide) (fun h => absurd h (by decide)) (fun _ => ?_)
  refine lv_iconst (v := 0) hx hb d_swsv_29 (by decide) ?_
  refine lv_istore_n (lv' := [(3, .int 0), (2, .int 7), (0, .ref h0), (1, .ref r0)]) hx hb d_swsv_30 rfl hl (by decide) rfl (fun ls hl => ?_)
  refine lv_iload_n hx hb d_swsv_31 rfl (lv_at hl 0 rfl) ?_
  refine lv_aload_n hx hb d_swsv_32 rfl (lv_at hl 2 rfl) ?_
  refine va_get (D := D) (ci := 6) (v := .ref s0) (C := R_Sv) (T := F_Sv) (N := 6) hx hb hts i_Sv hown hK hP 2 rfl rfl 0 (by decide) (hts _ kw_401) (fun _ h9 => h9) rfl d_swsv_33 ?_
  refine va_get (D := D) (ci := 8) (v := .int 0) (C := R_St) (T := F_St) (N := 6) hx hb hts i_St hown hK hP 0 rfl rfl 4 (by decide) (hts _ kw_174) (fun _ h9 => h9) rfl d_swsv_36 ?_
  refine lv_icmp_ge (tgt := 83) hx hb d_swsv_39 (by decide) (fun _ => ?_) (fun h => absurd h (by decide))
  refine lv_iinc (v := 8) (lv' := [(2, .int 8), (3, .int 0), (0, .ref h0), (1, .ref r0)]) hx hb d_swsv_83 hl (k := 1) rfl (by decide) (by decide) rfl (fun ls hl => ?_)
  refine lv_goto (tgt := 23) hx hb d_swsv_86 (by decide) ?_
  refine lv_iload_n hx hb d_swsv_23 rfl (lv_at hl 0 rfl) ?_
  refine lv_bipush (v := 8) hx hb d_swsv_24 (by decide) ?_
  refine lv_icmp_ge (tgt := 89) hx hb d_swsv_26 (by decide) (fun _ => ?_) (fun h => absurd h (by decide))
  refine lv_aload_n hx hb d_swsv_89 rfl (lv_at hl 2 rfl) ?_
  refine va_get (D := D) (ci := 6) (v := .ref g0) (C := R_Sv) (T := F_Sv) (N := 6) hx hb hts i_Sv hown hK hP 2 rfl rfl 1 (by decide) (hts _ kw_402) (fun _ h9 => h9) rfl d_swsv_90 ?_
  refine lv_aload_n hx hb d_swsv_93 rfl (lv_at hl 2 rfl) ?_
  refine lv_aload_n hx hb d_swsv_94 rfl (lv_at hl 2 rfl) ?_
  refine va_get (D := D) (ci := 6) (v := .ref g0) (C := R_Sv) (T := F_Sv) (N := 6) hx hb hts i_Sv hown hK hP 2 rfl rfl 1 (by decide) (hts _ kw_402) (fun _ h9 => h9) rfl d_swsv_95 ?_
  refine va_get (D := D) (ci := 5) (v := .int 1) (C := R_Rw) (T := F_Rw) (N := 3) hx hb hts i_Rw hown hK hP 3 rfl rfl 1 (by decide) (hts _ kw_145) (fun _ h9 => h9) rfl d_swsv_98 ?_
  have hPc := hP.sub (ws' := [(h0, .inr (6, [.ref s0, .ref g0, .ref t0, .int 0, .int 0, .int 0])), (g0, .inr (5, [.ref c0, .int 1, .int 0])), (c0, .inl (k0, 224582, .inl u_4))]) [2, 3, 4] rfl
  have hDc := hD.sub (ws' := [(h0, .inr (6, [.ref s0, .ref g0, .ref t0, .int 0, .int 0, .int 0])), (g0, .inr (5, [.ref c0, .int 1, .int 0])), (c0, .inl (k0, 224582, .inl u_4))]) [2, 3, 4] (by decide) rfl
  have hKc := hK.sub (tys' := [(k0, .byte)]) [0] rfl
  have hFc := va_free (wc := [(h0, .inr (6, [.ref s0, .ref g0, .ref t0, .int 0, .int 0, .int 0])), (g0, .inr (5, [.ref c0, .int 1, .int 0])), (c0, .inl (k0, 224582, .inl u_4))]) hD hS hA [2, 3, 4] rfl
  refine va_calli (va_runV (As := [.int 1]) (rest := [.ref g0]) ⟨hx, hb, hml, hown, hts⟩ (g_crc l D H.size h0 s0 g0 t0 c0 k0 u_4) (cw_v 1 hts kw_1311 kw_1308 kw_1309 kw_1310 kw_10 rfl rfl (by decide +kernel) ⟨Nat.le_of_ble_eq_true rfl, Nat.le_of_ble_eq_true rfl⟩) ⟨gf_blind, va_recv hKc hPc (ci := 6) (q0 := 0) rfl rfl, fun U hU hW => gf_pre hU hW hPc hKc hDc hev hNS hS hFc⟩ rfl rfl hl.1 rfl (lv_room (Nat.le_of_ble_eq_true rfl)) d_swsv_101 ⟨Nat.le_of_ble_eq_true rfl, Nat.le_of_ble_eq_true rfl⟩) hS (fun q _ h => hFc q h) hFc (fun r_5 u_6 t H1 locs ht hvm hw hB hz1 hk1 hS => ?_)
  obtain ⟨⟩ := u_6
  obtain ⟨hP1, hK1, hD1⟩ := hB
  rw [ht] at hP1
  have hK1 := va_K.moved hvm.symm hK1
  obtain ⟨hP, hD⟩ := va_join (wr := [(s0, .inr (8, [.ref s1, .ref s2, .ref s3, .ref s4, .int 0, .int 0])), (r0, .inr (4, [.int x, .ref r1, .ref r2, .ref r3, .null, .int 0, .int 0, .int 0, .int 0, .int 0]))]) (w1 := [(h0, .inr (6, [.ref s0, .ref g0, .ref t0, .int 0, .int 0, .int 0])), (g0, .inr (5, [.ref c0, .int 1, .int 0])), (c0, .inl (k0, 224582, .inl u_4))]) hP hD [2, 3, 4] [0, 1] rfl rfl (by decide) (by decide) hk1 hFc hP1 hD1
  generalize H1 = H at hP hS ⊢
  have hP : va_P D cls [(s0, .inr (8, [.ref s1, .ref s2, .ref s3, .ref s4, .int 0, .int 0])), (r0, .inr (4, [.int x, .ref r1, .ref r2, .ref r3, .null, .int 0, .int 0, .int 0, .int 0, .int 0])), (h0, .inr (6, [.ref s0, .ref g0, .ref t0, .int 0, .int 0, .int 0])), (g0, .inr (5, [.ref c0, .int 1, .int 0])), (c0, .inl (k0, 224582, .inl u_4))] H := hP
  have hD : va_D A [(s0, .inr (8, [.ref s1, .ref s2, .ref s3, .ref s4, .int 0, .int 0])), (r0, .inr (4, [.int x, .ref r1, .ref r2, .ref r3, .null, .int 0, .int 0, .int 0, .int 0, .int 0])), (h0, .inr (6, [.ref s0, .ref g0, .ref t0, .int 0, .int 0, .int 0])), (g0, .inr (5, [.ref c0, .int 1, .int 0])), (c0, .inl (k0, 224582, .inl u_4))] := hD
  refine W.cs (cells' := 0) (slots' := 0) rfl rfl ?_
  have hPc := hP.sub (ws' := [(g0, .inr (5, [.ref c0, .int 1, .int 0])), (c0, .inl (k0, 224582, .inl u_4))]) [3, 4] rfl
  have hDc := hD.sub (ws' := [(g0, .inr (5, [.ref c0, .int 1, .int 0])), (c0, .inl (k0, 224582, .inl u_4))]) [3, 4] (by decide) rfl
  have hKc := hK.sub (tys' := [(k0, .byte)]) [0] rfl
  have hFc := va_free (wc := [(g0, .inr (5, [.ref c0, .int 1, .int 0])), (c0, .inl (k0, 224582, .inl u_4))]) hD hS hA [3, 4] rfl
  refine va_callv (va_runV (As := [.int r_5]) (rest := []) ⟨hx, hb, hml, hown, hts⟩ (g_wi224582 l D H.size g0 c0 k0 1 r_5 u_4 (vp_in_nI (n := 1) (N := 224582) (by decide) (by decide)) (vp_in_nI (n := 2) (N := 224582) (by decide) (by decide)) (vp_in_nI (n := 3) (N := 224582) (by decide) (by decide)) (vp_in_nI (n := 4) (N := 224582) (by decide) (by decide))) (cw_v 1 hts kw_545 kw_1315 kw_543 kw_544 kw_4 rfl rfl (by decide +kernel) ⟨Nat.le_of_ble_eq_true rfl, Nat.le_of_ble_eq_true rfl⟩) ⟨g_blind, va_recv hKc hPc (ci := 5) (q0 := 0) rfl rfl, fun U hU hW => g_pre hU hW hPc hKc hDc⟩ rfl rfl hl.1 rfl (lv_room (Nat.le_of_ble_eq_true rfl)) d_swsv_104 ⟨Nat.le_of_ble_eq_true rfl, Nat.le_of_ble_eq_true rfl⟩) hS (fun q _ h => hFc q h) hFc (fun u_8 t H1 locs ht hvm hw hB hz1 hk1 hS => ?_)
  obtain ⟨hP1, hK1, hD1⟩ := hB
  rw [ht] at hP1
  have hK1 := va_K.moved hvm.symm hK1
  obtain ⟨hP, hD⟩ := va_join (wr := [(s0, .inr (8, [.ref s1, .ref s2, .ref s3, .ref s4, .int 0, .int 0])), (r0, .inr (4, [.int x, .ref r1, .ref r2, .ref r3, .null, .int 0, .int 0, .int 0, .int 0, .int 0])), (h0, .inr (6, [.ref s0, .ref g0, .ref t0, .int 0, .int 0, .int 0]))]) (w1 := [(g0, .inr (5, [.ref c0, .int 5, .int 0])), (c0, .inl (k0, 224582, .inl u_8))]) hP hD [3, 4] [0, 1, 2] rfl rfl (by decide) (by decide) hk1 hFc hP1 hD1
  generalize H1 = H at hP hS ⊢
  have hP : va_P D cls [(s0, .inr (8, [.ref s1, .ref s2, .ref s3, .ref s4, .int 0, .int 0])), (r0, .inr (4, [.int x, .ref r1, .ref r2, .ref r3, .null, .int 0, .int 0, .int 0, .int 0, .int 0])), (h0, .inr (6, [.ref s0, .ref g0, .ref t0, .int 0, .int 0, .int 0])), (g0, .inr (5, [.ref c0, .int 5, .int 0])), (c0, .inl (k0, 224582, .inl u_8))] H := hP
  have hD : va_D A [(s0, .inr (8, [.ref s1, .ref s2, .ref s3, .ref s4, .int 0, .int 0])), (r0, .inr (4, [.int x, .ref r1, .ref r2, .ref r3, .null, .int 0, .int 0, .int 0, .int 0, .int 0])), (h0, .inr (6, [.ref s0, .ref g0, .ref t0, .int 0, .int 0, .int 0])), (g0, .inr (5, [.ref c0, .int 5, .int 0])), (c0, .inl (k0, 224582, .inl u_8))] := hD
  refine W.cs (cells' := 0) (slots' := 0) rfl rfl ?_
  exact W.vret hx hb hr (fun t ht hW => ⟨⟨u_8, rfl, trivial, by rw [ht]; exact hP.sub [2, 3, 4, 0, 1] rfl, va_K.moved hW.alike hK, hD.sub [2, 3, 4, 0, 1] (by decide) rfl⟩, hS.F ht⟩) hS.2.2 d_swsv_107
theorem d_feed_0 : decode prog_1_method_2_code 0 = .ok (.aload_n 0, 1) := by decide +kernel
theorem d_feed_1 : decode prog_1_method_2_code 1 = .ok (.getfield 67, 3) := by decide +kernel
theorem d_feed_4 : decode prog_1_method_2_code 4 = .ok (.getfield 80, 3) := by decide +kernel
theorem d_feed_7 : decode prog_1_method_2_code 7 = .ok (.aload_n 0, 1) := by decide +kernel
theorem d_feed_8 : decode prog_1_method_2_code 8 = .ok (.invokevirtual 83, 3) := by decide +kernel
theorem d_feed_11 : decode prog_1_method_2_code 11 = .ok (.iadd, 1) := by decide +kernel
theorem d_feed_12 : decode prog_1_method_2_code 12 = .ok (.bipush 20, 2) := by decide +kernel
theorem d_feed_14 : decode prog_1_method_2_code 14 = .ok (.iadd, 1) := by decide +kernel
theorem d_feed_15 : decode prog_1_method_2_code 15 = .ok (.sipush 8192, 3) := by decide +kernel
theorem d_feed_18 : decode prog_1_method_2_code 18 = .ok (.if_icmp .le 11, 3) := by decide +kernel
theorem d_feed_29 : decode prog_1_method_2_code 29 = .ok (.aload_n 0, 1) := by decide +kernel
theorem d_feed_30 : decode prog_1_method_2_code 30 = .ok (.getfield 67, 3) := by decide +kernel
theorem d_feed_33 : decode prog_1_method_2_code 33 = .ok (.iload_n 1, 1) := by decide +kernel
theorem d_feed_34 : decode prog_1_method_2_code 34 = .ok (.invokevirtual 90, 3) := by decide +kernel
theorem d_feed_37 : decode prog_1_method_2_code 37 = .ok (.aload_n 0, 1) := by decide +kernel
theorem d_feed_38 : decode prog_1_method_2_code 38 = .ok (.getfield 67, 3) := by decide +kernel
theorem d_feed_41 : decode prog_1_method_2_code 41 = .ok (.iload_n 2, 1) := by decide +kernel
theorem d_feed_42 : decode prog_1_method_2_code 42 = .ok (.invokevirtual 90, 3) := by decide +kernel
theorem d_feed_45 : decode prog_1_method_2_code 45 = .ok (.aload_n 0, 1) := by decide +kernel
theorem d_feed_46 : decode prog_1_method_2_code 46 = .ok (.getfield 67, 3) := by decide +kernel
theorem d_feed_49 : decode prog_1_method_2_code 49 = .ok (.iload_n 3, 1) := by decide +kernel
theorem d_feed_50 : decode prog_1_method_2_code 50 = .ok (.invokevirtual 90, 3) := by decide +kernel
theorem d_feed_53 : decode prog_1_method_2_code 53 = .ok (.aload_n 0, 1) := by decide +kernel
theorem d_feed_54 : decode prog_1_method_2_code 54 = .ok (.getfield 67, 3) := by decide +kernel
theorem d_feed_57 : decode prog_1_method_2_code 57 = .ok (.iload 4, 2) := by decide +kernel
theorem d_feed_59 : decode prog_1_method_2_code 59 = .ok (.invokevirtual 90, 3) := by decide +kernel
theorem d_feed_62 : decode prog_1_method_2_code 62 = .ok (.aload_n 0, 1) := by decide +kernel
theorem d_feed_63 : decode prog_1_method_2_code 63 = .ok (.getfield 67, 3) := by decide +kernel
theorem d_feed_66 : decode prog_1_method_2_code 66 = .ok (.iload 5, 2) := by decide +kernel
theorem d_feed_68 : decode prog_1_method_2_code 68 = .ok (.invokevirtual 90, 3) := by decide +kernel
theorem d_feed_71 : decode prog_1_method_2_code 71 = .ok (.aload_n 0, 1) := by decide +kernel
theorem d_feed_72 : decode prog_1_method_2_code 72 = .ok (.getfield 67, 3) := by decide +kernel
theorem d_feed_75 : decode prog_1_method_2_code 75 = .ok (.getfield 80, 3) := by decide +kernel
theorem d_feed_78 : decode prog_1_method_2_code 78 = .ok (.ireturn, 1) := by decide +kernel
set_option maxHeartbeats 4000000 in
set_option maxRecDepth 100000 in
theorem c_feed_0 (l : Launch) (hfl : l.flags = flags0) (D : va_G) (ad : Nat → Nat) (ac : Nat → ClassId) (ck : Nat → Int32) (sz : Nat) (a0 a1 a2 a3 a4 : Int32) : Met l ⟨"JoinedTrees", "feed", "(IIIII)I"⟩ (Cond.code ⟨"JoinedTrees", "feed", "(IIIII)I"⟩ prog_1_method_2_code 6 (some .int) :: gb) ({ frames := 2, cells := 0, slots := 0, locals := 42 }) (fxPc D ad ac ck sz [.ref (ad 0), .int a0, .int a1, .int a2, .int a3, .int a4]) (va_Qi (fun (r : Int32) (_ : Unit) => r = 20) (fun _ _ => True) (va_A (fxW ad ac ck) sz)) 0 0 (va_A (fxW ad ac ck) sz) := by
  refine Met.ofW (cc := prog_1_method_2_code) (maxL := 6) (ret := (some .int)) (by decide) rfl ?_
  intro p e s m args below meth c s₁ B hml hv
  obtain ⟨rfl, hsz, hP, hK, hD0, hev⟩ := hv
  have hx := B.exec
  have hb := B.bytes
  have hr := B.returns
  have hts : ∀ w9 ∈ gb, w9.before [.ref (ad 0), .int a0, .int a1, .int a2, .int a3, .int a4].toArray s = true := fun w9 h => atoms_spec (ws := Cond.code ⟨"JoinedTrees", "feed", "(IIIII)I"⟩ prog_1_method_2_code 6 (some .int) :: gb) B.pre w9 (List.mem_cons_of_mem _ h)
  have hown : s.vm.findClass "JoinedTrees" = some m.cls := findClass_of_methodNamed B.named
  have hlocks := B.notSynchronized
  subst hsz
  have hNS := ns_of hP
  have hD := hD0.self (sz := s.heap.size)
  generalize hAe : va_A (fxW ad ac ck) s.heap.size = A at hD hev hNS ⊢
  have hA : ∀ q : Nat, s.heap.size ≤ q → A q := fun q h => by rw [← hAe]; exact Or.inr h
  have hS : va_S A s.heap s.heap [] := va_S.rf
  have hP : va_P D cls (fxW ad ac ck) s.heap := hP
  have hl := lv_entry ([.ref (ad 0), .int a0, .int a1, .int a2, .int a3, .int a4]) (n := 6) (Nat.le_of_ble_eq_true rfl)
  rw [lg_entry_eq]
  generalize (lg_sl ([.ref (ad 0), .int a0, .int a1, .int a2, .int a3, .int a4]) ++ List.replicate (6 - (lg_sl ([.ref (ad 0), .int a0, .int a1, .int a2, .int a3, .int a4])).length) Slot.unset).toArray = ls at hl ⊢
  have hl : lv_has ls 6 [(0, .ref (ad 0)), (1, .int a0), (2, .int a1), (3, .int a2), (4, .int a3), (5, .int a4)] := hl
  refine lv_aload_n hx hb d_feed_0 rfl (lv_at hl 0 rfl) ?_
  refine va_get (D := D) (ci := 11) (v := .ref (ad 9)) (C := R_JT) (T := F_JT) (N := 13) hx hb hts i_JT hown hK hP 0 rfl rfl 8 (by decide) (hts _ kw_429) (fun _ h9 => h9) rfl d_feed_1 ?_
  refine va_get (D := D) (ci := 5) (v := .int 0) (C := R_Rw) (T := F_Rw) (N := 3) hx hb hts i_Rw hown hK hP 9 rfl rfl 1 (by decide) (hts _ kw_143) (fun _ h9 => h9) rfl d_feed_4 ?_
  refine lv_aload_n hx hb d_feed_7 rfl (lv_at hl 0 rfl) ?_
  have hFc := fr_all hD hS hA
  refine va_calli (va_runV (As := []) (rest := [.int 0]) ⟨hx, hb, hml, hown, hts⟩ (c_argB l hfl D ad ac ck s.heap.size) (cw_v 0 hts kw_476 kw_473 kw_475 kp_0 kw_1 rfl rfl (by decide +kernel) ⟨Nat.le_of_ble_eq_true rfl, Nat.le_of_ble_eq_true rfl⟩) ⟨fx_blind, va_recv hK hP (ci := 11) (q0 := 0) rfl rfl, fun U hU hW => fx_pre hU hW hP hK hD hev hNS hS hFc⟩ rfl rfl hl.1 rfl (lv_room (Nat.le_of_ble_eq_true rfl)) d_feed_8 ⟨Nat.le_of_ble_eq_true rfl, Nat.le_of_ble_eq_true rfl⟩) hS (fun q _ h => hFc q h) hFc (fun r_1 u_2 t H1 locs ht hvm hw hB hz1 hk1 hS => ?_)
  obtain ⟨hP, -, hD1⟩ := hB
  rw [ht] at hP
  have hD := hD1.weaken (fun _ q _ h => hFc q.1 h)
  generalize H1 = H at hP hS ⊢
  refine W.cs (cells' := 0) (slots' := 0) rfl rfl ?_
  subst hw
  refine lv_iadd hx hb d_feed_11 ?_
  refine w_i (y := 0) (by decide) ?_
  refine lv_bipush (v := 20) hx hb d_feed_12 (by decide) ?_
  refine lv_iadd hx hb d_feed_14 ?_
  refine w_i (y := 20) (by decide) ?_
  refine lv_sipush (v := 8192) hx hb d_feed_15 (by decide) ?_
  refine lv_icmp_le (tgt := 29) hx hb d_feed_18 (by decide) (fun _ => ?_) (fun h => absurd h (by decide))
  have hP := hP.sub (ws' := [(ad 0, .inr (11, [.ref (ad 1), .ref (ad 2), .ref (ad 3), .ref (ad 60), .ref (ad 14), .ref (ad 17), .ref (ad 7), .int 0, .ref (ad 9), .ref (ad 11), .ref (ad 12), .int 0, .int (-1)])), (ad 9, .inr (5, [.ref (ad 10), .int 0, .int 0])), (ad 10, .inl (ac 1, 8192, .inl (fun _ => 0)))]) [0, 9, 10] rfl
  have hD := hD.sub (ws' := [(ad 0, .inr (11, [.ref (ad 1), .ref (ad 2), .ref (ad 3), .ref (ad 60), .ref (ad 14), .ref (ad 17), .ref (ad 7), .int 0, .ref (ad 9), .ref (ad 11), .ref (ad 12), .int 0, .int (-1)])), (ad 9, .inr (5, [.ref (ad 10), .int 0, .int 0])), (ad 10, .inl (ac 1, 8192, .inl (fun _ => 0)))]) [0, 9, 10] (by decide) rfl
  refine lv_aload_n hx hb d_feed_29 rfl (lv_at hl 0 rfl) ?_
  refine va_get (D := D) (ci := 11) (v := .ref (ad 9)) (C := R_JT) (T := F_JT) (N := 13) hx hb hts i_JT hown hK hP 0 rfl rfl 8 (by decide) (hts _ kw_429) (fun _ h9 => h9) rfl d_feed_30 ?_
  refine lv_iload_n hx hb d_feed_33 rfl (lv_at hl 1 rfl) ?_
  have hPc := hP.sub (ws' := [(ad 9, .inr (5, [.ref (ad 10), .int 0, .int 0])), (ad 10, .inl (ac 1, 8192, .inl (fun _ => 0)))]) [1, 2] rfl
  have hDc := hD.sub (ws' := [(ad 9, .inr (5, [.ref (ad 10), .int 0, .int 0])), (ad 10, .inl (ac 1, 8192, .inl (fun _ => 0)))]) [1, 2] (by decide) rfl
  have hKc := hK.sub (tys' := [(ac 1, .byte)]) [1] rfl
  have hFc := va_free (wc := [(ad 9, .inr (5, [.ref (ad 10), .int 0, .int 0])), (ad 10, .inl (ac 1, 8192, .inl (fun _ => 0)))]) hD hS hA [1, 2] rfl
  refine va_callv (va_runV (As := [.int a0]) (rest := []) ⟨hx, hb, hml, hown, hts⟩ (g_wi8192 l D H.size (ad 9) (ad 10) (ac 1) 0 a0 (fun _ => 0) (vp_in_nI (n := 0) (N := 8192) (by decide) (by decide)) (vp_in_nI (n := 1) (N := 8192) (by decide) (by decide)) (vp_in_nI (n := 2) (N := 8192) (by decide) (by decide)) (vp_in_nI (n := 3) (N := 8192) (by decide) (by decide))) (cw_v 1 hts kw_545 kw_542 kw_543 kw_544 kw_4 rfl rfl (by decide +kernel) ⟨Nat.le_of_ble_eq_true rfl, Nat.le_of_ble_eq_true rfl⟩) ⟨g_blind, va_recv hKc hPc (ci := 5) (q0 := 0) rfl rfl, fun U hU hW => g_pre hU hW hPc hKc hDc⟩ rfl rfl hl.1 rfl (lv_room (Nat.le_of_ble_eq_true rfl)) d_feed_34 ⟨Nat.le_of_ble_eq_true rfl, Nat.le_of_ble_eq_true rfl⟩) hS (fun q _ h => hFc q h) hFc (fun u_4 t H1 locs ht hvm hw hB hz1 hk1 hS => ?_)
  obtain ⟨hP1, hK1, hD1⟩ := hB
  rw [ht] at hP1
  have hK1 := va_K.moved hvm.symm hK1
  obtain ⟨hP, hD⟩ := va_join (wr := [(ad 0, .inr (11, [.ref (ad 1), .ref (ad 2), .ref (ad 3), .ref (ad 60), .ref (ad 14), .ref (ad 17), .ref (ad 7), .int 0, .ref (ad 9), .ref (ad 11), .ref (ad 12), .int 0, .int (-1)]))]) (w1 := [(ad 9, .inr (5, [.ref (ad 10), .int 4, .int 0])), (ad 10, .inl (ac 1, 8192, .inl u_4))]) hP hD [1, 2] [0] rfl rfl (by decide) (by decide) hk1 hFc hP1 hD1
  generalize H1 = H at hP hS ⊢
  have hP : va_P D cls [(ad 0, .inr (11, [.ref (ad 1), .ref (ad 2), .ref (ad 3), .ref (ad 60), .ref (ad 14), .ref (ad 17), .ref (ad 7), .int 0, .ref (ad 9), .ref (ad 11), .ref (ad 12), .int 0, .int (-1)])), (ad 9, .inr (5, [.ref (ad 10), .int 4, .int 0])), (ad 10, .inl (ac 1, 8192, .inl u_4))] H := hP
  have hD : va_D A [(ad 0, .inr (11, [.ref (ad 1), .ref (ad 2), .ref (ad 3), .ref (ad 60), .ref (ad 14), .ref (ad 17), .ref (ad 7), .int 0, .ref (ad 9), .ref (ad 11), .ref (ad 12), .int 0, .int (-1)])), (ad 9, .inr (5, [.ref (ad 10), .int 4, .int 0])), (ad 10, .inl (ac 1, 8192, .inl u_4))] := hD
  refine W.cs (cells' := 0) (slots' := 0) rfl rfl ?_
  refine lv_aload_n hx hb d_feed_37 rfl (lv_at hl 0 rfl) ?_
  refine va_get (D := D) (ci := 11) (v := .ref (ad 9)) (C := R_JT) (T := F_JT) (N := 13) hx hb hts i_JT hown hK hP 0 rfl rfl 8 (by decide) (hts _ kw_429) (fun _ h9 => h9) rfl d_feed_38 ?_
  refine lv_iload_n hx hb d_feed_41 rfl (lv_at hl 2 rfl) ?_
  have hPc := hP.sub (ws' := [(ad 9, .inr (5, [.ref (ad 10), .int 4, .int 0])), (ad 10, .inl (ac 1, 8192, .inl u_4))]) [1, 2] rfl
  have hDc := hD.sub (ws' := [(ad 9, .inr (5, [.ref (ad 10), .int 4, .int 0])), (ad 10, .inl (ac 1, 8192, .inl u_4))]) [1, 2] (by decide) rfl
  have hKc := hK.sub (tys' := [(ac 1, .byte)]) [1] rfl
  have hFc := va_free (wc := [(ad 9, .inr (5, [.ref (ad 10), .int 4, .int 0])), (ad 10, .inl (ac 1, 8192, .inl u_4))]) hD hS hA [1, 2] rfl
  refine va_callv (va_runV (As := [.int a1]) (rest := []) ⟨hx, hb, hml, hown, hts⟩ (g_wi8192 l D H.size (ad 9) (ad 10) (ac 1) 4 a1 u_4 (vp_in_nI (n := 4) (N := 8192) (by decide) (by decide)) (vp_in_nI (n := 5) (N := 8192) (by decide) (by decide)) (vp_in_nI (n := 6) (N := 8192) (by decide) (by decide)) (vp_in_nI (n := 7) (N := 8192) (by decide) (by decide))) (cw_v 1 hts kw_545 kw_542 kw_543 kw_544 kw_4 rfl rfl (by decide +kernel) ⟨Nat.le_of_ble_eq_true rfl, Nat.le_of_ble_eq_true rfl⟩) ⟨g_blind, va_recv hKc hPc (ci := 5) (q0 := 0) rfl rfl, fun U hU hW => g_pre hU hW hPc hKc hDc⟩ rfl rfl hl.1 rfl (lv_room (Nat.le_of_ble_eq_true rfl)) d_feed_42 ⟨Nat.le_of_ble_eq_true rfl, Nat.le_of_ble_eq_true rfl⟩) hS (fun q _ h => hFc q h) hFc (fun u_6 t H1 locs ht hvm hw hB hz1 hk1 hS => ?_)
  obtain ⟨hP1, hK1, hD1⟩ := hB
  rw [ht] at hP1
  have hK1 := va_K.moved hvm.symm hK1
  obtain ⟨hP, hD⟩ := va_join (wr := [(ad 0, .inr (11, [.ref (ad 1), .ref (ad 2), .ref (ad 3), .ref (ad 60), .ref (ad 14), .ref (ad 17), .ref (ad 7), .int 0, .ref (ad 9), .ref (ad 11), .ref (ad 12), .int 0, .int (-1)]))]) (w1 := [(ad 9, .inr (5, [.ref (ad 10), .int 8, .int 0])), (ad 10, .inl (ac 1, 8192, .inl u_6))]) hP hD [1, 2] [0] rfl rfl (by decide) (by decide) hk1 hFc hP1 hD1
  generalize H1 = H at hP hS ⊢
  have hP : va_P D cls [(ad 0, .inr (11, [.ref (ad 1), .ref (ad 2), .ref (ad 3), .ref (ad 60), .ref (ad 14), .ref (ad 17), .ref (ad 7), .int 0, .ref (ad 9), .ref (ad 11), .ref (ad 12), .int 0, .int (-1)])), (ad 9, .inr (5, [.ref (ad 10), .int 8, .int 0])), (ad 10, .inl (ac 1, 8192, .inl u_6))] H := hP
  have hD : va_D A [(ad 0, .inr (11, [.ref (ad 1), .ref (ad 2), .ref (ad 3), .ref (ad 60), .ref (ad 14), .ref (ad 17), .ref (ad 7), .int 0, .ref (ad 9), .ref (ad 11), .ref (ad 12), .int 0, .int (-1)])), (ad 9, .inr (5, [.ref (ad 10), .int 8, .int 0])), (ad 10, .inl (ac 1, 8192, .inl u_6))] := hD
  refine W.cs (cells' := 0) (slots' := 0) rfl rfl ?_
  refine lv_aload_n hx hb d_feed_45 rfl (lv_at hl 0 rfl) ?_
  refine va_get (D := D) (ci := 11) (v := .ref (ad 9)) (C := R_JT) (T := F_JT) (N := 13) hx hb hts i_JT hown hK hP 0 rfl rfl 8 (by decide) (hts _ kw_429) (fun _ h9 => h9) rfl d_feed_46 ?_
  refine lv_iload_n hx hb d_feed_49 rfl (lv_at hl 3 rfl) ?_
  have hPc := hP.sub (ws' := [(ad 9, .inr (5, [.ref (ad 10), .int 8, .int 0])), (ad 10, .inl (ac 1, 8192, .inl u_6))]) [1, 2] rfl
  have hDc := hD.sub (ws' := [(ad 9, .inr (5, [.ref (ad 10), .int 8, .int 0])), (ad 10, .inl (ac 1, 8192, .inl u_6))]) [1, 2] (by decide) rfl
  have hKc := hK.sub (tys' := [(ac 1, .byte)]) [1] rfl
  have hFc := va_free (wc := [(ad 9, .inr (5, [.ref (ad 10), .int 8, .int 0])), (ad 10, .inl (ac 1, 8192, .inl u_6))]) hD hS hA [1, 2] rfl
  refine va_callv (va_runV (As := [.int a2]) (rest := []) ⟨hx, hb, hml, hown, hts⟩ (g_wi8192 l D H.size (ad 9) (ad 10) (ac 1) 8 a2 u_6 (vp_in_nI (n := 8) (N := 8192) (by decide) (by decide)) (vp_in_nI (n := 9) (N := 8192) (by decide) (by decide)) (vp_in_nI (n := 10) (N := 8192) (by decide) (by decide)) (vp_in_nI (n := 11) (N := 8192) (by decide) (by decide))) (cw_v 1 hts kw_545 kw_542 kw_543 kw_544 kw_4 rfl rfl (by decide +kernel) ⟨Nat.le_of_ble_eq_true rfl, Nat.le_of_ble_eq_true rfl⟩) ⟨g_blind, va_recv hKc hPc (ci := 5) (q0 := 0) rfl rfl, fun U hU hW => g_pre hU hW hPc hKc hDc⟩ rfl rfl hl.1 rfl (lv_room (Nat.le_of_ble_eq_true rfl)) d_feed_50 ⟨Nat.le_of_ble_eq_true rfl, Nat.le_of_ble_eq_true rfl⟩) hS (fun q _ h => hFc q h) hFc (fun u_8 t H1 locs ht hvm hw hB hz1 hk1 hS => ?_)
  obtain ⟨hP1, hK1, hD1⟩ := hB
  rw [ht] at hP1
  have hK1 := va_K.moved hvm.symm hK1
  obtain ⟨hP, hD⟩ := va_join (wr := [(ad 0, .inr (11, [.ref (ad 1), .ref (ad 2), .ref (ad 3), .ref (ad 60), .ref (ad 14), .ref (ad 17), .ref (ad 7), .int 0, .ref (ad 9), .ref (ad 11), .ref (ad 12), .int 0, .int (-1)]))]) (w1 := [(ad 9, .inr (5, [.ref (ad 10), .int 12, .int 0])), (ad 10, .inl (ac 1, 8192, .inl u_8))]) hP hD [1, 2] [0] rfl rfl (by decide) (by decide) hk1 hFc hP1 hD1
  generalize H1 = H at hP hS ⊢
  have hP : va_P D cls [(ad 0, .inr (11, [.ref (ad 1), .ref (ad 2), .ref (ad 3), .ref (ad 60), .ref (ad 14), .ref (ad 17), .ref (ad 7), .int 0, .ref (ad 9), .ref (ad 11), .ref (ad 12), .int 0, .int (-1)])), (ad 9, .inr (5, [.ref (ad 10), .int 12, .int 0])), (ad 10, .inl (ac 1, 8192, .inl u_8))] H := hP
  have hD : va_D A [(ad 0, .inr (11, [.ref (ad 1), .ref (ad 2), .ref (ad 3), .ref (ad 60), .ref (ad 14), .ref (ad 17), .ref (ad 7), .int 0, .ref (ad 9), .ref (ad 11), .ref (ad 12), .int 0, .int (-1)])), (ad 9, .inr (5, [.ref (ad 10), .int 12, .int 0])), (ad 10, .inl (ac 1, 8192, .inl u_8))] := hD
  refine W.cs (cells' := 0) (slots' := 0) rfl rfl ?_
  refine lv_aload_n hx hb d_feed_53 rfl (lv_at hl 0 rfl) ?_
  refine va_get (D := D) (ci := 11) (v := .ref (ad 9)) (C := R_JT) (T := F_JT) (N := 13) hx hb hts i_JT hown hK hP 0 rfl rfl 8 (by decide) (hts _ kw_429) (fun _ h9 => h9) rfl d_feed_54 ?_
  refine lv_iload hx hb d_feed_57 (lv_at hl 4 rfl) ?_
  have hPc := hP.sub (ws' := [(ad 9, .inr (5, [.ref (ad 10), .int 12, .int 0])), (ad 10, .inl (ac 1, 8192, .inl u_8))]) [1, 2] rfl
  have hDc := hD.sub (ws' := [(ad 9, .inr (5, [.ref (ad 10), .int 12, .int 0])), (ad 10, .inl (ac 1, 8192, .inl u_8))]) [1, 2] (by decide) rfl
  have hKc := hK.sub (tys' := [(ac 1, .byte)]) [1] rfl
  have hFc := va_free (wc := [(ad 9, .inr (5, [.ref (ad 10), .int 12, .int 0])), (ad 10, .inl (ac 1, 8192, .inl u_8))]) hD hS hA [1, 2] rfl
  refine va_callv (va_runV (As := [.int a3]) (rest := []) ⟨hx, hb, hml, hown, hts⟩ (g_wi8192 l D H.size (ad 9) (ad 10) (ac 1) 12 a3 u_8 (vp_in_nI (n := 12) (N := 8192) (by decide) (by decide)) (vp_in_nI (n := 13) (N := 8192) (by decide) (by decide)) (vp_in_nI (n := 14) (N := 8192) (by decide) (by decide)) (vp_in_nI (n := 15) (N := 8192) (by decide) (by decide))) (cw_v 1 hts kw_545 kw_542 kw_543 kw_544 kw_4 rfl rfl (by decide +kernel) ⟨Nat.le_of_ble_eq_true rfl, Nat.le_of_ble_eq_true rfl⟩) ⟨g_blind, va_recv hKc hPc (ci := 5) (q0 := 0) rfl rfl, fun U hU hW => g_pre hU hW hPc hKc hDc⟩ rfl rfl hl.1 rfl (lv_room (Nat.le_of_ble_eq_true rfl)) d_feed_59 ⟨Nat.le_of_ble_eq_true rfl, Nat.le_of_ble_eq_true rfl⟩) hS (fun q _ h => hFc q h) hFc (fun u_10 t H1 locs ht hvm hw hB hz1 hk1 hS => ?_)
  obtain ⟨hP1, hK1, hD1⟩ := hB
  rw [ht] at hP1
  have hK1 := va_K.moved hvm.symm hK1
  obtain ⟨hP, hD⟩ := va_join (wr := [(ad 0, .inr (11, [.ref (ad 1), .ref (ad 2), .ref (ad 3), .ref (ad 60), .ref (ad 14), .ref (ad 17), .ref (ad 7), .int 0, .ref (ad 9), .ref (ad 11), .ref (ad 12), .int 0, .int (-1)]))]) (w1 := [(ad 9, .inr (5, [.ref (ad 10), .int 16, .int 0])), (ad 10, .inl (ac 1, 8192, .inl u_10))]) hP hD [1, 2] [0] rfl rfl (by decide) (by decide) hk1 hFc hP1 hD1
  generalize H1 = H at hP hS ⊢
  have hP : va_P D cls [(ad 0, .inr (11, [.ref (ad 1), .ref (ad 2), .ref (ad 3), .ref (ad 60), .ref (ad 14), .ref (ad 17), .ref (ad 7), .int 0, .ref (ad 9), .ref (ad 11), .ref (ad 12), .int 0, .int (-1)])), (ad 9, .inr (5, [.ref (ad 10), .int 16, .int 0])), (ad 10, .inl (ac 1, 8192, .inl u_10))] H := hP
  have hD : va_D A [(ad 0, .inr (11, [.ref (ad 1), .ref (ad 2), .ref (ad 3), .ref (ad 60), .ref (ad 14), .ref (ad 17), .ref (ad 7), .int 0, .ref (ad 9), .ref (ad 11), .ref (ad 12), .int 0, .int (-1)])), (ad 9, .inr (5, [.ref (ad 10), .int 16, .int 0])), (ad 10, .inl (ac 1, 8192, .inl u_10))] := hD
  refine W.cs (cells' := 0) (slots' := 0) rfl rfl ?_
  refine lv_aload_n hx hb d_feed_62 rfl (lv_at hl 0 rfl) ?_
  refine va_get (D := D) (ci := 11) (v := .ref (ad 9)) (C := R_JT) (T := F_JT) (N := 13) hx hb hts i_JT hown hK hP 0 rfl rfl 8 (by decide) (hts _ kw_429) (fun _ h9 => h9) rfl d_feed_63 ?_
  refine lv_iload hx hb d_feed_66 (lv_at hl 5 rfl) ?_
  have hPc := hP.sub (ws' := [(ad 9, .inr (5, [.ref (ad 10), .int 16, .int 0])), (ad 10, .inl (ac 1, 8192, .inl u_10))]) [1, 2] rfl
  have hDc := hD.sub (ws' := [(ad 9, .inr (5, [.ref (ad 10), .int 16, .int 0])), (ad 10, .inl (ac 1, 8192, .inl u_10))]) [1, 2] (by decide) rfl
  have hKc := hK.sub (tys' := [(ac 1, .byte)]) [1] rfl
  have hFc := va_free (wc := [(ad 9, .inr (5, [.ref (ad 10), .int 16, .int 0])), (ad 10, .inl (ac 1, 8192, .inl u_10))]) hD hS hA [1, 2] rfl
  refine va_callv (va_runV (As := [.int a4]) (rest := []) ⟨hx, hb, hml, hown, hts⟩ (g_wi8192 l D H.size (ad 9) (ad 10) (ac 1) 16 a4 u_10 (vp_in_nI (n := 16) (N := 8192) (by decide) (by decide)) (vp_in_nI (n := 17) (N := 8192) (by decide) (by decide)) (vp_in_nI (n := 18) (N := 8192) (by decide) (by decide)) (vp_in_nI (n := 19) (N := 8192) (by decide) (by decide))) (cw_v 1 hts kw_545 kw_542 kw_543 kw_544 kw_4 rfl rfl (by decide +kernel) ⟨Nat.le_of_ble_eq_true rfl, Nat.le_of_ble_eq_true rfl⟩) ⟨g_blind, va_recv hKc hPc (ci := 5) (q0 := 0) rfl rfl, fun U hU hW => g_pre hU hW hPc hKc hDc⟩ rfl rfl hl.1 rfl (lv_room (Nat.le_of_ble_eq_true rfl)) d_feed_68 ⟨Nat.le_of_ble_eq_true rfl, Nat.le_of_ble_eq_true rfl⟩) hS (fun q _ h => hFc q h) hFc (fun u_12 t H1 locs ht hvm hw hB hz1 hk1 hS => ?_)
  obtain ⟨hP1, hK1, hD1⟩ := hB
  rw [ht] at hP1
  have hK1 := va_K.moved hvm.symm hK1
  obtain ⟨hP, hD⟩ := va_join (wr := [(ad 0, .inr (11, [.ref (ad 1), .ref (ad 2), .ref (ad 3), .ref (ad 60), .ref (ad 14), .ref (ad 17), .ref (ad 7), .int 0, .ref (ad 9), .ref (ad 11), .ref (ad 12), .int 0, .int (-1)]))]) (w1 := [(ad 9, .inr (5, [.ref (ad 10), .int 20, .int 0])), (ad 10, .inl (ac 1, 8192, .inl u_12))]) hP hD [1, 2] [0] rfl rfl (by decide) (by decide) hk1 hFc hP1 hD1
  generalize H1 = H at hP hS ⊢
  have hP : va_P D cls [(ad 0, .inr (11, [.ref (ad 1), .ref (ad 2), .ref (ad 3), .ref (ad 60), .ref (ad 14), .ref (ad 17), .ref (ad 7), .int 0, .ref (ad 9), .ref (ad 11), .ref (ad 12), .int 0, .int (-1)])), (ad 9, .inr (5, [.ref (ad 10), .int 20, .int 0])), (ad 10, .inl (ac 1, 8192, .inl u_12))] H := hP
  have hD : va_D A [(ad 0, .inr (11, [.ref (ad 1), .ref (ad 2), .ref (ad 3), .ref (ad 60), .ref (ad 14), .ref (ad 17), .ref (ad 7), .int 0, .ref (ad 9), .ref (ad 11), .ref (ad 12), .int 0, .int (-1)])), (ad 9, .inr (5, [.ref (ad 10), .int 20, .int 0])), (ad 10, .inl (ac 1, 8192, .inl u_12))] := hD
  refine W.cs (cells' := 0) (slots' := 0) rfl rfl ?_
  refine lv_aload_n hx hb d_feed_71 rfl (lv_at hl 0 rfl) ?_
  refine va_get (D := D) (ci := 11) (v := .ref (ad 9)) (C := R_JT) (T := F_JT) (N := 13) hx hb hts i_JT hown hK hP 0 rfl rfl 8 (by decide) (hts _ kw_429) (fun _ h9 => h9) rfl d_feed_72 ?_
  refine va_get (D := D) (ci := 5) (v := .int 20) (C := R_Rw) (T := F_Rw) (N := 3) hx hb hts i_Rw hown hK hP 1 rfl rfl 1 (by decide) (hts _ kw_143) (fun _ h9 => h9) rfl d_feed_75 ?_
  exact W.iret (v := 20) hx hb hr (fun t ht hW => ⟨⟨20, (), rfl, rfl, trivial⟩, hS.F ht⟩) hS.2.2 d_feed_78
theorem d_end_0 : decode prog_1_method_3_code 0 = .ok (.iload_n 1, 1) := by decide +kernel
theorem d_end_1 : decode prog_1_method_3_code 1 = .ok (.ifCond .lt 20, 3) := by decide +kernel
theorem d_end_21 : decode prog_1_method_3_code 21 = .ok (.new 93, 3) := by decide +kernel
theorem d_end_24 : decode prog_1_method_3_code 24 = .ok (.dup, 1) := by decide +kernel
theorem d_end_25 : decode prog_1_method_3_code 25 = .ok (.invokespecial 95, 3) := by decide +kernel
theorem d_end_28 : decode prog_1_method_3_code 28 = .ok (.athrow, 1) := by decide +kernel
theorem d_end_4 : decode prog_1_method_3_code 4 = .ok (.iload_n 1, 1) := by decide +kernel
theorem d_end_5 : decode prog_1_method_3_code 5 = .ok (.bipush 20, 2) := by decide +kernel
theorem d_end_7 : decode prog_1_method_3_code 7 = .ok (.if_icmp .ge 14, 3) := by decide +kernel
theorem d_end_10 : decode prog_1_method_3_code 10 = .ok (.iload_n 1, 1) := by decide +kernel
theorem d_end_11 : decode prog_1_method_3_code 11 = .ok (.aload_n 0, 1) := by decide +kernel
theorem d_end_12 : decode prog_1_method_3_code 12 = .ok (.getfield 67, 3) := by decide +kernel
theorem d_end_15 : decode prog_1_method_3_code 15 = .ok (.getfield 80, 3) := by decide +kernel
theorem d_end_18 : decode prog_1_method_3_code 18 = .ok (.if_icmp .le 11, 3) := by decide +kernel
set_option maxHeartbeats 4000000 in
set_option maxRecDepth 100000 in
theorem c_end_1 (l : Launch) (hfl : l.flags = flags0) (D : va_G) (ad : Nat → Nat) (ac : Nat → ClassId) (ck : Nat → Int32) (sz : Nat) (n : Int32) (hq : k_end n = 1) : MeT l ⟨"JoinedTrees", "end", "(I)I"⟩ (Cond.code ⟨"JoinedTrees", "end", "(I)I"⟩ prog_1_method_3_code 3 (some .int) :: gb) ({ frames := 6, cells := 1, slots := 6, locals := 96 }) (fxPc D ad ac ck sz [.ref (ad 0), .int n]) e_IA (va_A (fxW ad ac ck) sz) 1 6 := by
  refine MeT.ofW (cc := prog_1_method_3_code) (maxL := 3) (ret := (some .int)) (by decide) rfl ?_
  intro p e s m args below meth c s₁ B hml hno hv
  obtain ⟨rfl, hsz, hP, hK, hD0, hev⟩ := hv
  have hx := B.exec
  have hb := B.bytes
  have hr := B.returns
  have hts : ∀ w9 ∈ gb, w9.before [.ref (ad 0), .int n].toArray s = true := fun w9 h => atoms_spec (ws := Cond.code ⟨"JoinedTrees", "end", "(I)I"⟩ prog_1_method_3_code 3 (some .int) :: gb) B.pre w9 (List.mem_cons_of_mem _ h)
  have hown : s.vm.findClass "JoinedTrees" = some m.cls := findClass_of_methodNamed B.named
  have hlocks := B.notSynchronized
  subst hsz
  have hNS := ns_of hP
  have hD := hD0.self (sz := s.heap.size)
  generalize hAe : va_A (fxW ad ac ck) s.heap.size = A at hD hev hNS ⊢
  have hA : ∀ q : Nat, s.heap.size ≤ q → A q := fun q h => by rw [← hAe]; exact Or.inr h
  have hS : va_S A s.heap s.heap [] := va_S.rf
  have hP : va_P D cls (fxW ad ac ck) s.heap := hP
  have hl := lv_entry ([.ref (ad 0), .int n]) (n := 3) (Nat.le_of_ble_eq_true rfl)
  rw [lg_entry_eq]
  generalize (lg_sl ([.ref (ad 0), .int n]) ++ List.replicate (3 - (lg_sl ([.ref (ad 0), .int n])).length) Slot.unset).toArray = ls at hl ⊢
  have hl : lv_has ls 3 [(0, .ref (ad 0)), (1, .int n)] := hl
  refine lv_iload_n hx hb d_end_0 rfl (lv_at hl 1 rfl) ?_
  refine lv_if_lt (tgt := 21) hx hb d_end_1 (by decide) (fun c_1 => ?_) (fun c_1 => ?_)
  · exact tx_throw (own := "JoinedTrees") (E := e_IA) (names := at_n) (ia := 93) (ic := 95) hfl hx hb hno hlocks hown (by decide +kernel) (by decide +kernel) (hev.atoms hts hev.2.2.2.2.2.1.1 at_IA) (hts _ kw_558) (hts _ kw_16) d_end_21 d_end_24 d_end_25 d_end_28 (hl.1.trans hml.symm) hS hA hNS (Nat.le_of_ble_eq_true rfl) (Nat.le_of_ble_eq_true rfl) (Nat.le_of_ble_eq_true rfl) (Nat.le_of_ble_eq_true rfl)
  · refine lv_iload_n hx hb d_end_4 rfl (lv_at hl 1 rfl) ?_
    refine lv_bipush (v := 20) hx hb d_end_5 (by decide) ?_
    refine lv_icmp_ge (tgt := 21) hx hb d_end_7 (by decide) (fun c_2 => ?_) (fun c_2 => ?_)
    · exact tx_throw (own := "JoinedTrees") (E := e_IA) (names := at_n) (ia := 93) (ic := 95) hfl hx hb hno hlocks hown (by decide +kernel) (by decide +kernel) (hev.atoms hts hev.2.2.2.2.2.1.1 at_IA) (hts _ kw_558) (hts _ kw_16) d_end_21 d_end_24 d_end_25 d_end_28 (hl.1.trans hml.symm) hS hA hNS (Nat.le_of_ble_eq_true rfl) (Nat.le_of_ble_eq_true rfl) (Nat.le_of_ble_eq_true rfl) (Nat.le_of_ble_eq_true rfl)
    · refine lv_iload_n hx hb d_end_10 rfl (lv_at hl 1 rfl) ?_
      refine lv_aload_n hx hb d_end_11 rfl (lv_at hl 0 rfl) ?_
      refine va_get (D := D) (ci := 11) (v := .ref (ad 9)) (C := R_JT) (T := F_JT) (N := 13) hx hb hts i_JT hown hK hP 0 rfl rfl 8 (by decide) (hts _ kw_429) (fun _ h9 => h9) rfl d_end_12 ?_
      refine va_get (D := D) (ci := 5) (v := .int 0) (C := R_Rw) (T := F_Rw) (N := 3) hx hb hts i_Rw hown hK hP 9 rfl rfl 1 (by decide) (hts _ kw_143) (fun _ h9 => h9) rfl d_end_15 ?_
      refine lv_icmp_le (tgt := 29) hx hb d_end_18 (by decide) (fun c_3 => ?_) (fun c_3 => ?_)
      · first | exact absurd hq (by simp [k_end, c_1, c_2, c_3]) | (exfalso; simp_all [k_end])
      · exact tx_throw (own := "JoinedTrees") (E := e_IA) (names := at_n) (ia := 93) (ic := 95) hfl hx hb hno hlocks hown (by decide +kernel) (by decide +kernel) (hev.atoms hts hev.2.2.2.2.2.1.1 at_IA) (hts _ kw_558) (hts _ kw_16) d_end_21 d_end_24 d_end_25 d_end_28 (hl.1.trans hml.symm) hS hA hNS (Nat.le_of_ble_eq_true rfl) (Nat.le_of_ble_eq_true rfl) (Nat.le_of_ble_eq_true rfl) (Nat.le_of_ble_eq_true rfl)
theorem d_end_29 : decode prog_1_method_3_code 29 = .ok (.aload_n 0, 1) := by decide +kernel
theorem d_end_30 : decode prog_1_method_3_code 30 = .ok (.getfield 67, 3) := by decide +kernel
theorem d_end_33 : decode prog_1_method_3_code 33 = .ok (.dup, 1) := by decide +kernel
theorem d_end_34 : decode prog_1_method_3_code 34 = .ok (.getfield 80, 3) := by decide +kernel
theorem d_end_37 : decode prog_1_method_3_code 37 = .ok (.iload_n 1, 1) := by decide +kernel
theorem d_end_38 : decode prog_1_method_3_code 38 = .ok (.isub, 1) := by decide +kernel
theorem d_end_39 : decode prog_1_method_3_code 39 = .ok (.putfield 80, 3) := by decide +kernel
theorem d_end_42 : decode prog_1_method_3_code 42 = .ok (.aload_n 0, 1) := by decide +kernel
theorem d_end_43 : decode prog_1_method_3_code 43 = .ok (.getfield 96, 3) := by decide +kernel
theorem d_end_46 : decode prog_1_method_3_code 46 = .ok (.ifCond .ne 24, 3) := by decide +kernel
theorem d_end_49 : decode prog_1_method_3_code 49 = .ok (.aload_n 0, 1) := by decide +kernel
theorem d_end_50 : decode prog_1_method_3_code 50 = .ok (.getfield 70, 3) := by decide +kernel
theorem d_end_53 : decode prog_1_method_3_code 53 = .ok (.astore_n 2, 1) := by decide +kernel
theorem d_end_54 : decode prog_1_method_3_code 54 = .ok (.aload_n 0, 1) := by decide +kernel
theorem d_end_55 : decode prog_1_method_3_code 55 = .ok (.aload_n 0, 1) := by decide +kernel
theorem d_end_56 : decode prog_1_method_3_code 56 = .ok (.getfield 67, 3) := by decide +kernel
theorem d_end_59 : decode prog_1_method_3_code 59 = .ok (.putfield 70, 3) := by decide +kernel
theorem d_end_62 : decode prog_1_method_3_code 62 = .ok (.aload_n 0, 1) := by decide +kernel
theorem d_end_63 : decode prog_1_method_3_code 63 = .ok (.iconst 1, 1) := by decide +kernel
theorem d_end_64 : decode prog_1_method_3_code 64 = .ok (.putfield 96, 3) := by decide +kernel
theorem d_end_67 : decode prog_1_method_3_code 67 = .ok (.goto 53, 3) := by decide +kernel
theorem d_end_120 : decode prog_1_method_3_code 120 = .ok (.aload_n 2, 1) := by decide +kernel
theorem d_end_121 : decode prog_1_method_3_code 121 = .ok (.invokevirtual 99, 3) := by decide +kernel
theorem d_end_124 : decode prog_1_method_3_code 124 = .ok (.aload_n 0, 1) := by decide +kernel
theorem d_end_125 : decode prog_1_method_3_code 125 = .ok (.aload_n 2, 1) := by decide +kernel
theorem d_end_126 : decode prog_1_method_3_code 126 = .ok (.putfield 67, 3) := by decide +kernel
theorem d_end_129 : decode prog_1_method_3_code 129 = .ok (.aload_n 0, 1) := by decide +kernel
theorem d_end_130 : decode prog_1_method_3_code 130 = .ok (.getfield 96, 3) := by decide +kernel
theorem d_end_133 : decode prog_1_method_3_code 133 = .ok (.ireturn, 1) := by decide +kernel
set_option maxHeartbeats 4000000 in
set_option maxRecDepth 100000 in
theorem c_end_0 (l : Launch) (hfl : l.flags = flags0) (D : va_G) (ad : Nat → Nat) (ac : Nat → ClassId) (ck : Nat → Int32) (sz : Nat) (n : Int32) (hq : k_end n = 0) : Met l ⟨"JoinedTrees", "end", "(I)I"⟩ (Cond.code ⟨"JoinedTrees", "end", "(I)I"⟩ prog_1_method_3_code 3 (some .int) :: gb) ({ frames := 1, cells := 0, slots := 0, locals := 20 }) (fxPc D ad ac ck sz [.ref (ad 0), .int n]) (va_Qi (fun (r : Int32) (_ : Unit) => r = 1) (fun _ _ => True) (va_A (fxW ad ac ck) sz)) 0 0 (va_A (fxW ad ac ck) sz) := by
  refine Met.ofW (cc := prog_1_method_3_code) (maxL := 3) (ret := (some .int)) (by decide) rfl ?_
  intro p e s m args below meth c s₁ B hml hv
  obtain ⟨rfl, hsz, hP, hK, hD0, hev⟩ := hv
  have hx := B.exec
  have hb := B.bytes
  have hr := B.returns
  have hts : ∀ w9 ∈ gb, w9.before [.ref (ad 0), .int n].toArray s = true := fun w9 h => atoms_spec (ws := Cond.code ⟨"JoinedTrees", "end", "(I)I"⟩ prog_1_method_3_code 3 (some .int) :: gb) B.pre w9 (List.mem_cons_of_mem _ h)
  have hown : s.vm.findClass "JoinedTrees" = some m.cls := findClass_of_methodNamed B.named
  have hlocks := B.notSynchronized
  subst hsz
  have hNS := ns_of hP
  have hD := hD0.self (sz := s.heap.size)
  generalize hAe : va_A (fxW ad ac ck) s.heap.size = A at hD hev hNS ⊢
  have hA : ∀ q : Nat, s.heap.size ≤ q → A q := fun q h => by rw [← hAe]; exact Or.inr h
  have hS : va_S A s.heap s.heap [] := va_S.rf
  have hP : va_P D cls (fxW ad ac ck) s.heap := hP
  have hl := lv_entry ([.ref (ad 0), .int n]) (n := 3) (Nat.le_of_ble_eq_true rfl)
  rw [lg_entry_eq]
  generalize (lg_sl ([.ref (ad 0), .int n]) ++ List.replicate (3 - (lg_sl ([.ref (ad 0), .int n])).length) Slot.unset).toArray = ls at hl ⊢
  have hl : lv_has ls 3 [(0, .ref (ad 0)), (1, .int n)] := hl
  refine lv_iload_n hx hb d_end_0 rfl (lv_at hl 1 rfl) ?_
  refine lv_if_lt (tgt := 21) hx hb d_end_1 (by decide) (fun c_1 => ?_) (fun c_1 => ?_)
  · first | exact absurd hq (by simp [k_end, c_1]) | (exfalso; simp_all [k_end])
  · refine lv_iload_n hx hb d_end_4 rfl (lv_at hl 1 rfl) ?_
    refine lv_bipush (v := 20) hx hb d_end_5 (by decide) ?_
    refine lv_icmp_ge (tgt := 21) hx hb d_end_7 (by decide) (fun c_2 => ?_) (fun c_2 => ?_)
    · first | exact absurd hq (by simp [k_end, c_1, c_2]) | (exfalso; simp_all [k_end])
    · refine lv_iload_n hx hb d_end_10 rfl (lv_at hl 1 rfl) ?_
      refine lv_aload_n hx hb d_end_11 rfl (lv_at hl 0 rfl) ?_
      refine va_get (D := D) (ci := 11) (v := .ref (ad 9)) (C := R_JT) (T := F_JT) (N := 13) hx hb hts i_JT hown hK hP 0 rfl rfl 8 (by decide) (hts _ kw_429) (fun _ h9 => h9) rfl d_end_12 ?_
      refine va_get (D := D) (ci := 5) (v := .int 0) (C := R_Rw) (T := F_Rw) (N := 3) hx hb hts i_Rw hown hK hP 9 rfl rfl 1 (by decide) (hts _ kw_143) (fun _ h9 => h9) rfl d_end_15 ?_
      refine lv_icmp_le (tgt := 29) hx hb d_end_18 (by decide) (fun c_3 => ?_) (fun c_3 => ?_)
      · have hP := hP.sub (ws' := [(ad 0, .inr (11, [.ref (ad 1), .ref (ad 2), .ref (ad 3), .ref (ad 60), .ref (ad 14), .ref (ad 17), .ref (ad 7), .int 0, .ref (ad 9), .ref (ad 11), .ref (ad 12), .int 0, .int (-1)])), (ad 9, .inr (5, [.ref (ad 10), .int 0, .int 0])), (ad 11, .inr (5, [.ref (ad 63), .int 0, .int 0]))]) [0, 9, 11] rfl
        have hD := hD.sub (ws' := [(ad 0, .inr (11, [.ref (ad 1), .ref (ad 2), .ref (ad 3), .ref (ad 60), .ref (ad 14), .ref (ad 17), .ref (ad 7), .int 0, .ref (ad 9), .ref (ad 11), .ref (ad 12), .int 0, .int (-1)])), (ad 9, .inr (5, [.ref (ad 10), .int 0, .int 0])), (ad 11, .inr (5, [.ref (ad 63), .int 0, .int 0]))]) [0, 9, 11] (by decide) rfl
        refine lv_aload_n hx hb d_end_29 rfl (lv_at hl 0 rfl) ?_
        refine va_get (D := D) (ci := 11) (v := .ref (ad 9)) (C := R_JT) (T := F_JT) (N := 13) hx hb hts i_JT hown hK hP 0 rfl rfl 8 (by decide) (hts _ kw_429) (fun _ h9 => h9) rfl d_end_30 ?_
        refine lv_dup hx hb d_end_33 rfl ?_
        refine va_get (D := D) (ci := 5) (v := .int 0) (C := R_Rw) (T := F_Rw) (N := 3) hx hb hts i_Rw hown hK hP 1 rfl rfl 1 (by decide) (hts _ kw_143) (fun _ h9 => h9) rfl d_end_34 ?_
        refine lv_iload_n hx hb d_end_37 rfl (lv_at hl 1 rfl) ?_
        refine lv_isub hx hb d_end_38 ?_
        refine lv_topi (fun x_4 ex_4 => ?_)
        refine va_put (D := D) (ci := 5) (v := .int x_4) (ty := .int) (C := R_Rw) (T := F_Rw) (N := 3) hx hb hts i_Rw t_Rw t_Rw_ok n_Rw hown hK hP hD hS 1 rfl rfl 1 (by decide) (hts _ kw_143) (fun _ h9 => h9) rfl (by decide +kernel) rfl rfl (Nat.le_of_ble_eq_true rfl) d_end_39 (fun H locs hP hD hS => ?_)
        have hP : va_P D cls [(ad 0, .inr (11, [.ref (ad 1), .ref (ad 2), .ref (ad 3), .ref (ad 60), .ref (ad 14), .ref (ad 17), .ref (ad 7), .int 0, .ref (ad 9), .ref (ad 11), .ref (ad 12), .int 0, .int (-1)])), (ad 9, .inr (5, [.ref (ad 10), .int x_4, .int 0])), (ad 11, .inr (5, [.ref (ad 63), .int 0, .int 0]))] H := hP
        have hD : va_D A [(ad 0, .inr (11, [.ref (ad 1), .ref (ad 2), .ref (ad 3), .ref (ad 60), .ref (ad 14), .ref (ad 17), .ref (ad 7), .int 0, .ref (ad 9), .ref (ad 11), .ref (ad 12), .int 0, .int (-1)])), (ad 9, .inr (5, [.ref (ad 10), .int x_4, .int 0])), (ad 11, .inr (5, [.ref (ad 63), .int 0, .int 0]))] := hD
        refine lv_aload_n hx hb d_end_42 rfl (lv_at hl 0 rfl) ?_
        refine va_get (D := D) (ci := 11) (v := .int 0) (C := R_JT) (T := F_JT) (N := 13) hx hb hts i_JT hown hK hP 0 rfl rfl 11 (by decide) (hts _ kw_432) (fun _ h9 => h9) rfl d_end_43 ?_
        refine lv_if_ne (tgt := 70) hx hb d_end_46 (by decide) (fun h => absurd rfl h) (fun _ => ?_)
        refine lv_aload_n hx hb d_end_49 rfl (lv_at hl 0 rfl) ?_
        refine va_get (D := D) (ci := 11) (v := .ref (ad 11)) (C := R_JT) (T := F_JT) (N := 13) hx hb hts i_JT hown hK hP 0 rfl rfl 9 (by decide) (hts _ kw_430) (fun _ h9 => h9) rfl d_end_50 ?_
        refine lv_astore_n (lv' := [(2, .ref (ad 11)), (0, .ref (ad 0)), (1, .int n)]) hx hb d_end_53 rfl hl (by decide) rfl (fun ls hl => ?_)
        refine lv_aload_n hx hb d_end_54 rfl (lv_at hl 1 rfl) ?_
        refine lv_aload_n hx hb d_end_55 rfl (lv_at hl 1 rfl) ?_
        refine va_get (D := D) (ci := 11) (v := .ref (ad 9)) (C := R_JT) (T := F_JT) (N := 13) hx hb hts i_JT hown hK hP 0 rfl rfl 8 (by decide) (hts _ kw_429) (fun _ h9 => h9) rfl d_end_56 ?_
        refine va_put (D := D) (ci := 11) (v := .ref (ad 9)) (ty := .object "JoinedTrees$Row") (C := R_JT) (T := F_JT) (N := 13) hx hb hts i_JT t_JT t_JT_ok n_JT hown hK hP hD hS 0 rfl rfl 9 (by decide) (hts _ kw_430) (fun _ h9 => h9) rfl (by decide +kernel) rfl rfl (Nat.le_of_ble_eq_true rfl) d_end_59 (fun H locs hP hD hS => ?_)
        have hP : va_P D cls [(ad 0, .inr (11, [.ref (ad 1), .ref (ad 2), .ref (ad 3), .ref (ad 60), .ref (ad 14), .ref (ad 17), .ref (ad 7), .int 0, .ref (ad 9), .ref (ad 9), .ref (ad 12), .int 0, .int (-1)])), (ad 9, .inr (5, [.ref (ad 10), .int x_4, .int 0])), (ad 11, .inr (5, [.ref (ad 63), .int 0, .int 0]))] H := hP
        have hD : va_D A [(ad 0, .inr (11, [.ref (ad 1), .ref (ad 2), .ref (ad 3), .ref (ad 60), .ref (ad 14), .ref (ad 17), .ref (ad 7), .int 0, .ref (ad 9), .ref (ad 9), .ref (ad 12), .int 0, .int (-1)])), (ad 9, .inr (5, [.ref (ad 10), .int x_4, .int 0])), (ad 11, .inr (5, [.ref (ad 63), .int 0, .int 0]))] := hD
        refine lv_aload_n hx hb d_end_62 rfl (lv_at hl 1 rfl) ?_
        refine lv_iconst (v := 1) hx hb d_end_63 (by decide) ?_
        refine va_put (D := D) (ci := 11) (v := .int 1) (ty := .int) (C := R_JT) (T := F_JT) (N := 13) hx hb hts i_JT t_JT t_JT_ok n_JT hown hK hP hD hS 0 rfl rfl 11 (by decide) (hts _ kw_432) (fun _ h9 => h9) rfl (by decide +kernel) rfl rfl (Nat.le_of_ble_eq_true rfl) d_end_64 (fun H locs hP hD hS => ?_)
        have hP : va_P D cls [(ad 0, .inr (11, [.ref (ad 1), .ref (ad 2), .ref (ad 3), .ref (ad 60), .ref (ad 14), .ref (ad 17), .ref (ad 7), .int 0, .ref (ad 9), .ref (ad 9), .ref (ad 12), .int 1, .int (-1)])), (ad 9, .inr (5, [.ref (ad 10), .int x_4, .int 0])), (ad 11, .inr (5, [.ref (ad 63), .int 0, .int 0]))] H := hP
        have hD : va_D A [(ad 0, .inr (11, [.ref (ad 1), .ref (ad 2), .ref (ad 3), .ref (ad 60), .ref (ad 14), .ref (ad 17), .ref (ad 7), .int 0, .ref (ad 9), .ref (ad 9), .ref (ad 12), .int 1, .int (-1)])), (ad 9, .inr (5, [.ref (ad 10), .int x_4, .int 0])), (ad 11, .inr (5, [.ref (ad 63), .int 0, .int 0]))] := hD
        refine lv_goto (tgt := 120) hx hb d_end_67 (by decide) ?_
        refine lv_aload_n hx hb d_end_120 rfl (lv_at hl 0 rfl) ?_
        have hPc := hP.sub (ws' := [(ad 11, .inr (5, [.ref (ad 63), .int 0, .int 0]))]) [2] rfl
        have hDc := hD.sub (ws' := [(ad 11, .inr (5, [.ref (ad 63), .int 0, .int 0]))]) [2] (by decide) rfl
        have hKc := hK.sub (tys' := []) [] rfl
        have hFc := va_free (wc := [(ad 11, .inr (5, [.ref (ad 63), .int 0, .int 0]))]) hD hS hA [2] rfl
        refine va_callv (va_runV (As := []) (rest := []) ⟨hx, hb, hml, hown, hts⟩ (g_clear l D H.size (ad 11) (ad 63) 0 0) (cw_v 0 hts kw_576 kw_573 kw_574 kw_575 kw_4 rfl rfl (by decide +kernel) ⟨Nat.le_of_ble_eq_true rfl, Nat.le_of_ble_eq_true rfl⟩) ⟨g_blind, va_recv hKc hPc (ci := 5) (q0 := 0) rfl rfl, fun U hU hW => g_pre hU hW hPc hKc hDc⟩ rfl rfl hl.1 rfl (lv_room (Nat.le_of_ble_eq_true rfl)) d_end_121 ⟨Nat.le_of_ble_eq_true rfl, Nat.le_of_ble_eq_true rfl⟩) hS (fun q _ h => hFc q h) hFc (fun u_6 t H1 locs ht hvm hw hB hz1 hk1 hS => ?_)
        obtain ⟨⟩ := u_6
        obtain ⟨hP1, hK1, hD1⟩ := hB
        rw [ht] at hP1
        have hK1 := va_K.moved hvm.symm hK1
        obtain ⟨hP, hD⟩ := va_join (wr := [(ad 0, .inr (11, [.ref (ad 1), .ref (ad 2), .ref (ad 3), .ref (ad 60), .ref (ad 14), .ref (ad 17), .ref (ad 7), .int 0, .ref (ad 9), .ref (ad 9), .ref (ad 12), .int 1, .int (-1)])), (ad 9, .inr (5, [.ref (ad 10), .int x_4, .int 0]))]) (w1 := [(ad 11, .inr (5, [.ref (ad 63), .int 0, .int 0]))]) hP hD [2] [0, 1] rfl rfl (by decide) (by decide) hk1 hFc hP1 hD1
        generalize H1 = H at hP hS ⊢
        have hP : va_P D cls [(ad 0, .inr (11, [.ref (ad 1), .ref (ad 2), .ref (ad 3), .ref (ad 60), .ref (ad 14), .ref (ad 17), .ref (ad 7), .int 0, .ref (ad 9), .ref (ad 9), .ref (ad 12), .int 1, .int (-1)])), (ad 9, .inr (5, [.ref (ad 10), .int x_4, .int 0])), (ad 11, .inr (5, [.ref (ad 63), .int 0, .int 0]))] H := hP
        have hD : va_D A [(ad 0, .inr (11, [.ref (ad 1), .ref (ad 2), .ref (ad 3), .ref (ad 60), .ref (ad 14), .ref (ad 17), .ref (ad 7), .int 0, .ref (ad 9), .ref (ad 9), .ref (ad 12), .int 1, .int (-1)])), (ad 9, .inr (5, [.ref (ad 10), .int x_4, .int 0])), (ad 11, .inr (5, [.ref (ad 63), .int 0, .int 0]))] := hD
        refine W.cs (cells' := 0) (slots' := 0) rfl rfl ?_
        refine lv_aload_n hx hb d_end_124 rfl (lv_at hl 1 rfl) ?_
        refine lv_aload_n hx hb d_end_125 rfl (lv_at hl 0 rfl) ?_
        refine va_put (D := D) (ci := 11) (v := .ref (ad 11)) (ty := .object "JoinedTrees$Row") (C := R_JT) (T := F_JT) (N := 13) hx hb hts i_JT t_JT t_JT_ok n_JT hown hK hP hD hS 0 rfl rfl 8 (by decide) (hts _ kw_429) (fun _ h9 => h9) rfl (by decide +kernel) rfl rfl (Nat.le_of_ble_eq_true rfl) d_end_126 (fun H locs hP hD hS => ?_)
        have hP : va_P D cls [(ad 0, .inr (11, [.ref (ad 1), .ref (ad 2), .ref (ad 3), .ref (ad 60), .ref (ad 14), .ref (ad 17), .ref (ad 7), .int 0, .ref (ad 11), .ref (ad 9), .ref (ad 12), .int 1, .int (-1)])), (ad 9, .inr (5, [.ref (ad 10), .int x_4, .int 0])), (ad 11, .inr (5, [.ref (ad 63), .int 0, .int 0]))] H := hP
        have hD : va_D A [(ad 0, .inr (11, [.ref (ad 1), .ref (ad 2), .ref (ad 3), .ref (ad 60), .ref (ad 14), .ref (ad 17), .ref (ad 7), .int 0, .ref (ad 11), .ref (ad 9), .ref (ad 12), .int 1, .int (-1)])), (ad 9, .inr (5, [.ref (ad 10), .int x_4, .int 0])), (ad 11, .inr (5, [.ref (ad 63), .int 0, .int 0]))] := hD
        refine lv_aload_n hx hb d_end_129 rfl (lv_at hl 1 rfl) ?_
        refine va_get (D := D) (ci := 11) (v := .int 1) (C := R_JT) (T := F_JT) (N := 13) hx hb hts i_JT hown hK hP 0 rfl rfl 11 (by decide) (hts _ kw_432) (fun _ h9 => h9) rfl d_end_130 ?_
        exact W.iret (v := 1) hx hb hr (fun t ht hW => ⟨⟨1, (), rfl, rfl, trivial⟩, hS.F ht⟩) hS.2.2 d_end_133
      · first | exact absurd hq (by simp [k_end, c_1, c_2, c_3]) | (exfalso; simp_all [k_end])
