/-! FEED, END, TEXT, SAVE ON A FRESH OBJECT. Printed by wip/gen/fx4.py -/
theorem in_nge {a v : Int32} {N : Nat} (h : vp_in a N) (hv : v.toInt = N) : ¬ v ≤ a := by
  intro q
  have := Int32.le_iff_toInt_le.mp q
  have := (vp_in_iff.mp h).2
  omega
theorem d_rclear_0 : decode prog_7_method_2_code 0 = .ok (.aload_n 0, 1) := by decide +kernel
theorem d_rclear_1 : decode prog_7_method_2_code 1 = .ok (.iconst 0, 1) := by decide +kernel
theorem d_rclear_2 : decode prog_7_method_2_code 2 = .ok (.putfield 13, 3) := by decide +kernel
theorem d_rclear_5 : decode prog_7_method_2_code 5 = .ok (.aload_n 0, 1) := by decide +kernel
theorem d_rclear_6 : decode prog_7_method_2_code 6 = .ok (.iconst 0, 1) := by decide +kernel
theorem d_rclear_7 : decode prog_7_method_2_code 7 = .ok (.putfield 17, 3) := by decide +kernel
theorem d_rclear_10 : decode prog_7_method_2_code 10 = .ok (.return_, 1) := by decide +kernel
set_option maxHeartbeats 4000000 in
set_option maxRecDepth 100000 in
theorem g_clear (l : Launch) (D : va_G) (sz : Nat) (h0 b0 : Nat) (a sp : Int32) : Met l ⟨"JoinedTrees$Row", "clear", "()V"⟩ (Cond.code ⟨"JoinedTrees$Row", "clear", "()V"⟩ prog_7_method_2_code 1 none :: gb) ({ frames := 0, cells := 0, slots := 0, locals := 0 }) (gPc D [(h0, .inr (5, [.ref b0, .int a, .int sp]))] [] sz [.ref h0]) (va_Qv (fun u : Unit => True) (fun u t => gO D [(h0, .inr (5, [.ref b0, .int 0, .int 0]))] [] (va_A [(h0, .inr (5, [.ref b0, .int a, .int sp]))] sz) t) (va_A [(h0, .inr (5, [.ref b0, .int a, .int sp]))] sz)) 0 0 (va_A [(h0, .inr (5, [.ref b0, .int a, .int sp]))] sz) := by
  refine Met.ofW (cc := prog_7_method_2_code) (maxL := 1) (ret := none) (by decide) rfl ?_
  intro p e s m args below meth c s₁ B hml hv
  obtain ⟨rfl, hsz, hP, hK, hD0⟩ := hv
  have hx := B.exec
  have hb := B.bytes
  have hr := B.returns
  have hts : ∀ w9 ∈ gb, w9.before [.ref h0].toArray s = true := fun w9 h => atoms_spec (ws := Cond.code ⟨"JoinedTrees$Row", "clear", "()V"⟩ prog_7_method_2_code 1 none :: gb) B.pre w9 (List.mem_cons_of_mem _ h)
  have hown : s.vm.findClass "JoinedTrees$Row" = some m.cls := findClass_of_methodNamed B.named
  have hlocks := B.notSynchronized
  subst hsz
  have hD := hD0.self (sz := s.heap.size)
  generalize hAe : va_A [(h0, .inr (5, [.ref b0, .int a, .int sp]))] s.heap.size = A at hD ⊢
  have hA : ∀ q : Nat, s.heap.size ≤ q → A q := fun q h => by rw [← hAe]; exact Or.inr h
  have hS : va_S A s.heap s.heap [] := va_S.rf
  have hP : va_P D cls [(h0, .inr (5, [.ref b0, .int a, .int sp]))] s.heap := hP
  have hl := lv_entry ([.ref h0]) (n := 1) (Nat.le_of_ble_eq_true rfl)
  rw [lg_entry_eq]
  generalize (lg_sl ([.ref h0]) ++ List.replicate (1 - (lg_sl ([.ref h0])).length) Slot.unset).toArray = ls at hl ⊢
  have hl : lv_has ls 1 [(0, .ref h0)] := hl
  refine lv_aload_n hx hb d_rclear_0 rfl (lv_at hl 0 rfl) ?_
  refine lv_iconst (v := 0) hx hb d_rclear_1 (by decide) ?_
  refine va_put (D := D) (ci := 5) (v := .int 0) (ty := .int) (C := R_Rw) (T := F_Rw) (N := 3) hx hb hts i_Rw t_Rw t_Rw_ok n_Rw hown hK hP hD hS 0 rfl rfl 1 (by decide) (hts _ kw_142) (fun _ h9 => h9) rfl (by decide +kernel) rfl rfl (Nat.le_of_ble_eq_true rfl) d_rclear_2 (fun H locs hP hD hS => ?_)
  have hP : va_P D cls [(h0, .inr (5, [.ref b0, .int 0, .int sp]))] H := hP
  have hD : va_D A [(h0, .inr (5, [.ref b0, .int 0, .int sp]))] := hD
  refine lv_aload_n hx hb d_rclear_5 rfl (lv_at hl 0 rfl) ?_
  refine lv_iconst (v := 0) hx hb d_rclear_6 (by decide) ?_
  refine va_put (D := D) (ci := 5) (v := .int 0) (ty := .boolean) (C := R_Rw) (T := F_Rw) (N := 3) hx hb hts i_Rw t_Rw t_Rw_ok n_Rw hown hK hP hD hS 0 rfl rfl 2 (by decide) (hts _ kw_148) (fun _ h9 => h9) rfl (by decide +kernel) (by decide) (by decide) (Nat.le_of_ble_eq_true rfl) d_rclear_7 (fun H locs hP hD hS => ?_)
  have hP : va_P D cls [(h0, .inr (5, [.ref b0, .int 0, .int 0]))] H := hP
  have hD : va_D A [(h0, .inr (5, [.ref b0, .int 0, .int 0]))] := hD
  exact W.vret hx hb hr (fun t ht hW => ⟨⟨(), rfl, trivial, by rw [ht]; exact hP, va_K.moved hW.alike hK, hD⟩, hS.F ht⟩) hS.2.2 d_rclear_10
theorem d_rwr_0 : decode prog_7_method_3_code 0 = .ok (.aload_n 0, 1) := by decide +kernel
theorem d_rwr_1 : decode prog_7_method_3_code 1 = .ok (.getfield 13, 3) := by decide +kernel
theorem d_rwr_4 : decode prog_7_method_3_code 4 = .ok (.aload_n 0, 1) := by decide +kernel
theorem d_rwr_5 : decode prog_7_method_3_code 5 = .ok (.getfield 7, 3) := by decide +kernel
theorem d_rwr_8 : decode prog_7_method_3_code 8 = .ok (.arraylength, 1) := by decide +kernel
theorem d_rwr_9 : decode prog_7_method_3_code 9 = .ok (.if_icmp .ge 27, 3) := by decide +kernel
theorem d_rwr_12 : decode prog_7_method_3_code 12 = .ok (.aload_n 0, 1) := by decide +kernel
theorem d_rwr_13 : decode prog_7_method_3_code 13 = .ok (.getfield 7, 3) := by decide +kernel
theorem d_rwr_16 : decode prog_7_method_3_code 16 = .ok (.aload_n 0, 1) := by decide +kernel
theorem d_rwr_17 : decode prog_7_method_3_code 17 = .ok (.getfield 13, 3) := by decide +kernel
theorem d_rwr_20 : decode prog_7_method_3_code 20 = .ok (.iload_n 1, 1) := by decide +kernel
theorem d_rwr_21 : decode prog_7_method_3_code 21 = .ok (.i2b, 1) := by decide +kernel
theorem d_rwr_22 : decode prog_7_method_3_code 22 = .ok (.bastore, 1) := by decide +kernel
theorem d_rwr_23 : decode prog_7_method_3_code 23 = .ok (.aload_n 0, 1) := by decide +kernel
theorem d_rwr_24 : decode prog_7_method_3_code 24 = .ok (.dup, 1) := by decide +kernel
theorem d_rwr_25 : decode prog_7_method_3_code 25 = .ok (.getfield 13, 3) := by decide +kernel
theorem d_rwr_28 : decode prog_7_method_3_code 28 = .ok (.iconst 1, 1) := by decide +kernel
theorem d_rwr_29 : decode prog_7_method_3_code 29 = .ok (.iadd, 1) := by decide +kernel
theorem d_rwr_30 : decode prog_7_method_3_code 30 = .ok (.putfield 13, 3) := by decide +kernel
theorem d_rwr_33 : decode prog_7_method_3_code 33 = .ok (.goto 8, 3) := by decide +kernel
theorem d_rwr_41 : decode prog_7_method_3_code 41 = .ok (.return_, 1) := by decide +kernel
set_option maxHeartbeats 4000000 in
set_option maxRecDepth 100000 in
theorem g_wr8192 (l : Launch) (D : va_G) (sz : Nat) (h0 b0 : Nat) (k0 : ClassId) (a x : Int32) (f : Nat → Int32) (h1 : vp_in a 8192) : Met l ⟨"JoinedTrees$Row", "write", "(I)V"⟩ (Cond.code ⟨"JoinedTrees$Row", "write", "(I)V"⟩ prog_7_method_3_code 2 none :: gb) ({ frames := 0, cells := 0, slots := 0, locals := 0 }) (gPc D [(h0, .inr (5, [.ref b0, .int a, .int 0])), (b0, .inl (k0, 8192, .inl f))] [(k0, .byte)] sz [.ref h0, .int x]) (va_Qv (fun u : Nat → Int32 => True) (fun u t => gO D [(h0, .inr (5, [.ref b0, .int (a + 1), .int 0])), (b0, .inl (k0, 8192, .inl u))] [(k0, .byte)] (va_A [(h0, .inr (5, [.ref b0, .int a, .int 0])), (b0, .inl (k0, 8192, .inl f))] sz) t) (va_A [(h0, .inr (5, [.ref b0, .int a, .int 0])), (b0, .inl (k0, 8192, .inl f))] sz)) 0 0 (va_A [(h0, .inr (5, [.ref b0, .int a, .int 0])), (b0, .inl (k0, 8192, .inl f))] sz) := by
  refine Met.ofW (cc := prog_7_method_3_code) (maxL := 2) (ret := none) (by decide) rfl ?_
  intro p e s m args below meth c s₁ B hml hv
  obtain ⟨rfl, hsz, hP, hK, hD0⟩ := hv
  have hx := B.exec
  have hb := B.bytes
  have hr := B.returns
  have hts : ∀ w9 ∈ gb, w9.before [.ref h0, .int x].toArray s = true := fun w9 h => atoms_spec (ws := Cond.code ⟨"JoinedTrees$Row", "write", "(I)V"⟩ prog_7_method_3_code 2 none :: gb) B.pre w9 (List.mem_cons_of_mem _ h)
  have hown : s.vm.findClass "JoinedTrees$Row" = some m.cls := findClass_of_methodNamed B.named
  have hlocks := B.notSynchronized
  subst hsz
  have hD := hD0.self (sz := s.heap.size)
  generalize hAe : va_A [(h0, .inr (5, [.ref b0, .int a, .int 0])), (b0, .inl (k0, 8192, .inl f))] s.heap.size = A at hD ⊢
  have hA : ∀ q : Nat, s.heap.size ≤ q → A q := fun q h => by rw [← hAe]; exact Or.inr h
  have hS : va_S A s.heap s.heap [] := va_S.rf
  have hP : va_P D cls [(h0, .inr (5, [.ref b0, .int a, .int 0])), (b0, .inl (k0, 8192, .inl f))] s.heap := hP
  have hl := lv_entry ([.ref h0, .int x]) (n := 2) (Nat.le_of_ble_eq_true rfl)
  rw [lg_entry_eq]
  generalize (lg_sl ([.ref h0, .int x]) ++ List.replicate (2 - (lg_sl ([.ref h0, .int x])).length) Slot.unset).toArray = ls at hl ⊢
  have hl : lv_has ls 2 [(0, .ref h0), (1, .int x)] := hl
  refine lv_aload_n hx hb d_rwr_0 rfl (lv_at hl 0 rfl) ?_
  refine va_get (D := D) (ci := 5) (v := .int a) (C := R_Rw) (T := F_Rw) (N := 3) hx hb hts i_Rw hown hK hP 0 rfl rfl 1 (by decide) (hts _ kw_142) (fun _ h9 => h9) rfl d_rwr_1 ?_
  refine lv_aload_n hx hb d_rwr_4 rfl (lv_at hl 0 rfl) ?_
  refine va_get (D := D) (ci := 5) (v := .ref b0) (C := R_Rw) (T := F_Rw) (N := 3) hx hb hts i_Rw hown hK hP 0 rfl rfl 0 (by decide) (hts _ kw_140) (fun _ h9 => h9) rfl d_rwr_5 ?_
  refine va_alen (v := 8192) hx hb hK hP 1 0 rfl rfl rfl d_rwr_8 ?_
  refine lv_icmp_ge (tgt := 36) hx hb d_rwr_9 (by decide) (fun h => absurd h (in_nge h1 rfl)) (fun _ => ?_)
  refine lv_aload_n hx hb d_rwr_12 rfl (lv_at hl 0 rfl) ?_
  refine va_get (D := D) (ci := 5) (v := .ref b0) (C := R_Rw) (T := F_Rw) (N := 3) hx hb hts i_Rw hown hK hP 0 rfl rfl 0 (by decide) (hts _ kw_140) (fun _ h9 => h9) rfl d_rwr_13 ?_
  refine lv_aload_n hx hb d_rwr_16 rfl (lv_at hl 0 rfl) ?_
  refine va_get (D := D) (ci := 5) (v := .int a) (C := R_Rw) (T := F_Rw) (N := 3) hx hb hts i_Rw hown hK hP 0 rfl rfl 1 (by decide) (hts _ kw_142) (fun _ h9 => h9) rfl d_rwr_17 ?_
  refine lv_iload_n hx hb d_rwr_20 rfl (lv_at hl 1 rfl) ?_
  refine lv_i2b hx hb d_rwr_21 rfl ?_
  refine lv_topi (fun x_1 ex_1 => ?_)
  refine va_bast hx hb hK hP hD hS 1 0 rfl rfl (i := a) (x := x_1) h1 d_rwr_22 (fun H locs hP hD hS => ?_)
  have hP : va_P D cls [(h0, .inr (5, [.ref b0, .int a, .int 0])), (b0, .inl (k0, 8192, .inl (upd f a.toNatClampNeg (vp_nar .byte x_1))))] H := hP
  have hD : va_D A [(h0, .inr (5, [.ref b0, .int a, .int 0])), (b0, .inl (k0, 8192, .inl (upd f a.toNatClampNeg (vp_nar .byte x_1))))] := hD
  refine lv_aload_n hx hb d_rwr_23 rfl (lv_at hl 0 rfl) ?_
  refine lv_dup hx hb d_rwr_24 rfl ?_
  refine va_get (D := D) (ci := 5) (v := .int a) (C := R_Rw) (T := F_Rw) (N := 3) hx hb hts i_Rw hown hK hP 0 rfl rfl 1 (by decide) (hts _ kw_142) (fun _ h9 => h9) rfl d_rwr_25 ?_
  refine lv_iconst (v := 1) hx hb d_rwr_28 (by decide) ?_
  refine lv_iadd hx hb d_rwr_29 ?_
  refine lv_topi (fun x_2 ex_2 => ?_)
  refine va_put (D := D) (ci := 5) (v := .int x_2) (ty := .int) (C := R_Rw) (T := F_Rw) (N := 3) hx hb hts i_Rw t_Rw t_Rw_ok n_Rw hown hK hP hD hS 0 rfl rfl 1 (by decide) (hts _ kw_142) (fun _ h9 => h9) rfl (by decide +kernel) rfl rfl (Nat.le_of_ble_eq_true rfl) d_rwr_30 (fun H locs hP hD hS => ?_)
  have hP : va_P D cls [(h0, .inr (5, [.ref b0, .int x_2, .int 0])), (b0, .inl (k0, 8192, .inl (upd f a.toNatClampNeg (vp_nar .byte x_1))))] H := hP
  have hD : va_D A [(h0, .inr (5, [.ref b0, .int x_2, .int 0])), (b0, .inl (k0, 8192, .inl (upd f a.toNatClampNeg (vp_nar .byte x_1))))] := hD
  refine lv_goto (tgt := 41) hx hb d_rwr_33 (by decide) ?_
  subst ex_2
  exact W.vret hx hb hr (fun t ht hW => ⟨⟨(upd f a.toNatClampNeg (vp_nar .byte x_1)), rfl, trivial, by rw [ht]; exact hP, va_K.moved hW.alike hK, hD⟩, hS.F ht⟩) hS.2.2 d_rwr_41
set_option maxHeartbeats 4000000 in
set_option maxRecDepth 100000 in
theorem g_wr16384 (l : Launch) (D : va_G) (sz : Nat) (h0 b0 : Nat) (k0 : ClassId) (a x : Int32) (f : Nat → Int32) (h1 : vp_in a 16384) : Met l ⟨"JoinedTrees$Row", "write", "(I)V"⟩ (Cond.code ⟨"JoinedTrees$Row", "write", "(I)V"⟩ prog_7_method_3_code 2 none :: gb) ({ frames := 0, cells := 0, slots := 0, locals := 0 }) (gPc D [(h0, .inr (5, [.ref b0, .int a, .int 0])), (b0, .inl (k0, 16384, .inl f))] [(k0, .byte)] sz [.ref h0, .int x]) (va_Qv (fun u : Nat → Int32 => True) (fun u t => gO D [(h0, .inr (5, [.ref b0, .int (a + 1), .int 0])), (b0, .inl (k0, 16384, .inl u))] [(k0, .byte)] (va_A [(h0, .inr (5, [.ref b0, .int a, .int 0])), (b0, .inl (k0, 16384, .inl f))] sz) t) (va_A [(h0, .inr (5, [.ref b0, .int a, .int 0])), (b0, .inl (k0, 16384, .inl f))] sz)) 0 0 (va_A [(h0, .inr (5, [.ref b0, .int a, .int 0])), (b0, .inl (k0, 16384, .inl f))] sz) := by
  refine Met.ofW (cc := prog_7_method_3_code) (maxL := 2) (ret := none) (by decide) rfl ?_
  intro p e s m args below meth c s₁ B hml hv
  obtain ⟨rfl, hsz, hP, hK, hD0⟩ := hv
  have hx := B.exec
  have hb := B.bytes
  have hr := B.returns
  have hts : ∀ w9 ∈ gb, w9.before [.ref h0, .int x].toArray s = true := fun w9 h => atoms_spec (ws := Cond.code ⟨"JoinedTrees$Row", "write", "(I)V"⟩ prog_7_method_3_code 2 none :: gb) B.pre w9 (List.mem_cons_of_mem _ h)
  have hown : s.vm.findClass "JoinedTrees$Row" = some m.cls := findClass_of_methodNamed B.named
  have hlocks := B.notSynchronized
  subst hsz
  have hD := hD0.self (sz := s.heap.size)
  generalize hAe : va_A [(h0, .inr (5, [.ref b0, .int a, .int 0])), (b0, .inl (k0, 16384, .inl f))] s.heap.size = A at hD ⊢
  have hA : ∀ q : Nat, s.heap.size ≤ q → A q := fun q h => by rw [← hAe]; exact Or.inr h
  have hS : va_S A s.heap s.heap [] := va_S.rf
  have hP : va_P D cls [(h0, .inr (5, [.ref b0, .int a, .int 0])), (b0, .inl (k0, 16384, .inl f))] s.heap := hP
  have hl := lv_entry ([.ref h0, .int x]) (n := 2) (Nat.le_of_ble_eq_true rfl)
  rw [lg_entry_eq]
  generalize (lg_sl ([.ref h0, .int x]) ++ List.replicate (2 - (lg_sl ([.ref h0, .int x])).length) Slot.unset).toArray = ls at hl ⊢
  have hl : lv_has ls 2 [(0, .ref h0), (1, .int x)] := hl
  refine lv_aload_n hx hb d_rwr_0 rfl (lv_at hl 0 rfl) ?_
  refine va_get (D := D) (ci := 5) (v := .int a) (C := R_Rw) (T := F_Rw) (N := 3) hx hb hts i_Rw hown hK hP 0 rfl rfl 1 (by decide) (hts _ kw_142) (fun _ h9 => h9) rfl d_rwr_1 ?_
  refine lv_aload_n hx hb d_rwr_4 rfl (lv_at hl 0 rfl) ?_
  refine va_get (D := D) (ci := 5) (v := .ref b0) (C := R_Rw) (T := F_Rw) (N := 3) hx hb hts i_Rw hown hK hP 0 rfl rfl 0 (by decide) (hts _ kw_140) (fun _ h9 => h9) rfl d_rwr_5 ?_
  refine va_alen (v := 16384) hx hb hK hP 1 0 rfl rfl rfl d_rwr_8 ?_
  refine lv_icmp_ge (tgt := 36) hx hb d_rwr_9 (by decide) (fun h => absurd h (in_nge h1 rfl)) (fun _ => ?_)
  refine lv_aload_n hx hb d_rwr_12 rfl (lv_at hl 0 rfl) ?_
  refine va_get (D := D) (ci := 5) (v := .ref b0) (C := R_Rw) (T := F_Rw) (N := 3) hx hb hts i_Rw hown hK hP 0 rfl rfl 0 (by decide) (hts _ kw_140) (fun _ h9 => h9) rfl d_rwr_13 ?_
  refine lv_aload_n hx hb d_rwr_16 rfl (lv_at hl 0 rfl) ?_
  refine va_get (D := D) (ci := 5) (v := .int a) (C := R_Rw) (T := F_Rw) (N := 3) hx hb hts i_Rw hown hK hP 0 rfl rfl 1 (by decide) (hts _ kw_142) (fun _ h9 => h9) rfl d_rwr_17 ?_
  refine lv_iload_n hx hb d_rwr_20 rfl (lv_at hl 1 rfl) ?_
  refine lv_i2b hx hb d_rwr_21 rfl ?_
  refine lv_topi (fun x_1 ex_1 => ?_)
  refine va_bast hx hb hK hP hD hS 1 0 rfl rfl (i := a) (x := x_1) h1 d_rwr_22 (fun H locs hP hD hS => ?_)
  have hP : va_P D cls [(h0, .inr (5, [.ref b0, .int a, .int 0])), (b0, .inl (k0, 16384, .inl (upd f a.toNatClampNeg (vp_nar .byte x_1))))] H := hP
  have hD : va_D A [(h0, .inr (5, [.ref b0, .int a, .int 0])), (b0, .inl (k0, 16384, .inl (upd f a.toNatClampNeg (vp_nar .byte x_1))))] := hD
  refine lv_aload_n hx hb d_rwr_23 rfl (lv_at hl 0 rfl) ?_
  refine lv_dup hx hb d_rwr_24 rfl ?_
  refine va_get (D := D) (ci := 5) (v := .int a) (C := R_Rw) (T := F_Rw) (N := 3) hx hb hts i_Rw hown hK hP 0 rfl rfl 1 (by decide) (hts _ kw_142) (fun _ h9 => h9) rfl d_rwr_25 ?_
  refine lv_iconst (v := 1) hx hb d_rwr_28 (by decide) ?_
  refine lv_iadd hx hb d_rwr_29 ?_
  refine lv_topi (fun x_2 ex_2 => ?_)
  refine va_put (D := D) (ci := 5) (v := .int x_2) (ty := .int) (C := R_Rw) (T := F_Rw) (N := 3) hx hb hts i_Rw t_Rw t_Rw_ok n_Rw hown hK hP hD hS 0 rfl rfl 1 (by decide) (hts _ kw_142) (fun _ h9 => h9) rfl (by decide +kernel) rfl rfl (Nat.le_of_ble_eq_true rfl) d_rwr_30 (fun H locs hP hD hS => ?_)
  have hP : va_P D cls [(h0, .inr (5, [.ref b0, .int x_2, .int 0])), (b0, .inl (k0, 16384, .inl (upd f a.toNatClampNeg (vp_nar .byte x_1))))] H := hP
  have hD : va_D A [(h0, .inr (5, [.ref b0, .int x_2, .int 0])), (b0, .inl (k0, 16384, .inl (upd f a.toNatClampNeg (vp_nar .byte x_1))))] := hD
  refine lv_goto (tgt := 41) hx hb d_rwr_33 (by decide) ?_
  subst ex_2
  exact W.vret hx hb hr (fun t ht hW => ⟨⟨(upd f a.toNatClampNeg (vp_nar .byte x_1)), rfl, trivial, by rw [ht]; exact hP, va_K.moved hW.alike hK, hD⟩, hS.F ht⟩) hS.2.2 d_rwr_41
set_option maxHeartbeats 4000000 in
set_option maxRecDepth 100000 in
theorem g_wr224582 (l : Launch) (D : va_G) (sz : Nat) (h0 b0 : Nat) (k0 : ClassId) (a x : Int32) (f : Nat → Int32) (h1 : vp_in a 224582) : Met l ⟨"JoinedTrees$Row", "write", "(I)V"⟩ (Cond.code ⟨"JoinedTrees$Row", "write", "(I)V"⟩ prog_7_method_3_code 2 none :: gb) ({ frames := 0, cells := 0, slots := 0, locals := 0 }) (gPc D [(h0, .inr (5, [.ref b0, .int a, .int 0])), (b0, .inl (k0, 224582, .inl f))] [(k0, .byte)] sz [.ref h0, .int x]) (va_Qv (fun u : Nat → Int32 => True) (fun u t => gO D [(h0, .inr (5, [.ref b0, .int (a + 1), .int 0])), (b0, .inl (k0, 224582, .inl u))] [(k0, .byte)] (va_A [(h0, .inr (5, [.ref b0, .int a, .int 0])), (b0, .inl (k0, 224582, .inl f))] sz) t) (va_A [(h0, .inr (5, [.ref b0, .int a, .int 0])), (b0, .inl (k0, 224582, .inl f))] sz)) 0 0 (va_A [(h0, .inr (5, [.ref b0, .int a, .int 0])), (b0, .inl (k0, 224582, .inl f))] sz) := by
  refine Met.ofW (cc := prog_7_method_3_code) (maxL := 2) (ret := none) (by decide) rfl ?_
  intro p e s m args below meth c s₁ B hml hv
  obtain ⟨rfl, hsz, hP, hK, hD0⟩ := hv
  have hx := B.exec
  have hb := B.bytes
  have hr := B.returns
  have hts : ∀ w9 ∈ gb, w9.before [.ref h0, .int x].toArray s = true := fun w9 h => atoms_spec (ws := Cond.code ⟨"JoinedTrees$Row", "write", "(I)V"⟩ prog_7_method_3_code 2 none :: gb) B.pre w9 (List.mem_cons_of_mem _ h)
  have hown : s.vm.findClass "JoinedTrees$Row" = some m.cls := findClass_of_methodNamed B.named
  have hlocks := B.notSynchronized
  subst hsz
  have hD := hD0.self (sz := s.heap.size)
  generalize hAe : va_A [(h0, .inr (5, [.ref b0, .int a, .int 0])), (b0, .inl (k0, 224582, .inl f))] s.heap.size = A at hD ⊢
  have hA : ∀ q : Nat, s.heap.size ≤ q → A q := fun q h => by rw [← hAe]; exact Or.inr h
  have hS : va_S A s.heap s.heap [] := va_S.rf
  have hP : va_P D cls [(h0, .inr (5, [.ref b0, .int a, .int 0])), (b0, .inl (k0, 224582, .inl f))] s.heap := hP
  have hl := lv_entry ([.ref h0, .int x]) (n := 2) (Nat.le_of_ble_eq_true rfl)
  rw [lg_entry_eq]
  generalize (lg_sl ([.ref h0, .int x]) ++ List.replicate (2 - (lg_sl ([.ref h0, .int x])).length) Slot.unset).toArray = ls at hl ⊢
  have hl : lv_has ls 2 [(0, .ref h0), (1, .int x)] := hl
  refine lv_aload_n hx hb d_rwr_0 rfl (lv_at hl 0 rfl) ?_
  refine va_get (D := D) (ci := 5) (v := .int a) (C := R_Rw) (T := F_Rw) (N := 3) hx hb hts i_Rw hown hK hP 0 rfl rfl 1 (by decide) (hts _ kw_142) (fun _ h9 => h9) rfl d_rwr_1 ?_
  refine lv_aload_n hx hb d_rwr_4 rfl (lv_at hl 0 rfl) ?_
  refine va_get (D := D) (ci := 5) (v := .ref b0) (C := R_Rw) (T := F_Rw) (N := 3) hx hb hts i_Rw hown hK hP 0 rfl rfl 0 (by decide) (hts _ kw_140) (fun _ h9 => h9) rfl d_rwr_5 ?_
  refine va_alen (v := 224582) hx hb hK hP 1 0 rfl rfl rfl d_rwr_8 ?_
  refine lv_icmp_ge (tgt := 36) hx hb d_rwr_9 (by decide) (fun h => absurd h (in_nge h1 rfl)) (fun _ => ?_)
  refine lv_aload_n hx hb d_rwr_12 rfl (lv_at hl 0 rfl) ?_
  refine va_get (D := D) (ci := 5) (v := .ref b0) (C := R_Rw) (T := F_Rw) (N := 3) hx hb hts i_Rw hown hK hP 0 rfl rfl 0 (by decide) (hts _ kw_140) (fun _ h9 => h9) rfl d_rwr_13 ?_
  refine lv_aload_n hx hb d_rwr_16 rfl (lv_at hl 0 rfl) ?_
  refine va_get (D := D) (ci := 5) (v := .int a) (C := R_Rw) (T := F_Rw) (N := 3) hx hb hts i_Rw hown hK hP 0 rfl rfl 1 (by decide) (hts _ kw_142) (fun _ h9 => h9) rfl d_rwr_17 ?_
  refine lv_iload_n hx hb d_rwr_20 rfl (lv_at hl 1 rfl) ?_
  refine lv_i2b hx hb d_rwr_21 rfl ?_
  refine lv_topi (fun x_1 ex_1 => ?_)
  refine va_bast hx hb hK hP hD hS 1 0 rfl rfl (i := a) (x := x_1) h1 d_rwr_22 (fun H locs hP hD hS => ?_)
  have hP : va_P D cls [(h0, .inr (5, [.ref b0, .int a, .int 0])), (b0, .inl (k0, 224582, .inl (upd f a.toNatClampNeg (vp_nar .byte x_1))))] H := hP
  have hD : va_D A [(h0, .inr (5, [.ref b0, .int a, .int 0])), (b0, .inl (k0, 224582, .inl (upd f a.toNatClampNeg (vp_nar .byte x_1))))] := hD
  refine lv_aload_n hx hb d_rwr_23 rfl (lv_at hl 0 rfl) ?_
  refine lv_dup hx hb d_rwr_24 rfl ?_
  refine va_get (D := D) (ci := 5) (v := .int a) (C := R_Rw) (T := F_Rw) (N := 3) hx hb hts i_Rw hown hK hP 0 rfl rfl 1 (by decide) (hts _ kw_142) (fun _ h9 => h9) rfl d_rwr_25 ?_
  refine lv_iconst (v := 1) hx hb d_rwr_28 (by decide) ?_
  refine lv_iadd hx hb d_rwr_29 ?_
  refine lv_topi (fun x_2 ex_2 => ?_)
  refine va_put (D := D) (ci := 5) (v := .int x_2) (ty := .int) (C := R_Rw) (T := F_Rw) (N := 3) hx hb hts i_Rw t_Rw t_Rw_ok n_Rw hown hK hP hD hS 0 rfl rfl 1 (by decide) (hts _ kw_142) (fun _ h9 => h9) rfl (by decide +kernel) rfl rfl (Nat.le_of_ble_eq_true rfl) d_rwr_30 (fun H locs hP hD hS => ?_)
  have hP : va_P D cls [(h0, .inr (5, [.ref b0, .int x_2, .int 0])), (b0, .inl (k0, 224582, .inl (upd f a.toNatClampNeg (vp_nar .byte x_1))))] H := hP
  have hD : va_D A [(h0, .inr (5, [.ref b0, .int x_2, .int 0])), (b0, .inl (k0, 224582, .inl (upd f a.toNatClampNeg (vp_nar .byte x_1))))] := hD
  refine lv_goto (tgt := 41) hx hb d_rwr_33 (by decide) ?_
  subst ex_2
  exact W.vret hx hb hr (fun t ht hW => ⟨⟨(upd f a.toNatClampNeg (vp_nar .byte x_1)), rfl, trivial, by rw [ht]; exact hP, va_K.moved hW.alike hK, hD⟩, hS.F ht⟩) hS.2.2 d_rwr_41
theorem d_rwi_0 : decode prog_7_method_4_code 0 = .ok (.aload_n 0, 1) := by decide +kernel
theorem d_rwi_1 : decode prog_7_method_4_code 1 = .ok (.iload_n 1, 1) := by decide +kernel
theorem d_rwi_2 : decode prog_7_method_4_code 2 = .ok (.bipush 24, 2) := by decide +kernel
theorem d_rwi_4 : decode prog_7_method_4_code 4 = .ok (.iushr, 1) := by decide +kernel
theorem d_rwi_5 : decode prog_7_method_4_code 5 = .ok (.invokevirtual 21, 3) := by decide +kernel
theorem d_rwi_8 : decode prog_7_method_4_code 8 = .ok (.aload_n 0, 1) := by decide +kernel
theorem d_rwi_9 : decode prog_7_method_4_code 9 = .ok (.iload_n 1, 1) := by decide +kernel
theorem d_rwi_10 : decode prog_7_method_4_code 10 = .ok (.bipush 16, 2) := by decide +kernel
theorem d_rwi_12 : decode prog_7_method_4_code 12 = .ok (.iushr, 1) := by decide +kernel
theorem d_rwi_13 : decode prog_7_method_4_code 13 = .ok (.invokevirtual 21, 3) := by decide +kernel
theorem d_rwi_16 : decode prog_7_method_4_code 16 = .ok (.aload_n 0, 1) := by decide +kernel
theorem d_rwi_17 : decode prog_7_method_4_code 17 = .ok (.iload_n 1, 1) := by decide +kernel
theorem d_rwi_18 : decode prog_7_method_4_code 18 = .ok (.bipush 8, 2) := by decide +kernel
theorem d_rwi_20 : decode prog_7_method_4_code 20 = .ok (.iushr, 1) := by decide +kernel
theorem d_rwi_21 : decode prog_7_method_4_code 21 = .ok (.invokevirtual 21, 3) := by decide +kernel
theorem d_rwi_24 : decode prog_7_method_4_code 24 = .ok (.aload_n 0, 1) := by decide +kernel
theorem d_rwi_25 : decode prog_7_method_4_code 25 = .ok (.iload_n 1, 1) := by decide +kernel
theorem d_rwi_26 : decode prog_7_method_4_code 26 = .ok (.invokevirtual 21, 3) := by decide +kernel
theorem d_rwi_29 : decode prog_7_method_4_code 29 = .ok (.return_, 1) := by decide +kernel
set_option maxHeartbeats 4000000 in
set_option maxRecDepth 100000 in
theorem g_wi8192 (l : Launch) (D : va_G) (sz : Nat) (h0 b0 : Nat) (k0 : ClassId) (a x : Int32) (f : Nat → Int32) (h1 : vp_in (a) 8192) (h2 : vp_in (a + 1) 8192) (h3 : vp_in ((a + 1) + 1) 8192) (h4 : vp_in (((a + 1) + 1) + 1) 8192) : Met l ⟨"JoinedTrees$Row", "writeInt", "(I)V"⟩ (Cond.code ⟨"JoinedTrees$Row", "writeInt", "(I)V"⟩ prog_7_method_4_code 2 none :: gb) ({ frames := 1, cells := 0, slots := 0, locals := 21 }) (gPc D [(h0, .inr (5, [.ref b0, .int a, .int 0])), (b0, .inl (k0, 8192, .inl f))] [(k0, .byte)] sz [.ref h0, .int x]) (va_Qv (fun u : Nat → Int32 => True) (fun u t => gO D [(h0, .inr (5, [.ref b0, .int ((((a + 1) + 1) + 1) + 1), .int 0])), (b0, .inl (k0, 8192, .inl u))] [(k0, .byte)] (va_A [(h0, .inr (5, [.ref b0, .int a, .int 0])), (b0, .inl (k0, 8192, .inl f))] sz) t) (va_A [(h0, .inr (5, [.ref b0, .int a, .int 0])), (b0, .inl (k0, 8192, .inl f))] sz)) 0 0 (va_A [(h0, .inr (5, [.ref b0, .int a, .int 0])), (b0, .inl (k0, 8192, .inl f))] sz) := by
  refine Met.ofW (cc := prog_7_method_4_code) (maxL := 2) (ret := none) (by decide) rfl ?_
  intro p e s m args below meth c s₁ B hml hv
  obtain ⟨rfl, hsz, hP, hK, hD0⟩ := hv
  have hx := B.exec
  have hb := B.bytes
  have hr := B.returns
  have hts : ∀ w9 ∈ gb, w9.before [.ref h0, .int x].toArray s = true := fun w9 h => atoms_spec (ws := Cond.code ⟨"JoinedTrees$Row", "writeInt", "(I)V"⟩ prog_7_method_4_code 2 none :: gb) B.pre w9 (List.mem_cons_of_mem _ h)
  have hown : s.vm.findClass "JoinedTrees$Row" = some m.cls := findClass_of_methodNamed B.named
  have hlocks := B.notSynchronized
  subst hsz
  have hD := hD0.self (sz := s.heap.size)
  generalize hAe : va_A [(h0, .inr (5, [.ref b0, .int a, .int 0])), (b0, .inl (k0, 8192, .inl f))] s.heap.size = A at hD ⊢
  have hA : ∀ q : Nat, s.heap.size ≤ q → A q := fun q h => by rw [← hAe]; exact Or.inr h
  have hS : va_S A s.heap s.heap [] := va_S.rf
  have hP : va_P D cls [(h0, .inr (5, [.ref b0, .int a, .int 0])), (b0, .inl (k0, 8192, .inl f))] s.heap := hP
  have hl := lv_entry ([.ref h0, .int x]) (n := 2) (Nat.le_of_ble_eq_true rfl)
  rw [lg_entry_eq]
  generalize (lg_sl ([.ref h0, .int x]) ++ List.replicate (2 - (lg_sl ([.ref h0, .int x])).length) Slot.unset).toArray = ls at hl ⊢
  have hl : lv_has ls 2 [(0, .ref h0), (1, .int x)] := hl
  refine lv_aload_n hx hb d_rwi_0 rfl (lv_at hl 0 rfl) ?_
  refine lv_iload_n hx hb d_rwi_1 rfl (lv_at hl 1 rfl) ?_
  refine lv_bipush (v := 24) hx hb d_rwi_2 (by decide) ?_
  refine lv_iushr hx hb d_rwi_4 rfl ?_
  refine lv_topi (fun x_1 ex_1 => ?_)
  have hPc := hP.sub (ws' := [(h0, .inr (5, [.ref b0, .int a, .int 0])), (b0, .inl (k0, 8192, .inl f))]) [0, 1] rfl
  have hDc := hD.sub (ws' := [(h0, .inr (5, [.ref b0, .int a, .int 0])), (b0, .inl (k0, 8192, .inl f))]) [0, 1] (by decide) rfl
  have hKc := hK.sub (tys' := [(k0, .byte)]) [0] rfl
  have hFc := va_free (wc := [(h0, .inr (5, [.ref b0, .int a, .int 0])), (b0, .inl (k0, 8192, .inl f))]) hD hS hA [0, 1] rfl
  refine va_callv (va_runV (As := [.int x_1]) (rest := []) ⟨hx, hb, hml, hown, hts⟩ (g_wr8192 l D s.heap.size h0 b0 k0 a x_1 f h1) (cw_v 1 hts kw_549 kw_546 kw_547 kw_548 kw_4 rfl rfl (by decide +kernel) ⟨Nat.le_of_ble_eq_true rfl, Nat.le_of_ble_eq_true rfl⟩) ⟨g_blind, va_recv hKc hPc (ci := 5) (q0 := 0) rfl rfl, fun U hU hW => g_pre hU hW hPc hKc hDc⟩ rfl rfl hl.1 rfl (lv_room (Nat.le_of_ble_eq_true rfl)) d_rwi_5 ⟨Nat.le_of_ble_eq_true rfl, Nat.le_of_ble_eq_true rfl⟩) hS (fun q _ h => hFc q h) hFc (fun u_3 t H1 locs ht hvm hw hB hz1 hk1 hS => ?_)
  obtain ⟨hP1, hK1, hD1⟩ := hB
  rw [ht] at hP1
  have hK1 := va_K.moved hvm.symm hK1
  obtain ⟨hP, hD⟩ := va_join (wr := []) (w1 := [(h0, .inr (5, [.ref b0, .int (a + 1), .int 0])), (b0, .inl (k0, 8192, .inl u_3))]) hP hD [0, 1] [] rfl rfl (by decide) (by decide) hk1 hFc hP1 hD1
  generalize H1 = H at hP hS ⊢
  have hP : va_P D cls [(h0, .inr (5, [.ref b0, .int (a + 1), .int 0])), (b0, .inl (k0, 8192, .inl u_3))] H := hP
  have hD : va_D A [(h0, .inr (5, [.ref b0, .int (a + 1), .int 0])), (b0, .inl (k0, 8192, .inl u_3))] := hD
  refine W.cs (cells' := 0) (slots' := 0) rfl rfl ?_
  refine lv_aload_n hx hb d_rwi_8 rfl (lv_at hl 0 rfl) ?_
  refine lv_iload_n hx hb d_rwi_9 rfl (lv_at hl 1 rfl) ?_
  refine lv_bipush (v := 16) hx hb d_rwi_10 (by decide) ?_
  refine lv_iushr hx hb d_rwi_12 rfl ?_
  refine lv_topi (fun x_4 ex_4 => ?_)
  have hPc := hP.sub (ws' := [(h0, .inr (5, [.ref b0, .int (a + 1), .int 0])), (b0, .inl (k0, 8192, .inl u_3))]) [0, 1] rfl
  have hDc := hD.sub (ws' := [(h0, .inr (5, [.ref b0, .int (a + 1), .int 0])), (b0, .inl (k0, 8192, .inl u_3))]) [0, 1] (by decide) rfl
  have hKc := hK.sub (tys' := [(k0, .byte)]) [0] rfl
  have hFc := va_free (wc := [(h0, .inr (5, [.ref b0, .int (a + 1), .int 0])), (b0, .inl (k0, 8192, .inl u_3))]) hD hS hA [0, 1] rfl
  refine va_callv (va_runV (As := [.int x_4]) (rest := []) ⟨hx, hb, hml, hown, hts⟩ (g_wr8192 l D H.size h0 b0 k0 (a + 1) x_4 u_3 h2) (cw_v 1 hts kw_549 kw_546 kw_547 kw_548 kw_4 rfl rfl (by decide +kernel) ⟨Nat.le_of_ble_eq_true rfl, Nat.le_of_ble_eq_true rfl⟩) ⟨g_blind, va_recv hKc hPc (ci := 5) (q0 := 0) rfl rfl, fun U hU hW => g_pre hU hW hPc hKc hDc⟩ rfl rfl hl.1 rfl (lv_room (Nat.le_of_ble_eq_true rfl)) d_rwi_13 ⟨Nat.le_of_ble_eq_true rfl, Nat.le_of_ble_eq_true rfl⟩) hS (fun q _ h => hFc q h) hFc (fun u_6 t H1 locs ht hvm hw hB hz1 hk1 hS => ?_)
  obtain ⟨hP1, hK1, hD1⟩ := hB
  rw [ht] at hP1
  have hK1 := va_K.moved hvm.symm hK1
  obtain ⟨hP, hD⟩ := va_join (wr := []) (w1 := [(h0, .inr (5, [.ref b0, .int ((a + 1) + 1), .int 0])), (b0, .inl (k0, 8192, .inl u_6))]) hP hD [0, 1] [] rfl rfl (by decide) (by decide) hk1 hFc hP1 hD1
  generalize H1 = H at hP hS ⊢
  have hP : va_P D cls [(h0, .inr (5, [.ref b0, .int ((a + 1) + 1), .int 0])), (b0, .inl (k0, 8192, .inl u_6))] H := hP
  have hD : va_D A [(h0, .inr (5, [.ref b0, .int ((a + 1) + 1), .int 0])), (b0, .inl (k0, 8192, .inl u_6))] := hD
  refine W.cs (cells' := 0) (slots' := 0) rfl rfl ?_
  refine lv_aload_n hx hb d_rwi_16 rfl (lv_at hl 0 rfl) ?_
  refine lv_iload_n hx hb d_rwi_17 rfl (lv_at hl 1 rfl) ?_
  refine lv_bipush (v := 8) hx hb d_rwi_18 (by decide) ?_
  refine lv_iushr hx hb d_rwi_20 rfl ?_
  refine lv_topi (fun x_7 ex_7 => ?_)
  have hPc := hP.sub (ws' := [(h0, .inr (5, [.ref b0, .int ((a + 1) + 1), .int 0])), (b0, .inl (k0, 8192, .inl u_6))]) [0, 1] rfl
  have hDc := hD.sub (ws' := [(h0, .inr (5, [.ref b0, .int ((a + 1) + 1), .int 0])), (b0, .inl (k0, 8192, .inl u_6))]) [0, 1] (by decide) rfl
  have hKc := hK.sub (tys' := [(k0, .byte)]) [0] rfl
  have hFc := va_free (wc := [(h0, .inr (5, [.ref b0, .int ((a + 1) + 1), .int 0])), (b0, .inl (k0, 8192, .inl u_6))]) hD hS hA [0, 1] rfl
  refine va_callv (va_runV (As := [.int x_7]) (rest := []) ⟨hx, hb, hml, hown, hts⟩ (g_wr8192 l D H.size h0 b0 k0 ((a + 1) + 1) x_7 u_6 h3) (cw_v 1 hts kw_549 kw_546 kw_547 kw_548 kw_4 rfl rfl (by decide +kernel) ⟨Nat.le_of_ble_eq_true rfl, Nat.le_of_ble_eq_true rfl⟩) ⟨g_blind, va_recv hKc hPc (ci := 5) (q0 := 0) rfl rfl, fun U hU hW => g_pre hU hW hPc hKc hDc⟩ rfl rfl hl.1 rfl (lv_room (Nat.le_of_ble_eq_true rfl)) d_rwi_21 ⟨Nat.le_of_ble_eq_true rfl, Nat.le_of_ble_eq_true rfl⟩) hS (fun q _ h => hFc q h) hFc (fun u_9 t H1 locs ht hvm hw hB hz1 hk1 hS => ?_)
  obtain ⟨hP1, hK1, hD1⟩ := hB
  rw [ht] at hP1
  have hK1 := va_K.moved hvm.symm hK1
  obtain ⟨hP, hD⟩ := va_join (wr := []) (w1 := [(h0, .inr (5, [.ref b0, .int (((a + 1) + 1) + 1), .int 0])), (b0, .inl (k0, 8192, .inl u_9))]) hP hD [0, 1] [] rfl rfl (by decide) (by decide) hk1 hFc hP1 hD1
  generalize H1 = H at hP hS ⊢
  have hP : va_P D cls [(h0, .inr (5, [.ref b0, .int (((a + 1) + 1) + 1), .int 0])), (b0, .inl (k0, 8192, .inl u_9))] H := hP
  have hD : va_D A [(h0, .inr (5, [.ref b0, .int (((a + 1) + 1) + 1), .int 0])), (b0, .inl (k0, 8192, .inl u_9))] := hD
  refine W.cs (cells' := 0) (slots' := 0) rfl rfl ?_
  refine lv_aload_n hx hb d_rwi_24 rfl (lv_at hl 0 rfl) ?_
  refine lv_iload_n hx hb d_rwi_25 rfl (lv_at hl 1 rfl) ?_
  have hPc := hP.sub (ws' := [(h0, .inr (5, [.ref b0, .int (((a + 1) + 1) + 1), .int 0])), (b0, .inl (k0, 8192, .inl u_9))]) [0, 1] rfl
  have hDc := hD.sub (ws' := [(h0, .inr (5, [.ref b0, .int (((a + 1) + 1) + 1), .int 0])), (b0, .inl (k0, 8192, .inl u_9))]) [0, 1] (by decide) rfl
  have hKc := hK.sub (tys' := [(k0, .byte)]) [0] rfl
  have hFc := va_free (wc := [(h0, .inr (5, [.ref b0, .int (((a + 1) + 1) + 1), .int 0])), (b0, .inl (k0, 8192, .inl u_9))]) hD hS hA [0, 1] rfl
  refine va_callv (va_runV (As := [.int x]) (rest := []) ⟨hx, hb, hml, hown, hts⟩ (g_wr8192 l D H.size h0 b0 k0 (((a + 1) + 1) + 1) x u_9 h4) (cw_v 1 hts kw_549 kw_546 kw_547 kw_548 kw_4 rfl rfl (by decide +kernel) ⟨Nat.le_of_ble_eq_true rfl, Nat.le_of_ble_eq_true rfl⟩) ⟨g_blind, va_recv hKc hPc (ci := 5) (q0 := 0) rfl rfl, fun U hU hW => g_pre hU hW hPc hKc hDc⟩ rfl rfl hl.1 rfl (lv_room (Nat.le_of_ble_eq_true rfl)) d_rwi_26 ⟨Nat.le_of_ble_eq_true rfl, Nat.le_of_ble_eq_true rfl⟩) hS (fun q _ h => hFc q h) hFc (fun u_11 t H1 locs ht hvm hw hB hz1 hk1 hS => ?_)
  obtain ⟨hP1, hK1, hD1⟩ := hB
  rw [ht] at hP1
  have hK1 := va_K.moved hvm.symm hK1
  obtain ⟨hP, hD⟩ := va_join (wr := []) (w1 := [(h0, .inr (5, [.ref b0, .int ((((a + 1) + 1) + 1) + 1), .int 0])), (b0, .inl (k0, 8192, .inl u_11))]) hP hD [0, 1] [] rfl rfl (by decide) (by decide) hk1 hFc hP1 hD1
  generalize H1 = H at hP hS ⊢
  have hP : va_P D cls [(h0, .inr (5, [.ref b0, .int ((((a + 1) + 1) + 1) + 1), .int 0])), (b0, .inl (k0, 8192, .inl u_11))] H := hP
  have hD : va_D A [(h0, .inr (5, [.ref b0, .int ((((a + 1) + 1) + 1) + 1), .int 0])), (b0, .inl (k0, 8192, .inl u_11))] := hD
  refine W.cs (cells' := 0) (slots' := 0) rfl rfl ?_
  exact W.vret hx hb hr (fun t ht hW => ⟨⟨u_11, rfl, trivial, by rw [ht]; exact hP.sub [0, 1] rfl, va_K.moved hW.alike hK, hD.sub [0, 1] (by decide) rfl⟩, hS.F ht⟩) hS.2.2 d_rwi_29
set_option maxHeartbeats 4000000 in
set_option maxRecDepth 100000 in
theorem g_wi224582 (l : Launch) (D : va_G) (sz : Nat) (h0 b0 : Nat) (k0 : ClassId) (a x : Int32) (f : Nat → Int32) (h1 : vp_in (a) 224582) (h2 : vp_in (a + 1) 224582) (h3 : vp_in ((a + 1) + 1) 224582) (h4 : vp_in (((a + 1) + 1) + 1) 224582) : Met l ⟨"JoinedTrees$Row", "writeInt", "(I)V"⟩ (Cond.code ⟨"JoinedTrees$Row", "writeInt", "(I)V"⟩ prog_7_method_4_code 2 none :: gb) ({ frames := 1, cells := 0, slots := 0, locals := 21 }) (gPc D [(h0, .inr (5, [.ref b0, .int a, .int 0])), (b0, .inl (k0, 224582, .inl f))] [(k0, .byte)] sz [.ref h0, .int x]) (va_Qv (fun u : Nat → Int32 => True) (fun u t => gO D [(h0, .inr (5, [.ref b0, .int ((((a + 1) + 1) + 1) + 1), .int 0])), (b0, .inl (k0, 224582, .inl u))] [(k0, .byte)] (va_A [(h0, .inr (5, [.ref b0, .int a, .int 0])), (b0, .inl (k0, 224582, .inl f))] sz) t) (va_A [(h0, .inr (5, [.ref b0, .int a, .int 0])), (b0, .inl (k0, 224582, .inl f))] sz)) 0 0 (va_A [(h0, .inr (5, [.ref b0, .int a, .int 0])), (b0, .inl (k0, 224582, .inl f))] sz) := by
  refine Met.ofW (cc := prog_7_method_4_code) (maxL := 2) (ret := none) (by decide) rfl ?_
  intro p e s m args below meth c s₁ B hml hv
  obtain ⟨rfl, hsz, hP, hK, hD0⟩ := hv
  have hx := B.exec
  have hb := B.bytes
  have hr := B.returns
  have hts : ∀ w9 ∈ gb, w9.before [.ref h0, .int x].toArray s = true := fun w9 h => atoms_spec (ws := Cond.code ⟨"JoinedTrees$Row", "writeInt", "(I)V"⟩ prog_7_method_4_code 2 none :: gb) B.pre w9 (List.mem_cons_of_mem _ h)
  have hown : s.vm.findClass "JoinedTrees$Row" = some m.cls := findClass_of_methodNamed B.named
  have hlocks := B.notSynchronized
  subst hsz
  have hD := hD0.self (sz := s.heap.size)
  generalize hAe : va_A [(h0, .inr (5, [.ref b0, .int a, .int 0])), (b0, .inl (k0, 224582, .inl f))] s.heap.size = A at hD ⊢
  have hA : ∀ q : Nat, s.heap.size ≤ q → A q := fun q h => by rw [← hAe]; exact Or.inr h
  have hS : va_S A s.heap s.heap [] := va_S.rf
  have hP : va_P D cls [(h0, .inr (5, [.ref b0, .int a, .int 0])), (b0, .inl (k0, 224582, .inl f))] s.heap := hP
  have hl := lv_entry ([.ref h0, .int x]) (n := 2) (Nat.le_of_ble_eq_true rfl)
  rw [lg_entry_eq]
  generalize (lg_sl ([.ref h0, .int x]) ++ List.replicate (2 - (lg_sl ([.ref h0, .int x])).length) Slot.unset).toArray = ls at hl ⊢
  have hl : lv_has ls 2 [(0, .ref h0), (1, .int x)] := hl
  refine lv_aload_n hx hb d_rwi_0 rfl (lv_at hl 0 rfl) ?_
  refine lv_iload_n hx hb d_rwi_1 rfl (lv_at hl 1 rfl) ?_
  refine lv_bipush (v := 24) hx hb d_rwi_2 (by decide) ?_
  refine lv_iushr hx hb d_rwi_4 rfl ?_
  refine lv_topi (fun x_1 ex_1 => ?_)
  have hPc := hP.sub (ws' := [(h0, .inr (5, [.ref b0, .int a, .int 0])), (b0, .inl (k0, 224582, .inl f))]) [0, 1] rfl
  have hDc := hD.sub (ws' := [(h0, .inr (5, [.ref b0, .int a, .int 0])), (b0, .inl (k0, 224582, .inl f))]) [0, 1] (by decide) rfl
  have hKc := hK.sub (tys' := [(k0, .byte)]) [0] rfl
  have hFc := va_free (wc := [(h0, .inr (5, [.ref b0, .int a, .int 0])), (b0, .inl (k0, 224582, .inl f))]) hD hS hA [0, 1] rfl
  refine va_callv (va_runV (As := [.int x_1]) (rest := []) ⟨hx, hb, hml, hown, hts⟩ (g_wr224582 l D s.heap.size h0 b0 k0 a x_1 f h1) (cw_v 1 hts kw_549 kw_546 kw_547 kw_548 kw_4 rfl rfl (by decide +kernel) ⟨Nat.le_of_ble_eq_true rfl, Nat.le_of_ble_eq_true rfl⟩) ⟨g_blind, va_recv hKc hPc (ci := 5) (q0 := 0) rfl rfl, fun U hU hW => g_pre hU hW hPc hKc hDc⟩ rfl rfl hl.1 rfl (lv_room (Nat.le_of_ble_eq_true rfl)) d_rwi_5 ⟨Nat.le_of_ble_eq_true rfl, Nat.le_of_ble_eq_true rfl⟩) hS (fun q _ h => hFc q h) hFc (fun u_3 t H1 locs ht hvm hw hB hz1 hk1 hS => ?_)
  obtain ⟨hP1, hK1, hD1⟩ := hB
  rw [ht] at hP1
  have hK1 := va_K.moved hvm.symm hK1
  obtain ⟨hP, hD⟩ := va_join (wr := []) (w1 := [(h0, .inr (5, [.ref b0, .int (a + 1), .int 0])), (b0, .inl (k0, 224582, .inl u_3))]) hP hD [0, 1] [] rfl rfl (by decide) (by decide) hk1 hFc hP1 hD1
  generalize H1 = H at hP hS ⊢
  have hP : va_P D cls [(h0, .inr (5, [.ref b0, .int (a + 1), .int 0])), (b0, .inl (k0, 224582, .inl u_3))] H := hP
  have hD : va_D A [(h0, .inr (5, [.ref b0, .int (a + 1), .int 0])), (b0, .inl (k0, 224582, .inl u_3))] := hD
  refine W.cs (cells' := 0) (slots' := 0) rfl rfl ?_
  refine lv_aload_n hx hb d_rwi_8 rfl (lv_at hl 0 rfl) ?_
  refine lv_iload_n hx hb d_rwi_9 rfl (lv_at hl 1 rfl) ?_
  refine lv_bipush (v := 16) hx hb d_rwi_10 (by decide) ?_
  refine lv_iushr hx hb d_rwi_12 rfl ?_
  refine lv_topi (fun x_4 ex_4 => ?_)
  have hPc := hP.sub (ws' := [(h0, .inr (5, [.ref b0, .int (a + 1), .int 0])), (b0, .inl (k0, 224582, .inl u_3))]) [0, 1] rfl
  have hDc := hD.sub (ws' := [(h0, .inr (5, [.ref b0, .int (a + 1), .int 0])), (b0, .inl (k0, 224582, .inl u_3))]) [0, 1] (by decide) rfl
  have hKc := hK.sub (tys' := [(k0, .byte)]) [0] rfl
  have hFc := va_free (wc := [(h0, .inr (5, [.ref b0, .int (a + 1), .int 0])), (b0, .inl (k0, 224582, .inl u_3))]) hD hS hA [0, 1] rfl
  refine va_callv (va_runV (As := [.int x_4]) (rest := []) ⟨hx, hb, hml, hown, hts⟩ (g_wr224582 l D H.size h0 b0 k0 (a + 1) x_4 u_3 h2) (cw_v 1 hts kw_549 kw_546 kw_547 kw_548 kw_4 rfl rfl (by decide +kernel) ⟨Nat.le_of_ble_eq_true rfl, Nat.le_of_ble_eq_true rfl⟩) ⟨g_blind, va_recv hKc hPc (ci := 5) (q0 := 0) rfl rfl, fun U hU hW => g_pre hU hW hPc hKc hDc⟩ rfl rfl hl.1 rfl (lv_room (Nat.le_of_ble_eq_true rfl)) d_rwi_13 ⟨Nat.le_of_ble_eq_true rfl, Nat.le_of_ble_eq_true rfl⟩) hS (fun q _ h => hFc q h) hFc (fun u_6 t H1 locs ht hvm hw hB hz1 hk1 hS => ?_)
  obtain ⟨hP1, hK1, hD1⟩ := hB
  rw [ht] at hP1
  have hK1 := va_K.moved hvm.symm hK1
  obtain ⟨hP, hD⟩ := va_join (wr := []) (w1 := [(h0, .inr (5, [.ref b0, .int ((a + 1) + 1), .int 0])), (b0, .inl (k0, 224582, .inl u_6))]) hP hD [0, 1] [] rfl rfl (by decide) (by decide) hk1 hFc hP1 hD1
  generalize H1 = H at hP hS ⊢
  have hP : va_P D cls [(h0, .inr (5, [.ref b0, .int ((a + 1) + 1), .int 0])), (b0, .inl (k0, 224582, .inl u_6))] H := hP
  have hD : va_D A [(h0, .inr (5, [.ref b0, .int ((a + 1) + 1), .int 0])), (b0, .inl (k0, 224582, .inl u_6))] := hD
  refine W.cs (cells' := 0) (slots' := 0) rfl rfl ?_
  refine lv_aload_n hx hb d_rwi_16 rfl (lv_at hl 0 rfl) ?_
  refine lv_iload_n hx hb d_rwi_17 rfl (lv_at hl 1 rfl) ?_
  refine lv_bipush (v := 8) hx hb d_rwi_18 (by decide) ?_
  refine lv_iushr hx hb d_rwi_20 rfl ?_
  refine lv_topi (fun x_7 ex_7 => ?_)
  have hPc := hP.sub (ws' := [(h0, .inr (5, [.ref b0, .int ((a + 1) + 1), .int 0])), (b0, .inl (k0, 224582, .inl u_6))]) [0, 1] rfl
  have hDc := hD.sub (ws' := [(h0, .inr (5, [.ref b0, .int ((a + 1) + 1), .int 0])), (b0, .inl (k0, 224582, .inl u_6))]) [0, 1] (by decide) rfl
  have hKc := hK.sub (tys' := [(k0, .byte)]) [0] rfl
  have hFc := va_free (wc := [(h0, .inr (5, [.ref b0, .int ((a + 1) + 1), .int 0])), (b0, .inl (k0, 224582, .inl u_6))]) hD hS hA [0, 1] rfl
  refine va_callv (va_runV (As := [.int x_7]) (rest := []) ⟨hx, hb, hml, hown, hts⟩ (g_wr224582 l D H.size h0 b0 k0 ((a + 1) + 1) x_7 u_6 h3) (cw_v 1 hts kw_549 kw_546 kw_547 kw_548 kw_4 rfl rfl (by decide +kernel) ⟨Nat.le_of_ble_eq_true rfl, Nat.le_of_ble_eq_true rfl⟩) ⟨g_blind, va_recv hKc hPc (ci := 5) (q0 := 0) rfl rfl, fun U hU hW => g_pre hU hW hPc hKc hDc⟩ rfl rfl hl.1 rfl (lv_room (Nat.le_of_ble_eq_true rfl)) d_rwi_21 ⟨Nat.le_of_ble_eq_true rfl, Nat.le_of_ble_eq_true rfl⟩) hS (fun q _ h => hFc q h) hFc (fun u_9 t H1 locs ht hvm hw hB hz1 hk1 hS => ?_)
  obtain ⟨hP1, hK1, hD1⟩ := hB
  rw [ht] at hP1
  have hK1 := va_K.moved hvm.symm hK1
  obtain ⟨hP, hD⟩ := va_join (wr := []) (w1 := [(h0, .inr (5, [.ref b0, .int (((a + 1) + 1) + 1), .int 0])), (b0, .inl (k0, 224582, .inl u_9))]) hP hD [0, 1] [] rfl rfl (by decide) (by decide) hk1 hFc hP1 hD1
  generalize H1 = H at hP hS ⊢
  have hP : va_P D cls [(h0, .inr (5, [.ref b0, .int (((a + 1) + 1) + 1), .int 0])), (b0, .inl (k0, 224582, .inl u_9))] H := hP
  have hD : va_D A [(h0, .inr (5, [.ref b0, .int (((a + 1) + 1) + 1), .int 0])), (b0, .inl (k0, 224582, .inl u_9))] := hD
  refine W.cs (cells' := 0) (slots' := 0) rfl rfl ?_
  refine lv_aload_n hx hb d_rwi_24 rfl (lv_at hl 0 rfl) ?_
  refine lv_iload_n hx hb d_rwi_25 rfl (lv_at hl 1 rfl) ?_
  have hPc := hP.sub (ws' := [(h0, .inr (5, [.ref b0, .int (((a + 1) + 1) + 1), .int 0])), (b0, .inl (k0, 224582, .inl u_9))]) [0, 1] rfl
  have hDc := hD.sub (ws' := [(h0, .inr (5, [.ref b0, .int (((a + 1) + 1) + 1), .int 0])), (b0, .inl (k0, 224582, .inl u_9))]) [0, 1] (by decide) rfl
  have hKc := hK.sub (tys' := [(k0, .byte)]) [0] rfl
  have hFc := va_free (wc := [(h0, .inr (5, [.ref b0, .int (((a + 1) + 1) + 1), .int 0])), (b0, .inl (k0, 224582, .inl u_9))]) hD hS hA [0, 1] rfl
  refine va_callv (va_runV (As := [.int x]) (rest := []) ⟨hx, hb, hml, hown, hts⟩ (g_wr224582 l D H.size h0 b0 k0 (((a + 1) + 1) + 1) x u_9 h4) (cw_v 1 hts kw_549 kw_546 kw_547 kw_548 kw_4 rfl rfl (by decide +kernel) ⟨Nat.le_of_ble_eq_true rfl, Nat.le_of_ble_eq_true rfl⟩) ⟨g_blind, va_recv hKc hPc (ci := 5) (q0 := 0) rfl rfl, fun U hU hW => g_pre hU hW hPc hKc hDc⟩ rfl rfl hl.1 rfl (lv_room (Nat.le_of_ble_eq_true rfl)) d_rwi_26 ⟨Nat.le_of_ble_eq_true rfl, Nat.le_of_ble_eq_true rfl⟩) hS (fun q _ h => hFc q h) hFc (fun u_11 t H1 locs ht hvm hw hB hz1 hk1 hS => ?_)
  obtain ⟨hP1, hK1, hD1⟩ := hB
  rw [ht] at hP1
  have hK1 := va_K.moved hvm.symm hK1
  obtain ⟨hP, hD⟩ := va_join (wr := []) (w1 := [(h0, .inr (5, [.ref b0, .int ((((a + 1) + 1) + 1) + 1), .int 0])), (b0, .inl (k0, 224582, .inl u_11))]) hP hD [0, 1] [] rfl rfl (by decide) (by decide) hk1 hFc hP1 hD1
  generalize H1 = H at hP hS ⊢
  have hP : va_P D cls [(h0, .inr (5, [.ref b0, .int ((((a + 1) + 1) + 1) + 1), .int 0])), (b0, .inl (k0, 224582, .inl u_11))] H := hP
  have hD : va_D A [(h0, .inr (5, [.ref b0, .int ((((a + 1) + 1) + 1) + 1), .int 0])), (b0, .inl (k0, 224582, .inl u_11))] := hD
  refine W.cs (cells' := 0) (slots' := 0) rfl rfl ?_
  exact W.vret hx hb hr (fun t ht hW => ⟨⟨u_11, rfl, trivial, by rw [ht]; exact hP.sub [0, 1] rfl, va_K.moved hW.alike hK, hD.sub [0, 1] (by decide) rfl⟩, hS.F ht⟩) hS.2.2 d_rwi_29
theorem d_rowat_16 : decode prog_7_method_6_code 16 = .ok (.aload_n 0, 1) := by decide +kernel
theorem d_rowat_17 : decode prog_7_method_6_code 17 = .ok (.getfield 7, 3) := by decide +kernel
theorem d_rowat_20 : decode prog_7_method_6_code 20 = .ok (.iload_n 1, 1) := by decide +kernel
theorem d_rowat_21 : decode prog_7_method_6_code 21 = .ok (.baload, 1) := by decide +kernel
theorem d_rowat_22 : decode prog_7_method_6_code 22 = .ok (.sipush 255, 3) := by decide +kernel
theorem d_rowat_25 : decode prog_7_method_6_code 25 = .ok (.iand, 1) := by decide +kernel
set_option maxHeartbeats 4000000 in
set_option maxRecDepth 100000 in
theorem g_rat16384 (l : Launch) (D : va_G) (sz : Nat) (h0 b0 : Nat) (k0 : ClassId) (a i : Int32) (f : Nat → Int32) (h1 : ¬ i < 0) (h2 : i < a) (h3 : vp_in i 16384) : Met l ⟨"JoinedTrees$Row", "at", "(I)I"⟩ (Cond.code ⟨"JoinedTrees$Row", "at", "(I)I"⟩ prog_7_method_6_code 2 (some .int) :: gb) ({ frames := 0, cells := 0, slots := 0, locals := 0 }) (gPc D [(h0, .inr (5, [.ref b0, .int a, .int 0])), (b0, .inl (k0, 16384, .inl f))] [(k0, .byte)] sz [.ref h0, .int i]) (va_Qi (fun (r : Int32) (u : Unit) => True) (fun _ t => gO D [(h0, .inr (5, [.ref b0, .int a, .int 0])), (b0, .inl (k0, 16384, .inl f))] [(k0, .byte)] (va_A [(h0, .inr (5, [.ref b0, .int a, .int 0])), (b0, .inl (k0, 16384, .inl f))] sz) t) (va_A [(h0, .inr (5, [.ref b0, .int a, .int 0])), (b0, .inl (k0, 16384, .inl f))] sz)) 0 0 (va_A [(h0, .inr (5, [.ref b0, .int a, .int 0])), (b0, .inl (k0, 16384, .inl f))] sz) := by
  refine Met.ofW (cc := prog_7_method_6_code) (maxL := 2) (ret := (some .int)) (by decide) rfl ?_
  intro p e s m args below meth c s₁ B hml hv
  obtain ⟨rfl, hsz, hP, hK, hD0⟩ := hv
  have hx := B.exec
  have hb := B.bytes
  have hr := B.returns
  have hts : ∀ w9 ∈ gb, w9.before [.ref h0, .int i].toArray s = true := fun w9 h => atoms_spec (ws := Cond.code ⟨"JoinedTrees$Row", "at", "(I)I"⟩ prog_7_method_6_code 2 (some .int) :: gb) B.pre w9 (List.mem_cons_of_mem _ h)
  have hown : s.vm.findClass "JoinedTrees$Row" = some m.cls := findClass_of_methodNamed B.named
  have hlocks := B.notSynchronized
  subst hsz
  have hD := hD0.self (sz := s.heap.size)
  generalize hAe : va_A [(h0, .inr (5, [.ref b0, .int a, .int 0])), (b0, .inl (k0, 16384, .inl f))] s.heap.size = A at hD ⊢
  have hA : ∀ q : Nat, s.heap.size ≤ q → A q := fun q h => by rw [← hAe]; exact Or.inr h
  have hS : va_S A s.heap s.heap [] := va_S.rf
  have hP : va_P D cls [(h0, .inr (5, [.ref b0, .int a, .int 0])), (b0, .inl (k0, 16384, .inl f))] s.heap := hP
  have hl := lv_entry ([.ref h0, .int i]) (n := 2) (Nat.le_of_ble_eq_true rfl)
  rw [lg_entry_eq]
  generalize (lg_sl ([.ref h0, .int i]) ++ List.replicate (2 - (lg_sl ([.ref h0, .int i])).length) Slot.unset).toArray = ls at hl ⊢
  have hl : lv_has ls 2 [(0, .ref h0), (1, .int i)] := hl
  refine lv_iload_n hx hb d_rowat_0 rfl (lv_at hl 1 rfl) ?_
  refine lv_if_lt (tgt := 12) hx hb d_rowat_1 (by decide) (fun h => absurd h h1) (fun _ => ?_)
  refine lv_iload_n hx hb d_rowat_4 rfl (lv_at hl 1 rfl) ?_
  refine lv_aload_n hx hb d_rowat_5 rfl (lv_at hl 0 rfl) ?_
  refine va_get (D := D) (ci := 5) (v := .int a) (C := R_Rw) (T := F_Rw) (N := 3) hx hb hts i_Rw hown hK hP 0 rfl rfl 1 (by decide) (hts _ kw_142) (fun _ h9 => h9) rfl d_rowat_6 ?_
  refine lv_icmp_lt (tgt := 16) hx hb d_rowat_9 (by decide) (fun _ => ?_) (fun h => absurd h2 h)
  refine lv_aload_n hx hb d_rowat_16 rfl (lv_at hl 0 rfl) ?_
  refine va_get (D := D) (ci := 5) (v := .ref b0) (C := R_Rw) (T := F_Rw) (N := 3) hx hb hts i_Rw hown hK hP 0 rfl rfl 0 (by decide) (hts _ kw_140) (fun _ h9 => h9) rfl d_rowat_17 ?_
  refine lv_iload_n hx hb d_rowat_20 rfl (lv_at hl 1 rfl) ?_
  refine va_bald hx hb hK hP 1 0 rfl rfl (i := i) h3 d_rowat_21 ?_
  refine lv_topi (fun x_1 ex_1 => ?_)
  refine lv_sipush (v := 255) hx hb d_rowat_22 (by decide) ?_
  refine lv_iand hx hb d_rowat_25 ?_
  refine lv_topi (fun x_2 ex_2 => ?_)
  exact W.iret (v := x_2) hx hb hr (fun t ht hW => ⟨⟨x_2, (), rfl, trivial, by rw [ht]; exact hP, va_K.moved hW.alike hK, hD⟩, hS.F ht⟩) hS.2.2 d_rowat_26
set_option maxHeartbeats 4000000 in
set_option maxRecDepth 100000 in
theorem g_rat224582 (l : Launch) (D : va_G) (sz : Nat) (h0 b0 : Nat) (k0 : ClassId) (a i : Int32) (f : Nat → Int32) (h1 : ¬ i < 0) (h2 : i < a) (h3 : vp_in i 224582) : Met l ⟨"JoinedTrees$Row", "at", "(I)I"⟩ (Cond.code ⟨"JoinedTrees$Row", "at", "(I)I"⟩ prog_7_method_6_code 2 (some .int) :: gb) ({ frames := 0, cells := 0, slots := 0, locals := 0 }) (gPc D [(h0, .inr (5, [.ref b0, .int a, .int 0])), (b0, .inl (k0, 224582, .inl f))] [(k0, .byte)] sz [.ref h0, .int i]) (va_Qi (fun (r : Int32) (u : Unit) => True) (fun _ t => gO D [(h0, .inr (5, [.ref b0, .int a, .int 0])), (b0, .inl (k0, 224582, .inl f))] [(k0, .byte)] (va_A [(h0, .inr (5, [.ref b0, .int a, .int 0])), (b0, .inl (k0, 224582, .inl f))] sz) t) (va_A [(h0, .inr (5, [.ref b0, .int a, .int 0])), (b0, .inl (k0, 224582, .inl f))] sz)) 0 0 (va_A [(h0, .inr (5, [.ref b0, .int a, .int 0])), (b0, .inl (k0, 224582, .inl f))] sz) := by
  refine Met.ofW (cc := prog_7_method_6_code) (maxL := 2) (ret := (some .int)) (by decide) rfl ?_
  intro p e s m args below meth c s₁ B hml hv
  obtain ⟨rfl, hsz, hP, hK, hD0⟩ := hv
  have hx := B.exec
  have hb := B.bytes
  have hr := B.returns
  have hts : ∀ w9 ∈ gb, w9.before [.ref h0, .int i].toArray s = true := fun w9 h => atoms_spec (ws := Cond.code ⟨"JoinedTrees$Row", "at", "(I)I"⟩ prog_7_method_6_code 2 (some .int) :: gb) B.pre w9 (List.mem_cons_of_mem _ h)
  have hown : s.vm.findClass "JoinedTrees$Row" = some m.cls := findClass_of_methodNamed B.named
  have hlocks := B.notSynchronized
  subst hsz
  have hD := hD0.self (sz := s.heap.size)
  generalize hAe : va_A [(h0, .inr (5, [.ref b0, .int a, .int 0])), (b0, .inl (k0, 224582, .inl f))] s.heap.size = A at hD ⊢
  have hA : ∀ q : Nat, s.heap.size ≤ q → A q := fun q h => by rw [← hAe]; exact Or.inr h
  have hS : va_S A s.heap s.heap [] := va_S.rf
  have hP : va_P D cls [(h0, .inr (5, [.ref b0, .int a, .int 0])), (b0, .inl (k0, 224582, .inl f))] s.heap := hP
  have hl := lv_entry ([.ref h0, .int i]) (n := 2) (Nat.le_of_ble_eq_true rfl)
  rw [lg_entry_eq]
  generalize (lg_sl ([.ref h0, .int i]) ++ List.replicate (2 - (lg_sl ([.ref h0, .int i])).length) Slot.unset).toArray = ls at hl ⊢
  have hl : lv_has ls 2 [(0, .ref h0), (1, .int i)] := hl
  refine lv_iload_n hx hb d_rowat_0 rfl (lv_at hl 1 rfl) ?_
  refine lv_if_lt (tgt := 12) hx hb d_rowat_1 (by decide) (fun h => absurd h h1) (fun _ => ?_)
  refine lv_iload_n hx hb d_rowat_4 rfl (lv_at hl 1 rfl) ?_
  refine lv_aload_n hx hb d_rowat_5 rfl (lv_at hl 0 rfl) ?_
  refine va_get (D := D) (ci := 5) (v := .int a) (C := R_Rw) (T := F_Rw) (N := 3) hx hb hts i_Rw hown hK hP 0 rfl rfl 1 (by decide) (hts _ kw_142) (fun _ h9 => h9) rfl d_rowat_6 ?_
  refine lv_icmp_lt (tgt := 16) hx hb d_rowat_9 (by decide) (fun _ => ?_) (fun h => absurd h2 h)
  refine lv_aload_n hx hb d_rowat_16 rfl (lv_at hl 0 rfl) ?_
  refine va_get (D := D) (ci := 5) (v := .ref b0) (C := R_Rw) (T := F_Rw) (N := 3) hx hb hts i_Rw hown hK hP 0 rfl rfl 0 (by decide) (hts _ kw_140) (fun _ h9 => h9) rfl d_rowat_17 ?_
  refine lv_iload_n hx hb d_rowat_20 rfl (lv_at hl 1 rfl) ?_
  refine va_bald hx hb hK hP 1 0 rfl rfl (i := i) h3 d_rowat_21 ?_
  refine lv_topi (fun x_1 ex_1 => ?_)
  refine lv_sipush (v := 255) hx hb d_rowat_22 (by decide) ?_
  refine lv_iand hx hb d_rowat_25 ?_
  refine lv_topi (fun x_2 ex_2 => ?_)
  exact W.iret (v := x_2) hx hb hr (fun t ht hW => ⟨⟨x_2, (), rfl, trivial, by rw [ht]; exact hP, va_K.moved hW.alike hK, hD⟩, hS.F ht⟩) hS.2.2 d_rowat_26
theorem d_rwa_0 : decode prog_7_method_5_code 0 = .ok (.iconst 0, 1) := by decide +kernel
theorem d_rwa_1 : decode prog_7_method_5_code 1 = .ok (.istore 4, 2) := by decide +kernel
theorem d_rwa_3 : decode prog_7_method_5_code 3 = .ok (.iload 4, 2) := by decide +kernel
theorem d_rwa_5 : decode prog_7_method_5_code 5 = .ok (.iload_n 3, 1) := by decide +kernel
theorem d_rwa_6 : decode prog_7_method_5_code 6 = .ok (.if_icmp .ge 21, 3) := by decide +kernel
theorem d_rwa_9 : decode prog_7_method_5_code 9 = .ok (.aload_n 0, 1) := by decide +kernel
theorem d_rwa_10 : decode prog_7_method_5_code 10 = .ok (.aload_n 1, 1) := by decide +kernel
theorem d_rwa_11 : decode prog_7_method_5_code 11 = .ok (.iload_n 2, 1) := by decide +kernel
theorem d_rwa_12 : decode prog_7_method_5_code 12 = .ok (.iload 4, 2) := by decide +kernel
theorem d_rwa_14 : decode prog_7_method_5_code 14 = .ok (.iadd, 1) := by decide +kernel
theorem d_rwa_15 : decode prog_7_method_5_code 15 = .ok (.invokevirtual 25, 3) := by decide +kernel
theorem d_rwa_18 : decode prog_7_method_5_code 18 = .ok (.invokevirtual 21, 3) := by decide +kernel
theorem d_rwa_21 : decode prog_7_method_5_code 21 = .ok (.iinc 4 1, 3) := by decide +kernel
theorem d_rwa_24 : decode prog_7_method_5_code 24 = .ok (.goto (-21), 3) := by decide +kernel
theorem d_rwa_27 : decode prog_7_method_5_code 27 = .ok (.return_, 1) := by decide +kernel
set_option maxHeartbeats 4000000 in
set_option maxRecDepth 100000 in
theorem g_wall (l : Launch) (D : va_G) (sz : Nat) (h0 b0 g0 c0 : Nat) (k0 : ClassId) (f g : Nat → Int32) : Met l ⟨"JoinedTrees$Row", "writeAll", "(LJoinedTrees$Row;II)V"⟩ (Cond.code ⟨"JoinedTrees$Row", "writeAll", "(LJoinedTrees$Row;II)V"⟩ prog_7_method_5_code 5 none :: gb) ({ frames := 1, cells := 0, slots := 0, locals := 21 }) (gPc D [(h0, .inr (5, [.ref b0, .int 0, .int 0])), (b0, .inl (k0, 224582, .inl f)), (g0, .inr (5, [.ref c0, .int 2, .int 0])), (c0, .inl (k0, 16384, .inl g))] [(k0, .byte)] sz [.ref h0, .ref g0, .int 0, .int 2]) (va_Qv (fun u : Nat → Int32 => True) (fun u t => gO D [(h0, .inr (5, [.ref b0, .int 2, .int 0])), (b0, .inl (k0, 224582, .inl u)), (g0, .inr (5, [.ref c0, .int 2, .int 0])), (c0, .inl (k0, 16384, .inl g))] [(k0, .byte)] (va_A [(h0, .inr (5, [.ref b0, .int 0, .int 0])), (b0, .inl (k0, 224582, .inl f)), (g0, .inr (5, [.ref c0, .int 2, .int 0])), (c0, .inl (k0, 16384, .inl g))] sz) t) (va_A [(h0, .inr (5, [.ref b0, .int 0, .int 0])), (b0, .inl (k0, 224582, .inl f)), (g0, .inr (5, [.ref c0, .int 2, .int 0])), (c0, .inl (k0, 16384, .inl g))] sz)) 0 0 (va_A [(h0, .inr (5, [.ref b0, .int 0, .int 0])), (b0, .inl (k0, 224582, .inl f)), (g0, .inr (5, [.ref c0, .int 2, .int 0])), (c0, .inl (k0, 16384, .inl g))] sz) := by
  refine Met.ofW (cc := prog_7_method_5_code) (maxL := 5) (ret := none) (by decide) rfl ?_
  intro p e s m args below meth c s₁ B hml hv
  obtain ⟨rfl, hsz, hP, hK, hD0⟩ := hv
  have hx := B.exec
  have hb := B.bytes
  have hr := B.returns
  have hts : ∀ w9 ∈ gb, w9.before [.ref h0, .ref g0, .int 0, .int 2].toArray s = true := fun w9 h => atoms_spec (ws := Cond.code ⟨"JoinedTrees$Row", "writeAll", "(LJoinedTrees$Row;II)V"⟩ prog_7_method_5_code 5 none :: gb) B.pre w9 (List.mem_cons_of_mem _ h)
  have hown : s.vm.findClass "JoinedTrees$Row" = some m.cls := findClass_of_methodNamed B.named
  have hlocks := B.notSynchronized
  subst hsz
  have hD := hD0.self (sz := s.heap.size)
  generalize hAe : va_A [(h0, .inr (5, [.ref b0, .int 0, .int 0])), (b0, .inl (k0, 224582, .inl f)), (g0, .inr (5, [.ref c0, .int 2, .int 0])), (c0, .inl (k0, 16384, .inl g))] s.heap.size = A at hD ⊢
  have hA : ∀ q : Nat, s.heap.size ≤ q → A q := fun q h => by rw [← hAe]; exact Or.inr h
  have hS : va_S A s.heap s.heap [] := va_S.rf
  have hP : va_P D cls [(h0, .inr (5, [.ref b0, .int 0, .int 0])), (b0, .inl (k0, 224582, .inl f)), (g0, .inr (5, [.ref c0, .int 2, .int 0])), (c0, .inl (k0, 16384, .inl g))] s.heap := hP
  have hl := lv_entry ([.ref h0, .ref g0, .int 0, .int 2]) (n := 5) (Nat.le_of_ble_eq_true rfl)
  rw [lg_entry_eq]
  generalize (lg_sl ([.ref h0, .ref g0, .int 0, .int 2]) ++ List.replicate (5 - (lg_sl ([.ref h0, .ref g0, .int 0, .int 2])).length) Slot.unset).toArray = ls at hl ⊢
  have hl : lv_has ls 5 [(0, .ref h0), (1, .ref g0), (2, .int 0), (3, .int 2)] := hl
  refine lv_iconst (v := 0) hx hb d_rwa_0 (by decide) ?_
  refine lv_istore (lv' := [(4, .int 0), (0, .ref h0), (1, .ref g0), (2, .int 0), (3, .int 2)]) hx hb d_rwa_1 hl (by decide) rfl (fun ls hl => ?_)
  refine lv_iload hx hb d_rwa_3 (lv_at hl 0 rfl) ?_
  refine lv_iload_n hx hb d_rwa_5 rfl (lv_at hl 4 rfl) ?_
  refine lv_icmp_ge (tgt := 27) hx hb d_rwa_6 (by decide) (fun h => absurd h (by decide)) (fun _ => ?_)
  refine lv_aload_n hx hb d_rwa_9 rfl (lv_at hl 1 rfl) ?_
  refine lv_aload_n hx hb d_rwa_10 rfl (lv_at hl 2 rfl) ?_
  refine lv_iload_n hx hb d_rwa_11 rfl (lv_at hl 3 rfl) ?_
  refine lv_iload hx hb d_rwa_12 (lv_at hl 0 rfl) ?_
  refine lv_iadd hx hb d_rwa_14 ?_
  refine w_i (y := 0) (by decide) ?_
  have hPc := hP.sub (ws' := [(g0, .inr (5, [.ref c0, .int 2, .int 0])), (c0, .inl (k0, 16384, .inl g))]) [2, 3] rfl
  have hDc := hD.sub (ws' := [(g0, .inr (5, [.ref c0, .int 2, .int 0])), (c0, .inl (k0, 16384, .inl g))]) [2, 3] (by decide) rfl
  have hKc := hK.sub (tys' := [(k0, .byte)]) [0] rfl
  have hFc := va_free (wc := [(g0, .inr (5, [.ref c0, .int 2, .int 0])), (c0, .inl (k0, 16384, .inl g))]) hD hS hA [2, 3] rfl
  refine va_calli (va_runV (As := [.int 0]) (rest := [.ref h0]) ⟨hx, hb, hml, hown, hts⟩ (g_rat16384 l D s.heap.size g0 c0 k0 2 0 g (by decide) (by decide) (vp_in_nI (n := 0) (N := 16384) (by decide) (by decide))) (cw_v 1 hts kw_689 kw_686 kw_687 kw_688 kw_4 rfl rfl (by decide +kernel) ⟨Nat.le_of_ble_eq_true rfl, Nat.le_of_ble_eq_true rfl⟩) ⟨g_blind, va_recv hKc hPc (ci := 5) (q0 := 0) rfl rfl, fun U hU hW => g_pre hU hW hPc hKc hDc⟩ rfl rfl hl.1 rfl (lv_room (Nat.le_of_ble_eq_true rfl)) d_rwa_15 ⟨Nat.le_of_ble_eq_true rfl, Nat.le_of_ble_eq_true rfl⟩) hS (fun q _ h => hFc q h) hFc (fun r_1 u_2 t H1 locs ht hvm hw hB hz1 hk1 hS => ?_)
  obtain ⟨⟩ := u_2
  obtain ⟨hP1, hK1, hD1⟩ := hB
  rw [ht] at hP1
  have hK1 := va_K.moved hvm.symm hK1
  obtain ⟨hP, hD⟩ := va_join (wr := [(h0, .inr (5, [.ref b0, .int 0, .int 0])), (b0, .inl (k0, 224582, .inl f))]) (w1 := [(g0, .inr (5, [.ref c0, .int 2, .int 0])), (c0, .inl (k0, 16384, .inl g))]) hP hD [2, 3] [0, 1] rfl rfl (by decide) (by decide) hk1 hFc hP1 hD1
  generalize H1 = H at hP hS ⊢
  have hP : va_P D cls [(h0, .inr (5, [.ref b0, .int 0, .int 0])), (b0, .inl (k0, 224582, .inl f)), (g0, .inr (5, [.ref c0, .int 2, .int 0])), (c0, .inl (k0, 16384, .inl g))] H := hP
  have hD : va_D A [(h0, .inr (5, [.ref b0, .int 0, .int 0])), (b0, .inl (k0, 224582, .inl f)), (g0, .inr (5, [.ref c0, .int 2, .int 0])), (c0, .inl (k0, 16384, .inl g))] := hD
  refine W.cs (cells' := 0) (slots' := 0) rfl rfl ?_
  have hPc := hP.sub (ws' := [(h0, .inr (5, [.ref b0, .int 0, .int 0])), (b0, .inl (k0, 224582, .inl f))]) [0, 1] rfl
  have hDc := hD.sub (ws' := [(h0, .inr (5, [.ref b0, .int 0, .int 0])), (b0, .inl (k0, 224582, .inl f))]) [0, 1] (by decide) rfl
  have hKc := hK.sub (tys' := [(k0, .byte)]) [0] rfl
  have hFc := va_free (wc := [(h0, .inr (5, [.ref b0, .int 0, .int 0])), (b0, .inl (k0, 224582, .inl f))]) hD hS hA [0, 1] rfl
  refine va_callv (va_runV (As := [.int r_1]) (rest := []) ⟨hx, hb, hml, hown, hts⟩ (g_wr224582 l D H.size h0 b0 k0 0 r_1 f (vp_in_nI (n := 0) (N := 224582) (by decide) (by decide))) (cw_v 1 hts kw_549 kw_546 kw_547 kw_548 kw_4 rfl rfl (by decide +kernel) ⟨Nat.le_of_ble_eq_true rfl, Nat.le_of_ble_eq_true rfl⟩) ⟨g_blind, va_recv hKc hPc (ci := 5) (q0 := 0) rfl rfl, fun U hU hW => g_pre hU hW hPc hKc hDc⟩ rfl rfl hl.1 rfl (lv_room (Nat.le_of_ble_eq_true rfl)) d_rwa_18 ⟨Nat.le_of_ble_eq_true rfl, Nat.le_of_ble_eq_true rfl⟩) hS (fun q _ h => hFc q h) hFc (fun u_4 t H1 locs ht hvm hw hB hz1 hk1 hS => ?_)
  obtain ⟨hP1, hK1, hD1⟩ := hB
  rw [ht] at hP1
  have hK1 := va_K.moved hvm.symm hK1
  obtain ⟨hP, hD⟩ := va_join (wr := [(g0, .inr (5, [.ref c0, .int 2, .int 0])), (c0, .inl (k0, 16384, .inl g))]) (w1 := [(h0, .inr (5, [.ref b0, .int 1, .int 0])), (b0, .inl (k0, 224582, .inl u_4))]) hP hD [0, 1] [2, 3] rfl rfl (by decide) (by decide) hk1 hFc hP1 hD1
  generalize H1 = H at hP hS ⊢
  have hP : va_P D cls [(g0, .inr (5, [.ref c0, .int 2, .int 0])), (c0, .inl (k0, 16384, .inl g)), (h0, .inr (5, [.ref b0, .int 1, .int 0])), (b0, .inl (k0, 224582, .inl u_4))] H := hP
  have hD : va_D A [(g0, .inr (5, [.ref c0, .int 2, .int 0])), (c0, .inl (k0, 16384, .inl g)), (h0, .inr (5, [.ref b0, .int 1, .int 0])), (b0, .inl (k0, 224582, .inl u_4))] := hD
  refine W.cs (cells' := 0) (slots' := 0) rfl rfl ?_
  refine lv_iinc (v := 1) (lv' := [(4, .int 1), (0, .ref h0), (1, .ref g0), (2, .int 0), (3, .int 2)]) hx hb d_rwa_21 hl (k := 0) rfl (by decide) (by decide) rfl (fun ls hl => ?_)
  refine lv_goto (tgt := 3) hx hb d_rwa_24 (by decide) ?_
  refine lv_iload hx hb d_rwa_3 (lv_at hl 0 rfl) ?_
  refine lv_iload_n hx hb d_rwa_5 rfl (lv_at hl 4 rfl) ?_
  refine lv_icmp_ge (tgt := 27) hx hb d_rwa_6 (by decide) (fun h => absurd h (by decide)) (fun _ => ?_)
  refine lv_aload_n hx hb d_rwa_9 rfl (lv_at hl 1 rfl) ?_
  refine lv_aload_n hx hb d_rwa_10 rfl (lv_at hl 2 rfl) ?_
  refine lv_iload_n hx hb d_rwa_11 rfl (lv_at hl 3 rfl) ?_
  refine lv_iload hx hb d_rwa_12 (lv_at hl 0 rfl) ?_
  refine lv_iadd hx hb d_rwa_14 ?_
  refine w_i (y := 1) (by decide) ?_
  have hPc := hP.sub (ws' := [(g0, .inr (5, [.ref c0, .int 2, .int 0])), (c0, .inl (k0, 16384, .inl g))]) [0, 1] rfl
  have hDc := hD.sub (ws' := [(g0, .inr (5, [.ref c0, .int 2, .int 0])), (c0, .inl (k0, 16384, .inl g))]) [0, 1] (by decide) rfl
  have hKc := hK.sub (tys' := [(k0, .byte)]) [0] rfl
  have hFc := va_free (wc := [(g0, .inr (5, [.ref c0, .int 2, .int 0])), (c0, .inl (k0, 16384, .inl g))]) hD hS hA [0, 1] rfl
  refine va_calli (va_runV (As := [.int 1]) (rest := [.ref h0]) ⟨hx, hb, hml, hown, hts⟩ (g_rat16384 l D H.size g0 c0 k0 2 1 g (by decide) (by decide) (vp_in_nI (n := 1) (N := 16384) (by decide) (by decide))) (cw_v 1 hts kw_689 kw_686 kw_687 kw_688 kw_4 rfl rfl (by decide +kernel) ⟨Nat.le_of_ble_eq_true rfl, Nat.le_of_ble_eq_true rfl⟩) ⟨g_blind, va_recv hKc hPc (ci := 5) (q0 := 0) rfl rfl, fun U hU hW => g_pre hU hW hPc hKc hDc⟩ rfl rfl hl.1 rfl (lv_room (Nat.le_of_ble_eq_true rfl)) d_rwa_15 ⟨Nat.le_of_ble_eq_true rfl, Nat.le_of_ble_eq_true rfl⟩) hS (fun q _ h => hFc q h) hFc (fun r_5 u_6 t H1 locs ht hvm hw hB hz1 hk1 hS => ?_)
  obtain ⟨⟩ := u_6
  obtain ⟨hP1, hK1, hD1⟩ := hB
  rw [ht] at hP1
  have hK1 := va_K.moved hvm.symm hK1
  obtain ⟨hP, hD⟩ := va_join (wr := [(h0, .inr (5, [.ref b0, .int 1, .int 0])), (b0, .inl (k0, 224582, .inl u_4))]) (w1 := [(g0, .inr (5, [.ref c0, .int 2, .int 0])), (c0, .inl (k0, 16384, .inl g))]) hP hD [0, 1] [2, 3] rfl rfl (by decide) (by decide) hk1 hFc hP1 hD1
  generalize H1 = H at hP hS ⊢
  have hP : va_P D cls [(h0, .inr (5, [.ref b0, .int 1, .int 0])), (b0, .inl (k0, 224582, .inl u_4)), (g0, .inr (5, [.ref c0, .int 2, .int 0])), (c0, .inl (k0, 16384, .inl g))] H := hP
  have hD : va_D A [(h0, .inr (5, [.ref b0, .int 1, .int 0])), (b0, .inl (k0, 224582, .inl u_4)), (g0, .inr (5, [.ref c0, .int 2, .int 0])), (c0, .inl (k0, 16384, .inl g))] := hD
  refine W.cs (cells' := 0) (slots' := 0) rfl rfl ?_
  have hPc := hP.sub (ws' := [(h0, .inr (5, [.ref b0, .int 1, .int 0])), (b0, .inl (k0, 224582, .inl u_4))]) [0, 1] rfl
  have hDc := hD.sub (ws' := [(h0, .inr (5, [.ref b0, .int 1, .int 0])), (b0, .inl (k0, 224582, .inl u_4))]) [0, 1] (by decide) rfl
  have hKc := hK.sub (tys' := [(k0, .byte)]) [0] rfl
  have hFc := va_free (wc := [(h0, .inr (5, [.ref b0, .int 1, .int 0])), (b0, .inl (k0, 224582, .inl u_4))]) hD hS hA [0, 1] rfl
  refine va_callv (va_runV (As := [.int r_5]) (rest := []) ⟨hx, hb, hml, hown, hts⟩ (g_wr224582 l D H.size h0 b0 k0 1 r_5 u_4 (vp_in_nI (n := 1) (N := 224582) (by decide) (by decide))) (cw_v 1 hts kw_549 kw_546 kw_547 kw_548 kw_4 rfl rfl (by decide +kernel) ⟨Nat.le_of_ble_eq_true rfl, Nat.le_of_ble_eq_true rfl⟩) ⟨g_blind, va_recv hKc hPc (ci := 5) (q0 := 0) rfl rfl, fun U hU hW => g_pre hU hW hPc hKc hDc⟩ rfl rfl hl.1 rfl (lv_room (Nat.le_of_ble_eq_true rfl)) d_rwa_18 ⟨Nat.le_of_ble_eq_true rfl, Nat.le_of_ble_eq_true rfl⟩) hS (fun q _ h => hFc q h) hFc (fun u_8 t H1 locs ht hvm hw hB hz1 hk1 hS => ?_)
  obtain ⟨hP1, hK1, hD1⟩ := hB
  rw [ht] at hP1
  have hK1 := va_K.moved hvm.symm hK1
  obtain ⟨hP, hD⟩ := va_join (wr := [(g0, .inr (5, [.ref c0, .int 2, .int 0])), (c0, .inl (k0, 16384, .inl g))]) (w1 := [(h0, .inr (5, [.ref b0, .int 2, .int 0])), (b0, .inl (k0, 224582, .inl u_8))]) hP hD [0, 1] [2, 3] rfl rfl (by decide) (by decide) hk1 hFc hP1 hD1
  generalize H1 = H at hP hS ⊢
  have hP : va_P D cls [(g0, .inr (5, [.ref c0, .int 2, .int 0])), (c0, .inl (k0, 16384, .inl g)), (h0, .inr (5, [.ref b0, .int 2, .int 0])), (b0, .inl (k0, 224582, .inl u_8))] H := hP
  have hD : va_D A [(g0, .inr (5, [.ref c0, .int 2, .int 0])), (c0, .inl (k0, 16384, .inl g)), (h0, .inr (5, [.ref b0, .int 2, .int 0])), (b0, .inl (k0, 224582, .inl u_8))] := hD
  refine W.cs (cells' := 0) (slots' := 0) rfl rfl ?_
  refine lv_iinc (v := 2) (lv' := [(4, .int 2), (0, .ref h0), (1, .ref g0), (2, .int 0), (3, .int 2)]) hx hb d_rwa_21 hl (k := 0) rfl (by decide) (by decide) rfl (fun ls hl => ?_)
  refine lv_goto (tgt := 3) hx hb d_rwa_24 (by decide) ?_
  refine lv_iload hx hb d_rwa_3 (lv_at hl 0 rfl) ?_
  refine lv_iload_n hx hb d_rwa_5 rfl (lv_at hl 4 rfl) ?_
  refine lv_icmp_ge (tgt := 27) hx hb d_rwa_6 (by decide) (fun _ => ?_) (fun h => absurd h (by decide))
  exact W.vret hx hb hr (fun t ht hW => ⟨⟨u_8, rfl, trivial, by rw [ht]; exact hP.sub [2, 3, 0, 1] rfl, va_K.moved hW.alike hK, hD.sub [2, 3, 0, 1] (by decide) rfl⟩, hS.F ht⟩) hS.2.2 d_rwa_27
theorem d_jent_0 : decode prog_4_method_3_code 0 = .ok (.aload_n 0, 1) := by decide +kernel
theorem d_jent_1 : decode prog_4_method_3_code 1 = .ok (.getfield 14, 3) := by decide +kernel
theorem d_jent_4 : decode prog_4_method_3_code 4 = .ok (.aload_n 1, 1) := by decide +kernel
theorem d_jent_5 : decode prog_4_method_3_code 5 = .ok (.getfield 27, 3) := by decide +kernel
theorem d_jent_8 : decode prog_4_method_3_code 8 = .ok (.bipush 6, 2) := by decide +kernel
theorem d_jent_10 : decode prog_4_method_3_code 10 = .ok (.if_icmp .ne 8, 3) := by decide +kernel
theorem d_jent_13 : decode prog_4_method_3_code 13 = .ok (.bipush 123, 2) := by decide +kernel
theorem d_jent_15 : decode prog_4_method_3_code 15 = .ok (.goto 5, 3) := by decide +kernel
theorem d_jent_20 : decode prog_4_method_3_code 20 = .ok (.invokevirtual 51, 3) := by decide +kernel
theorem d_jent_23 : decode prog_4_method_3_code 23 = .ok (.aload_n 1, 1) := by decide +kernel
theorem d_jent_24 : decode prog_4_method_3_code 24 = .ok (.getfield 70, 3) := by decide +kernel
theorem d_jent_27 : decode prog_4_method_3_code 27 = .ok (.areturn, 1) := by decide +kernel
set_option maxHeartbeats 4000000 in
set_option maxRecDepth 100000 in
theorem g_enter (l : Launch) (D : va_G) (sz : Nat) (h0 v0 g0 c0 o0 : Nat) (k0 : ClassId) (g : Nat → Int32) : Met l ⟨"JoinedTrees$JsonWriter", "enter", "(LJoinedTrees$Op;)LJoinedTrees$Spot;"⟩ (Cond.code ⟨"JoinedTrees$JsonWriter", "enter", "(LJoinedTrees$Op;)LJoinedTrees$Spot;"⟩ prog_4_method_3_code 2 (some (.object "JoinedTrees$Spot")) :: gb) ({ frames := 1, cells := 0, slots := 0, locals := 21 }) (gPc D [(h0, .inr (2, [.ref v0, .ref g0])), (g0, .inr (5, [.ref c0, .int 0, .int 0])), (c0, .inl (k0, 16384, .inl g)), (o0, .inr (3, [.int 0, .null, .int 6, .long 0, .int 0, .int 0, .null, .null, .int 0, .int 0, .int 0, .null, .null, .null, .int 0]))] [(k0, .byte)] sz [.ref h0, .ref o0]) (va_Qq (fun (r : Option Nat) (u : Nat → Int32) => r = none) (fun u t => gO D [(h0, .inr (2, [.ref v0, .ref g0])), (g0, .inr (5, [.ref c0, .int 1, .int 0])), (c0, .inl (k0, 16384, .inl u)), (o0, .inr (3, [.int 0, .null, .int 6, .long 0, .int 0, .int 0, .null, .null, .int 0, .int 0, .int 0, .null, .null, .null, .int 0]))] [(k0, .byte)] (va_A [(h0, .inr (2, [.ref v0, .ref g0])), (g0, .inr (5, [.ref c0, .int 0, .int 0])), (c0, .inl (k0, 16384, .inl g)), (o0, .inr (3, [.int 0, .null, .int 6, .long 0, .int 0, .int 0, .null, .null, .int 0, .int 0, .int 0, .null, .null, .null, .int 0]))] sz) t) (va_A [(h0, .inr (2, [.ref v0, .ref g0])), (g0, .inr (5, [.ref c0, .int 0, .int 0])), (c0, .inl (k0, 16384, .inl g)), (o0, .inr (3, [.int 0, .null, .int 6, .long 0, .int 0, .int 0, .null, .null, .int 0, .int 0, .int 0, .null, .null, .null, .int 0]))] sz)) 0 0 (va_A [(h0, .inr (2, [.ref v0, .ref g0])), (g0, .inr (5, [.ref c0, .int 0, .int 0])), (c0, .inl (k0, 16384, .inl g)), (o0, .inr (3, [.int 0, .null, .int 6, .long 0, .int 0, .int 0, .null, .null, .int 0, .int 0, .int 0, .null, .null, .null, .int 0]))] sz) := by
  refine Met.ofW (cc := prog_4_method_3_code) (maxL := 2) (ret := (some (.object "JoinedTrees$Spot"))) (by decide) rfl ?_
  intro p e s m args below meth c s₁ B hml hv
  obtain ⟨rfl, hsz, hP, hK, hD0⟩ := hv
  have hx := B.exec
  have hb := B.bytes
  have hr := B.returns
  have hts : ∀ w9 ∈ gb, w9.before [.ref h0, .ref o0].toArray s = true := fun w9 h => atoms_spec (ws := Cond.code ⟨"JoinedTrees$JsonWriter", "enter", "(LJoinedTrees$Op;)LJoinedTrees$Spot;"⟩ prog_4_method_3_code 2 (some (.object "JoinedTrees$Spot")) :: gb) B.pre w9 (List.mem_cons_of_mem _ h)
  have hown : s.vm.findClass "JoinedTrees$JsonWriter" = some m.cls := findClass_of_methodNamed B.named
  have hlocks := B.notSynchronized
  subst hsz
  have hD := hD0.self (sz := s.heap.size)
  generalize hAe : va_A [(h0, .inr (2, [.ref v0, .ref g0])), (g0, .inr (5, [.ref c0, .int 0, .int 0])), (c0, .inl (k0, 16384, .inl g)), (o0, .inr (3, [.int 0, .null, .int 6, .long 0, .int 0, .int 0, .null, .null, .int 0, .int 0, .int 0, .null, .null, .null, .int 0]))] s.heap.size = A at hD ⊢
  have hA : ∀ q : Nat, s.heap.size ≤ q → A q := fun q h => by rw [← hAe]; exact Or.inr h
  have hS : va_S A s.heap s.heap [] := va_S.rf
  have hP : va_P D cls [(h0, .inr (2, [.ref v0, .ref g0])), (g0, .inr (5, [.ref c0, .int 0, .int 0])), (c0, .inl (k0, 16384, .inl g)), (o0, .inr (3, [.int 0, .null, .int 6, .long 0, .int 0, .int 0, .null, .null, .int 0, .int 0, .int 0, .null, .null, .null, .int 0]))] s.heap := hP
  have hl := lv_entry ([.ref h0, .ref o0]) (n := 2) (Nat.le_of_ble_eq_true rfl)
  rw [lg_entry_eq]
  generalize (lg_sl ([.ref h0, .ref o0]) ++ List.replicate (2 - (lg_sl ([.ref h0, .ref o0])).length) Slot.unset).toArray = ls at hl ⊢
  have hl : lv_has ls 2 [(0, .ref h0), (1, .ref o0)] := hl
  refine lv_aload_n hx hb d_jent_0 rfl (lv_at hl 0 rfl) ?_
  refine va_get (D := D) (ci := 2) (v := .ref g0) (C := R_Wr) (T := F_Wr) (N := 2) hx hb hts i_Wr hown hK hP 0 rfl rfl 1 (by decide) (hts _ kw_386) (fun _ h9 => h9) rfl d_jent_1 ?_
  refine lv_aload_n hx hb d_jent_4 rfl (lv_at hl 1 rfl) ?_
  refine va_get (D := D) (ci := 3) (v := .int 6) (C := R_Op) (T := F_Op) (N := 15) hx hb hts i_Op hown hK hP 3 rfl rfl 2 (by decide) (hts _ kw_60) (fun _ h9 => h9) rfl d_jent_5 ?_
  refine lv_bipush (v := 6) hx hb d_jent_8 (by decide) ?_
  refine lv_icmp_ne (tgt := 18) hx hb d_jent_10 (by decide) (fun h => absurd rfl h) (fun _ => ?_)
  refine lv_bipush (v := 123) hx hb d_jent_13 (by decide) ?_
  refine lv_goto (tgt := 20) hx hb d_jent_15 (by decide) ?_
  have hPc := hP.sub (ws' := [(g0, .inr (5, [.ref c0, .int 0, .int 0])), (c0, .inl (k0, 16384, .inl g))]) [1, 2] rfl
  have hDc := hD.sub (ws' := [(g0, .inr (5, [.ref c0, .int 0, .int 0])), (c0, .inl (k0, 16384, .inl g))]) [1, 2] (by decide) rfl
  have hKc := hK.sub (tys' := [(k0, .byte)]) [0] rfl
  have hFc := va_free (wc := [(g0, .inr (5, [.ref c0, .int 0, .int 0])), (c0, .inl (k0, 16384, .inl g))]) hD hS hA [1, 2] rfl
  refine va_callv (va_runV (As := [.int 123]) (rest := []) ⟨hx, hb, hml, hown, hts⟩ (g_wr16384 l D s.heap.size g0 c0 k0 0 123 g (vp_in_nI (n := 0) (N := 16384) (by decide) (by decide))) (cw_v 1 hts kw_549 kw_1232 kw_547 kw_548 kw_4 rfl rfl (by decide +kernel) ⟨Nat.le_of_ble_eq_true rfl, Nat.le_of_ble_eq_true rfl⟩) ⟨g_blind, va_recv hKc hPc (ci := 5) (q0 := 0) rfl rfl, fun U hU hW => g_pre hU hW hPc hKc hDc⟩ rfl rfl hl.1 rfl (lv_room (Nat.le_of_ble_eq_true rfl)) d_jent_20 ⟨Nat.le_of_ble_eq_true rfl, Nat.le_of_ble_eq_true rfl⟩) hS (fun q _ h => hFc q h) hFc (fun u_2 t H1 locs ht hvm hw hB hz1 hk1 hS => ?_)
  obtain ⟨hP1, hK1, hD1⟩ := hB
  rw [ht] at hP1
  have hK1 := va_K.moved hvm.symm hK1
  obtain ⟨hP, hD⟩ := va_join (wr := [(h0, .inr (2, [.ref v0, .ref g0])), (o0, .inr (3, [.int 0, .null, .int 6, .long 0, .int 0, .int 0, .null, .null, .int 0, .int 0, .int 0, .null, .null, .null, .int 0]))]) (w1 := [(g0, .inr (5, [.ref c0, .int 1, .int 0])), (c0, .inl (k0, 16384, .inl u_2))]) hP hD [1, 2] [0, 3] rfl rfl (by decide) (by decide) hk1 hFc hP1 hD1
  generalize H1 = H at hP hS ⊢
  have hP : va_P D cls [(h0, .inr (2, [.ref v0, .ref g0])), (o0, .inr (3, [.int 0, .null, .int 6, .long 0, .int 0, .int 0, .null, .null, .int 0, .int 0, .int 0, .null, .null, .null, .int 0])), (g0, .inr (5, [.ref c0, .int 1, .int 0])), (c0, .inl (k0, 16384, .inl u_2))] H := hP
  have hD : va_D A [(h0, .inr (2, [.ref v0, .ref g0])), (o0, .inr (3, [.int 0, .null, .int 6, .long 0, .int 0, .int 0, .null, .null, .int 0, .int 0, .int 0, .null, .null, .null, .int 0])), (g0, .inr (5, [.ref c0, .int 1, .int 0])), (c0, .inl (k0, 16384, .inl u_2))] := hD
  refine W.cs (cells' := 0) (slots' := 0) rfl rfl ?_
  refine lv_aload_n hx hb d_jent_23 rfl (lv_at hl 1 rfl) ?_
  refine va_get (D := D) (ci := 3) (v := .null) (C := R_Op) (T := F_Op) (N := 15) hx hb hts i_Op hown hK hP 1 rfl rfl 13 (by decide) (hts _ kw_98) (fun _ h9 => h9) rfl d_jent_24 ?_
  exact W.aret (v := .null) hx hb hr (Or.inl ⟨_, rfl⟩) (Or.inl rfl) (fun t ht hW => ⟨⟨none, u_2, rfl, rfl, by rw [ht]; exact hP.sub [0, 2, 3, 1] rfl, va_K.moved hW.alike hK, hD.sub [0, 2, 3, 1] (by decide) rfl⟩, hS.F ht⟩) hS.2.2 d_jent_27
theorem d_jwo_0 : decode prog_4_method_2_code 0 = .ok (.aload_n 0, 1) := by decide +kernel
theorem d_jwo_1 : decode prog_4_method_2_code 1 = .ok (.getfield 14, 3) := by decide +kernel
theorem d_jwo_4 : decode prog_4_method_2_code 4 = .ok (.invokevirtual 24, 3) := by decide +kernel
theorem d_jwo_7 : decode prog_4_method_2_code 7 = .ok (.aload_n 1, 1) := by decide +kernel
theorem d_jwo_8 : decode prog_4_method_2_code 8 = .ok (.getfield 27, 3) := by decide +kernel
theorem d_jwo_11 : decode prog_4_method_2_code 11 = .ok (.bipush 8, 2) := by decide +kernel
theorem d_jwo_13 : decode prog_4_method_2_code 13 = .ok (.if_icmp .ne 13, 3) := by decide +kernel
theorem d_jwo_26 : decode prog_4_method_2_code 26 = .ok (.aload_n 1, 1) := by decide +kernel
theorem d_jwo_27 : decode prog_4_method_2_code 27 = .ok (.astore_n 2, 1) := by decide +kernel
theorem d_jwo_28 : decode prog_4_method_2_code 28 = .ok (.aload_n 0, 1) := by decide +kernel
theorem d_jwo_29 : decode prog_4_method_2_code 29 = .ok (.aload_n 1, 1) := by decide +kernel
theorem d_jwo_30 : decode prog_4_method_2_code 30 = .ok (.invokevirtual 37, 3) := by decide +kernel
theorem d_jwo_33 : decode prog_4_method_2_code 33 = .ok (.astore_n 3, 1) := by decide +kernel
theorem d_jwo_34 : decode prog_4_method_2_code 34 = .ok (.iconst 1, 1) := by decide +kernel
theorem d_jwo_35 : decode prog_4_method_2_code 35 = .ok (.istore 4, 2) := by decide +kernel
theorem d_jwo_37 : decode prog_4_method_2_code 37 = .ok (.iconst 0, 1) := by decide +kernel
theorem d_jwo_38 : decode prog_4_method_2_code 38 = .ok (.istore 5, 2) := by decide +kernel
theorem d_jwo_40 : decode prog_4_method_2_code 40 = .ok (.iload 5, 2) := by decide +kernel
theorem d_jwo_42 : decode prog_4_method_2_code 42 = .ok (.sipush 12000, 3) := by decide +kernel
theorem d_jwo_45 : decode prog_4_method_2_code 45 = .ok (.if_icmp .gt 203, 3) := by decide +kernel
theorem d_jwo_48 : decode prog_4_method_2_code 48 = .ok (.iload 4, 2) := by decide +kernel
theorem d_jwo_50 : decode prog_4_method_2_code 50 = .ok (.ifCond .eq 198, 3) := by decide +kernel
theorem d_jwo_53 : decode prog_4_method_2_code 53 = .ok (.aload_n 0, 1) := by decide +kernel
theorem d_jwo_54 : decode prog_4_method_2_code 54 = .ok (.getfield 14, 3) := by decide +kernel
theorem d_jwo_57 : decode prog_4_method_2_code 57 = .ok (.getfield 41, 3) := by decide +kernel
theorem d_jwo_60 : decode prog_4_method_2_code 60 = .ok (.ifCond .ne 188, 3) := by decide +kernel
theorem d_jwo_63 : decode prog_4_method_2_code 63 = .ok (.aload_n 3, 1) := by decide +kernel
theorem d_jwo_64 : decode prog_4_method_2_code 64 = .ok (.ifnonnull 7, 3) := by decide +kernel
theorem d_jwo_67 : decode prog_4_method_2_code 67 = .ok (.aconst_null, 1) := by decide +kernel
theorem d_jwo_68 : decode prog_4_method_2_code 68 = .ok (.goto 11, 3) := by decide +kernel
theorem d_jwo_79 : decode prog_4_method_2_code 79 = .ok (.astore 6, 2) := by decide +kernel
theorem d_jwo_81 : decode prog_4_method_2_code 81 = .ok (.aload_n 3, 1) := by decide +kernel
theorem d_jwo_82 : decode prog_4_method_2_code 82 = .ok (.ifnonnull 72, 3) := by decide +kernel
theorem d_jwo_85 : decode prog_4_method_2_code 85 = .ok (.aload_n 0, 1) := by decide +kernel
theorem d_jwo_86 : decode prog_4_method_2_code 86 = .ok (.getfield 14, 3) := by decide +kernel
theorem d_jwo_89 : decode prog_4_method_2_code 89 = .ok (.aload_n 2, 1) := by decide +kernel
theorem d_jwo_90 : decode prog_4_method_2_code 90 = .ok (.getfield 27, 3) := by decide +kernel
theorem d_jwo_93 : decode prog_4_method_2_code 93 = .ok (.bipush 6, 2) := by decide +kernel
theorem d_jwo_95 : decode prog_4_method_2_code 95 = .ok (.if_icmp .ne 8, 3) := by decide +kernel
theorem d_jwo_98 : decode prog_4_method_2_code 98 = .ok (.bipush 125, 2) := by decide +kernel
theorem d_jwo_100 : decode prog_4_method_2_code 100 = .ok (.goto 5, 3) := by decide +kernel
theorem d_jwo_105 : decode prog_4_method_2_code 105 = .ok (.invokevirtual 51, 3) := by decide +kernel
theorem d_jwo_108 : decode prog_4_method_2_code 108 = .ok (.aload_n 2, 1) := by decide +kernel
theorem d_jwo_109 : decode prog_4_method_2_code 109 = .ok (.aload_n 1, 1) := by decide +kernel
theorem d_jwo_110 : decode prog_4_method_2_code 110 = .ok (.if_acmp .eq 7, 3) := by decide +kernel
theorem d_jwo_117 : decode prog_4_method_2_code 117 = .ok (.iconst 0, 1) := by decide +kernel
theorem d_jwo_118 : decode prog_4_method_2_code 118 = .ok (.istore 4, 2) := by decide +kernel
theorem d_jwo_120 : decode prog_4_method_2_code 120 = .ok (.iload 4, 2) := by decide +kernel
theorem d_jwo_122 : decode prog_4_method_2_code 122 = .ok (.ifCond .eq 13, 3) := by decide +kernel
theorem d_jwo_135 : decode prog_4_method_2_code 135 = .ok (.aconst_null, 1) := by decide +kernel
theorem d_jwo_136 : decode prog_4_method_2_code 136 = .ok (.astore_n 3, 1) := by decide +kernel
theorem d_jwo_137 : decode prog_4_method_2_code 137 = .ok (.iload 4, 2) := by decide +kernel
theorem d_jwo_139 : decode prog_4_method_2_code 139 = .ok (.ifCond .eq 10, 3) := by decide +kernel
theorem d_jwo_149 : decode prog_4_method_2_code 149 = .ok (.aload_n 1, 1) := by decide +kernel
theorem d_jwo_150 : decode prog_4_method_2_code 150 = .ok (.astore_n 2, 1) := by decide +kernel
theorem d_jwo_151 : decode prog_4_method_2_code 151 = .ok (.goto 91, 3) := by decide +kernel
theorem d_jwo_242 : decode prog_4_method_2_code 242 = .ok (.iinc 5 1, 3) := by decide +kernel
theorem d_jwo_245 : decode prog_4_method_2_code 245 = .ok (.goto (-205), 3) := by decide +kernel
theorem d_jwo_248 : decode prog_4_method_2_code 248 = .ok (.aload_n 0, 1) := by decide +kernel
theorem d_jwo_249 : decode prog_4_method_2_code 249 = .ok (.getfield 14, 3) := by decide +kernel
theorem d_jwo_252 : decode prog_4_method_2_code 252 = .ok (.areturn, 1) := by decide +kernel
set_option maxHeartbeats 4000000 in
set_option maxRecDepth 100000 in
theorem g_wobj (l : Launch) (D : va_G) (sz : Nat) (h0 v0 g0 c0 o0 : Nat) (k0 : ClassId) (g : Nat → Int32) : Met l ⟨"JoinedTrees$JsonWriter", "writeObject", "(LJoinedTrees$Op;)LJoinedTrees$Row;"⟩ (Cond.code ⟨"JoinedTrees$JsonWriter", "writeObject", "(LJoinedTrees$Op;)LJoinedTrees$Row;"⟩ prog_4_method_2_code 8 (some (.object "JoinedTrees$Row")) :: gb) ({ frames := 2, cells := 0, slots := 0, locals := 42 }) (gPc D [(h0, .inr (2, [.ref v0, .ref g0])), (g0, .inr (5, [.ref c0, .int 0, .int 0])), (c0, .inl (k0, 16384, .inl g)), (o0, .inr (3, [.int 0, .null, .int 6, .long 0, .int 0, .int 0, .null, .null, .int 0, .int 0, .int 0, .null, .null, .null, .int 0]))] [(k0, .byte)] sz [.ref h0, .ref o0]) (va_Qq (fun (r : Option Nat) (u : Nat → Int32) => r = some g0) (fun u t => gO D [(h0, .inr (2, [.ref v0, .ref g0])), (g0, .inr (5, [.ref c0, .int 2, .int 0])), (c0, .inl (k0, 16384, .inl u)), (o0, .inr (3, [.int 0, .null, .int 6, .long 0, .int 0, .int 0, .null, .null, .int 0, .int 0, .int 0, .null, .null, .null, .int 0]))] [(k0, .byte)] (va_A [(h0, .inr (2, [.ref v0, .ref g0])), (g0, .inr (5, [.ref c0, .int 0, .int 0])), (c0, .inl (k0, 16384, .inl g)), (o0, .inr (3, [.int 0, .null, .int 6, .long 0, .int 0, .int 0, .null, .null, .int 0, .int 0, .int 0, .null, .null, .null, .int 0]))] sz) t) (va_A [(h0, .inr (2, [.ref v0, .ref g0])), (g0, .inr (5, [.ref c0, .int 0, .int 0])), (c0, .inl (k0, 16384, .inl g)), (o0, .inr (3, [.int 0, .null, .int 6, .long 0, .int 0, .int 0, .null, .null, .int 0, .int 0, .int 0, .null, .null, .null, .int 0]))] sz)) 0 0 (va_A [(h0, .inr (2, [.ref v0, .ref g0])), (g0, .inr (5, [.ref c0, .int 0, .int 0])), (c0, .inl (k0, 16384, .inl g)), (o0, .inr (3, [.int 0, .null, .int 6, .long 0, .int 0, .int 0, .null, .null, .int 0, .int 0, .int 0, .null, .null, .null, .int 0]))] sz) := by
  refine Met.ofW (cc := prog_4_method_2_code) (maxL := 8) (ret := (some (.object "JoinedTrees$Row"))) (by decide) rfl ?_
  intro p e s m args below meth c s₁ B hml hv
  obtain ⟨rfl, hsz, hP, hK, hD0⟩ := hv
  have hx := B.exec
  have hb := B.bytes
  have hr := B.returns
  have hts : ∀ w9 ∈ gb, w9.before [.ref h0, .ref o0].toArray s = true := fun w9 h => atoms_spec (ws := Cond.code ⟨"JoinedTrees$JsonWriter", "writeObject", "(LJoinedTrees$Op;)LJoinedTrees$Row;"⟩ prog_4_method_2_code 8 (some (.object "JoinedTrees$Row")) :: gb) B.pre w9 (List.mem_cons_of_mem _ h)
  have hown : s.vm.findClass "JoinedTrees$JsonWriter" = some m.cls := findClass_of_methodNamed B.named
  have hlocks := B.notSynchronized
  subst hsz
  have hD := hD0.self (sz := s.heap.size)
  generalize hAe : va_A [(h0, .inr (2, [.ref v0, .ref g0])), (g0, .inr (5, [.ref c0, .int 0, .int 0])), (c0, .inl (k0, 16384, .inl g)), (o0, .inr (3, [.int 0, .null, .int 6, .long 0, .int 0, .int 0, .null, .null, .int 0, .int 0, .int 0, .null, .null, .null, .int 0]))] s.heap.size = A at hD ⊢
  have hA : ∀ q : Nat, s.heap.size ≤ q → A q := fun q h => by rw [← hAe]; exact Or.inr h
  have hS : va_S A s.heap s.heap [] := va_S.rf
  have hP : va_P D cls [(h0, .inr (2, [.ref v0, .ref g0])), (g0, .inr (5, [.ref c0, .int 0, .int 0])), (c0, .inl (k0, 16384, .inl g)), (o0, .inr (3, [.int 0, .null, .int 6, .long 0, .int 0, .int 0, .null, .null, .int 0, .int 0, .int 0, .null, .null, .null, .int 0]))] s.heap := hP
  have hl := lv_entry ([.ref h0, .ref o0]) (n := 8) (Nat.le_of_ble_eq_true rfl)
  rw [lg_entry_eq]
  generalize (lg_sl ([.ref h0, .ref o0]) ++ List.replicate (8 - (lg_sl ([.ref h0, .ref o0])).length) Slot.unset).toArray = ls at hl ⊢
  have hl : lv_has ls 8 [(0, .ref h0), (1, .ref o0)] := hl
  refine lv_aload_n hx hb d_jwo_0 rfl (lv_at hl 0 rfl) ?_
  refine va_get (D := D) (ci := 2) (v := .ref g0) (C := R_Wr) (T := F_Wr) (N := 2) hx hb hts i_Wr hown hK hP 0 rfl rfl 1 (by decide) (hts _ kw_386) (fun _ h9 => h9) rfl d_jwo_1 ?_
  have hPc := hP.sub (ws' := [(g0, .inr (5, [.ref c0, .int 0, .int 0]))]) [1] rfl
  have hDc := hD.sub (ws' := [(g0, .inr (5, [.ref c0, .int 0, .int 0]))]) [1] (by decide) rfl
  have hKc := hK.sub (tys' := []) [] rfl
  have hFc := va_free (wc := [(g0, .inr (5, [.ref c0, .int 0, .int 0]))]) hD hS hA [1] rfl
  refine va_callv (va_runV (As := []) (rest := []) ⟨hx, hb, hml, hown, hts⟩ (g_clear l D s.heap.size g0 c0 0 0) (cw_v 0 hts kw_576 kw_1220 kw_574 kw_575 kw_4 rfl rfl (by decide +kernel) ⟨Nat.le_of_ble_eq_true rfl, Nat.le_of_ble_eq_true rfl⟩) ⟨g_blind, va_recv hKc hPc (ci := 5) (q0 := 0) rfl rfl, fun U hU hW => g_pre hU hW hPc hKc hDc⟩ rfl rfl hl.1 rfl (lv_room (Nat.le_of_ble_eq_true rfl)) d_jwo_4 ⟨Nat.le_of_ble_eq_true rfl, Nat.le_of_ble_eq_true rfl⟩) hS (fun q _ h => hFc q h) hFc (fun u_2 t H1 locs ht hvm hw hB hz1 hk1 hS => ?_)
  obtain ⟨⟩ := u_2
  obtain ⟨hP1, hK1, hD1⟩ := hB
  rw [ht] at hP1
  have hK1 := va_K.moved hvm.symm hK1
  obtain ⟨hP, hD⟩ := va_join (wr := [(h0, .inr (2, [.ref v0, .ref g0])), (c0, .inl (k0, 16384, .inl g)), (o0, .inr (3, [.int 0, .null, .int 6, .long 0, .int 0, .int 0, .null, .null, .int 0, .int 0, .int 0, .null, .null, .null, .int 0]))]) (w1 := [(g0, .inr (5, [.ref c0, .int 0, .int 0]))]) hP hD [1] [0, 2, 3] rfl rfl (by decide) (by decide) hk1 hFc hP1 hD1
  generalize H1 = H at hP hS ⊢
  have hP : va_P D cls [(h0, .inr (2, [.ref v0, .ref g0])), (c0, .inl (k0, 16384, .inl g)), (o0, .inr (3, [.int 0, .null, .int 6, .long 0, .int 0, .int 0, .null, .null, .int 0, .int 0, .int 0, .null, .null, .null, .int 0])), (g0, .inr (5, [.ref c0, .int 0, .int 0]))] H := hP
  have hD : va_D A [(h0, .inr (2, [.ref v0, .ref g0])), (c0, .inl (k0, 16384, .inl g)), (o0, .inr (3, [.int 0, .null, .int 6, .long 0, .int 0, .int 0, .null, .null, .int 0, .int 0, .int 0, .null, .null, .null, .int 0])), (g0, .inr (5, [.ref c0, .int 0, .int 0]))] := hD
  refine W.cs (cells' := 0) (slots' := 0) rfl rfl ?_
  refine lv_aload_n hx hb d_jwo_7 rfl (lv_at hl 1 rfl) ?_
  refine va_get (D := D) (ci := 3) (v := .int 6) (C := R_Op) (T := F_Op) (N := 15) hx hb hts i_Op hown hK hP 2 rfl rfl 2 (by decide) (hts _ kw_60) (fun _ h9 => h9) rfl d_jwo_8 ?_
  refine lv_bipush (v := 8) hx hb d_jwo_11 (by decide) ?_
  refine lv_icmp_ne (tgt := 26) hx hb d_jwo_13 (by decide) (fun _ => ?_) (fun h => absurd h (by decide))
  refine lv_aload_n hx hb d_jwo_26 rfl (lv_at hl 1 rfl) ?_
  refine lv_astore_n (lv' := [(2, .ref o0), (0, .ref h0), (1, .ref o0)]) hx hb d_jwo_27 rfl hl (by decide) rfl (fun ls hl => ?_)
  refine lv_aload_n hx hb d_jwo_28 rfl (lv_at hl 1 rfl) ?_
  refine lv_aload_n hx hb d_jwo_29 rfl (lv_at hl 2 rfl) ?_
  have hPc := hP.sub (ws' := [(h0, .inr (2, [.ref v0, .ref g0])), (g0, .inr (5, [.ref c0, .int 0, .int 0])), (c0, .inl (k0, 16384, .inl g)), (o0, .inr (3, [.int 0, .null, .int 6, .long 0, .int 0, .int 0, .null, .null, .int 0, .int 0, .int 0, .null, .null, .null, .int 0]))]) [0, 3, 1, 2] rfl
  have hDc := hD.sub (ws' := [(h0, .inr (2, [.ref v0, .ref g0])), (g0, .inr (5, [.ref c0, .int 0, .int 0])), (c0, .inl (k0, 16384, .inl g)), (o0, .inr (3, [.int 0, .null, .int 6, .long 0, .int 0, .int 0, .null, .null, .int 0, .int 0, .int 0, .null, .null, .null, .int 0]))]) [0, 3, 1, 2] (by decide) rfl
  have hKc := hK.sub (tys' := [(k0, .byte)]) [0] rfl
  have hFc := va_free (wc := [(h0, .inr (2, [.ref v0, .ref g0])), (g0, .inr (5, [.ref c0, .int 0, .int 0])), (c0, .inl (k0, 16384, .inl g)), (o0, .inr (3, [.int 0, .null, .int 6, .long 0, .int 0, .int 0, .null, .null, .int 0, .int 0, .int 0, .null, .null, .null, .int 0]))]) hD hS hA [0, 3, 1, 2] rfl
  refine va_callq (va_runV (As := [.ref o0]) (rest := []) ⟨hx, hb, hml, hown, hts⟩ (g_enter l D H.size h0 v0 g0 c0 o0 k0 g) (cw_v 1 hts kw_1262 kw_1259 kw_1260 kw_1261 kw_9 rfl rfl (by decide +kernel) ⟨Nat.le_of_ble_eq_true rfl, Nat.le_of_ble_eq_true rfl⟩) ⟨g_blind, va_recv hKc hPc (ci := 2) (q0 := 0) rfl rfl, fun U hU hW => g_pre hU hW hPc hKc hDc⟩ rfl rfl hl.1 rfl (lv_room (Nat.le_of_ble_eq_true rfl)) d_jwo_30 ⟨Nat.le_of_ble_eq_true rfl, Nat.le_of_ble_eq_true rfl⟩) hS (fun q _ h => hFc q h) hFc (fun r_3 u_4 t H1 locs ht hvm hw hB hz1 hk1 hS => ?_)
  obtain ⟨hP1, hK1, hD1⟩ := hB
  rw [ht] at hP1
  have hK1 := va_K.moved hvm.symm hK1
  obtain ⟨hP, hD⟩ := va_join (wr := []) (w1 := [(h0, .inr (2, [.ref v0, .ref g0])), (g0, .inr (5, [.ref c0, .int 1, .int 0])), (c0, .inl (k0, 16384, .inl u_4)), (o0, .inr (3, [.int 0, .null, .int 6, .long 0, .int 0, .int 0, .null, .null, .int 0, .int 0, .int 0, .null, .null, .null, .int 0]))]) hP hD [0, 3, 1, 2] [] rfl rfl (by decide) (by decide) hk1 hFc hP1 hD1
  generalize H1 = H at hP hS ⊢
  have hP : va_P D cls [(h0, .inr (2, [.ref v0, .ref g0])), (g0, .inr (5, [.ref c0, .int 1, .int 0])), (c0, .inl (k0, 16384, .inl u_4)), (o0, .inr (3, [.int 0, .null, .int 6, .long 0, .int 0, .int 0, .null, .null, .int 0, .int 0, .int 0, .null, .null, .null, .int 0]))] H := hP
  have hD : va_D A [(h0, .inr (2, [.ref v0, .ref g0])), (g0, .inr (5, [.ref c0, .int 1, .int 0])), (c0, .inl (k0, 16384, .inl u_4)), (o0, .inr (3, [.int 0, .null, .int 6, .long 0, .int 0, .int 0, .null, .null, .int 0, .int 0, .int 0, .null, .null, .null, .int 0]))] := hD
  refine W.cs (cells' := 0) (slots' := 0) rfl rfl ?_
  subst hw
  refine w_v (y := .null) rfl ?_
  refine lv_astore_nN (lv' := [(3, .null), (2, .ref o0), (0, .ref h0), (1, .ref o0)]) hx hb d_jwo_33 rfl hl (by decide) rfl (fun ls hl => ?_)
  refine lv_iconst (v := 1) hx hb d_jwo_34 (by decide) ?_
  refine lv_istore (lv' := [(4, .int 1), (3, .null), (2, .ref o0), (0, .ref h0), (1, .ref o0)]) hx hb d_jwo_35 hl (by decide) rfl (fun ls hl => ?_)
  refine lv_iconst (v := 0) hx hb d_jwo_37 (by decide) ?_
  refine lv_istore (lv' := [(5, .int 0), (4, .int 1), (3, .null), (2, .ref o0), (0, .ref h0), (1, .ref o0)]) hx hb d_jwo_38 hl (by decide) rfl (fun ls hl => ?_)
  refine lv_iload hx hb d_jwo_40 (lv_at hl 0 rfl) ?_
  refine lv_sipush (v := 12000) hx hb d_jwo_42 (by decide) ?_
  refine lv_icmp_gt (tgt := 248) hx hb d_jwo_45 (by decide) (fun h => absurd h (by decide)) (fun _ => ?_)
  refine lv_iload hx hb d_jwo_48 (lv_at hl 1 rfl) ?_
  refine lv_if_eq (tgt := 248) hx hb d_jwo_50 (by decide) (fun h => absurd h (by decide)) (fun _ => ?_)
  refine lv_aload_n hx hb d_jwo_53 rfl (lv_at hl 4 rfl) ?_
  refine va_get (D := D) (ci := 2) (v := .ref g0) (C := R_Wr) (T := F_Wr) (N := 2) hx hb hts i_Wr hown hK hP 0 rfl rfl 1 (by decide) (hts _ kw_386) (fun _ h9 => h9) rfl d_jwo_54 ?_
  refine va_get (D := D) (ci := 5) (v := .int 0) (C := R_Rw) (T := F_Rw) (N := 3) hx hb hts i_Rw hown hK hP 1 rfl rfl 2 (by decide) (hts _ kw_149) (fun _ h9 => h9) rfl d_jwo_57 ?_
  refine lv_if_ne (tgt := 248) hx hb d_jwo_60 (by decide) (fun h => absurd rfl h) (fun _ => ?_)
  refine lv_aload_nN hx hb d_jwo_63 rfl (lv_at hl 2 rfl) ?_
  refine lv_ifnonnullN hx hb d_jwo_64 ?_
  refine lv_null hx hb d_jwo_67 ?_
  refine lv_goto (tgt := 79) hx hb d_jwo_68 (by decide) ?_
  refine lv_astoreN (lv' := [(6, .null), (5, .int 0), (4, .int 1), (3, .null), (2, .ref o0), (0, .ref h0), (1, .ref o0)]) hx hb d_jwo_79 hl (by decide) rfl (fun ls hl => ?_)
  refine lv_aload_nN hx hb d_jwo_81 rfl (lv_at hl 3 rfl) ?_
  refine lv_ifnonnullN hx hb d_jwo_82 ?_
  refine lv_aload_n hx hb d_jwo_85 rfl (lv_at hl 5 rfl) ?_
  refine va_get (D := D) (ci := 2) (v := .ref g0) (C := R_Wr) (T := F_Wr) (N := 2) hx hb hts i_Wr hown hK hP 0 rfl rfl 1 (by decide) (hts _ kw_386) (fun _ h9 => h9) rfl d_jwo_86 ?_
  refine lv_aload_n hx hb d_jwo_89 rfl (lv_at hl 4 rfl) ?_
  refine va_get (D := D) (ci := 3) (v := .int 6) (C := R_Op) (T := F_Op) (N := 15) hx hb hts i_Op hown hK hP 3 rfl rfl 2 (by decide) (hts _ kw_60) (fun _ h9 => h9) rfl d_jwo_90 ?_
  refine lv_bipush (v := 6) hx hb d_jwo_93 (by decide) ?_
  refine lv_icmp_ne (tgt := 103) hx hb d_jwo_95 (by decide) (fun h => absurd rfl h) (fun _ => ?_)
  refine lv_bipush (v := 125) hx hb d_jwo_98 (by decide) ?_
  refine lv_goto (tgt := 105) hx hb d_jwo_100 (by decide) ?_
  have hPc := hP.sub (ws' := [(g0, .inr (5, [.ref c0, .int 1, .int 0])), (c0, .inl (k0, 16384, .inl u_4))]) [1, 2] rfl
  have hDc := hD.sub (ws' := [(g0, .inr (5, [.ref c0, .int 1, .int 0])), (c0, .inl (k0, 16384, .inl u_4))]) [1, 2] (by decide) rfl
  have hKc := hK.sub (tys' := [(k0, .byte)]) [0] rfl
  have hFc := va_free (wc := [(g0, .inr (5, [.ref c0, .int 1, .int 0])), (c0, .inl (k0, 16384, .inl u_4))]) hD hS hA [1, 2] rfl
  refine va_callv (va_runV (As := [.int 125]) (rest := []) ⟨hx, hb, hml, hown, hts⟩ (g_wr16384 l D H.size g0 c0 k0 1 125 u_4 (vp_in_nI (n := 1) (N := 16384) (by decide) (by decide))) (cw_v 1 hts kw_549 kw_1232 kw_547 kw_548 kw_4 rfl rfl (by decide +kernel) ⟨Nat.le_of_ble_eq_true rfl, Nat.le_of_ble_eq_true rfl⟩) ⟨g_blind, va_recv hKc hPc (ci := 5) (q0 := 0) rfl rfl, fun U hU hW => g_pre hU hW hPc hKc hDc⟩ rfl rfl hl.1 rfl (lv_room (Nat.le_of_ble_eq_true rfl)) d_jwo_105 ⟨Nat.le_of_ble_eq_true rfl, Nat.le_of_ble_eq_true rfl⟩) hS (fun q _ h => hFc q h) hFc (fun u_6 t H1 locs ht hvm hw hB hz1 hk1 hS => ?_)
  obtain ⟨hP1, hK1, hD1⟩ := hB
  rw [ht] at hP1
  have hK1 := va_K.moved hvm.symm hK1
  obtain ⟨hP, hD⟩ := va_join (wr := [(h0, .inr (2, [.ref v0, .ref g0])), (o0, .inr (3, [.int 0, .null, .int 6, .long 0, .int 0, .int 0, .null, .null, .int 0, .int 0, .int 0, .null, .null, .null, .int 0]))]) (w1 := [(g0, .inr (5, [.ref c0, .int 2, .int 0])), (c0, .inl (k0, 16384, .inl u_6))]) hP hD [1, 2] [0, 3] rfl rfl (by decide) (by decide) hk1 hFc hP1 hD1
  generalize H1 = H at hP hS ⊢
  have hP : va_P D cls [(h0, .inr (2, [.ref v0, .ref g0])), (o0, .inr (3, [.int 0, .null, .int 6, .long 0, .int 0, .int 0, .null, .null, .int 0, .int 0, .int 0, .null, .null, .null, .int 0])), (g0, .inr (5, [.ref c0, .int 2, .int 0])), (c0, .inl (k0, 16384, .inl u_6))] H := hP
  have hD : va_D A [(h0, .inr (2, [.ref v0, .ref g0])), (o0, .inr (3, [.int 0, .null, .int 6, .long 0, .int 0, .int 0, .null, .null, .int 0, .int 0, .int 0, .null, .null, .null, .int 0])), (g0, .inr (5, [.ref c0, .int 2, .int 0])), (c0, .inl (k0, 16384, .inl u_6))] := hD
  refine W.cs (cells' := 0) (slots' := 0) rfl rfl ?_
  refine lv_aload_n hx hb d_jwo_108 rfl (lv_at hl 4 rfl) ?_
  refine lv_aload_n hx hb d_jwo_109 rfl (lv_at hl 6 rfl) ?_
  refine lv_acmp_eq (rx := some o0) (ry := some o0) (tgt := 117) hx hb d_jwo_110 (by decide) (fun _ => ?_) (fun h => absurd rfl h)
  refine lv_iconst (v := 0) hx hb d_jwo_117 (by decide) ?_
  refine lv_istore (lv' := [(4, .int 0), (6, .null), (5, .int 0), (3, .null), (2, .ref o0), (0, .ref h0), (1, .ref o0)]) hx hb d_jwo_118 hl (by decide) rfl (fun ls hl => ?_)
  refine lv_iload hx hb d_jwo_120 (lv_at hl 0 rfl) ?_
  refine lv_if_eq (tgt := 135) hx hb d_jwo_122 (by decide) (fun _ => ?_) (fun h => absurd h (by decide))
  refine lv_null hx hb d_jwo_135 ?_
  refine lv_astore_nN (lv' := [(3, .null), (4, .int 0), (6, .null), (5, .int 0), (2, .ref o0), (0, .ref h0), (1, .ref o0)]) hx hb d_jwo_136 rfl hl (by decide) rfl (fun ls hl => ?_)
  refine lv_iload hx hb d_jwo_137 (lv_at hl 1 rfl) ?_
  refine lv_if_eq (tgt := 149) hx hb d_jwo_139 (by decide) (fun _ => ?_) (fun h => absurd h (by decide))
  refine lv_aload_n hx hb d_jwo_149 rfl (lv_at hl 6 rfl) ?_
  refine lv_astore_n (lv' := [(2, .ref o0), (3, .null), (4, .int 0), (6, .null), (5, .int 0), (0, .ref h0), (1, .ref o0)]) hx hb d_jwo_150 rfl hl (by decide) rfl (fun ls hl => ?_)
  refine lv_goto (tgt := 242) hx hb d_jwo_151 (by decide) ?_
  refine lv_iinc (v := 1) (lv' := [(5, .int 1), (2, .ref o0), (3, .null), (4, .int 0), (6, .null), (0, .ref h0), (1, .ref o0)]) hx hb d_jwo_242 hl (k := 4) rfl (by decide) (by decide) rfl (fun ls hl => ?_)
  refine lv_goto (tgt := 40) hx hb d_jwo_245 (by decide) ?_
  refine lv_iload hx hb d_jwo_40 (lv_at hl 0 rfl) ?_
  refine lv_sipush (v := 12000) hx hb d_jwo_42 (by decide) ?_
  refine lv_icmp_gt (tgt := 248) hx hb d_jwo_45 (by decide) (fun h => absurd h (by decide)) (fun _ => ?_)
  refine lv_iload hx hb d_jwo_48 (lv_at hl 3 rfl) ?_
  refine lv_if_eq (tgt := 248) hx hb d_jwo_50 (by decide) (fun _ => ?_) (fun h => absurd h (by decide))
  refine lv_aload_n hx hb d_jwo_248 rfl (lv_at hl 5 rfl) ?_
  refine va_get (D := D) (ci := 2) (v := .ref g0) (C := R_Wr) (T := F_Wr) (N := 2) hx hb hts i_Wr hown hK hP 0 rfl rfl 1 (by decide) (hts _ kw_386) (fun _ h9 => h9) rfl d_jwo_249 ?_
  exact W.aret (v := .ref g0) hx hb hr (Or.inl ⟨_, rfl⟩) (Or.inr ⟨_, rfl⟩) (fun t ht hW => ⟨⟨(some g0), u_6, rfl, rfl, by rw [ht]; exact hP.sub [0, 2, 3, 1] rfl, va_K.moved hW.alike hK, hD.sub [0, 2, 3, 1] (by decide) rfl⟩, hS.F ht⟩) hS.2.2 d_jwo_252
