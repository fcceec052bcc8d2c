def m_rwrite_J23 (S : MS) : Option MS := some (S.setI 41 ((S.i 41) + 1))
theorem d_rwrite_0 : decode prog_14_method_74_code 0 = .ok (.aload_n 0, 1) := by decide +kernel
theorem d_rwrite_1 : decode prog_14_method_74_code 1 = .ok (.getfield 433, 3) := by decide +kernel
theorem d_rwrite_4 : decode prog_14_method_74_code 4 = .ok (.aload_n 0, 1) := by decide +kernel
theorem d_rwrite_5 : decode prog_14_method_74_code 5 = .ok (.getfield 108, 3) := by decide +kernel
theorem d_rwrite_8 : decode prog_14_method_74_code 8 = .ok (.arraylength, 1) := by decide +kernel
theorem d_rwrite_9 : decode prog_14_method_74_code 9 = .ok (.if_icmp .ge 14, 3) := by decide +kernel
theorem d_rwrite_23 : decode prog_14_method_74_code 23 = .ok (.aload_n 0, 1) := by decide +kernel
theorem d_rwrite_24 : decode prog_14_method_74_code 24 = .ok (.dup, 1) := by decide +kernel
theorem d_rwrite_25 : decode prog_14_method_74_code 25 = .ok (.getfield 433, 3) := by decide +kernel
theorem d_rwrite_28 : decode prog_14_method_74_code 28 = .ok (.iconst 1, 1) := by decide +kernel
theorem d_rwrite_29 : decode prog_14_method_74_code 29 = .ok (.iadd, 1) := by decide +kernel
theorem d_rwrite_30 : decode prog_14_method_74_code 30 = .ok (.putfield 433, 3) := by decide +kernel
theorem d_rwrite_33 : decode prog_14_method_74_code 33 = .ok (.return_, 1) := by decide +kernel
set_option maxHeartbeats 4000000 in
set_option maxRecDepth 100000 in
theorem w_rwrite_J23 {p : Program} {l : Launch} {e : Env} {s : State} {m : MethodId} {args : Array Value} {below : List Frame} {meth : Method} {c : Code} {A : Nat → Prop} {D : va_G} {md : Nat → Nat} {mc : Nat → ClassId} {Q : State → Prop} (hC : MCx "JoinedTreesModel" prog_14_method_74_code 2 none p s m args meth c A D mc) {S : MS} {o : MS} (Heq : m_rwrite_J23 S = some o) (Kr : ∀ r : MS, o = r → ∀ (pc : Nat) (H : Heap) (locs : List Loc) (ls : Array Slot), decode prog_14_method_74_code pc = .ok (.return_, 1) → va_P D cls (mw md mc r) H → va_D A (mw md mc r) → va_S A s.heap H locs → W p l e ({ frames := 0, cells := 0, slots := 0, locals := 0 }) s m args below meth c H locs 0 0 Q (F0 m pc ls [])) : ∀ (H : Heap) (locs : List Loc) (ls : Array Slot), va_P D cls (mw md mc S) H → va_D A (mw md mc S) → va_S A s.heap H locs → lv_has ls 2 [(0, .ref (md 100))] → W p l e ({ frames := 0, cells := 0, slots := 0, locals := 0 }) s m args below meth c H locs 0 0 Q (F0 m 23 ls []) := by
  intro H locs ls hP hD hS hl
  obtain ⟨hx, hb, hr, hml, hown, hts, hK, hA⟩ := id hC
  unfold m_rwrite_J23 at Heq
  refine lv_aload_n hx hb d_rwrite_23 rfl (lv_at hl 0 rfl) ?_
  refine lv_dup hx hb d_rwrite_24 rfl ?_
  refine va_get (D := D) (ci := 12) (v := .int (S.i 41)) (C := R_MM) (T := F_MM) (N := 77) hx hb hts i_MM hown hK hP 0 rfl rfl 41 (by decide) (hts _ kw_1423) (fun _ h9 => h9) rfl d_rwrite_25 ?_
  refine lv_iconst (v := 1) hx hb d_rwrite_28 (by decide) ?_
  refine lv_iadd hx hb d_rwrite_29 ?_
  refine w_i (y := (S.i 41) + 1) rfl ?_
  refine va_put (D := D) (ci := 12) (v := .int ((S.i 41) + 1)) (ty := .int) (C := R_MM) (T := F_MM) (N := 77) hx hb hts i_MM t_MM t_MM_ok n_MM hown hK hP hD hS 0 rfl rfl 41 (by decide) (hts _ kw_1423) (fun _ h9 => h9) rfl (by decide +kernel) rfl rfl (Nat.le_of_ble_eq_true rfl) d_rwrite_30 (fun H locs hP hD hS => ?_)
  rw [mw_I41] at hP hD
  exact Kr _ (Option.some.inj Heq).symm 33 _ _ _ d_rwrite_33 hP hD hS
def m_rwrite_J0 (S : MS) (x1 : Int32) : Option MS := (if 800000 ≤ S.i 41 then m_rwrite_J23 S else gd (S.i 41) 800000 (m_rwrite_J23 (S.setA 40 (upd (S.a 40) ((S.i 41).toNatClampNeg) (vp_nar .byte x1.toInt8.toInt32)))))
theorem d_rwrite_12 : decode prog_14_method_74_code 12 = .ok (.aload_n 0, 1) := by decide +kernel
theorem d_rwrite_13 : decode prog_14_method_74_code 13 = .ok (.getfield 108, 3) := by decide +kernel
theorem d_rwrite_16 : decode prog_14_method_74_code 16 = .ok (.aload_n 0, 1) := by decide +kernel
theorem d_rwrite_17 : decode prog_14_method_74_code 17 = .ok (.getfield 433, 3) := by decide +kernel
theorem d_rwrite_20 : decode prog_14_method_74_code 20 = .ok (.iload_n 1, 1) := by decide +kernel
theorem d_rwrite_21 : decode prog_14_method_74_code 21 = .ok (.i2b, 1) := by decide +kernel
theorem d_rwrite_22 : decode prog_14_method_74_code 22 = .ok (.bastore, 1) := by decide +kernel
set_option maxHeartbeats 4000000 in
set_option maxRecDepth 100000 in
theorem w_rwrite_J0 {p : Program} {l : Launch} {e : Env} {s : State} {m : MethodId} {args : Array Value} {below : List Frame} {meth : Method} {c : Code} {A : Nat → Prop} {D : va_G} {md : Nat → Nat} {mc : Nat → ClassId} {Q : State → Prop} (hC : MCx "JoinedTreesModel" prog_14_method_74_code 2 none p s m args meth c A D mc) {S : MS} {x1 : Int32} {o : MS} (Heq : m_rwrite_J0 S x1 = some o) (Kr : ∀ r : MS, o = r → ∀ (pc : Nat) (H : Heap) (locs : List Loc) (ls : Array Slot), decode prog_14_method_74_code pc = .ok (.return_, 1) → va_P D cls (mw md mc r) H → va_D A (mw md mc r) → va_S A s.heap H locs → W p l e ({ frames := 0, cells := 0, slots := 0, locals := 0 }) s m args below meth c H locs 0 0 Q (F0 m pc ls [])) : ∀ (H : Heap) (locs : List Loc) (ls : Array Slot), va_P D cls (mw md mc S) H → va_D A (mw md mc S) → va_S A s.heap H locs → lv_has ls 2 [(0, .ref (md 100)), (1, .int x1)] → W p l e ({ frames := 0, cells := 0, slots := 0, locals := 0 }) s m args below meth c H locs 0 0 Q (F0 m 0 ls []) := by
  intro H locs ls hP hD hS hl
  obtain ⟨hx, hb, hr, hml, hown, hts, hK, hA⟩ := id hC
  unfold m_rwrite_J0 at Heq
  refine lv_aload_n hx hb d_rwrite_0 rfl (lv_at hl 0 rfl) ?_
  refine va_get (D := D) (ci := 12) (v := .int (S.i 41)) (C := R_MM) (T := F_MM) (N := 77) hx hb hts i_MM hown hK hP 0 rfl rfl 41 (by decide) (hts _ kw_1423) (fun _ h9 => h9) rfl d_rwrite_1 ?_
  refine lv_aload_n hx hb d_rwrite_4 rfl (lv_at hl 0 rfl) ?_
  refine va_get (D := D) (ci := 12) (v := .ref (md 40)) (C := R_MM) (T := F_MM) (N := 77) hx hb hts i_MM hown hK hP 0 rfl rfl 40 (by decide) (hts _ kw_1422) (fun _ h9 => h9) rfl d_rwrite_5 ?_
  refine va_alen (v := 800000) hx hb hK hP 28 1 rfl rfl rfl d_rwrite_8 ?_
  refine lv_icmp_ge (tgt := 23) hx hb d_rwrite_9 (by decide) (fun c_1 => ?_) (fun c_1 => ?_)
  · replace Heq := (if_pos c_1).symm.trans Heq
    exact w_rwrite_J23 hC Heq Kr _ _ _ hP hD hS (lv_sub hl [0] rfl)
  · replace Heq := (if_neg c_1).symm.trans Heq
    refine lv_aload_n hx hb d_rwrite_12 rfl (lv_at hl 0 rfl) ?_
    refine va_get (D := D) (ci := 12) (v := .ref (md 40)) (C := R_MM) (T := F_MM) (N := 77) hx hb hts i_MM hown hK hP 0 rfl rfl 40 (by decide) (hts _ kw_1422) (fun _ h9 => h9) rfl d_rwrite_13 ?_
    refine lv_aload_n hx hb d_rwrite_16 rfl (lv_at hl 0 rfl) ?_
    refine va_get (D := D) (ci := 12) (v := .int (S.i 41)) (C := R_MM) (T := F_MM) (N := 77) hx hb hts i_MM hown hK hP 0 rfl rfl 41 (by decide) (hts _ kw_1423) (fun _ h9 => h9) rfl d_rwrite_17 ?_
    refine lv_iload_n hx hb d_rwrite_20 rfl (lv_at hl 1 rfl) ?_
    refine lv_i2b hx hb d_rwrite_21 rfl ?_
    refine w_i (y := x1.toInt8.toInt32) rfl ?_
    obtain ⟨hi_2, Heq⟩ := gd_some Heq
    refine va_bast hx hb hK hP hD hS 28 1 rfl rfl (i := S.i 41) (x := x1.toInt8.toInt32) hi_2 d_rwrite_22 (fun H locs hP hD hS => ?_)
    rw [mw_A40] at hP hD
    exact w_rwrite_J23 hC Heq Kr _ _ _ hP hD hS (lv_sub hl [0] rfl)
def m_rwrite (S : MS) (x1 : Int32) : Option MS := m_rwrite_J0 S x1
theorem g_rwrite (l : Launch) (D : va_G) (sz : Nat) {md : Nat → Nat} {mc : Nat → ClassId} {S : MS} {x1 : Int32} {o : MS} (Heq : m_rwrite S x1 = some o) : Met l ⟨"JoinedTreesModel", "write", "(I)V"⟩ (Cond.code ⟨"JoinedTreesModel", "write", "(I)V"⟩ prog_14_method_74_code 2 none :: gb) ({ frames := 0, cells := 0, slots := 0, locals := 0 }) (gPc D (mw md mc S) (mty mc) sz [.ref (md 100), .int x1]) (va_Qv (fun _ : Unit => True) (fun _ t => gO D (mw md mc o) (mty mc) (va_A (mw md mc S) sz) t) (va_A (mw md mc S) sz)) 0 0 (va_A (mw md mc S) sz) := by
  refine Met.ofW (cc := prog_14_method_74_code) (maxL := 2) (ret := none) (by decide) rfl ?_
  intro p e s m args below meth c s₁ B hml hv
  obtain ⟨rfl, hsz, hP, hK, hD0⟩ := hv
  have hx := B.exec
  have hb := B.bytes
  have hr := B.returns
  have hts : ∀ w9 ∈ gb, w9.before [.ref (md 100), .int x1].toArray s = true := fun w9 h => atoms_spec (ws := Cond.code ⟨"JoinedTreesModel", "write", "(I)V"⟩ prog_14_method_74_code 2 none :: gb) B.pre w9 (List.mem_cons_of_mem _ h)
  have hown : s.vm.findClass "JoinedTreesModel" = some m.cls := findClass_of_methodNamed B.named
  have hlocks := B.notSynchronized
  subst hsz
  have hD := hD0.self (sz := s.heap.size)
  generalize hAe : va_A (mw md mc S) s.heap.size = A at hD ⊢
  have hA : ∀ q : Nat, s.heap.size ≤ q → A q := fun q h => by rw [← hAe]; exact Or.inr h
  have hS : va_S A s.heap s.heap [] := va_S.rf
  have hl := lv_entry ([.ref (md 100), .int x1]) (n := 2) (Nat.le_of_ble_eq_true rfl)
  rw [lg_entry_eq]
  generalize (lg_sl ([.ref (md 100), .int x1]) ++ List.replicate (2 - (lg_sl ([.ref (md 100), .int x1])).length) Slot.unset).toArray = ls at hl ⊢
  have hl : lv_has ls 2 [(0, .ref (md 100)), (1, .int x1)] := hl
  refine w_rwrite_J0 ⟨hx, hb, hr, hml, hown, hts, hK, hA⟩ Heq (fun r h pc H locs ls hd hP hD hS => ?_) _ _ _ hP hD hS (lv_sub hl [0, 1] rfl)
  subst h
  exact W.vret hx hb hr (fun t ht hW => ⟨⟨(), rfl, trivial, by rw [ht]; exact hP, va_K.moved hW.alike hK, hD⟩, hS.F ht⟩) hS.2.2 hd
def m_rdigits2_J34 (S : MS) (x1 : Int64) (x3 : Int64) : Option ((MS × Int64 × Int64) ⊕ (MS × Int64 × Int64)) := some (.inl (S, x1, (x3 * 10)))
theorem d_rdigits2_0 : decode prog_14_method_75_code 0 = .ok (.lload_n 1, 1) := by decide +kernel
theorem d_rdigits2_1 : decode prog_14_method_75_code 1 = .ok (.lconst 0, 1) := by decide +kernel
theorem d_rdigits2_2 : decode prog_14_method_75_code 2 = .ok (.lcmp, 1) := by decide +kernel
theorem d_rdigits2_3 : decode prog_14_method_75_code 3 = .ok (.ifCond .ge 9, 3) := by decide +kernel
theorem d_rdigits2_12 : decode prog_14_method_75_code 12 = .ok (.lconst 1, 1) := by decide +kernel
theorem d_rdigits2_13 : decode prog_14_method_75_code 13 = .ok (.lstore_n 3, 1) := by decide +kernel
theorem d_rdigits2_14 : decode prog_14_method_75_code 14 = .ok (.lload_n 1, 1) := by decide +kernel
theorem d_rdigits2_15 : decode prog_14_method_75_code 15 = .ok (.lload_n 3, 1) := by decide +kernel
theorem d_rdigits2_16 : decode prog_14_method_75_code 16 = .ok (.ldiv, 1) := by decide +kernel
theorem d_rdigits2_17 : decode prog_14_method_75_code 17 = .ok (.ldc2_w 338, 3) := by decide +kernel
theorem d_rdigits2_20 : decode prog_14_method_75_code 20 = .ok (.lcmp, 1) := by decide +kernel
theorem d_rdigits2_21 : decode prog_14_method_75_code 21 = .ok (.ifCond .ge 13, 3) := by decide +kernel
theorem d_rdigits2_34 : decode prog_14_method_75_code 34 = .ok (.lload_n 3, 1) := by decide +kernel
theorem d_rdigits2_35 : decode prog_14_method_75_code 35 = .ok (.ldc2_w 338, 3) := by decide +kernel
theorem d_rdigits2_38 : decode prog_14_method_75_code 38 = .ok (.lmul, 1) := by decide +kernel
theorem d_rdigits2_39 : decode prog_14_method_75_code 39 = .ok (.lstore_n 3, 1) := by decide +kernel
theorem d_rdigits2_40 : decode prog_14_method_75_code 40 = .ok (.goto (-26), 3) := by decide +kernel
set_option maxHeartbeats 4000000 in
set_option maxRecDepth 100000 in
theorem w_rdigits2_J34 {p : Program} {l : Launch} {e : Env} {s : State} {m : MethodId} {args : Array Value} {below : List Frame} {meth : Method} {c : Code} {A : Nat → Prop} {D : va_G} {md : Nat → Nat} {mc : Nat → ClassId} {Q : State → Prop} (hC : MCx "JoinedTreesModel" prog_14_method_75_code 9 none p s m args meth c A D mc) {S : MS} {x1 : Int64} {x3 : Int64} {o : ((MS × Int64 × Int64) ⊕ (MS × Int64 × Int64))} (Heq : m_rdigits2_J34 S x1 x3 = some o) (Ka : ∀ b : MS × Int64 × Int64, o = .inl b → ∀ (H : Heap) (locs : List Loc) (ls : Array Slot), va_P D cls (mw md mc b.1) H → va_D A (mw md mc b.1) → va_S A s.heap H locs → lv_has ls 9 [(0, .ref (md 100)), (1, .long b.2.1), (3, .long b.2.2)] → W p l e ({ frames := 1, cells := 0, slots := 0, locals := 21 }) s m args below meth c H locs 0 0 Q (F0 m 14 ls [])) (K0 : ∀ b : MS × Int64 × Int64, o = .inr b → ∀ (H : Heap) (locs : List Loc) (ls : Array Slot), va_P D cls (mw md mc b.1) H → va_D A (mw md mc b.1) → va_S A s.heap H locs → lv_has ls 9 [(0, .ref (md 100)), (1, .long b.2.1), (3, .long b.2.2)] → W p l e ({ frames := 1, cells := 0, slots := 0, locals := 21 }) s m args below meth c H locs 0 0 Q (F0 m 43 ls [])) : ∀ (H : Heap) (locs : List Loc) (ls : Array Slot), va_P D cls (mw md mc S) H → va_D A (mw md mc S) → va_S A s.heap H locs → lv_has ls 9 [(0, .ref (md 100)), (1, .long x1), (3, .long x3)] → W p l e ({ frames := 1, cells := 0, slots := 0, locals := 21 }) s m args below meth c H locs 0 0 Q (F0 m 34 ls []) := by
  intro H locs ls hP hD hS hl
  obtain ⟨hx, hb, hr, hml, hown, hts, hK, hA⟩ := id hC
  unfold m_rdigits2_J34 at Heq
  refine lv_lload_n hx hb d_rdigits2_34 rfl (lv_at hl 2 rfl) ?_
  refine lv_ldc2 (v := 10) hx hb hown (hts _ kw_1798) d_rdigits2_35 ?_
  refine lv_lmul hx hb d_rdigits2_38 ?_
  refine w_l (y := x3 * 10) rfl ?_
  refine lv_lstore_n (lv' := [(3, .long (x3 * 10)), (0, .ref (md 100)), (1, .long x1)]) hx hb d_rdigits2_39 rfl hl (by decide) rfl (fun ls hl => ?_)
  refine lv_goto (tgt := 14) hx hb d_rdigits2_40 (by decide) ?_
  exact Ka _ (Option.some.inj Heq).symm _ _ _ hP hD hS (lv_sub hl [1, 2, 0] rfl)
def m_rdigits2_B14 (S : MS) (x1 : Int64) (x3 : Int64) : Option ((MS × Int64 × Int64) ⊕ (MS × Int64 × Int64)) := (if x3 = 0 then none else (if 0 ≤ lg_cmp (x1 / x3) 10 then m_rdigits2_J34 S x1 x3 else (if x3 = 0 then none else (if 0 < lg_cmp (x1 / x3) (-10) then some (.inr (S, x1, x3)) else m_rdigits2_J34 S x1 x3))))
theorem d_rdigits2_24 : decode prog_14_method_75_code 24 = .ok (.lload_n 1, 1) := by decide +kernel
theorem d_rdigits2_25 : decode prog_14_method_75_code 25 = .ok (.lload_n 3, 1) := by decide +kernel
theorem d_rdigits2_26 : decode prog_14_method_75_code 26 = .ok (.ldiv, 1) := by decide +kernel
theorem d_rdigits2_27 : decode prog_14_method_75_code 27 = .ok (.ldc2_w 439, 3) := by decide +kernel
theorem d_rdigits2_30 : decode prog_14_method_75_code 30 = .ok (.lcmp, 1) := by decide +kernel
theorem d_rdigits2_31 : decode prog_14_method_75_code 31 = .ok (.ifCond .gt 12, 3) := by decide +kernel
set_option maxHeartbeats 4000000 in
set_option maxRecDepth 100000 in
theorem w_rdigits2_B14 {p : Program} {l : Launch} {e : Env} {s : State} {m : MethodId} {args : Array Value} {below : List Frame} {meth : Method} {c : Code} {A : Nat → Prop} {D : va_G} {md : Nat → Nat} {mc : Nat → ClassId} {Q : State → Prop} (hC : MCx "JoinedTreesModel" prog_14_method_75_code 9 none p s m args meth c A D mc) {S : MS} {x1 : Int64} {x3 : Int64} {o : ((MS × Int64 × Int64) ⊕ (MS × Int64 × Int64))} (Heq : m_rdigits2_B14 S x1 x3 = some o) (Ka : ∀ b : MS × Int64 × Int64, o = .inl b → ∀ (H : Heap) (locs : List Loc) (ls : Array Slot), va_P D cls (mw md mc b.1) H → va_D A (mw md mc b.1) → va_S A s.heap H locs → lv_has ls 9 [(0, .ref (md 100)), (1, .long b.2.1), (3, .long b.2.2)] → W p l e ({ frames := 1, cells := 0, slots := 0, locals := 21 }) s m args below meth c H locs 0 0 Q (F0 m 14 ls [])) (K0 : ∀ b : MS × Int64 × Int64, o = .inr b → ∀ (H : Heap) (locs : List Loc) (ls : Array Slot), va_P D cls (mw md mc b.1) H → va_D A (mw md mc b.1) → va_S A s.heap H locs → lv_has ls 9 [(0, .ref (md 100)), (1, .long b.2.1), (3, .long b.2.2)] → W p l e ({ frames := 1, cells := 0, slots := 0, locals := 21 }) s m args below meth c H locs 0 0 Q (F0 m 43 ls [])) : ∀ (H : Heap) (locs : List Loc) (ls : Array Slot), va_P D cls (mw md mc S) H → va_D A (mw md mc S) → va_S A s.heap H locs → lv_has ls 9 [(0, .ref (md 100)), (1, .long x1), (3, .long x3)] → W p l e ({ frames := 1, cells := 0, slots := 0, locals := 21 }) s m args below meth c H locs 0 0 Q (F0 m 14 ls []) := by
  intro H locs ls hP hD hS hl
  obtain ⟨hx, hb, hr, hml, hown, hts, hK, hA⟩ := id hC
  unfold m_rdigits2_B14 at Heq
  refine lv_lload_n hx hb d_rdigits2_14 rfl (lv_at hl 1 rfl) ?_
  refine lv_lload_n hx hb d_rdigits2_15 rfl (lv_at hl 2 rfl) ?_
  by_cases hz_1 : x3 = 0
  · rw [if_pos hz_1] at Heq; cases Heq
  replace Heq := (if_neg hz_1).symm.trans Heq
  refine lv_ldiv hx hb d_rdigits2_16 hz_1 ?_
  refine w_l (y := x1 / x3) rfl ?_
  refine lv_ldc2 (v := 10) hx hb hown (hts _ kw_1798) d_rdigits2_17 ?_
  refine W.lcmp hx hb d_rdigits2_20 ?_
  refine w_i (y := lg_cmp (x1 / x3) 10) rfl ?_
  refine lv_if_ge (tgt := 34) hx hb d_rdigits2_21 (by decide) (fun c_2 => ?_) (fun c_2 => ?_)
  · replace Heq := (if_pos c_2).symm.trans Heq
    exact w_rdigits2_J34 hC Heq Ka K0 _ _ _ hP hD hS (lv_sub hl [0, 1, 2] rfl)
  · replace Heq := (if_neg c_2).symm.trans Heq
    refine lv_lload_n hx hb d_rdigits2_24 rfl (lv_at hl 1 rfl) ?_
    refine lv_lload_n hx hb d_rdigits2_25 rfl (lv_at hl 2 rfl) ?_
    by_cases hz_3 : x3 = 0
    · rw [if_pos hz_3] at Heq; cases Heq
    replace Heq := (if_neg hz_3).symm.trans Heq
    refine lv_ldiv hx hb d_rdigits2_26 hz_3 ?_
    refine w_l (y := x1 / x3) rfl ?_
    refine lv_ldc2 (v := (-10)) hx hb hown (hts _ kw_1942) d_rdigits2_27 ?_
    refine W.lcmp hx hb d_rdigits2_30 ?_
    refine w_i (y := lg_cmp (x1 / x3) (-10)) rfl ?_
    refine lv_if_gt (tgt := 43) hx hb d_rdigits2_31 (by decide) (fun c_4 => ?_) (fun c_4 => ?_)
    · replace Heq := (if_pos c_4).symm.trans Heq
      exact K0 _ (Option.some.inj Heq).symm _ _ _ hP hD hS (lv_sub hl [0, 1, 2] rfl)
    · replace Heq := (if_neg c_4).symm.trans Heq
      exact w_rdigits2_J34 hC Heq Ka K0 _ _ _ hP hD hS (lv_sub hl [0, 1, 2] rfl)
def m_rdigits2_L14 (S : MS) (x1 : Int64) (x3 : Int64) : Option (MS × Int64 × Int64) := lp (fun a : MS × Int64 × Int64 => m_rdigits2_B14 a.1 a.2.1 a.2.2) FU (S, x1, x3)
theorem w_rdigits2_L14 {p : Program} {l : Launch} {e : Env} {s : State} {m : MethodId} {args : Array Value} {below : List Frame} {meth : Method} {c : Code} {A : Nat → Prop} {D : va_G} {md : Nat → Nat} {mc : Nat → ClassId} {Q : State → Prop} (hC : MCx "JoinedTreesModel" prog_14_method_75_code 9 none p s m args meth c A D mc) {S : MS} {x1 : Int64} {x3 : Int64} {o : MS × Int64 × Int64} (Heq : m_rdigits2_L14 S x1 x3 = some o) (K0 : ∀ b : MS × Int64 × Int64, o = b → ∀ (H : Heap) (locs : List Loc) (ls : Array Slot), va_P D cls (mw md mc b.1) H → va_D A (mw md mc b.1) → va_S A s.heap H locs → lv_has ls 9 [(0, .ref (md 100)), (1, .long b.2.1), (3, .long b.2.2)] → W p l e ({ frames := 1, cells := 0, slots := 0, locals := 21 }) s m args below meth c H locs 0 0 Q (F0 m 43 ls [])) : ∀ (H : Heap) (locs : List Loc) (ls : Array Slot), va_P D cls (mw md mc S) H → va_D A (mw md mc S) → va_S A s.heap H locs → lv_has ls 9 [(0, .ref (md 100)), (1, .long x1), (3, .long x3)] → W p l e ({ frames := 1, cells := 0, slots := 0, locals := 21 }) s m args below meth c H locs 0 0 Q (F0 m 14 ls []) := by
  refine lp_w (G := fun a : MS × Int64 × Int64 => ∀ (H : Heap) (locs : List Loc) (ls : Array Slot), va_P D cls (mw md mc a.1) H → va_D A (mw md mc a.1) → va_S A s.heap H locs → lv_has ls 9 [(0, .ref (md 100)), (1, .long a.2.1), (3, .long a.2.2)] → W p l e ({ frames := 1, cells := 0, slots := 0, locals := 21 }) s m args below meth c H locs 0 0 Q (F0 m 14 ls [])) ?_ FU (S, x1, x3) Heq
  intro a o1 ho Ka Ke
  exact w_rdigits2_B14 hC ho (fun b h => Ka b h) (fun b h => K0 b (Ke _ h).symm)
def m_rdigits2_J81 (S : MS) (x1 : Int64) (x5 : Int64) (t0 : Int64) (t1 : Int32) : Option ((MS × Int64 × Int64) ⊕ MS) := ob (m_rwrite S (t1 + t0.toInt32)) (fun o_1 => some (.inl (o_1, x1, (x5 / 10))))
theorem d_rdigits2_43 : decode prog_14_method_75_code 43 = .ok (.lload_n 3, 1) := by decide +kernel
theorem d_rdigits2_44 : decode prog_14_method_75_code 44 = .ok (.lstore 5, 2) := by decide +kernel
theorem d_rdigits2_46 : decode prog_14_method_75_code 46 = .ok (.lload 5, 2) := by decide +kernel
theorem d_rdigits2_48 : decode prog_14_method_75_code 48 = .ok (.lconst 0, 1) := by decide +kernel
theorem d_rdigits2_49 : decode prog_14_method_75_code 49 = .ok (.lcmp, 1) := by decide +kernel
theorem d_rdigits2_50 : decode prog_14_method_75_code 50 = .ok (.ifCond .le 47, 3) := by decide +kernel
theorem d_rdigits2_53 : decode prog_14_method_75_code 53 = .ok (.lload_n 1, 1) := by decide +kernel
theorem d_rdigits2_54 : decode prog_14_method_75_code 54 = .ok (.lload 5, 2) := by decide +kernel
theorem d_rdigits2_56 : decode prog_14_method_75_code 56 = .ok (.ldiv, 1) := by decide +kernel
theorem d_rdigits2_57 : decode prog_14_method_75_code 57 = .ok (.ldc2_w 338, 3) := by decide +kernel
theorem d_rdigits2_60 : decode prog_14_method_75_code 60 = .ok (.lrem, 1) := by decide +kernel
theorem d_rdigits2_61 : decode prog_14_method_75_code 61 = .ok (.lstore 7, 2) := by decide +kernel
theorem d_rdigits2_63 : decode prog_14_method_75_code 63 = .ok (.aload_n 0, 1) := by decide +kernel
theorem d_rdigits2_64 : decode prog_14_method_75_code 64 = .ok (.bipush 48, 2) := by decide +kernel
theorem d_rdigits2_66 : decode prog_14_method_75_code 66 = .ok (.lload 7, 2) := by decide +kernel
theorem d_rdigits2_68 : decode prog_14_method_75_code 68 = .ok (.lconst 0, 1) := by decide +kernel
theorem d_rdigits2_69 : decode prog_14_method_75_code 69 = .ok (.lcmp, 1) := by decide +kernel
theorem d_rdigits2_70 : decode prog_14_method_75_code 70 = .ok (.ifCond .ge 9, 3) := by decide +kernel
theorem d_rdigits2_79 : decode prog_14_method_75_code 79 = .ok (.lload 7, 2) := by decide +kernel
theorem d_rdigits2_81 : decode prog_14_method_75_code 81 = .ok (.l2i, 1) := by decide +kernel
theorem d_rdigits2_82 : decode prog_14_method_75_code 82 = .ok (.iadd, 1) := by decide +kernel
theorem d_rdigits2_83 : decode prog_14_method_75_code 83 = .ok (.invokevirtual 436, 3) := by decide +kernel
theorem d_rdigits2_86 : decode prog_14_method_75_code 86 = .ok (.lload 5, 2) := by decide +kernel
theorem d_rdigits2_88 : decode prog_14_method_75_code 88 = .ok (.ldc2_w 338, 3) := by decide +kernel
theorem d_rdigits2_91 : decode prog_14_method_75_code 91 = .ok (.ldiv, 1) := by decide +kernel
theorem d_rdigits2_92 : decode prog_14_method_75_code 92 = .ok (.lstore 5, 2) := by decide +kernel
theorem d_rdigits2_94 : decode prog_14_method_75_code 94 = .ok (.goto (-48), 3) := by decide +kernel
set_option maxHeartbeats 4000000 in
set_option maxRecDepth 100000 in
theorem w_rdigits2_J81 {p : Program} {l : Launch} {e : Env} {s : State} {m : MethodId} {args : Array Value} {below : List Frame} {meth : Method} {c : Code} {A : Nat → Prop} {D : va_G} {md : Nat → Nat} {mc : Nat → ClassId} {Q : State → Prop} (hC : MCx "JoinedTreesModel" prog_14_method_75_code 9 none p s m args meth c A D mc) {S : MS} {x1 : Int64} {x5 : Int64} {t0 : Int64} {t1 : Int32} {o : ((MS × Int64 × Int64) ⊕ MS)} (Heq : m_rdigits2_J81 S x1 x5 t0 t1 = some o) (Ka : ∀ b : MS × Int64 × Int64, o = .inl b → ∀ (H : Heap) (locs : List Loc) (ls : Array Slot), va_P D cls (mw md mc b.1) H → va_D A (mw md mc b.1) → va_S A s.heap H locs → lv_has ls 9 [(0, .ref (md 100)), (1, .long b.2.1), (5, .long b.2.2)] → W p l e ({ frames := 1, cells := 0, slots := 0, locals := 21 }) s m args below meth c H locs 0 0 Q (F0 m 46 ls [])) (K0 : ∀ b : MS, o = .inr b → ∀ (H : Heap) (locs : List Loc) (ls : Array Slot), va_P D cls (mw md mc b) H → va_D A (mw md mc b) → va_S A s.heap H locs → lv_has ls 9 [(0, .ref (md 100))] → W p l e ({ frames := 1, cells := 0, slots := 0, locals := 21 }) s m args below meth c H locs 0 0 Q (F0 m 97 ls [])) : ∀ (H : Heap) (locs : List Loc) (ls : Array Slot), va_P D cls (mw md mc S) H → va_D A (mw md mc S) → va_S A s.heap H locs → lv_has ls 9 [(0, .ref (md 100)), (1, .long x1), (5, .long x5)] → W p l e ({ frames := 1, cells := 0, slots := 0, locals := 21 }) s m args below meth c H locs 0 0 Q (F0 m 81 ls [.long t0, .int t1, .ref (md 100)]) := by
  intro H locs ls hP hD hS hl
  obtain ⟨hx, hb, hr, hml, hown, hts, hK, hA⟩ := id hC
  unfold m_rdigits2_J81 at Heq
  refine lv_l2i hx hb d_rdigits2_81 rfl ?_
  refine w_i (y := t0.toInt32) rfl ?_
  refine lv_iadd hx hb d_rdigits2_82 ?_
  refine w_i (y := t1 + t0.toInt32) rfl ?_
  obtain ⟨o_1, h_2, Heq⟩ := ob_some Heq
  have hFc := fr_all hD hS hA
  refine va_callv (va_runV (As := [.int (t1 + t0.toInt32)]) (rest := []) ⟨hx, hb, hml, hown, hts⟩ (g_rwrite l D H.size h_2) (cw_v 1 hts kw_1918 kw_1915 kw_1917 kp_76 kw_11 rfl rfl (by decide +kernel) ⟨Nat.le_of_ble_eq_true rfl, Nat.le_of_ble_eq_true rfl⟩) ⟨g_blind, va_recv hK hP (ci := 12) (q0 := 0) rfl rfl, fun U hU hW => g_pre hU hW hP hK hD⟩ rfl rfl hl.1 rfl (lv_room (Nat.le_of_ble_eq_true rfl)) d_rdigits2_83 ⟨Nat.le_of_ble_eq_true rfl, Nat.le_of_ble_eq_true rfl⟩) hS (fun q _ h => hFc q h) hFc (fun u t H1 locs ht hvm hw hB hz1 hk1 hS => ?_)
  obtain ⟨hP, -, hD1⟩ := hB
  rw [ht] at hP
  have hD := hD1.weaken (fun _ q _ h => hFc q.1 h)
  generalize H1 = H at hP hS ⊢
  refine W.cs (cells' := 0) (slots' := 0) rfl rfl ?_
  refine lv_lload hx hb d_rdigits2_86 (lv_at hl 2 rfl) ?_
  refine lv_ldc2 (v := 10) hx hb hown (hts _ kw_1798) d_rdigits2_88 ?_
  refine lv_ldiv hx hb d_rdigits2_91 (by decide) ?_
  refine w_l (y := x5 / 10) rfl ?_
  refine lv_lstore (lv' := [(5, .long (x5 / 10)), (0, .ref (md 100)), (1, .long x1)]) hx hb d_rdigits2_92 hl (by decide) rfl (fun ls hl => ?_)
  refine lv_goto (tgt := 46) hx hb d_rdigits2_94 (by decide) ?_
  exact Ka _ (Option.some.inj Heq).symm _ _ _ hP hD hS (lv_sub hl [1, 2, 0] rfl)
def m_rdigits2_B46 (S : MS) (x1 : Int64) (x5 : Int64) : Option ((MS × Int64 × Int64) ⊕ MS) := (if lg_cmp x5 0 ≤ 0 then some (.inr (S)) else (if x5 = 0 then none else (if 0 ≤ lg_cmp ((x1 / x5) - (x1 / x5) / 10 * 10) 0 then m_rdigits2_J81 S x1 x5 ((x1 / x5) - (x1 / x5) / 10 * 10) 48 else m_rdigits2_J81 S x1 x5 (-((x1 / x5) - (x1 / x5) / 10 * 10)) 48)))
theorem d_rdigits2_73 : decode prog_14_method_75_code 73 = .ok (.lload 7, 2) := by decide +kernel
theorem d_rdigits2_75 : decode prog_14_method_75_code 75 = .ok (.lneg, 1) := by decide +kernel
theorem d_rdigits2_76 : decode prog_14_method_75_code 76 = .ok (.goto 5, 3) := by decide +kernel
set_option maxHeartbeats 4000000 in
set_option maxRecDepth 100000 in
theorem w_rdigits2_B46 {p : Program} {l : Launch} {e : Env} {s : State} {m : MethodId} {args : Array Value} {below : List Frame} {meth : Method} {c : Code} {A : Nat → Prop} {D : va_G} {md : Nat → Nat} {mc : Nat → ClassId} {Q : State → Prop} (hC : MCx "JoinedTreesModel" prog_14_method_75_code 9 none p s m args meth c A D mc) {S : MS} {x1 : Int64} {x5 : Int64} {o : ((MS × Int64 × Int64) ⊕ MS)} (Heq : m_rdigits2_B46 S x1 x5 = some o) (Ka : ∀ b : MS × Int64 × Int64, o = .inl b → ∀ (H : Heap) (locs : List Loc) (ls : Array Slot), va_P D cls (mw md mc b.1) H → va_D A (mw md mc b.1) → va_S A s.heap H locs → lv_has ls 9 [(0, .ref (md 100)), (1, .long b.2.1), (5, .long b.2.2)] → W p l e ({ frames := 1, cells := 0, slots := 0, locals := 21 }) s m args below meth c H locs 0 0 Q (F0 m 46 ls [])) (K0 : ∀ b : MS, o = .inr b → ∀ (H : Heap) (locs : List Loc) (ls : Array Slot), va_P D cls (mw md mc b) H → va_D A (mw md mc b) → va_S A s.heap H locs → lv_has ls 9 [(0, .ref (md 100))] → W p l e ({ frames := 1, cells := 0, slots := 0, locals := 21 }) s m args below meth c H locs 0 0 Q (F0 m 97 ls [])) : ∀ (H : Heap) (locs : List Loc) (ls : Array Slot), va_P D cls (mw md mc S) H → va_D A (mw md mc S) → va_S A s.heap H locs → lv_has ls 9 [(0, .ref (md 100)), (1, .long x1), (5, .long x5)] → W p l e ({ frames := 1, cells := 0, slots := 0, locals := 21 }) s m args below meth c H locs 0 0 Q (F0 m 46 ls []) := by
  intro H locs ls hP hD hS hl
  obtain ⟨hx, hb, hr, hml, hown, hts, hK, hA⟩ := id hC
  unfold m_rdigits2_B46 at Heq
  refine lv_lload hx hb d_rdigits2_46 (lv_at hl 2 rfl) ?_
  refine lv_lconst (v := 0) hx hb d_rdigits2_48 (by decide) ?_
  refine W.lcmp hx hb d_rdigits2_49 ?_
  refine w_i (y := lg_cmp x5 0) rfl ?_
  refine lv_if_le (tgt := 97) hx hb d_rdigits2_50 (by decide) (fun c_1 => ?_) (fun c_1 => ?_)
  · replace Heq := (if_pos c_1).symm.trans Heq
    exact K0 _ (Option.some.inj Heq).symm _ _ _ hP hD hS (lv_sub hl [0] rfl)
  · replace Heq := (if_neg c_1).symm.trans Heq
    refine lv_lload_n hx hb d_rdigits2_53 rfl (lv_at hl 1 rfl) ?_
    refine lv_lload hx hb d_rdigits2_54 (lv_at hl 2 rfl) ?_
    by_cases hz_2 : x5 = 0
    · rw [if_pos hz_2] at Heq; cases Heq
    replace Heq := (if_neg hz_2).symm.trans Heq
    refine lv_ldiv hx hb d_rdigits2_56 hz_2 ?_
    refine w_l (y := x1 / x5) rfl ?_
    refine lv_ldc2 (v := 10) hx hb hown (hts _ kw_1798) d_rdigits2_57 ?_
    refine lv_lrem hx hb d_rdigits2_60 (by decide) ?_
    refine w_l (y := (x1 / x5) - (x1 / x5) / 10 * 10) rfl ?_
    refine lv_lstore (lv' := [(7, .long ((x1 / x5) - (x1 / x5) / 10 * 10)), (0, .ref (md 100)), (1, .long x1), (5, .long x5)]) hx hb d_rdigits2_61 hl (by decide) rfl (fun ls hl => ?_)
    refine lv_aload_n hx hb d_rdigits2_63 rfl (lv_at hl 1 rfl) ?_
    refine lv_bipush (v := 48) hx hb d_rdigits2_64 (by decide) ?_
    refine lv_lload hx hb d_rdigits2_66 (lv_at hl 0 rfl) ?_
    refine lv_lconst (v := 0) hx hb d_rdigits2_68 (by decide) ?_
    refine W.lcmp hx hb d_rdigits2_69 ?_
    refine w_i (y := lg_cmp ((x1 / x5) - (x1 / x5) / 10 * 10) 0) rfl ?_
    refine lv_if_ge (tgt := 79) hx hb d_rdigits2_70 (by decide) (fun c_3 => ?_) (fun c_3 => ?_)
    · replace Heq := (if_pos c_3).symm.trans Heq
      refine lv_lload hx hb d_rdigits2_79 (lv_at hl 0 rfl) ?_
      exact w_rdigits2_J81 hC Heq Ka K0 _ _ _ hP hD hS (lv_sub hl [1, 2, 3] rfl)
    · replace Heq := (if_neg c_3).symm.trans Heq
      refine lv_lload hx hb d_rdigits2_73 (lv_at hl 0 rfl) ?_
      refine lv_lneg hx hb d_rdigits2_75 ?_
      refine w_l (y := -((x1 / x5) - (x1 / x5) / 10 * 10)) rfl ?_
      refine lv_goto (tgt := 81) hx hb d_rdigits2_76 (by decide) ?_
      exact w_rdigits2_J81 hC Heq Ka K0 _ _ _ hP hD hS (lv_sub hl [1, 2, 3] rfl)
def m_rdigits2_L46 (S : MS) (x1 : Int64) (x5 : Int64) : Option MS := lp (fun a : MS × Int64 × Int64 => m_rdigits2_B46 a.1 a.2.1 a.2.2) FU (S, x1, x5)
theorem w_rdigits2_L46 {p : Program} {l : Launch} {e : Env} {s : State} {m : MethodId} {args : Array Value} {below : List Frame} {meth : Method} {c : Code} {A : Nat → Prop} {D : va_G} {md : Nat → Nat} {mc : Nat → ClassId} {Q : State → Prop} (hC : MCx "JoinedTreesModel" prog_14_method_75_code 9 none p s m args meth c A D mc) {S : MS} {x1 : Int64} {x5 : Int64} {o : MS} (Heq : m_rdigits2_L46 S x1 x5 = some o) (K0 : ∀ b : MS, o = b → ∀ (H : Heap) (locs : List Loc) (ls : Array Slot), va_P D cls (mw md mc b) H → va_D A (mw md mc b) → va_S A s.heap H locs → lv_has ls 9 [(0, .ref (md 100))] → W p l e ({ frames := 1, cells := 0, slots := 0, locals := 21 }) s m args below meth c H locs 0 0 Q (F0 m 97 ls [])) : ∀ (H : Heap) (locs : List Loc) (ls : Array Slot), va_P D cls (mw md mc S) H → va_D A (mw md mc S) → va_S A s.heap H locs → lv_has ls 9 [(0, .ref (md 100)), (1, .long x1), (5, .long x5)] → W p l e ({ frames := 1, cells := 0, slots := 0, locals := 21 }) s m args below meth c H locs 0 0 Q (F0 m 46 ls []) := by
  refine lp_w (G := fun a : MS × Int64 × Int64 => ∀ (H : Heap) (locs : List Loc) (ls : Array Slot), va_P D cls (mw md mc a.1) H → va_D A (mw md mc a.1) → va_S A s.heap H locs → lv_has ls 9 [(0, .ref (md 100)), (1, .long a.2.1), (5, .long a.2.2)] → W p l e ({ frames := 1, cells := 0, slots := 0, locals := 21 }) s m args below meth c H locs 0 0 Q (F0 m 46 ls [])) ?_ FU (S, x1, x5) Heq
  intro a o1 ho Ka Ke
  exact w_rdigits2_B46 hC ho (fun b h => Ka b h) (fun b h => K0 b (Ke _ h).symm)
def m_rdigits2_J12 (S : MS) (x1 : Int64) : Option MS := ob (m_rdigits2_L14 S x1 1) (fun b_1 => ob (m_rdigits2_L46 b_1.1 b_1.2.1 b_1.2.2) (fun b_3 => some b_3))
theorem d_rdigits2_97 : decode prog_14_method_75_code 97 = .ok (.return_, 1) := by decide +kernel
set_option maxHeartbeats 4000000 in
set_option maxRecDepth 100000 in
theorem w_rdigits2_J12 {p : Program} {l : Launch} {e : Env} {s : State} {m : MethodId} {args : Array Value} {below : List Frame} {meth : Method} {c : Code} {A : Nat → Prop} {D : va_G} {md : Nat → Nat} {mc : Nat → ClassId} {Q : State → Prop} (hC : MCx "JoinedTreesModel" prog_14_method_75_code 9 none p s m args meth c A D mc) {S : MS} {x1 : Int64} {o : MS} (Heq : m_rdigits2_J12 S x1 = some o) (Kr : ∀ r : MS, o = r → ∀ (pc : Nat) (H : Heap) (locs : List Loc) (ls : Array Slot), decode prog_14_method_75_code pc = .ok (.return_, 1) → va_P D cls (mw md mc r) H → va_D A (mw md mc r) → va_S A s.heap H locs → W p l e ({ frames := 1, cells := 0, slots := 0, locals := 21 }) s m args below meth c H locs 0 0 Q (F0 m pc ls [])) : ∀ (H : Heap) (locs : List Loc) (ls : Array Slot), va_P D cls (mw md mc S) H → va_D A (mw md mc S) → va_S A s.heap H locs → lv_has ls 9 [(0, .ref (md 100)), (1, .long x1)] → W p l e ({ frames := 1, cells := 0, slots := 0, locals := 21 }) s m args below meth c H locs 0 0 Q (F0 m 12 ls []) := by
  intro H locs ls hP hD hS hl
  obtain ⟨hx, hb, hr, hml, hown, hts, hK, hA⟩ := id hC
  unfold m_rdigits2_J12 at Heq
  refine lv_lconst (v := 1) hx hb d_rdigits2_12 (by decide) ?_
  refine lv_lstore_n (lv' := [(3, .long 1), (0, .ref (md 100)), (1, .long x1)]) hx hb d_rdigits2_13 rfl hl (by decide) rfl (fun ls hl => ?_)
  obtain ⟨b_1, h_2, Heq⟩ := ob_some Heq
  refine w_rdigits2_L14 hC h_2 (fun b h => ?_) _ _ _ hP hD hS (lv_sub hl [1, 2, 0] rfl)
  subst h
  intro H locs ls hP hD hS hl
  refine lv_lload_n hx hb d_rdigits2_43 rfl (lv_at hl 2 rfl) ?_
  refine lv_lstore (lv' := [(5, .long b_1.2.2), (0, .ref (md 100)), (1, .long b_1.2.1), (3, .long b_1.2.2)]) hx hb d_rdigits2_44 hl (by decide) rfl (fun ls hl => ?_)
  obtain ⟨b_3, h_4, Heq⟩ := ob_some Heq
  refine w_rdigits2_L46 hC h_4 (fun b h => ?_) _ _ _ hP hD hS (lv_sub hl [1, 2, 0] rfl)
  subst h
  intro H locs ls hP hD hS hl
  exact Kr _ (Option.some.inj Heq).symm 97 _ _ _ d_rdigits2_97 hP hD hS
def m_rdigits2_J0 (S : MS) (x1 : Int64) : Option MS := (if 0 ≤ lg_cmp x1 0 then m_rdigits2_J12 S x1 else ob (m_rwrite S 45) (fun o_2 => m_rdigits2_J12 o_2 x1))
theorem d_rdigits2_6 : decode prog_14_method_75_code 6 = .ok (.aload_n 0, 1) := by decide +kernel
theorem d_rdigits2_7 : decode prog_14_method_75_code 7 = .ok (.bipush 45, 2) := by decide +kernel
theorem d_rdigits2_9 : decode prog_14_method_75_code 9 = .ok (.invokevirtual 436, 3) := by decide +kernel
set_option maxHeartbeats 4000000 in
set_option maxRecDepth 100000 in
theorem w_rdigits2_J0 {p : Program} {l : Launch} {e : Env} {s : State} {m : MethodId} {args : Array Value} {below : List Frame} {meth : Method} {c : Code} {A : Nat → Prop} {D : va_G} {md : Nat → Nat} {mc : Nat → ClassId} {Q : State → Prop} (hC : MCx "JoinedTreesModel" prog_14_method_75_code 9 none p s m args meth c A D mc) {S : MS} {x1 : Int64} {o : MS} (Heq : m_rdigits2_J0 S x1 = some o) (Kr : ∀ r : MS, o = r → ∀ (pc : Nat) (H : Heap) (locs : List Loc) (ls : Array Slot), decode prog_14_method_75_code pc = .ok (.return_, 1) → va_P D cls (mw md mc r) H → va_D A (mw md mc r) → va_S A s.heap H locs → W p l e ({ frames := 1, cells := 0, slots := 0, locals := 21 }) s m args below meth c H locs 0 0 Q (F0 m pc ls [])) : ∀ (H : Heap) (locs : List Loc) (ls : Array Slot), va_P D cls (mw md mc S) H → va_D A (mw md mc S) → va_S A s.heap H locs → lv_has ls 9 [(0, .ref (md 100)), (1, .long x1)] → W p l e ({ frames := 1, cells := 0, slots := 0, locals := 21 }) s m args below meth c H locs 0 0 Q (F0 m 0 ls []) := by
  intro H locs ls hP hD hS hl
  obtain ⟨hx, hb, hr, hml, hown, hts, hK, hA⟩ := id hC
  unfold m_rdigits2_J0 at Heq
  refine lv_lload_n hx hb d_rdigits2_0 rfl (lv_at hl 1 rfl) ?_
  refine lv_lconst (v := 0) hx hb d_rdigits2_1 (by decide) ?_
  refine W.lcmp hx hb d_rdigits2_2 ?_
  refine w_i (y := lg_cmp x1 0) rfl ?_
  refine lv_if_ge (tgt := 12) hx hb d_rdigits2_3 (by decide) (fun c_1 => ?_) (fun c_1 => ?_)
  · replace Heq := (if_pos c_1).symm.trans Heq
    exact w_rdigits2_J12 hC Heq Kr _ _ _ hP hD hS (lv_sub hl [0, 1] rfl)
  · replace Heq := (if_neg c_1).symm.trans Heq
    refine lv_aload_n hx hb d_rdigits2_6 rfl (lv_at hl 0 rfl) ?_
    refine lv_bipush (v := 45) hx hb d_rdigits2_7 (by decide) ?_
    obtain ⟨o_2, h_3, Heq⟩ := ob_some Heq
    have hFc := fr_all hD hS hA
    refine va_callv (va_runV (As := [.int 45]) (rest := []) ⟨hx, hb, hml, hown, hts⟩ (g_rwrite l D H.size h_3) (cw_v 1 hts kw_1918 kw_1915 kw_1917 kp_76 kw_11 rfl rfl (by decide +kernel) ⟨Nat.le_of_ble_eq_true rfl, Nat.le_of_ble_eq_true rfl⟩) ⟨g_blind, va_recv hK hP (ci := 12) (q0 := 0) rfl rfl, fun U hU hW => g_pre hU hW hP hK hD⟩ rfl rfl hl.1 rfl (lv_room (Nat.le_of_ble_eq_true rfl)) d_rdigits2_9 ⟨Nat.le_of_ble_eq_true rfl, Nat.le_of_ble_eq_true rfl⟩) hS (fun q _ h => hFc q h) hFc (fun u t H1 locs ht hvm hw hB hz1 hk1 hS => ?_)
    obtain ⟨hP, -, hD1⟩ := hB
    rw [ht] at hP
    have hD := hD1.weaken (fun _ q _ h => hFc q.1 h)
    generalize H1 = H at hP hS ⊢
    refine W.cs (cells' := 0) (slots' := 0) rfl rfl ?_
    exact w_rdigits2_J12 hC Heq Kr _ _ _ hP hD hS (lv_sub hl [0, 1] rfl)
def m_rdigits2 (S : MS) (x1 : Int64) : Option MS := m_rdigits2_J0 S x1
theorem g_rdigits2 (l : Launch) (D : va_G) (sz : Nat) {md : Nat → Nat} {mc : Nat → ClassId} {S : MS} {x1 : Int64} {o : MS} (Heq : m_rdigits2 S x1 = some o) : Met l ⟨"JoinedTreesModel", "digits", "(J)V"⟩ (Cond.code ⟨"JoinedTreesModel", "digits", "(J)V"⟩ prog_14_method_75_code 9 none :: gb) ({ frames := 1, cells := 0, slots := 0, locals := 21 }) (gPc D (mw md mc S) (mty mc) sz [.ref (md 100), .long x1]) (va_Qv (fun _ : Unit => True) (fun _ t => gO D (mw md mc o) (mty mc) (va_A (mw md mc S) sz) t) (va_A (mw md mc S) sz)) 0 0 (va_A (mw md mc S) sz) := by
  refine Met.ofW (cc := prog_14_method_75_code) (maxL := 9) (ret := none) (by decide) rfl ?_
  intro p e s m args below meth c s₁ B hml hv
  obtain ⟨rfl, hsz, hP, hK, hD0⟩ := hv
  have hx := B.exec
  have hb := B.bytes
  have hr := B.returns
  have hts : ∀ w9 ∈ gb, w9.before [.ref (md 100), .long x1].toArray s = true := fun w9 h => atoms_spec (ws := Cond.code ⟨"JoinedTreesModel", "digits", "(J)V"⟩ prog_14_method_75_code 9 none :: gb) B.pre w9 (List.mem_cons_of_mem _ h)
  have hown : s.vm.findClass "JoinedTreesModel" = some m.cls := findClass_of_methodNamed B.named
  have hlocks := B.notSynchronized
  subst hsz
  have hD := hD0.self (sz := s.heap.size)
  generalize hAe : va_A (mw md mc S) s.heap.size = A at hD ⊢
  have hA : ∀ q : Nat, s.heap.size ≤ q → A q := fun q h => by rw [← hAe]; exact Or.inr h
  have hS : va_S A s.heap s.heap [] := va_S.rf
  have hl := lv_entry ([.ref (md 100), .long x1]) (n := 9) (Nat.le_of_ble_eq_true rfl)
  rw [lg_entry_eq]
  generalize (lg_sl ([.ref (md 100), .long x1]) ++ List.replicate (9 - (lg_sl ([.ref (md 100), .long x1])).length) Slot.unset).toArray = ls at hl ⊢
  have hl : lv_has ls 9 [(0, .ref (md 100)), (1, .long x1)] := hl
  refine w_rdigits2_J0 ⟨hx, hb, hr, hml, hown, hts, hK, hA⟩ Heq (fun r h pc H locs ls hd hP hD hS => ?_) _ _ _ hP hD hS (lv_sub hl [0, 1] rfl)
  subst h
  exact W.vret hx hb hr (fun t ht hW => ⟨⟨(), rfl, trivial, by rw [ht]; exact hP, va_K.moved hW.alike hK, hD⟩, hS.F ht⟩) hS.2.2 hd
def m_rhexDigit_J20 (S : MS) (t0 : Int32) : Option (MS × Int32) := some (S, t0)
theorem d_rhexDigit_0 : decode prog_14_method_76_code 0 = .ok (.iload_n 0, 1) := by decide +kernel
theorem d_rhexDigit_1 : decode prog_14_method_76_code 1 = .ok (.bipush 10, 2) := by decide +kernel
theorem d_rhexDigit_3 : decode prog_14_method_76_code 3 = .ok (.if_icmp .ge 10, 3) := by decide +kernel
theorem d_rhexDigit_13 : decode prog_14_method_76_code 13 = .ok (.bipush 97, 2) := by decide +kernel
theorem d_rhexDigit_15 : decode prog_14_method_76_code 15 = .ok (.iload_n 0, 1) := by decide +kernel
theorem d_rhexDigit_16 : decode prog_14_method_76_code 16 = .ok (.iadd, 1) := by decide +kernel
theorem d_rhexDigit_17 : decode prog_14_method_76_code 17 = .ok (.bipush 10, 2) := by decide +kernel
theorem d_rhexDigit_19 : decode prog_14_method_76_code 19 = .ok (.isub, 1) := by decide +kernel
theorem d_rhexDigit_20 : decode prog_14_method_76_code 20 = .ok (.ireturn, 1) := by decide +kernel
set_option maxHeartbeats 4000000 in
set_option maxRecDepth 100000 in
theorem w_rhexDigit_J20 {p : Program} {l : Launch} {e : Env} {s : State} {m : MethodId} {args : Array Value} {below : List Frame} {meth : Method} {c : Code} {A : Nat → Prop} {D : va_G} {md : Nat → Nat} {mc : Nat → ClassId} {Q : State → Prop} (hC : MCx "JoinedTreesModel" prog_14_method_76_code 1 (some .int) p s m args meth c A D mc) {S : MS} {t0 : Int32} {o : MS × Int32} (Heq : m_rhexDigit_J20 S t0 = some o) (Kr : ∀ r : MS × Int32, o = r → ∀ (pc : Nat) (H : Heap) (locs : List Loc) (ls : Array Slot), decode prog_14_method_76_code pc = .ok (.ireturn, 1) → va_P D cls (mw md mc r.1) H → va_D A (mw md mc r.1) → va_S A s.heap H locs → W p l e ({ frames := 0, cells := 0, slots := 0, locals := 0 }) s m args below meth c H locs 0 0 Q (F0 m pc ls [.int r.2])) : ∀ (H : Heap) (locs : List Loc) (ls : Array Slot), va_P D cls (mw md mc S) H → va_D A (mw md mc S) → va_S A s.heap H locs → lv_has ls 1 [] → W p l e ({ frames := 0, cells := 0, slots := 0, locals := 0 }) s m args below meth c H locs 0 0 Q (F0 m 20 ls [.int t0]) := by
  intro H locs ls hP hD hS hl
  obtain ⟨hx, hb, hr, hml, hown, hts, hK, hA⟩ := id hC
  unfold m_rhexDigit_J20 at Heq
  exact Kr _ (Option.some.inj Heq).symm 20 _ _ _ d_rhexDigit_20 hP hD hS
def m_rhexDigit_J0 (S : MS) (x0 : Int32) : Option (MS × Int32) := (if 10 ≤ x0 then m_rhexDigit_J20 S ((97 + x0) - 10) else m_rhexDigit_J20 S (48 + x0))
theorem d_rhexDigit_6 : decode prog_14_method_76_code 6 = .ok (.bipush 48, 2) := by decide +kernel
theorem d_rhexDigit_8 : decode prog_14_method_76_code 8 = .ok (.iload_n 0, 1) := by decide +kernel
theorem d_rhexDigit_9 : decode prog_14_method_76_code 9 = .ok (.iadd, 1) := by decide +kernel
theorem d_rhexDigit_10 : decode prog_14_method_76_code 10 = .ok (.goto 10, 3) := by decide +kernel
set_option maxHeartbeats 4000000 in
set_option maxRecDepth 100000 in
theorem w_rhexDigit_J0 {p : Program} {l : Launch} {e : Env} {s : State} {m : MethodId} {args : Array Value} {below : List Frame} {meth : Method} {c : Code} {A : Nat → Prop} {D : va_G} {md : Nat → Nat} {mc : Nat → ClassId} {Q : State → Prop} (hC : MCx "JoinedTreesModel" prog_14_method_76_code 1 (some .int) p s m args meth c A D mc) {S : MS} {x0 : Int32} {o : MS × Int32} (Heq : m_rhexDigit_J0 S x0 = some o) (Kr : ∀ r : MS × Int32, o = r → ∀ (pc : Nat) (H : Heap) (locs : List Loc) (ls : Array Slot), decode prog_14_method_76_code pc = .ok (.ireturn, 1) → va_P D cls (mw md mc r.1) H → va_D A (mw md mc r.1) → va_S A s.heap H locs → W p l e ({ frames := 0, cells := 0, slots := 0, locals := 0 }) s m args below meth c H locs 0 0 Q (F0 m pc ls [.int r.2])) : ∀ (H : Heap) (locs : List Loc) (ls : Array Slot), va_P D cls (mw md mc S) H → va_D A (mw md mc S) → va_S A s.heap H locs → lv_has ls 1 [(0, .int x0)] → W p l e ({ frames := 0, cells := 0, slots := 0, locals := 0 }) s m args below meth c H locs 0 0 Q (F0 m 0 ls []) := by
  intro H locs ls hP hD hS hl
  obtain ⟨hx, hb, hr, hml, hown, hts, hK, hA⟩ := id hC
  unfold m_rhexDigit_J0 at Heq
  refine lv_iload_n hx hb d_rhexDigit_0 rfl (lv_at hl 0 rfl) ?_
  refine lv_bipush (v := 10) hx hb d_rhexDigit_1 (by decide) ?_
  refine lv_icmp_ge (tgt := 13) hx hb d_rhexDigit_3 (by decide) (fun c_1 => ?_) (fun c_1 => ?_)
  · replace Heq := (if_pos c_1).symm.trans Heq
    refine lv_bipush (v := 97) hx hb d_rhexDigit_13 (by decide) ?_
    refine lv_iload_n hx hb d_rhexDigit_15 rfl (lv_at hl 0 rfl) ?_
    refine lv_iadd hx hb d_rhexDigit_16 ?_
    refine w_i (y := 97 + x0) rfl ?_
    refine lv_bipush (v := 10) hx hb d_rhexDigit_17 (by decide) ?_
    refine lv_isub hx hb d_rhexDigit_19 ?_
    refine w_i (y := (97 + x0) - 10) rfl ?_
    exact w_rhexDigit_J20 hC Heq Kr _ _ _ hP hD hS (lv_sub hl [] rfl)
  · replace Heq := (if_neg c_1).symm.trans Heq
    refine lv_bipush (v := 48) hx hb d_rhexDigit_6 (by decide) ?_
    refine lv_iload_n hx hb d_rhexDigit_8 rfl (lv_at hl 0 rfl) ?_
    refine lv_iadd hx hb d_rhexDigit_9 ?_
    refine w_i (y := 48 + x0) rfl ?_
    refine lv_goto (tgt := 20) hx hb d_rhexDigit_10 (by decide) ?_
    exact w_rhexDigit_J20 hC Heq Kr _ _ _ hP hD hS (lv_sub hl [] rfl)
def m_rhexDigit (S : MS) (x0 : Int32) : Option (MS × Int32) := m_rhexDigit_J0 S x0
theorem g_rhexDigit (l : Launch) (D : va_G) (sz : Nat) {md : Nat → Nat} {mc : Nat → ClassId} {S : MS} {x0 : Int32} {o : MS × Int32} (Heq : m_rhexDigit S x0 = some o) : Met l ⟨"JoinedTreesModel", "hexDigit", "(I)I"⟩ (Cond.code ⟨"JoinedTreesModel", "hexDigit", "(I)I"⟩ prog_14_method_76_code 1 (some .int) :: gb) ({ frames := 0, cells := 0, slots := 0, locals := 0 }) (gPc D (mw md mc S) (mty mc) sz [.int x0]) (va_Qi (fun (r : Int32) (_ : Unit) => r = o.2) (fun _ t => gO D (mw md mc o.1) (mty mc) (va_A (mw md mc S) sz) t) (va_A (mw md mc S) sz)) 0 0 (va_A (mw md mc S) sz) := by
  refine Met.ofW (cc := prog_14_method_76_code) (maxL := 1) (ret := (some .int)) (by decide) rfl ?_
  intro p e s m args below meth c s₁ B hml hv
  obtain ⟨rfl, hsz, hP, hK, hD0⟩ := hv
  have hx := B.exec
  have hb := B.bytes
  have hr := B.returns
  have hts : ∀ w9 ∈ gb, w9.before [.int x0].toArray s = true := fun w9 h => atoms_spec (ws := Cond.code ⟨"JoinedTreesModel", "hexDigit", "(I)I"⟩ prog_14_method_76_code 1 (some .int) :: gb) B.pre w9 (List.mem_cons_of_mem _ h)
  have hown : s.vm.findClass "JoinedTreesModel" = some m.cls := findClass_of_methodNamed B.named
  have hlocks := B.notSynchronized
  subst hsz
  have hD := hD0.self (sz := s.heap.size)
  generalize hAe : va_A (mw md mc S) s.heap.size = A at hD ⊢
  have hA : ∀ q : Nat, s.heap.size ≤ q → A q := fun q h => by rw [← hAe]; exact Or.inr h
  have hS : va_S A s.heap s.heap [] := va_S.rf
  have hl := lv_entry ([.int x0]) (n := 1) (Nat.le_of_ble_eq_true rfl)
  rw [lg_entry_eq]
  generalize (lg_sl ([.int x0]) ++ List.replicate (1 - (lg_sl ([.int x0])).length) Slot.unset).toArray = ls at hl ⊢
  have hl : lv_has ls 1 [(0, .int x0)] := hl
  refine w_rhexDigit_J0 ⟨hx, hb, hr, hml, hown, hts, hK, hA⟩ Heq (fun r h pc H locs ls hd hP hD hS => ?_) _ _ _ hP hD hS (lv_sub hl [0] rfl)
  subst h
  exact W.iret hx hb hr (fun t ht hW => ⟨⟨_, (), rfl, rfl, by rw [ht]; exact hP, va_K.moved hW.alike hK, hD⟩, hS.F ht⟩) hS.2.2 hd
def m_rescaped_J96 (S : MS) : Option MS := some S
theorem d_rescaped_0 : decode prog_14_method_77_code 0 = .ok (.iload_n 1, 1) := by decide +kernel
theorem d_rescaped_1 : decode prog_14_method_77_code 1 = .ok (.bipush 34, 2) := by decide +kernel
theorem d_rescaped_3 : decode prog_14_method_77_code 3 = .ok (.if_icmp .eq 15, 3) := by decide +kernel
theorem d_rescaped_18 : decode prog_14_method_77_code 18 = .ok (.aload_n 0, 1) := by decide +kernel
theorem d_rescaped_19 : decode prog_14_method_77_code 19 = .ok (.bipush 92, 2) := by decide +kernel
theorem d_rescaped_21 : decode prog_14_method_77_code 21 = .ok (.invokevirtual 436, 3) := by decide +kernel
theorem d_rescaped_24 : decode prog_14_method_77_code 24 = .ok (.aload_n 0, 1) := by decide +kernel
theorem d_rescaped_25 : decode prog_14_method_77_code 25 = .ok (.iload_n 1, 1) := by decide +kernel
theorem d_rescaped_26 : decode prog_14_method_77_code 26 = .ok (.bipush 10, 2) := by decide +kernel
theorem d_rescaped_28 : decode prog_14_method_77_code 28 = .ok (.if_icmp .ne 8, 3) := by decide +kernel
theorem d_rescaped_36 : decode prog_14_method_77_code 36 = .ok (.iload_n 1, 1) := by decide +kernel
theorem d_rescaped_37 : decode prog_14_method_77_code 37 = .ok (.invokevirtual 436, 3) := by decide +kernel
theorem d_rescaped_40 : decode prog_14_method_77_code 40 = .ok (.goto 56, 3) := by decide +kernel
theorem d_rescaped_96 : decode prog_14_method_77_code 96 = .ok (.return_, 1) := by decide +kernel
set_option maxHeartbeats 4000000 in
set_option maxRecDepth 100000 in
theorem w_rescaped_J96 {p : Program} {l : Launch} {e : Env} {s : State} {m : MethodId} {args : Array Value} {below : List Frame} {meth : Method} {c : Code} {A : Nat → Prop} {D : va_G} {md : Nat → Nat} {mc : Nat → ClassId} {Q : State → Prop} (hC : MCx "JoinedTreesModel" prog_14_method_77_code 2 none p s m args meth c A D mc) {S : MS} {o : MS} (Heq : m_rescaped_J96 S = some o) (Kr : ∀ r : MS, o = r → ∀ (pc : Nat) (H : Heap) (locs : List Loc) (ls : Array Slot), decode prog_14_method_77_code pc = .ok (.return_, 1) → va_P D cls (mw md mc r) H → va_D A (mw md mc r) → va_S A s.heap H locs → W p l e ({ frames := 1, cells := 0, slots := 0, locals := 21 }) s m args below meth c H locs 0 0 Q (F0 m pc ls [])) : ∀ (H : Heap) (locs : List Loc) (ls : Array Slot), va_P D cls (mw md mc S) H → va_D A (mw md mc S) → va_S A s.heap H locs → lv_has ls 2 [(0, .ref (md 100))] → W p l e ({ frames := 1, cells := 0, slots := 0, locals := 21 }) s m args below meth c H locs 0 0 Q (F0 m 96 ls []) := by
  intro H locs ls hP hD hS hl
  obtain ⟨hx, hb, hr, hml, hown, hts, hK, hA⟩ := id hC
  unfold m_rescaped_J96 at Heq
  exact Kr _ (Option.some.inj Heq).symm 96 _ _ _ d_rescaped_96 hP hD hS
def m_rescaped_J37 (S : MS) (t0 : Int32) : Option MS := ob (m_rwrite S t0) (fun o_1 => m_rescaped_J96 o_1)
set_option maxHeartbeats 4000000 in
set_option maxRecDepth 100000 in
theorem w_rescaped_J37 {p : Program} {l : Launch} {e : Env} {s : State} {m : MethodId} {args : Array Value} {below : List Frame} {meth : Method} {c : Code} {A : Nat → Prop} {D : va_G} {md : Nat → Nat} {mc : Nat → ClassId} {Q : State → Prop} (hC : MCx "JoinedTreesModel" prog_14_method_77_code 2 none p s m args meth c A D mc) {S : MS} {t0 : Int32} {o : MS} (Heq : m_rescaped_J37 S t0 = some o) (Kr : ∀ r : MS, o = r → ∀ (pc : Nat) (H : Heap) (locs : List Loc) (ls : Array Slot), decode prog_14_method_77_code pc = .ok (.return_, 1) → va_P D cls (mw md mc r) H → va_D A (mw md mc r) → va_S A s.heap H locs → W p l e ({ frames := 1, cells := 0, slots := 0, locals := 21 }) s m args below meth c H locs 0 0 Q (F0 m pc ls [])) : ∀ (H : Heap) (locs : List Loc) (ls : Array Slot), va_P D cls (mw md mc S) H → va_D A (mw md mc S) → va_S A s.heap H locs → lv_has ls 2 [(0, .ref (md 100))] → W p l e ({ frames := 1, cells := 0, slots := 0, locals := 21 }) s m args below meth c H locs 0 0 Q (F0 m 37 ls [.int t0, .ref (md 100)]) := by
  intro H locs ls hP hD hS hl
  obtain ⟨hx, hb, hr, hml, hown, hts, hK, hA⟩ := id hC
  unfold m_rescaped_J37 at Heq
  obtain ⟨o_1, h_2, Heq⟩ := ob_some Heq
  have hFc := fr_all hD hS hA
  refine va_callv (va_runV (As := [.int t0]) (rest := []) ⟨hx, hb, hml, hown, hts⟩ (g_rwrite l D H.size h_2) (cw_v 1 hts kw_1918 kw_1915 kw_1917 kp_76 kw_11 rfl rfl (by decide +kernel) ⟨Nat.le_of_ble_eq_true rfl, Nat.le_of_ble_eq_true rfl⟩) ⟨g_blind, va_recv hK hP (ci := 12) (q0 := 0) rfl rfl, fun U hU hW => g_pre hU hW hP hK hD⟩ rfl rfl hl.1 rfl (lv_room (Nat.le_of_ble_eq_true rfl)) d_rescaped_37 ⟨Nat.le_of_ble_eq_true rfl, Nat.le_of_ble_eq_true rfl⟩) hS (fun q _ h => hFc q h) hFc (fun u t H1 locs ht hvm hw hB hz1 hk1 hS => ?_)
  obtain ⟨hP, -, hD1⟩ := hB
  rw [ht] at hP
  have hD := hD1.weaken (fun _ q _ h => hFc q.1 h)
  generalize H1 = H at hP hS ⊢
  refine W.cs (cells' := 0) (slots' := 0) rfl rfl ?_
  refine lv_goto (tgt := 96) hx hb d_rescaped_40 (by decide) ?_
  exact w_rescaped_J96 hC Heq Kr _ _ _ hP hD hS (lv_sub hl [0] rfl)
def m_rescaped_J18 (S : MS) (x1 : Int32) : Option MS := ob (m_rwrite S 92) (fun o_1 => (if x1 = 10 then m_rescaped_J37 o_1 110 else m_rescaped_J37 o_1 x1))
theorem d_rescaped_31 : decode prog_14_method_77_code 31 = .ok (.bipush 110, 2) := by decide +kernel
theorem d_rescaped_33 : decode prog_14_method_77_code 33 = .ok (.goto 4, 3) := by decide +kernel
set_option maxHeartbeats 4000000 in
set_option maxRecDepth 100000 in
theorem w_rescaped_J18 {p : Program} {l : Launch} {e : Env} {s : State} {m : MethodId} {args : Array Value} {below : List Frame} {meth : Method} {c : Code} {A : Nat → Prop} {D : va_G} {md : Nat → Nat} {mc : Nat → ClassId} {Q : State → Prop} (hC : MCx "JoinedTreesModel" prog_14_method_77_code 2 none p s m args meth c A D mc) {S : MS} {x1 : Int32} {o : MS} (Heq : m_rescaped_J18 S x1 = some o) (Kr : ∀ r : MS, o = r → ∀ (pc : Nat) (H : Heap) (locs : List Loc) (ls : Array Slot), decode prog_14_method_77_code pc = .ok (.return_, 1) → va_P D cls (mw md mc r) H → va_D A (mw md mc r) → va_S A s.heap H locs → W p l e ({ frames := 1, cells := 0, slots := 0, locals := 21 }) s m args below meth c H locs 0 0 Q (F0 m pc ls [])) : ∀ (H : Heap) (locs : List Loc) (ls : Array Slot), va_P D cls (mw md mc S) H → va_D A (mw md mc S) → va_S A s.heap H locs → lv_has ls 2 [(0, .ref (md 100)), (1, .int x1)] → W p l e ({ frames := 1, cells := 0, slots := 0, locals := 21 }) s m args below meth c H locs 0 0 Q (F0 m 18 ls []) := by
  intro H locs ls hP hD hS hl
  obtain ⟨hx, hb, hr, hml, hown, hts, hK, hA⟩ := id hC
  unfold m_rescaped_J18 at Heq
  refine lv_aload_n hx hb d_rescaped_18 rfl (lv_at hl 0 rfl) ?_
  refine lv_bipush (v := 92) hx hb d_rescaped_19 (by decide) ?_
  obtain ⟨o_1, h_2, Heq⟩ := ob_some Heq
  have hFc := fr_all hD hS hA
  refine va_callv (va_runV (As := [.int 92]) (rest := []) ⟨hx, hb, hml, hown, hts⟩ (g_rwrite l D H.size h_2) (cw_v 1 hts kw_1918 kw_1915 kw_1917 kp_76 kw_11 rfl rfl (by decide +kernel) ⟨Nat.le_of_ble_eq_true rfl, Nat.le_of_ble_eq_true rfl⟩) ⟨g_blind, va_recv hK hP (ci := 12) (q0 := 0) rfl rfl, fun U hU hW => g_pre hU hW hP hK hD⟩ rfl rfl hl.1 rfl (lv_room (Nat.le_of_ble_eq_true rfl)) d_rescaped_21 ⟨Nat.le_of_ble_eq_true rfl, Nat.le_of_ble_eq_true rfl⟩) hS (fun q _ h => hFc q h) hFc (fun u t H1 locs ht hvm hw hB hz1 hk1 hS => ?_)
  obtain ⟨hP, -, hD1⟩ := hB
  rw [ht] at hP
  have hD := hD1.weaken (fun _ q _ h => hFc q.1 h)
  generalize H1 = H at hP hS ⊢
  refine W.cs (cells' := 0) (slots' := 0) rfl rfl ?_
  refine lv_aload_n hx hb d_rescaped_24 rfl (lv_at hl 0 rfl) ?_
  refine lv_iload_n hx hb d_rescaped_25 rfl (lv_at hl 1 rfl) ?_
  refine lv_bipush (v := 10) hx hb d_rescaped_26 (by decide) ?_
  refine lv_icmp_ne (tgt := 36) hx hb d_rescaped_28 (by decide) (fun c_3 => ?_) (fun c_3 => ?_)
  · replace Heq := (if_neg c_3).symm.trans Heq
    refine lv_iload_n hx hb d_rescaped_36 rfl (lv_at hl 1 rfl) ?_
    exact w_rescaped_J37 hC Heq Kr _ _ _ hP hD hS (lv_sub hl [0] rfl)
  · replace Heq := (if_pos c_3).symm.trans Heq
    refine lv_bipush (v := 110) hx hb d_rescaped_31 (by decide) ?_
    refine lv_goto (tgt := 37) hx hb d_rescaped_33 (by decide) ?_
    exact w_rescaped_J37 hC Heq Kr _ _ _ hP hD hS (lv_sub hl [0] rfl)
def m_rescaped_J55 (S : MS) (x1 : Int32) : Option MS := ob (m_rwrite S 92) (fun o_1 => ob (m_rwrite o_1 120) (fun o_3 => ob (m_rhexDigit o_3 (x1 >>> (4 &&& 31))) (fun o_5 => ob (m_rwrite o_5.1 o_5.2) (fun o_7 => ob (m_rhexDigit o_7 (x1 &&& 15)) (fun o_9 => ob (m_rwrite o_9.1 o_9.2) (fun o_11 => m_rescaped_J96 o_11))))))
theorem d_rescaped_6 : decode prog_14_method_77_code 6 = .ok (.iload_n 1, 1) := by decide +kernel
theorem d_rescaped_7 : decode prog_14_method_77_code 7 = .ok (.bipush 92, 2) := by decide +kernel
theorem d_rescaped_9 : decode prog_14_method_77_code 9 = .ok (.if_icmp .eq 9, 3) := by decide +kernel
theorem d_rescaped_12 : decode prog_14_method_77_code 12 = .ok (.iload_n 1, 1) := by decide +kernel
theorem d_rescaped_13 : decode prog_14_method_77_code 13 = .ok (.bipush 10, 2) := by decide +kernel
theorem d_rescaped_15 : decode prog_14_method_77_code 15 = .ok (.if_icmp .ne 28, 3) := by decide +kernel
theorem d_rescaped_43 : decode prog_14_method_77_code 43 = .ok (.iload_n 1, 1) := by decide +kernel
theorem d_rescaped_44 : decode prog_14_method_77_code 44 = .ok (.bipush 32, 2) := by decide +kernel
theorem d_rescaped_46 : decode prog_14_method_77_code 46 = .ok (.if_icmp .lt 9, 3) := by decide +kernel
theorem d_rescaped_55 : decode prog_14_method_77_code 55 = .ok (.aload_n 0, 1) := by decide +kernel
theorem d_rescaped_56 : decode prog_14_method_77_code 56 = .ok (.bipush 92, 2) := by decide +kernel
theorem d_rescaped_58 : decode prog_14_method_77_code 58 = .ok (.invokevirtual 436, 3) := by decide +kernel
theorem d_rescaped_61 : decode prog_14_method_77_code 61 = .ok (.aload_n 0, 1) := by decide +kernel
theorem d_rescaped_62 : decode prog_14_method_77_code 62 = .ok (.bipush 120, 2) := by decide +kernel
theorem d_rescaped_64 : decode prog_14_method_77_code 64 = .ok (.invokevirtual 436, 3) := by decide +kernel
theorem d_rescaped_67 : decode prog_14_method_77_code 67 = .ok (.aload_n 0, 1) := by decide +kernel
theorem d_rescaped_68 : decode prog_14_method_77_code 68 = .ok (.iload_n 1, 1) := by decide +kernel
theorem d_rescaped_69 : decode prog_14_method_77_code 69 = .ok (.iconst 4, 1) := by decide +kernel
theorem d_rescaped_70 : decode prog_14_method_77_code 70 = .ok (.ishr, 1) := by decide +kernel
theorem d_rescaped_71 : decode prog_14_method_77_code 71 = .ok (.invokestatic 441, 3) := by decide +kernel
theorem d_rescaped_74 : decode prog_14_method_77_code 74 = .ok (.invokevirtual 436, 3) := by decide +kernel
theorem d_rescaped_77 : decode prog_14_method_77_code 77 = .ok (.aload_n 0, 1) := by decide +kernel
theorem d_rescaped_78 : decode prog_14_method_77_code 78 = .ok (.iload_n 1, 1) := by decide +kernel
theorem d_rescaped_79 : decode prog_14_method_77_code 79 = .ok (.bipush 15, 2) := by decide +kernel
theorem d_rescaped_81 : decode prog_14_method_77_code 81 = .ok (.iand, 1) := by decide +kernel
theorem d_rescaped_82 : decode prog_14_method_77_code 82 = .ok (.invokestatic 441, 3) := by decide +kernel
theorem d_rescaped_85 : decode prog_14_method_77_code 85 = .ok (.invokevirtual 436, 3) := by decide +kernel
theorem d_rescaped_88 : decode prog_14_method_77_code 88 = .ok (.goto 8, 3) := by decide +kernel
set_option maxHeartbeats 4000000 in
set_option maxRecDepth 100000 in
theorem w_rescaped_J55 {p : Program} {l : Launch} {e : Env} {s : State} {m : MethodId} {args : Array Value} {below : List Frame} {meth : Method} {c : Code} {A : Nat → Prop} {D : va_G} {md : Nat → Nat} {mc : Nat → ClassId} {Q : State → Prop} (hC : MCx "JoinedTreesModel" prog_14_method_77_code 2 none p s m args meth c A D mc) {S : MS} {x1 : Int32} {o : MS} (Heq : m_rescaped_J55 S x1 = some o) (Kr : ∀ r : MS, o = r → ∀ (pc : Nat) (H : Heap) (locs : List Loc) (ls : Array Slot), decode prog_14_method_77_code pc = .ok (.return_, 1) → va_P D cls (mw md mc r) H → va_D A (mw md mc r) → va_S A s.heap H locs → W p l e ({ frames := 1, cells := 0, slots := 0, locals := 21 }) s m args below meth c H locs 0 0 Q (F0 m pc ls [])) : ∀ (H : Heap) (locs : List Loc) (ls : Array Slot), va_P D cls (mw md mc S) H → va_D A (mw md mc S) → va_S A s.heap H locs → lv_has ls 2 [(0, .ref (md 100)), (1, .int x1)] → W p l e ({ frames := 1, cells := 0, slots := 0, locals := 21 }) s m args below meth c H locs 0 0 Q (F0 m 55 ls []) := by
  intro H locs ls hP hD hS hl
  obtain ⟨hx, hb, hr, hml, hown, hts, hK, hA⟩ := id hC
  unfold m_rescaped_J55 at Heq
  refine lv_aload_n hx hb d_rescaped_55 rfl (lv_at hl 0 rfl) ?_
  refine lv_bipush (v := 92) hx hb d_rescaped_56 (by decide) ?_
  obtain ⟨o_1, h_2, Heq⟩ := ob_some Heq
  have hFc := fr_all hD hS hA
  refine va_callv (va_runV (As := [.int 92]) (rest := []) ⟨hx, hb, hml, hown, hts⟩ (g_rwrite l D H.size h_2) (cw_v 1 hts kw_1918 kw_1915 kw_1917 kp_76 kw_11 rfl rfl (by decide +kernel) ⟨Nat.le_of_ble_eq_true rfl, Nat.le_of_ble_eq_true rfl⟩) ⟨g_blind, va_recv hK hP (ci := 12) (q0 := 0) rfl rfl, fun U hU hW => g_pre hU hW hP hK hD⟩ rfl rfl hl.1 rfl (lv_room (Nat.le_of_ble_eq_true rfl)) d_rescaped_58 ⟨Nat.le_of_ble_eq_true rfl, Nat.le_of_ble_eq_true rfl⟩) hS (fun q _ h => hFc q h) hFc (fun u t H1 locs ht hvm hw hB hz1 hk1 hS => ?_)
  obtain ⟨hP, -, hD1⟩ := hB
  rw [ht] at hP
  have hD := hD1.weaken (fun _ q _ h => hFc q.1 h)
  generalize H1 = H at hP hS ⊢
  refine W.cs (cells' := 0) (slots' := 0) rfl rfl ?_
  refine lv_aload_n hx hb d_rescaped_61 rfl (lv_at hl 0 rfl) ?_
  refine lv_bipush (v := 120) hx hb d_rescaped_62 (by decide) ?_
  obtain ⟨o_3, h_4, Heq⟩ := ob_some Heq
  have hFc := fr_all hD hS hA
  refine va_callv (va_runV (As := [.int 120]) (rest := []) ⟨hx, hb, hml, hown, hts⟩ (g_rwrite l D H.size h_4) (cw_v 1 hts kw_1918 kw_1915 kw_1917 kp_76 kw_11 rfl rfl (by decide +kernel) ⟨Nat.le_of_ble_eq_true rfl, Nat.le_of_ble_eq_true rfl⟩) ⟨g_blind, va_recv hK hP (ci := 12) (q0 := 0) rfl rfl, fun U hU hW => g_pre hU hW hP hK hD⟩ rfl rfl hl.1 rfl (lv_room (Nat.le_of_ble_eq_true rfl)) d_rescaped_64 ⟨Nat.le_of_ble_eq_true rfl, Nat.le_of_ble_eq_true rfl⟩) hS (fun q _ h => hFc q h) hFc (fun u t H1 locs ht hvm hw hB hz1 hk1 hS => ?_)
  obtain ⟨hP, -, hD1⟩ := hB
  rw [ht] at hP
  have hD := hD1.weaken (fun _ q _ h => hFc q.1 h)
  generalize H1 = H at hP hS ⊢
  refine W.cs (cells' := 0) (slots' := 0) rfl rfl ?_
  refine lv_aload_n hx hb d_rescaped_67 rfl (lv_at hl 0 rfl) ?_
  refine lv_iload_n hx hb d_rescaped_68 rfl (lv_at hl 1 rfl) ?_
  refine lv_iconst (v := 4) hx hb d_rescaped_69 (by decide) ?_
  refine lv_ishr hx hb d_rescaped_70 ?_
  refine w_i (y := x1 >>> (4 &&& 31)) rfl ?_
  obtain ⟨o_5, h_6, Heq⟩ := ob_some Heq
  have hFc := fr_all hD hS hA
  refine va_calli (va_runS (As := [.int (x1 >>> (4 &&& 31))]) (rest := [.ref (md 100)]) ⟨hx, hb, hml, hown, hts⟩ (g_rhexDigit l D H.size h_6) (cw_s 1 hts kw_1929 kw_1927 kw_1928 kw_11 rfl rfl (by decide +kernel) ⟨Nat.le_of_ble_eq_true rfl, Nat.le_of_ble_eq_true rfl⟩) ⟨g_blind, fun U hU hW => g_pre hU hW hP hK hD⟩ rfl rfl hl.1 rfl (lv_room (Nat.le_of_ble_eq_true rfl)) d_rescaped_71 ⟨Nat.le_of_ble_eq_true rfl, Nat.le_of_ble_eq_true rfl⟩) hS (fun q _ h => hFc q h) hFc (fun rz u t H1 locs ht hvm hw hB hz1 hk1 hS => ?_)
  obtain ⟨hP, -, hD1⟩ := hB
  rw [ht] at hP
  have hD := hD1.weaken (fun _ q _ h => hFc q.1 h)
  generalize H1 = H at hP hS ⊢
  refine W.cs (cells' := 0) (slots' := 0) rfl rfl ?_
  subst hw
  obtain ⟨o_7, h_8, Heq⟩ := ob_some Heq
  have hFc := fr_all hD hS hA
  refine va_callv (va_runV (As := [.int o_5.2]) (rest := []) ⟨hx, hb, hml, hown, hts⟩ (g_rwrite l D H.size h_8) (cw_v 1 hts kw_1918 kw_1915 kw_1917 kp_76 kw_11 rfl rfl (by decide +kernel) ⟨Nat.le_of_ble_eq_true rfl, Nat.le_of_ble_eq_true rfl⟩) ⟨g_blind, va_recv hK hP (ci := 12) (q0 := 0) rfl rfl, fun U hU hW => g_pre hU hW hP hK hD⟩ rfl rfl hl.1 rfl (lv_room (Nat.le_of_ble_eq_true rfl)) d_rescaped_74 ⟨Nat.le_of_ble_eq_true rfl, Nat.le_of_ble_eq_true rfl⟩) hS (fun q _ h => hFc q h) hFc (fun u t H1 locs ht hvm hw hB hz1 hk1 hS => ?_)
  obtain ⟨hP, -, hD1⟩ := hB
  rw [ht] at hP
  have hD := hD1.weaken (fun _ q _ h => hFc q.1 h)
  generalize H1 = H at hP hS ⊢
  refine W.cs (cells' := 0) (slots' := 0) rfl rfl ?_
  refine lv_aload_n hx hb d_rescaped_77 rfl (lv_at hl 0 rfl) ?_
  refine lv_iload_n hx hb d_rescaped_78 rfl (lv_at hl 1 rfl) ?_
  refine lv_bipush (v := 15) hx hb d_rescaped_79 (by decide) ?_
  refine lv_iand hx hb d_rescaped_81 ?_
  refine w_i (y := x1 &&& 15) rfl ?_
  obtain ⟨o_9, h_10, Heq⟩ := ob_some Heq
  have hFc := fr_all hD hS hA
  refine va_calli (va_runS (As := [.int (x1 &&& 15)]) (rest := [.ref (md 100)]) ⟨hx, hb, hml, hown, hts⟩ (g_rhexDigit l D H.size h_10) (cw_s 1 hts kw_1929 kw_1927 kw_1928 kw_11 rfl rfl (by decide +kernel) ⟨Nat.le_of_ble_eq_true rfl, Nat.le_of_ble_eq_true rfl⟩) ⟨g_blind, fun U hU hW => g_pre hU hW hP hK hD⟩ rfl rfl hl.1 rfl (lv_room (Nat.le_of_ble_eq_true rfl)) d_rescaped_82 ⟨Nat.le_of_ble_eq_true rfl, Nat.le_of_ble_eq_true rfl⟩) hS (fun q _ h => hFc q h) hFc (fun rz u t H1 locs ht hvm hw hB hz1 hk1 hS => ?_)
  obtain ⟨hP, -, hD1⟩ := hB
  rw [ht] at hP
  have hD := hD1.weaken (fun _ q _ h => hFc q.1 h)
  generalize H1 = H at hP hS ⊢
  refine W.cs (cells' := 0) (slots' := 0) rfl rfl ?_
  subst hw
  obtain ⟨o_11, h_12, Heq⟩ := ob_some Heq
  have hFc := fr_all hD hS hA
  refine va_callv (va_runV (As := [.int o_9.2]) (rest := []) ⟨hx, hb, hml, hown, hts⟩ (g_rwrite l D H.size h_12) (cw_v 1 hts kw_1918 kw_1915 kw_1917 kp_76 kw_11 rfl rfl (by decide +kernel) ⟨Nat.le_of_ble_eq_true rfl, Nat.le_of_ble_eq_true rfl⟩) ⟨g_blind, va_recv hK hP (ci := 12) (q0 := 0) rfl rfl, fun U hU hW => g_pre hU hW hP hK hD⟩ rfl rfl hl.1 rfl (lv_room (Nat.le_of_ble_eq_true rfl)) d_rescaped_85 ⟨Nat.le_of_ble_eq_true rfl, Nat.le_of_ble_eq_true rfl⟩) hS (fun q _ h => hFc q h) hFc (fun u t H1 locs ht hvm hw hB hz1 hk1 hS => ?_)
  obtain ⟨hP, -, hD1⟩ := hB
  rw [ht] at hP
  have hD := hD1.weaken (fun _ q _ h => hFc q.1 h)
  generalize H1 = H at hP hS ⊢
  refine W.cs (cells' := 0) (slots' := 0) rfl rfl ?_
  refine lv_goto (tgt := 96) hx hb d_rescaped_88 (by decide) ?_
  exact w_rescaped_J96 hC Heq Kr _ _ _ hP hD hS (lv_sub hl [0] rfl)
def m_rescaped_J0 (S : MS) (x1 : Int32) : Option MS := (if x1 = 34 then m_rescaped_J18 S x1 else (if x1 = 92 then m_rescaped_J18 S x1 else (if x1 = 10 then m_rescaped_J18 S x1 else (if x1 < 32 then m_rescaped_J55 S x1 else (if x1 ≤ 126 then ob (m_rwrite S x1) (fun o_6 => m_rescaped_J96 o_6) else m_rescaped_J55 S x1)))))
theorem d_rescaped_49 : decode prog_14_method_77_code 49 = .ok (.iload_n 1, 1) := by decide +kernel
theorem d_rescaped_50 : decode prog_14_method_77_code 50 = .ok (.bipush 126, 2) := by decide +kernel
theorem d_rescaped_52 : decode prog_14_method_77_code 52 = .ok (.if_icmp .le 39, 3) := by decide +kernel
theorem d_rescaped_91 : decode prog_14_method_77_code 91 = .ok (.aload_n 0, 1) := by decide +kernel
theorem d_rescaped_92 : decode prog_14_method_77_code 92 = .ok (.iload_n 1, 1) := by decide +kernel
theorem d_rescaped_93 : decode prog_14_method_77_code 93 = .ok (.invokevirtual 436, 3) := by decide +kernel
set_option maxHeartbeats 4000000 in
set_option maxRecDepth 100000 in
theorem w_rescaped_J0 {p : Program} {l : Launch} {e : Env} {s : State} {m : MethodId} {args : Array Value} {below : List Frame} {meth : Method} {c : Code} {A : Nat → Prop} {D : va_G} {md : Nat → Nat} {mc : Nat → ClassId} {Q : State → Prop} (hC : MCx "JoinedTreesModel" prog_14_method_77_code 2 none p s m args meth c A D mc) {S : MS} {x1 : Int32} {o : MS} (Heq : m_rescaped_J0 S x1 = some o) (Kr : ∀ r : MS, o = r → ∀ (pc : Nat) (H : Heap) (locs : List Loc) (ls : Array Slot), decode prog_14_method_77_code pc = .ok (.return_, 1) → va_P D cls (mw md mc r) H → va_D A (mw md mc r) → va_S A s.heap H locs → W p l e ({ frames := 1, cells := 0, slots := 0, locals := 21 }) s m args below meth c H locs 0 0 Q (F0 m pc ls [])) : ∀ (H : Heap) (locs : List Loc) (ls : Array Slot), va_P D cls (mw md mc S) H → va_D A (mw md mc S) → va_S A s.heap H locs → lv_has ls 2 [(0, .ref (md 100)), (1, .int x1)] → W p l e ({ frames := 1, cells := 0, slots := 0, locals := 21 }) s m args below meth c H locs 0 0 Q (F0 m 0 ls []) := by
  intro H locs ls hP hD hS hl
  obtain ⟨hx, hb, hr, hml, hown, hts, hK, hA⟩ := id hC
  unfold m_rescaped_J0 at Heq
  refine lv_iload_n hx hb d_rescaped_0 rfl (lv_at hl 1 rfl) ?_
  refine lv_bipush (v := 34) hx hb d_rescaped_1 (by decide) ?_
  refine lv_icmp_eq (tgt := 18) hx hb d_rescaped_3 (by decide) (fun c_1 => ?_) (fun c_1 => ?_)
  · replace Heq := (if_pos c_1).symm.trans Heq
    exact w_rescaped_J18 hC Heq Kr _ _ _ hP hD hS (lv_sub hl [0, 1] rfl)
  · replace Heq := (if_neg c_1).symm.trans Heq
    refine lv_iload_n hx hb d_rescaped_6 rfl (lv_at hl 1 rfl) ?_
    refine lv_bipush (v := 92) hx hb d_rescaped_7 (by decide) ?_
    refine lv_icmp_eq (tgt := 18) hx hb d_rescaped_9 (by decide) (fun c_2 => ?_) (fun c_2 => ?_)
    · replace Heq := (if_pos c_2).symm.trans Heq
      exact w_rescaped_J18 hC Heq Kr _ _ _ hP hD hS (lv_sub hl [0, 1] rfl)
    · replace Heq := (if_neg c_2).symm.trans Heq
      refine lv_iload_n hx hb d_rescaped_12 rfl (lv_at hl 1 rfl) ?_
      refine lv_bipush (v := 10) hx hb d_rescaped_13 (by decide) ?_
      refine lv_icmp_ne (tgt := 43) hx hb d_rescaped_15 (by decide) (fun c_3 => ?_) (fun c_3 => ?_)
      · replace Heq := (if_neg c_3).symm.trans Heq
        refine lv_iload_n hx hb d_rescaped_43 rfl (lv_at hl 1 rfl) ?_
        refine lv_bipush (v := 32) hx hb d_rescaped_44 (by decide) ?_
        refine lv_icmp_lt (tgt := 55) hx hb d_rescaped_46 (by decide) (fun c_4 => ?_) (fun c_4 => ?_)
        · replace Heq := (if_pos c_4).symm.trans Heq
          exact w_rescaped_J55 hC Heq Kr _ _ _ hP hD hS (lv_sub hl [0, 1] rfl)
        · replace Heq := (if_neg c_4).symm.trans Heq
          refine lv_iload_n hx hb d_rescaped_49 rfl (lv_at hl 1 rfl) ?_
          refine lv_bipush (v := 126) hx hb d_rescaped_50 (by decide) ?_
          refine lv_icmp_le (tgt := 91) hx hb d_rescaped_52 (by decide) (fun c_5 => ?_) (fun c_5 => ?_)
          · replace Heq := (if_pos c_5).symm.trans Heq
            refine lv_aload_n hx hb d_rescaped_91 rfl (lv_at hl 0 rfl) ?_
            refine lv_iload_n hx hb d_rescaped_92 rfl (lv_at hl 1 rfl) ?_
            obtain ⟨o_6, h_7, Heq⟩ := ob_some Heq
            have hFc := fr_all hD hS hA
            refine va_callv (va_runV (As := [.int x1]) (rest := []) ⟨hx, hb, hml, hown, hts⟩ (g_rwrite l D H.size h_7) (cw_v 1 hts kw_1918 kw_1915 kw_1917 kp_76 kw_11 rfl rfl (by decide +kernel) ⟨Nat.le_of_ble_eq_true rfl, Nat.le_of_ble_eq_true rfl⟩) ⟨g_blind, va_recv hK hP (ci := 12) (q0 := 0) rfl rfl, fun U hU hW => g_pre hU hW hP hK hD⟩ rfl rfl hl.1 rfl (lv_room (Nat.le_of_ble_eq_true rfl)) d_rescaped_93 ⟨Nat.le_of_ble_eq_true rfl, Nat.le_of_ble_eq_true rfl⟩) hS (fun q _ h => hFc q h) hFc (fun u t H1 locs ht hvm hw hB hz1 hk1 hS => ?_)
            obtain ⟨hP, -, hD1⟩ := hB
            rw [ht] at hP
            have hD := hD1.weaken (fun _ q _ h => hFc q.1 h)
            generalize H1 = H at hP hS ⊢
            refine W.cs (cells' := 0) (slots' := 0) rfl rfl ?_
            exact w_rescaped_J96 hC Heq Kr _ _ _ hP hD hS (lv_sub hl [0] rfl)
          · replace Heq := (if_neg c_5).symm.trans Heq
            exact w_rescaped_J55 hC Heq Kr _ _ _ hP hD hS (lv_sub hl [0, 1] rfl)
      · replace Heq := (if_pos c_3).symm.trans Heq
        exact w_rescaped_J18 hC Heq Kr _ _ _ hP hD hS (lv_sub hl [0, 1] rfl)
def m_rescaped (S : MS) (x1 : Int32) : Option MS := m_rescaped_J0 S x1
theorem g_rescaped (l : Launch) (D : va_G) (sz : Nat) {md : Nat → Nat} {mc : Nat → ClassId} {S : MS} {x1 : Int32} {o : MS} (Heq : m_rescaped S x1 = some o) : Met l ⟨"JoinedTreesModel", "escaped", "(I)V"⟩ (Cond.code ⟨"JoinedTreesModel", "escaped", "(I)V"⟩ prog_14_method_77_code 2 none :: gb) ({ frames := 1, cells := 0, slots := 0, locals := 21 }) (gPc D (mw md mc S) (mty mc) sz [.ref (md 100), .int x1]) (va_Qv (fun _ : Unit => True) (fun _ t => gO D (mw md mc o) (mty mc) (va_A (mw md mc S) sz) t) (va_A (mw md mc S) sz)) 0 0 (va_A (mw md mc S) sz) := by
  refine Met.ofW (cc := prog_14_method_77_code) (maxL := 2) (ret := none) (by decide) rfl ?_
  intro p e s m args below meth c s₁ B hml hv
  obtain ⟨rfl, hsz, hP, hK, hD0⟩ := hv
  have hx := B.exec
  have hb := B.bytes
  have hr := B.returns
  have hts : ∀ w9 ∈ gb, w9.before [.ref (md 100), .int x1].toArray s = true := fun w9 h => atoms_spec (ws := Cond.code ⟨"JoinedTreesModel", "escaped", "(I)V"⟩ prog_14_method_77_code 2 none :: gb) B.pre w9 (List.mem_cons_of_mem _ h)
  have hown : s.vm.findClass "JoinedTreesModel" = some m.cls := findClass_of_methodNamed B.named
  have hlocks := B.notSynchronized
  subst hsz
  have hD := hD0.self (sz := s.heap.size)
  generalize hAe : va_A (mw md mc S) s.heap.size = A at hD ⊢
  have hA : ∀ q : Nat, s.heap.size ≤ q → A q := fun q h => by rw [← hAe]; exact Or.inr h
  have hS : va_S A s.heap s.heap [] := va_S.rf
  have hl := lv_entry ([.ref (md 100), .int x1]) (n := 2) (Nat.le_of_ble_eq_true rfl)
  rw [lg_entry_eq]
  generalize (lg_sl ([.ref (md 100), .int x1]) ++ List.replicate (2 - (lg_sl ([.ref (md 100), .int x1])).length) Slot.unset).toArray = ls at hl ⊢
  have hl : lv_has ls 2 [(0, .ref (md 100)), (1, .int x1)] := hl
  refine w_rescaped_J0 ⟨hx, hb, hr, hml, hown, hts, hK, hA⟩ Heq (fun r h pc H locs ls hd hP hD hS => ?_) _ _ _ hP hD hS (lv_sub hl [0, 1] rfl)
  subst h
  exact W.vret hx hb hr (fun t ht hW => ⟨⟨(), rfl, trivial, by rw [ht]; exact hP, va_K.moved hW.alike hK, hD⟩, hS.F ht⟩) hS.2.2 hd
def m_rname_B8 (S : MS) (x1 : Int32) (x2 : Int32) : Option ((MS × Int32 × Int32) ⊕ MS) := gd x1 4000 ((if S.a 15 x1.toNatClampNeg ≤ x2 then some (.inr (S)) else gd x1 4000 (gd ((S.a 14 x1.toNatClampNeg) + x2) 32876 (ob (m_rescaped S ((S.a 26 (((S.a 14 x1.toNatClampNeg) + x2).toNatClampNeg)) &&& 255)) (fun o_5 => some (.inl (o_5, x1, (x2 + 1))))))))
theorem d_rname_0 : decode prog_14_method_79_code 0 = .ok (.aload_n 0, 1) := by decide +kernel
theorem d_rname_1 : decode prog_14_method_79_code 1 = .ok (.bipush 34, 2) := by decide +kernel
theorem d_rname_3 : decode prog_14_method_79_code 3 = .ok (.invokevirtual 436, 3) := by decide +kernel
theorem d_rname_6 : decode prog_14_method_79_code 6 = .ok (.iconst 0, 1) := by decide +kernel
theorem d_rname_7 : decode prog_14_method_79_code 7 = .ok (.istore_n 2, 1) := by decide +kernel
theorem d_rname_8 : decode prog_14_method_79_code 8 = .ok (.iload_n 2, 1) := by decide +kernel
theorem d_rname_9 : decode prog_14_method_79_code 9 = .ok (.aload_n 0, 1) := by decide +kernel
theorem d_rname_10 : decode prog_14_method_79_code 10 = .ok (.getfield 41, 3) := by decide +kernel
theorem d_rname_13 : decode prog_14_method_79_code 13 = .ok (.iload_n 1, 1) := by decide +kernel
theorem d_rname_14 : decode prog_14_method_79_code 14 = .ok (.iaload, 1) := by decide +kernel
theorem d_rname_15 : decode prog_14_method_79_code 15 = .ok (.if_icmp .ge 30, 3) := by decide +kernel
theorem d_rname_18 : decode prog_14_method_79_code 18 = .ok (.aload_n 0, 1) := by decide +kernel
theorem d_rname_19 : decode prog_14_method_79_code 19 = .ok (.aload_n 0, 1) := by decide +kernel
theorem d_rname_20 : decode prog_14_method_79_code 20 = .ok (.getfield 72, 3) := by decide +kernel
theorem d_rname_23 : decode prog_14_method_79_code 23 = .ok (.aload_n 0, 1) := by decide +kernel
theorem d_rname_24 : decode prog_14_method_79_code 24 = .ok (.getfield 38, 3) := by decide +kernel
theorem d_rname_27 : decode prog_14_method_79_code 27 = .ok (.iload_n 1, 1) := by decide +kernel
theorem d_rname_28 : decode prog_14_method_79_code 28 = .ok (.iaload, 1) := by decide +kernel
theorem d_rname_29 : decode prog_14_method_79_code 29 = .ok (.iload_n 2, 1) := by decide +kernel
theorem d_rname_30 : decode prog_14_method_79_code 30 = .ok (.iadd, 1) := by decide +kernel
theorem d_rname_31 : decode prog_14_method_79_code 31 = .ok (.baload, 1) := by decide +kernel
theorem d_rname_32 : decode prog_14_method_79_code 32 = .ok (.sipush 255, 3) := by decide +kernel
theorem d_rname_35 : decode prog_14_method_79_code 35 = .ok (.iand, 1) := by decide +kernel
theorem d_rname_36 : decode prog_14_method_79_code 36 = .ok (.invokevirtual 447, 3) := by decide +kernel
theorem d_rname_39 : decode prog_14_method_79_code 39 = .ok (.iinc 2 1, 3) := by decide +kernel
theorem d_rname_42 : decode prog_14_method_79_code 42 = .ok (.goto (-34), 3) := by decide +kernel
set_option maxHeartbeats 4000000 in
set_option maxRecDepth 100000 in
theorem w_rname_B8 {p : Program} {l : Launch} {e : Env} {s : State} {m : MethodId} {args : Array Value} {below : List Frame} {meth : Method} {c : Code} {A : Nat → Prop} {D : va_G} {md : Nat → Nat} {mc : Nat → ClassId} {Q : State → Prop} (hC : MCx "JoinedTreesModel" prog_14_method_79_code 3 none p s m args meth c A D mc) {S : MS} {x1 : Int32} {x2 : Int32} {o : ((MS × Int32 × Int32) ⊕ MS)} (Heq : m_rname_B8 S x1 x2 = some o) (Ka : ∀ b : MS × Int32 × Int32, o = .inl b → ∀ (H : Heap) (locs : List Loc) (ls : Array Slot), va_P D cls (mw md mc b.1) H → va_D A (mw md mc b.1) → va_S A s.heap H locs → lv_has ls 3 [(0, .ref (md 100)), (1, .int b.2.1), (2, .int b.2.2)] → W p l e ({ frames := 2, cells := 0, slots := 0, locals := 42 }) s m args below meth c H locs 0 0 Q (F0 m 8 ls [])) (K0 : ∀ b : MS, o = .inr b → ∀ (H : Heap) (locs : List Loc) (ls : Array Slot), va_P D cls (mw md mc b) H → va_D A (mw md mc b) → va_S A s.heap H locs → lv_has ls 3 [(0, .ref (md 100))] → W p l e ({ frames := 2, cells := 0, slots := 0, locals := 42 }) s m args below meth c H locs 0 0 Q (F0 m 45 ls [])) : ∀ (H : Heap) (locs : List Loc) (ls : Array Slot), va_P D cls (mw md mc S) H → va_D A (mw md mc S) → va_S A s.heap H locs → lv_has ls 3 [(0, .ref (md 100)), (1, .int x1), (2, .int x2)] → W p l e ({ frames := 2, cells := 0, slots := 0, locals := 42 }) s m args below meth c H locs 0 0 Q (F0 m 8 ls []) := by
  intro H locs ls hP hD hS hl
  obtain ⟨hx, hb, hr, hml, hown, hts, hK, hA⟩ := id hC
  unfold m_rname_B8 at Heq
  refine lv_iload_n hx hb d_rname_8 rfl (lv_at hl 2 rfl) ?_
  refine lv_aload_n hx hb d_rname_9 rfl (lv_at hl 0 rfl) ?_
  refine va_get (D := D) (ci := 12) (v := .ref (md 15)) (C := R_MM) (T := F_MM) (N := 77) hx hb hts i_MM hown hK hP 0 rfl rfl 15 (by decide) (hts _ kw_1397) (fun _ h9 => h9) rfl d_rname_10 ?_
  refine lv_iload_n hx hb d_rname_13 rfl (lv_at hl 1 rfl) ?_
  obtain ⟨hi_1, Heq⟩ := gd_some Heq
  refine va_iald hx hb hK hP 11 0 rfl rfl (i := x1) hi_1 d_rname_14 ?_
  refine w_i (y := S.a 15 x1.toNatClampNeg) rfl ?_
  refine lv_icmp_ge (tgt := 45) hx hb d_rname_15 (by decide) (fun c_2 => ?_) (fun c_2 => ?_)
  · replace Heq := (if_pos c_2).symm.trans Heq
    exact K0 _ (Option.some.inj Heq).symm _ _ _ hP hD hS (lv_sub hl [0] rfl)
  · replace Heq := (if_neg c_2).symm.trans Heq
    refine lv_aload_n hx hb d_rname_18 rfl (lv_at hl 0 rfl) ?_
    refine lv_aload_n hx hb d_rname_19 rfl (lv_at hl 0 rfl) ?_
    refine va_get (D := D) (ci := 12) (v := .ref (md 26)) (C := R_MM) (T := F_MM) (N := 77) hx hb hts i_MM hown hK hP 0 rfl rfl 26 (by decide) (hts _ kw_1408) (fun _ h9 => h9) rfl d_rname_20 ?_
    refine lv_aload_n hx hb d_rname_23 rfl (lv_at hl 0 rfl) ?_
    refine va_get (D := D) (ci := 12) (v := .ref (md 14)) (C := R_MM) (T := F_MM) (N := 77) hx hb hts i_MM hown hK hP 0 rfl rfl 14 (by decide) (hts _ kw_1396) (fun _ h9 => h9) rfl d_rname_24 ?_
    refine lv_iload_n hx hb d_rname_27 rfl (lv_at hl 1 rfl) ?_
    obtain ⟨hi_3, Heq⟩ := gd_some Heq
    refine va_iald hx hb hK hP 10 0 rfl rfl (i := x1) hi_3 d_rname_28 ?_
    refine w_i (y := S.a 14 x1.toNatClampNeg) rfl ?_
    refine lv_iload_n hx hb d_rname_29 rfl (lv_at hl 2 rfl) ?_
    refine lv_iadd hx hb d_rname_30 ?_
    refine w_i (y := (S.a 14 x1.toNatClampNeg) + x2) rfl ?_
    obtain ⟨hi_4, Heq⟩ := gd_some Heq
    refine va_bald hx hb hK hP 20 1 rfl rfl (i := (S.a 14 x1.toNatClampNeg) + x2) hi_4 d_rname_31 ?_
    refine w_i (y := S.a 26 (((S.a 14 x1.toNatClampNeg) + x2).toNatClampNeg)) rfl ?_
    refine lv_sipush (v := 255) hx hb d_rname_32 (by decide) ?_
    refine lv_iand hx hb d_rname_35 ?_
    refine w_i (y := (S.a 26 (((S.a 14 x1.toNatClampNeg) + x2).toNatClampNeg)) &&& 255) rfl ?_
    obtain ⟨o_5, h_6, Heq⟩ := ob_some Heq
    have hFc := fr_all hD hS hA
    refine va_callv (va_runV (As := [.int ((S.a 26 (((S.a 14 x1.toNatClampNeg) + x2).toNatClampNeg)) &&& 255)]) (rest := []) ⟨hx, hb, hml, hown, hts⟩ (g_rescaped l D H.size h_6) (cw_v 1 hts kw_1926 kw_1923 kw_1925 kp_78 kw_11 rfl rfl (by decide +kernel) ⟨Nat.le_of_ble_eq_true rfl, Nat.le_of_ble_eq_true rfl⟩) ⟨g_blind, va_recv hK hP (ci := 12) (q0 := 0) rfl rfl, fun U hU hW => g_pre hU hW hP hK hD⟩ rfl rfl hl.1 rfl (lv_room (Nat.le_of_ble_eq_true rfl)) d_rname_36 ⟨Nat.le_of_ble_eq_true rfl, Nat.le_of_ble_eq_true rfl⟩) hS (fun q _ h => hFc q h) hFc (fun u t H1 locs ht hvm hw hB hz1 hk1 hS => ?_)
    obtain ⟨hP, -, hD1⟩ := hB
    rw [ht] at hP
    have hD := hD1.weaken (fun _ q _ h => hFc q.1 h)
    generalize H1 = H at hP hS ⊢
    refine W.cs (cells' := 0) (slots' := 0) rfl rfl ?_
    refine lv_iinc (v := x2 + 1) (lv' := [(2, .int (x2 + 1)), (0, .ref (md 100)), (1, .int x1)]) hx hb d_rname_39 hl (k := 2) rfl rfl (by decide) rfl (fun ls hl => ?_)
    refine lv_goto (tgt := 8) hx hb d_rname_42 (by decide) ?_
    exact Ka _ (Option.some.inj Heq).symm _ _ _ hP hD hS (lv_sub hl [1, 2, 0] rfl)
def m_rname_L8 (S : MS) (x1 : Int32) (x2 : Int32) : Option MS := lp (fun a : MS × Int32 × Int32 => m_rname_B8 a.1 a.2.1 a.2.2) FU (S, x1, x2)
theorem w_rname_L8 {p : Program} {l : Launch} {e : Env} {s : State} {m : MethodId} {args : Array Value} {below : List Frame} {meth : Method} {c : Code} {A : Nat → Prop} {D : va_G} {md : Nat → Nat} {mc : Nat → ClassId} {Q : State → Prop} (hC : MCx "JoinedTreesModel" prog_14_method_79_code 3 none p s m args meth c A D mc) {S : MS} {x1 : Int32} {x2 : Int32} {o : MS} (Heq : m_rname_L8 S x1 x2 = some o) (K0 : ∀ b : MS, o = b → ∀ (H : Heap) (locs : List Loc) (ls : Array Slot), va_P D cls (mw md mc b) H → va_D A (mw md mc b) → va_S A s.heap H locs → lv_has ls 3 [(0, .ref (md 100))] → W p l e ({ frames := 2, cells := 0, slots := 0, locals := 42 }) s m args below meth c H locs 0 0 Q (F0 m 45 ls [])) : ∀ (H : Heap) (locs : List Loc) (ls : Array Slot), va_P D cls (mw md mc S) H → va_D A (mw md mc S) → va_S A s.heap H locs → lv_has ls 3 [(0, .ref (md 100)), (1, .int x1), (2, .int x2)] → W p l e ({ frames := 2, cells := 0, slots := 0, locals := 42 }) s m args below meth c H locs 0 0 Q (F0 m 8 ls []) := by
  refine lp_w (G := fun a : MS × Int32 × Int32 => ∀ (H : Heap) (locs : List Loc) (ls : Array Slot), va_P D cls (mw md mc a.1) H → va_D A (mw md mc a.1) → va_S A s.heap H locs → lv_has ls 3 [(0, .ref (md 100)), (1, .int a.2.1), (2, .int a.2.2)] → W p l e ({ frames := 2, cells := 0, slots := 0, locals := 42 }) s m args below meth c H locs 0 0 Q (F0 m 8 ls [])) ?_ FU (S, x1, x2) Heq
  intro a o1 ho Ka Ke
  exact w_rname_B8 hC ho (fun b h => Ka b h) (fun b h => K0 b (Ke _ h).symm)
def m_rname_J0 (S : MS) (x1 : Int32) : Option MS := ob (m_rwrite S 34) (fun o_1 => ob (m_rname_L8 o_1 x1 0) (fun b_3 => ob (m_rwrite b_3 34) (fun o_5 => ob (m_rwrite o_5 58) (fun o_7 => some o_7))))
theorem d_rname_45 : decode prog_14_method_79_code 45 = .ok (.aload_n 0, 1) := by decide +kernel
theorem d_rname_46 : decode prog_14_method_79_code 46 = .ok (.bipush 34, 2) := by decide +kernel
theorem d_rname_48 : decode prog_14_method_79_code 48 = .ok (.invokevirtual 436, 3) := by decide +kernel
theorem d_rname_51 : decode prog_14_method_79_code 51 = .ok (.aload_n 0, 1) := by decide +kernel
theorem d_rname_52 : decode prog_14_method_79_code 52 = .ok (.bipush 58, 2) := by decide +kernel
theorem d_rname_54 : decode prog_14_method_79_code 54 = .ok (.invokevirtual 436, 3) := by decide +kernel
theorem d_rname_57 : decode prog_14_method_79_code 57 = .ok (.return_, 1) := by decide +kernel
set_option maxHeartbeats 4000000 in
set_option maxRecDepth 100000 in
theorem w_rname_J0 {p : Program} {l : Launch} {e : Env} {s : State} {m : MethodId} {args : Array Value} {below : List Frame} {meth : Method} {c : Code} {A : Nat → Prop} {D : va_G} {md : Nat → Nat} {mc : Nat → ClassId} {Q : State → Prop} (hC : MCx "JoinedTreesModel" prog_14_method_79_code 3 none p s m args meth c A D mc) {S : MS} {x1 : Int32} {o : MS} (Heq : m_rname_J0 S x1 = some o) (Kr : ∀ r : MS, o = r → ∀ (pc : Nat) (H : Heap) (locs : List Loc) (ls : Array Slot), decode prog_14_method_79_code pc = .ok (.return_, 1) → va_P D cls (mw md mc r) H → va_D A (mw md mc r) → va_S A s.heap H locs → W p l e ({ frames := 2, cells := 0, slots := 0, locals := 42 }) s m args below meth c H locs 0 0 Q (F0 m pc ls [])) : ∀ (H : Heap) (locs : List Loc) (ls : Array Slot), va_P D cls (mw md mc S) H → va_D A (mw md mc S) → va_S A s.heap H locs → lv_has ls 3 [(0, .ref (md 100)), (1, .int x1)] → W p l e ({ frames := 2, cells := 0, slots := 0, locals := 42 }) s m args below meth c H locs 0 0 Q (F0 m 0 ls []) := by
  intro H locs ls hP hD hS hl
  obtain ⟨hx, hb, hr, hml, hown, hts, hK, hA⟩ := id hC
  unfold m_rname_J0 at Heq
  refine lv_aload_n hx hb d_rname_0 rfl (lv_at hl 0 rfl) ?_
  refine lv_bipush (v := 34) hx hb d_rname_1 (by decide) ?_
  obtain ⟨o_1, h_2, Heq⟩ := ob_some Heq
  have hFc := fr_all hD hS hA
  refine va_callv (va_runV (As := [.int 34]) (rest := []) ⟨hx, hb, hml, hown, hts⟩ (g_rwrite l D H.size h_2) (cw_v 1 hts kw_1918 kw_1915 kw_1917 kp_76 kw_11 rfl rfl (by decide +kernel) ⟨Nat.le_of_ble_eq_true rfl, Nat.le_of_ble_eq_true rfl⟩) ⟨g_blind, va_recv hK hP (ci := 12) (q0 := 0) rfl rfl, fun U hU hW => g_pre hU hW hP hK hD⟩ rfl rfl hl.1 rfl (lv_room (Nat.le_of_ble_eq_true rfl)) d_rname_3 ⟨Nat.le_of_ble_eq_true rfl, Nat.le_of_ble_eq_true rfl⟩) hS (fun q _ h => hFc q h) hFc (fun u t H1 locs ht hvm hw hB hz1 hk1 hS => ?_)
  obtain ⟨hP, -, hD1⟩ := hB
  rw [ht] at hP
  have hD := hD1.weaken (fun _ q _ h => hFc q.1 h)
  generalize H1 = H at hP hS ⊢
  refine W.cs (cells' := 0) (slots' := 0) rfl rfl ?_
  refine lv_iconst (v := 0) hx hb d_rname_6 (by decide) ?_
  refine lv_istore_n (lv' := [(2, .int 0), (0, .ref (md 100)), (1, .int x1)]) hx hb d_rname_7 rfl hl (by decide) rfl (fun ls hl => ?_)
  obtain ⟨b_3, h_4, Heq⟩ := ob_some Heq
  refine w_rname_L8 hC h_4 (fun b h => ?_) _ _ _ hP hD hS (lv_sub hl [1, 2, 0] rfl)
  subst h
  intro H locs ls hP hD hS hl
  refine lv_aload_n hx hb d_rname_45 rfl (lv_at hl 0 rfl) ?_
  refine lv_bipush (v := 34) hx hb d_rname_46 (by decide) ?_
  obtain ⟨o_5, h_6, Heq⟩ := ob_some Heq
  have hFc := fr_all hD hS hA
  refine va_callv (va_runV (As := [.int 34]) (rest := []) ⟨hx, hb, hml, hown, hts⟩ (g_rwrite l D H.size h_6) (cw_v 1 hts kw_1918 kw_1915 kw_1917 kp_76 kw_11 rfl rfl (by decide +kernel) ⟨Nat.le_of_ble_eq_true rfl, Nat.le_of_ble_eq_true rfl⟩) ⟨g_blind, va_recv hK hP (ci := 12) (q0 := 0) rfl rfl, fun U hU hW => g_pre hU hW hP hK hD⟩ rfl rfl hl.1 rfl (lv_room (Nat.le_of_ble_eq_true rfl)) d_rname_48 ⟨Nat.le_of_ble_eq_true rfl, Nat.le_of_ble_eq_true rfl⟩) hS (fun q _ h => hFc q h) hFc (fun u t H1 locs ht hvm hw hB hz1 hk1 hS => ?_)
  obtain ⟨hP, -, hD1⟩ := hB
  rw [ht] at hP
  have hD := hD1.weaken (fun _ q _ h => hFc q.1 h)
  generalize H1 = H at hP hS ⊢
  refine W.cs (cells' := 0) (slots' := 0) rfl rfl ?_
  refine lv_aload_n hx hb d_rname_51 rfl (lv_at hl 0 rfl) ?_
  refine lv_bipush (v := 58) hx hb d_rname_52 (by decide) ?_
  obtain ⟨o_7, h_8, Heq⟩ := ob_some Heq
  have hFc := fr_all hD hS hA
  refine va_callv (va_runV (As := [.int 58]) (rest := []) ⟨hx, hb, hml, hown, hts⟩ (g_rwrite l D H.size h_8) (cw_v 1 hts kw_1918 kw_1915 kw_1917 kp_76 kw_11 rfl rfl (by decide +kernel) ⟨Nat.le_of_ble_eq_true rfl, Nat.le_of_ble_eq_true rfl⟩) ⟨g_blind, va_recv hK hP (ci := 12) (q0 := 0) rfl rfl, fun U hU hW => g_pre hU hW hP hK hD⟩ rfl rfl hl.1 rfl (lv_room (Nat.le_of_ble_eq_true rfl)) d_rname_54 ⟨Nat.le_of_ble_eq_true rfl, Nat.le_of_ble_eq_true rfl⟩) hS (fun q _ h => hFc q h) hFc (fun u t H1 locs ht hvm hw hB hz1 hk1 hS => ?_)
  obtain ⟨hP, -, hD1⟩ := hB
  rw [ht] at hP
  have hD := hD1.weaken (fun _ q _ h => hFc q.1 h)
  generalize H1 = H at hP hS ⊢
  refine W.cs (cells' := 0) (slots' := 0) rfl rfl ?_
  exact Kr _ (Option.some.inj Heq).symm 57 _ _ _ d_rname_57 hP hD hS
def m_rname (S : MS) (x1 : Int32) : Option MS := m_rname_J0 S x1
theorem g_rname (l : Launch) (D : va_G) (sz : Nat) {md : Nat → Nat} {mc : Nat → ClassId} {S : MS} {x1 : Int32} {o : MS} (Heq : m_rname S x1 = some o) : Met l ⟨"JoinedTreesModel", "name", "(I)V"⟩ (Cond.code ⟨"JoinedTreesModel", "name", "(I)V"⟩ prog_14_method_79_code 3 none :: gb) ({ frames := 2, cells := 0, slots := 0, locals := 42 }) (gPc D (mw md mc S) (mty mc) sz [.ref (md 100), .int x1]) (va_Qv (fun _ : Unit => True) (fun _ t => gO D (mw md mc o) (mty mc) (va_A (mw md mc S) sz) t) (va_A (mw md mc S) sz)) 0 0 (va_A (mw md mc S) sz) := by
  refine Met.ofW (cc := prog_14_method_79_code) (maxL := 3) (ret := none) (by decide) rfl ?_
  intro p e s m args below meth c s₁ B hml hv
  obtain ⟨rfl, hsz, hP, hK, hD0⟩ := hv
  have hx := B.exec
  have hb := B.bytes
  have hr := B.returns
  have hts : ∀ w9 ∈ gb, w9.before [.ref (md 100), .int x1].toArray s = true := fun w9 h => atoms_spec (ws := Cond.code ⟨"JoinedTreesModel", "name", "(I)V"⟩ prog_14_method_79_code 3 none :: gb) B.pre w9 (List.mem_cons_of_mem _ h)
  have hown : s.vm.findClass "JoinedTreesModel" = some m.cls := findClass_of_methodNamed B.named
  have hlocks := B.notSynchronized
  subst hsz
  have hD := hD0.self (sz := s.heap.size)
  generalize hAe : va_A (mw md mc S) s.heap.size = A at hD ⊢
  have hA : ∀ q : Nat, s.heap.size ≤ q → A q := fun q h => by rw [← hAe]; exact Or.inr h
  have hS : va_S A s.heap s.heap [] := va_S.rf
  have hl := lv_entry ([.ref (md 100), .int x1]) (n := 3) (Nat.le_of_ble_eq_true rfl)
  rw [lg_entry_eq]
  generalize (lg_sl ([.ref (md 100), .int x1]) ++ List.replicate (3 - (lg_sl ([.ref (md 100), .int x1])).length) Slot.unset).toArray = ls at hl ⊢
  have hl : lv_has ls 3 [(0, .ref (md 100)), (1, .int x1)] := hl
  refine w_rname_J0 ⟨hx, hb, hr, hml, hown, hts, hK, hA⟩ Heq (fun r h pc H locs ls hd hP hD hS => ?_) _ _ _ hP hD hS (lv_sub hl [0, 1] rfl)
  subst h
  exact W.vret hx hb hr (fun t ht hW => ⟨⟨(), rfl, trivial, by rw [ht]; exact hP, va_K.moved hW.alike hK, hD⟩, hS.F ht⟩) hS.2.2 hd
def m_rpush_J0 (S : MS) (x1 : Int32) : Option MS := gd (S.i 73) 12010 (some ((S.setA 72 (upd (S.a 72) ((S.i 73).toNatClampNeg) x1)).setI 73 ((S.i 73) + 1)))
theorem d_rpush_0 : decode prog_14_method_81_code 0 = .ok (.aload_n 0, 1) := by decide +kernel
theorem d_rpush_1 : decode prog_14_method_81_code 1 = .ok (.getfield 169, 3) := by decide +kernel
theorem d_rpush_4 : decode prog_14_method_81_code 4 = .ok (.aload_n 0, 1) := by decide +kernel
theorem d_rpush_5 : decode prog_14_method_81_code 5 = .ok (.getfield 453, 3) := by decide +kernel
theorem d_rpush_8 : decode prog_14_method_81_code 8 = .ok (.iload_n 1, 1) := by decide +kernel
theorem d_rpush_9 : decode prog_14_method_81_code 9 = .ok (.iastore, 1) := by decide +kernel
theorem d_rpush_10 : decode prog_14_method_81_code 10 = .ok (.aload_n 0, 1) := by decide +kernel
theorem d_rpush_11 : decode prog_14_method_81_code 11 = .ok (.dup, 1) := by decide +kernel
theorem d_rpush_12 : decode prog_14_method_81_code 12 = .ok (.getfield 453, 3) := by decide +kernel
theorem d_rpush_15 : decode prog_14_method_81_code 15 = .ok (.iconst 1, 1) := by decide +kernel
theorem d_rpush_16 : decode prog_14_method_81_code 16 = .ok (.iadd, 1) := by decide +kernel
theorem d_rpush_17 : decode prog_14_method_81_code 17 = .ok (.putfield 453, 3) := by decide +kernel
theorem d_rpush_20 : decode prog_14_method_81_code 20 = .ok (.return_, 1) := by decide +kernel
set_option maxHeartbeats 4000000 in
set_option maxRecDepth 100000 in
theorem w_rpush_J0 {p : Program} {l : Launch} {e : Env} {s : State} {m : MethodId} {args : Array Value} {below : List Frame} {meth : Method} {c : Code} {A : Nat → Prop} {D : va_G} {md : Nat → Nat} {mc : Nat → ClassId} {Q : State → Prop} (hC : MCx "JoinedTreesModel" prog_14_method_81_code 2 none p s m args meth c A D mc) {S : MS} {x1 : Int32} {o : MS} (Heq : m_rpush_J0 S x1 = some o) (Kr : ∀ r : MS, o = r → ∀ (pc : Nat) (H : Heap) (locs : List Loc) (ls : Array Slot), decode prog_14_method_81_code pc = .ok (.return_, 1) → va_P D cls (mw md mc r) H → va_D A (mw md mc r) → va_S A s.heap H locs → W p l e ({ frames := 0, cells := 0, slots := 0, locals := 0 }) s m args below meth c H locs 0 0 Q (F0 m pc ls [])) : ∀ (H : Heap) (locs : List Loc) (ls : Array Slot), va_P D cls (mw md mc S) H → va_D A (mw md mc S) → va_S A s.heap H locs → lv_has ls 2 [(0, .ref (md 100)), (1, .int x1)] → W p l e ({ frames := 0, cells := 0, slots := 0, locals := 0 }) s m args below meth c H locs 0 0 Q (F0 m 0 ls []) := by
  intro H locs ls hP hD hS hl
  obtain ⟨hx, hb, hr, hml, hown, hts, hK, hA⟩ := id hC
  unfold m_rpush_J0 at Heq
  refine lv_aload_n hx hb d_rpush_0 rfl (lv_at hl 0 rfl) ?_
  refine va_get (D := D) (ci := 12) (v := .ref (md 72)) (C := R_MM) (T := F_MM) (N := 77) hx hb hts i_MM hown hK hP 0 rfl rfl 72 (by decide) (hts _ kw_1454) (fun _ h9 => h9) rfl d_rpush_1 ?_
  refine lv_aload_n hx hb d_rpush_4 rfl (lv_at hl 0 rfl) ?_
  refine va_get (D := D) (ci := 12) (v := .int (S.i 73)) (C := R_MM) (T := F_MM) (N := 77) hx hb hts i_MM hown hK hP 0 rfl rfl 73 (by decide) (hts _ kw_1455) (fun _ h9 => h9) rfl d_rpush_5 ?_
  refine lv_iload_n hx hb d_rpush_8 rfl (lv_at hl 1 rfl) ?_
  obtain ⟨hi_1, Heq⟩ := gd_some Heq
  refine va_iast hx hb hK hP hD hS 47 0 rfl rfl (i := S.i 73) (x := x1) hi_1 d_rpush_9 (fun H locs hP hD hS => ?_)
  rw [mw_A72] at hP hD
  refine lv_aload_n hx hb d_rpush_10 rfl (lv_at hl 0 rfl) ?_
  refine lv_dup hx hb d_rpush_11 rfl ?_
  refine va_get (D := D) (ci := 12) (v := .int (S.i 73)) (C := R_MM) (T := F_MM) (N := 77) hx hb hts i_MM hown hK hP 0 rfl rfl 73 (by decide) (hts _ kw_1455) (fun _ h9 => h9) rfl d_rpush_12 ?_
  refine lv_iconst (v := 1) hx hb d_rpush_15 (by decide) ?_
  refine lv_iadd hx hb d_rpush_16 ?_
  refine w_i (y := (S.i 73) + 1) rfl ?_
  refine va_put (D := D) (ci := 12) (v := .int ((S.i 73) + 1)) (ty := .int) (C := R_MM) (T := F_MM) (N := 77) hx hb hts i_MM t_MM t_MM_ok n_MM hown hK hP hD hS 0 rfl rfl 73 (by decide) (hts _ kw_1455) (fun _ h9 => h9) rfl (by decide +kernel) rfl rfl (Nat.le_of_ble_eq_true rfl) d_rpush_17 (fun H locs hP hD hS => ?_)
  rw [mw_I73] at hP hD
  exact Kr _ (Option.some.inj Heq).symm 20 _ _ _ d_rpush_20 hP hD hS
def m_rpush (S : MS) (x1 : Int32) : Option MS := m_rpush_J0 S x1
theorem g_rpush (l : Launch) (D : va_G) (sz : Nat) {md : Nat → Nat} {mc : Nat → ClassId} {S : MS} {x1 : Int32} {o : MS} (Heq : m_rpush S x1 = some o) : Met l ⟨"JoinedTreesModel", "push", "(I)V"⟩ (Cond.code ⟨"JoinedTreesModel", "push", "(I)V"⟩ prog_14_method_81_code 2 none :: gb) ({ frames := 0, cells := 0, slots := 0, locals := 0 }) (gPc D (mw md mc S) (mty mc) sz [.ref (md 100), .int x1]) (va_Qv (fun _ : Unit => True) (fun _ t => gO D (mw md mc o) (mty mc) (va_A (mw md mc S) sz) t) (va_A (mw md mc S) sz)) 0 0 (va_A (mw md mc S) sz) := by
  refine Met.ofW (cc := prog_14_method_81_code) (maxL := 2) (ret := none) (by decide) rfl ?_
  intro p e s m args below meth c s₁ B hml hv
  obtain ⟨rfl, hsz, hP, hK, hD0⟩ := hv
  have hx := B.exec
  have hb := B.bytes
  have hr := B.returns
  have hts : ∀ w9 ∈ gb, w9.before [.ref (md 100), .int x1].toArray s = true := fun w9 h => atoms_spec (ws := Cond.code ⟨"JoinedTreesModel", "push", "(I)V"⟩ prog_14_method_81_code 2 none :: gb) B.pre w9 (List.mem_cons_of_mem _ h)
  have hown : s.vm.findClass "JoinedTreesModel" = some m.cls := findClass_of_methodNamed B.named
  have hlocks := B.notSynchronized
  subst hsz
  have hD := hD0.self (sz := s.heap.size)
  generalize hAe : va_A (mw md mc S) s.heap.size = A at hD ⊢
  have hA : ∀ q : Nat, s.heap.size ≤ q → A q := fun q h => by rw [← hAe]; exact Or.inr h
  have hS : va_S A s.heap s.heap [] := va_S.rf
  have hl := lv_entry ([.ref (md 100), .int x1]) (n := 2) (Nat.le_of_ble_eq_true rfl)
  rw [lg_entry_eq]
  generalize (lg_sl ([.ref (md 100), .int x1]) ++ List.replicate (2 - (lg_sl ([.ref (md 100), .int x1])).length) Slot.unset).toArray = ls at hl ⊢
  have hl : lv_has ls 2 [(0, .ref (md 100)), (1, .int x1)] := hl
  refine w_rpush_J0 ⟨hx, hb, hr, hml, hown, hts, hK, hA⟩ Heq (fun r h pc H locs ls hd hP hD hS => ?_) _ _ _ hP hD hS (lv_sub hl [0, 1] rfl)
  subst h
  exact W.vret hx hb hr (fun t ht hW => ⟨⟨(), rfl, trivial, by rw [ht]; exact hP, va_K.moved hW.alike hK, hD⟩, hS.F ht⟩) hS.2.2 hd
def m_rbegin_J292 (S : MS) (x1 : Int32) (x2 : Int32) (x3 : Int32) (x5 : Int32) (t0 : Int32) (t1 : Int32) : Option ((MS × Int32 × Int32 × Int32 × Int32 × Int32) ⊕ (MS × Int32)) := some (.inl (S, x1, x2, x3, x5, (t1 + t0)))
theorem d_rbegin_0 : decode prog_14_method_80_code 0 = .ok (.iload_n 3, 1) := by decide +kernel
theorem d_rbegin_1 : decode prog_14_method_80_code 1 = .ok (.bipush 6, 2) := by decide +kernel
theorem d_rbegin_3 : decode prog_14_method_80_code 3 = .ok (.if_icmp .ne 62, 3) := by decide +kernel
theorem d_rbegin_65 : decode prog_14_method_80_code 65 = .ok (.aload_n 0, 1) := by decide +kernel
theorem d_rbegin_66 : decode prog_14_method_80_code 66 = .ok (.iload_n 1, 1) := by decide +kernel
theorem d_rbegin_67 : decode prog_14_method_80_code 67 = .ok (.iload_n 2, 1) := by decide +kernel
theorem d_rbegin_68 : decode prog_14_method_80_code 68 = .ok (.invokevirtual 223, 3) := by decide +kernel
theorem d_rbegin_71 : decode prog_14_method_80_code 71 = .ok (.aload_n 0, 1) := by decide +kernel
theorem d_rbegin_72 : decode prog_14_method_80_code 72 = .ok (.iload_n 1, 1) := by decide +kernel
theorem d_rbegin_73 : decode prog_14_method_80_code 73 = .ok (.iload_n 2, 1) := by decide +kernel
theorem d_rbegin_74 : decode prog_14_method_80_code 74 = .ok (.invokevirtual 227, 3) := by decide +kernel
theorem d_rbegin_77 : decode prog_14_method_80_code 77 = .ok (.aload_n 0, 1) := by decide +kernel
theorem d_rbegin_78 : decode prog_14_method_80_code 78 = .ok (.iload_n 3, 1) := by decide +kernel
theorem d_rbegin_79 : decode prog_14_method_80_code 79 = .ok (.bipush 7, 2) := by decide +kernel
theorem d_rbegin_81 : decode prog_14_method_80_code 81 = .ok (.if_icmp .ne 8, 3) := by decide +kernel
theorem d_rbegin_89 : decode prog_14_method_80_code 89 = .ok (.bipush 34, 2) := by decide +kernel
theorem d_rbegin_91 : decode prog_14_method_80_code 91 = .ok (.invokevirtual 436, 3) := by decide +kernel
theorem d_rbegin_94 : decode prog_14_method_80_code 94 = .ok (.aload_n 0, 1) := by decide +kernel
theorem d_rbegin_95 : decode prog_14_method_80_code 95 = .ok (.getfield 453, 3) := by decide +kernel
theorem d_rbegin_98 : decode prog_14_method_80_code 98 = .ok (.istore 4, 2) := by decide +kernel
theorem d_rbegin_100 : decode prog_14_method_80_code 100 = .ok (.iload_n 3, 1) := by decide +kernel
theorem d_rbegin_101 : decode prog_14_method_80_code 101 = .ok (.bipush 7, 2) := by decide +kernel
theorem d_rbegin_103 : decode prog_14_method_80_code 103 = .ok (.if_icmp .ne 9, 3) := by decide +kernel
theorem d_rbegin_112 : decode prog_14_method_80_code 112 = .ok (.iconst 0, 1) := by decide +kernel
theorem d_rbegin_113 : decode prog_14_method_80_code 113 = .ok (.istore 5, 2) := by decide +kernel
theorem d_rbegin_115 : decode prog_14_method_80_code 115 = .ok (.iload_n 3, 1) := by decide +kernel
theorem d_rbegin_116 : decode prog_14_method_80_code 116 = .ok (.bipush 7, 2) := by decide +kernel
theorem d_rbegin_118 : decode prog_14_method_80_code 118 = .ok (.if_icmp .ne 12, 3) := by decide +kernel
theorem d_rbegin_130 : decode prog_14_method_80_code 130 = .ok (.iconst 0, 1) := by decide +kernel
theorem d_rbegin_131 : decode prog_14_method_80_code 131 = .ok (.istore 6, 2) := by decide +kernel
theorem d_rbegin_133 : decode prog_14_method_80_code 133 = .ok (.iload_n 3, 1) := by decide +kernel
theorem d_rbegin_134 : decode prog_14_method_80_code 134 = .ok (.bipush 7, 2) := by decide +kernel
theorem d_rbegin_136 : decode prog_14_method_80_code 136 = .ok (.if_icmp .ne 11, 3) := by decide +kernel
theorem d_rbegin_147 : decode prog_14_method_80_code 147 = .ok (.iload 6, 2) := by decide +kernel
theorem d_rbegin_149 : decode prog_14_method_80_code 149 = .ok (.aload_n 0, 1) := by decide +kernel
theorem d_rbegin_150 : decode prog_14_method_80_code 150 = .ok (.getfield 220, 3) := by decide +kernel
theorem d_rbegin_153 : decode prog_14_method_80_code 153 = .ok (.if_icmp .ge 145, 3) := by decide +kernel
theorem d_rbegin_156 : decode prog_14_method_80_code 156 = .ok (.aload_n 0, 1) := by decide +kernel
theorem d_rbegin_157 : decode prog_14_method_80_code 157 = .ok (.getfield 130, 3) := by decide +kernel
theorem d_rbegin_160 : decode prog_14_method_80_code 160 = .ok (.iload 6, 2) := by decide +kernel
theorem d_rbegin_162 : decode prog_14_method_80_code 162 = .ok (.baload, 1) := by decide +kernel
theorem d_rbegin_163 : decode prog_14_method_80_code 163 = .ok (.ifCond .ne 6, 3) := by decide +kernel
theorem d_rbegin_169 : decode prog_14_method_80_code 169 = .ok (.aload_n 0, 1) := by decide +kernel
theorem d_rbegin_170 : decode prog_14_method_80_code 170 = .ok (.iload_n 1, 1) := by decide +kernel
theorem d_rbegin_171 : decode prog_14_method_80_code 171 = .ok (.iload_n 2, 1) := by decide +kernel
theorem d_rbegin_172 : decode prog_14_method_80_code 172 = .ok (.aload_n 0, 1) := by decide +kernel
theorem d_rbegin_173 : decode prog_14_method_80_code 173 = .ok (.getfield 19, 3) := by decide +kernel
theorem d_rbegin_176 : decode prog_14_method_80_code 176 = .ok (.aload_n 0, 1) := by decide +kernel
theorem d_rbegin_177 : decode prog_14_method_80_code 177 = .ok (.getfield 124, 3) := by decide +kernel
theorem d_rbegin_180 : decode prog_14_method_80_code 180 = .ok (.iload 6, 2) := by decide +kernel
theorem d_rbegin_182 : decode prog_14_method_80_code 182 = .ok (.iaload, 1) := by decide +kernel
theorem d_rbegin_183 : decode prog_14_method_80_code 183 = .ok (.iaload, 1) := by decide +kernel
theorem d_rbegin_184 : decode prog_14_method_80_code 184 = .ok (.invokevirtual 291, 3) := by decide +kernel
theorem d_rbegin_187 : decode prog_14_method_80_code 187 = .ok (.aload_n 0, 1) := by decide +kernel
theorem d_rbegin_188 : decode prog_14_method_80_code 188 = .ok (.getfield 121, 3) := by decide +kernel
theorem d_rbegin_191 : decode prog_14_method_80_code 191 = .ok (.iconst 0, 1) := by decide +kernel
theorem d_rbegin_192 : decode prog_14_method_80_code 192 = .ok (.iaload, 1) := by decide +kernel
theorem d_rbegin_193 : decode prog_14_method_80_code 193 = .ok (.istore 7, 2) := by decide +kernel
theorem d_rbegin_195 : decode prog_14_method_80_code 195 = .ok (.iload_n 3, 1) := by decide +kernel
theorem d_rbegin_196 : decode prog_14_method_80_code 196 = .ok (.bipush 7, 2) := by decide +kernel
theorem d_rbegin_198 : decode prog_14_method_80_code 198 = .ok (.if_icmp .ne 26, 3) := by decide +kernel
theorem d_rbegin_224 : decode prog_14_method_80_code 224 = .ok (.aload_n 0, 1) := by decide +kernel
theorem d_rbegin_225 : decode prog_14_method_80_code 225 = .ok (.getfield 29, 3) := by decide +kernel
theorem d_rbegin_228 : decode prog_14_method_80_code 228 = .ok (.iload 7, 2) := by decide +kernel
theorem d_rbegin_230 : decode prog_14_method_80_code 230 = .ok (.iaload, 1) := by decide +kernel
theorem d_rbegin_231 : decode prog_14_method_80_code 231 = .ok (.iconst 4, 1) := by decide +kernel
theorem d_rbegin_232 : decode prog_14_method_80_code 232 = .ok (.if_icmp .ne 47, 3) := by decide +kernel
theorem d_rbegin_279 : decode prog_14_method_80_code 279 = .ok (.iload 6, 2) := by decide +kernel
theorem d_rbegin_281 : decode prog_14_method_80_code 281 = .ok (.iload_n 3, 1) := by decide +kernel
theorem d_rbegin_282 : decode prog_14_method_80_code 282 = .ok (.bipush 7, 2) := by decide +kernel
theorem d_rbegin_284 : decode prog_14_method_80_code 284 = .ok (.if_icmp .ne 7, 3) := by decide +kernel
theorem d_rbegin_291 : decode prog_14_method_80_code 291 = .ok (.iconst 1, 1) := by decide +kernel
theorem d_rbegin_292 : decode prog_14_method_80_code 292 = .ok (.iadd, 1) := by decide +kernel
theorem d_rbegin_293 : decode prog_14_method_80_code 293 = .ok (.istore 6, 2) := by decide +kernel
theorem d_rbegin_295 : decode prog_14_method_80_code 295 = .ok (.goto (-162), 3) := by decide +kernel
set_option maxHeartbeats 4000000 in
set_option maxRecDepth 100000 in
theorem w_rbegin_J292 {p : Program} {l : Launch} {e : Env} {s : State} {m : MethodId} {args : Array Value} {below : List Frame} {meth : Method} {c : Code} {A : Nat → Prop} {D : va_G} {md : Nat → Nat} {mc : Nat → ClassId} {Q : State → Prop} (hC : MCx "JoinedTreesModel" prog_14_method_80_code 9 none p s m args meth c A D mc) {S : MS} {x1 : Int32} {x2 : Int32} {x3 : Int32} {x5 : Int32} {t0 : Int32} {t1 : Int32} {o : ((MS × Int32 × Int32 × Int32 × Int32 × Int32) ⊕ (MS × Int32))} (Heq : m_rbegin_J292 S x1 x2 x3 x5 t0 t1 = some o) (Ka : ∀ b : MS × Int32 × Int32 × Int32 × Int32 × Int32, o = .inl b → ∀ (H : Heap) (locs : List Loc) (ls : Array Slot), va_P D cls (mw md mc b.1) H → va_D A (mw md mc b.1) → va_S A s.heap H locs → lv_has ls 9 [(0, .ref (md 100)), (1, .int b.2.1), (2, .int b.2.2.1), (3, .int b.2.2.2.1), (5, .int b.2.2.2.2.1), (6, .int b.2.2.2.2.2)] → W p l e ({ frames := 3, cells := 0, slots := 0, locals := 71 }) s m args below meth c H locs 0 0 Q (F0 m 133 ls [])) (K0 : ∀ b : MS × Int32, o = .inr b → ∀ (H : Heap) (locs : List Loc) (ls : Array Slot), va_P D cls (mw md mc b.1) H → va_D A (mw md mc b.1) → va_S A s.heap H locs → lv_has ls 9 [(0, .ref (md 100)), (3, .int b.2)] → W p l e ({ frames := 3, cells := 0, slots := 0, locals := 71 }) s m args below meth c H locs 0 0 Q (F0 m 298 ls [])) : ∀ (H : Heap) (locs : List Loc) (ls : Array Slot), va_P D cls (mw md mc S) H → va_D A (mw md mc S) → va_S A s.heap H locs → lv_has ls 9 [(0, .ref (md 100)), (1, .int x1), (2, .int x2), (3, .int x3), (5, .int x5)] → W p l e ({ frames := 3, cells := 0, slots := 0, locals := 71 }) s m args below meth c H locs 0 0 Q (F0 m 292 ls [.int t0, .int t1]) := by
  intro H locs ls hP hD hS hl
  obtain ⟨hx, hb, hr, hml, hown, hts, hK, hA⟩ := id hC
  unfold m_rbegin_J292 at Heq
  refine lv_iadd hx hb d_rbegin_292 ?_
  refine w_i (y := t1 + t0) rfl ?_
  refine lv_istore (lv' := [(6, .int (t1 + t0)), (0, .ref (md 100)), (1, .int x1), (2, .int x2), (3, .int x3), (5, .int x5)]) hx hb d_rbegin_293 hl (by decide) rfl (fun ls hl => ?_)
  refine lv_goto (tgt := 133) hx hb d_rbegin_295 (by decide) ?_
  exact Ka _ (Option.some.inj Heq).symm _ _ _ hP hD hS (lv_sub hl [1, 2, 3, 4, 5, 0] rfl)
def m_rbegin_J279 (S : MS) (x1 : Int32) (x2 : Int32) (x3 : Int32) (x5 : Int32) (x6 : Int32) : Option ((MS × Int32 × Int32 × Int32 × Int32 × Int32) ⊕ (MS × Int32)) := (if x3 = 7 then m_rbegin_J292 S x1 x2 x3 x5 (-1) x6 else m_rbegin_J292 S x1 x2 x3 x5 1 x6)
theorem d_rbegin_287 : decode prog_14_method_80_code 287 = .ok (.iconst (-1), 1) := by decide +kernel
theorem d_rbegin_288 : decode prog_14_method_80_code 288 = .ok (.goto 4, 3) := by decide +kernel
set_option maxHeartbeats 4000000 in
set_option maxRecDepth 100000 in
theorem w_rbegin_J279 {p : Program} {l : Launch} {e : Env} {s : State} {m : MethodId} {args : Array Value} {below : List Frame} {meth : Method} {c : Code} {A : Nat → Prop} {D : va_G} {md : Nat → Nat} {mc : Nat → ClassId} {Q : State → Prop} (hC : MCx "JoinedTreesModel" prog_14_method_80_code 9 none p s m args meth c A D mc) {S : MS} {x1 : Int32} {x2 : Int32} {x3 : Int32} {x5 : Int32} {x6 : Int32} {o : ((MS × Int32 × Int32 × Int32 × Int32 × Int32) ⊕ (MS × Int32))} (Heq : m_rbegin_J279 S x1 x2 x3 x5 x6 = some o) (Ka : ∀ b : MS × Int32 × Int32 × Int32 × Int32 × Int32, o = .inl b → ∀ (H : Heap) (locs : List Loc) (ls : Array Slot), va_P D cls (mw md mc b.1) H → va_D A (mw md mc b.1) → va_S A s.heap H locs → lv_has ls 9 [(0, .ref (md 100)), (1, .int b.2.1), (2, .int b.2.2.1), (3, .int b.2.2.2.1), (5, .int b.2.2.2.2.1), (6, .int b.2.2.2.2.2)] → W p l e ({ frames := 3, cells := 0, slots := 0, locals := 71 }) s m args below meth c H locs 0 0 Q (F0 m 133 ls [])) (K0 : ∀ b : MS × Int32, o = .inr b → ∀ (H : Heap) (locs : List Loc) (ls : Array Slot), va_P D cls (mw md mc b.1) H → va_D A (mw md mc b.1) → va_S A s.heap H locs → lv_has ls 9 [(0, .ref (md 100)), (3, .int b.2)] → W p l e ({ frames := 3, cells := 0, slots := 0, locals := 71 }) s m args below meth c H locs 0 0 Q (F0 m 298 ls [])) : ∀ (H : Heap) (locs : List Loc) (ls : Array Slot), va_P D cls (mw md mc S) H → va_D A (mw md mc S) → va_S A s.heap H locs → lv_has ls 9 [(0, .ref (md 100)), (1, .int x1), (2, .int x2), (3, .int x3), (5, .int x5), (6, .int x6)] → W p l e ({ frames := 3, cells := 0, slots := 0, locals := 71 }) s m args below meth c H locs 0 0 Q (F0 m 279 ls []) := by
  intro H locs ls hP hD hS hl
  obtain ⟨hx, hb, hr, hml, hown, hts, hK, hA⟩ := id hC
  unfold m_rbegin_J279 at Heq
  refine lv_iload hx hb d_rbegin_279 (lv_at hl 5 rfl) ?_
  refine lv_iload_n hx hb d_rbegin_281 rfl (lv_at hl 3 rfl) ?_
  refine lv_bipush (v := 7) hx hb d_rbegin_282 (by decide) ?_
  refine lv_icmp_ne (tgt := 291) hx hb d_rbegin_284 (by decide) (fun c_1 => ?_) (fun c_1 => ?_)
  · replace Heq := (if_neg c_1).symm.trans Heq
    refine lv_iconst (v := 1) hx hb d_rbegin_291 (by decide) ?_
    exact w_rbegin_J292 hC Heq Ka K0 _ _ _ hP hD hS (lv_sub hl [0, 1, 2, 3, 4] rfl)
  · replace Heq := (if_pos c_1).symm.trans Heq
    refine lv_iconst (v := (-1)) hx hb d_rbegin_287 (by decide) ?_
    refine lv_goto (tgt := 292) hx hb d_rbegin_288 (by decide) ?_
    exact w_rbegin_J292 hC Heq Ka K0 _ _ _ hP hD hS (lv_sub hl [0, 1, 2, 3, 4] rfl)
def m_rbegin_B238 (S : MS) (x1 : Int32) (x2 : Int32) (x3 : Int32) (x5 : Int32) (x6 : Int32) (x7 : Int32) (x8 : Int32) : Option ((MS × Int32 × Int32 × Int32 × Int32 × Int32 × Int32 × Int32) ⊕ (MS × Int32 × Int32 × Int32 × Int32 × Int32)) := gd x7 4000 ((if S.a 17 x7.toNatClampNeg ≤ x8 then some (.inr (S, x1, x2, x3, x5, x6)) else gd x7 4000 (gd ((S.a 16 x7.toNatClampNeg) + x8) 32876 (ob (m_rescaped S ((S.a 26 (((S.a 16 x7.toNatClampNeg) + x8).toNatClampNeg)) &&& 255)) (fun o_5 => some (.inl (o_5, x1, x2, x3, x5, x6, x7, (x8 + 1))))))))
theorem d_rbegin_235 : decode prog_14_method_80_code 235 = .ok (.iconst 0, 1) := by decide +kernel
theorem d_rbegin_236 : decode prog_14_method_80_code 236 = .ok (.istore 8, 2) := by decide +kernel
theorem d_rbegin_238 : decode prog_14_method_80_code 238 = .ok (.iload 8, 2) := by decide +kernel
theorem d_rbegin_240 : decode prog_14_method_80_code 240 = .ok (.aload_n 0, 1) := by decide +kernel
theorem d_rbegin_241 : decode prog_14_method_80_code 241 = .ok (.getfield 47, 3) := by decide +kernel
theorem d_rbegin_244 : decode prog_14_method_80_code 244 = .ok (.iload 7, 2) := by decide +kernel
theorem d_rbegin_246 : decode prog_14_method_80_code 246 = .ok (.iaload, 1) := by decide +kernel
theorem d_rbegin_247 : decode prog_14_method_80_code 247 = .ok (.if_icmp .ge 32, 3) := by decide +kernel
theorem d_rbegin_250 : decode prog_14_method_80_code 250 = .ok (.aload_n 0, 1) := by decide +kernel
theorem d_rbegin_251 : decode prog_14_method_80_code 251 = .ok (.aload_n 0, 1) := by decide +kernel
theorem d_rbegin_252 : decode prog_14_method_80_code 252 = .ok (.getfield 72, 3) := by decide +kernel
theorem d_rbegin_255 : decode prog_14_method_80_code 255 = .ok (.aload_n 0, 1) := by decide +kernel
theorem d_rbegin_256 : decode prog_14_method_80_code 256 = .ok (.getfield 44, 3) := by decide +kernel
theorem d_rbegin_259 : decode prog_14_method_80_code 259 = .ok (.iload 7, 2) := by decide +kernel
theorem d_rbegin_261 : decode prog_14_method_80_code 261 = .ok (.iaload, 1) := by decide +kernel
theorem d_rbegin_262 : decode prog_14_method_80_code 262 = .ok (.iload 8, 2) := by decide +kernel
theorem d_rbegin_264 : decode prog_14_method_80_code 264 = .ok (.iadd, 1) := by decide +kernel
theorem d_rbegin_265 : decode prog_14_method_80_code 265 = .ok (.baload, 1) := by decide +kernel
theorem d_rbegin_266 : decode prog_14_method_80_code 266 = .ok (.sipush 255, 3) := by decide +kernel
theorem d_rbegin_269 : decode prog_14_method_80_code 269 = .ok (.iand, 1) := by decide +kernel
theorem d_rbegin_270 : decode prog_14_method_80_code 270 = .ok (.invokevirtual 447, 3) := by decide +kernel
theorem d_rbegin_273 : decode prog_14_method_80_code 273 = .ok (.iinc 8 1, 3) := by decide +kernel
theorem d_rbegin_276 : decode prog_14_method_80_code 276 = .ok (.goto (-38), 3) := by decide +kernel
set_option maxHeartbeats 4000000 in
set_option maxRecDepth 100000 in
theorem w_rbegin_B238 {p : Program} {l : Launch} {e : Env} {s : State} {m : MethodId} {args : Array Value} {below : List Frame} {meth : Method} {c : Code} {A : Nat → Prop} {D : va_G} {md : Nat → Nat} {mc : Nat → ClassId} {Q : State → Prop} (hC : MCx "JoinedTreesModel" prog_14_method_80_code 9 none p s m args meth c A D mc) {S : MS} {x1 : Int32} {x2 : Int32} {x3 : Int32} {x5 : Int32} {x6 : Int32} {x7 : Int32} {x8 : Int32} {o : ((MS × Int32 × Int32 × Int32 × Int32 × Int32 × Int32 × Int32) ⊕ (MS × Int32 × Int32 × Int32 × Int32 × Int32))} (Heq : m_rbegin_B238 S x1 x2 x3 x5 x6 x7 x8 = some o) (Ka : ∀ b : MS × Int32 × Int32 × Int32 × Int32 × Int32 × Int32 × Int32, o = .inl b → ∀ (H : Heap) (locs : List Loc) (ls : Array Slot), va_P D cls (mw md mc b.1) H → va_D A (mw md mc b.1) → va_S A s.heap H locs → lv_has ls 9 [(0, .ref (md 100)), (1, .int b.2.1), (2, .int b.2.2.1), (3, .int b.2.2.2.1), (5, .int b.2.2.2.2.1), (6, .int b.2.2.2.2.2.1), (7, .int b.2.2.2.2.2.2.1), (8, .int b.2.2.2.2.2.2.2)] → W p l e ({ frames := 3, cells := 0, slots := 0, locals := 71 }) s m args below meth c H locs 0 0 Q (F0 m 238 ls [])) (K0 : ∀ b : MS × Int32 × Int32 × Int32 × Int32 × Int32, o = .inr b → ∀ (H : Heap) (locs : List Loc) (ls : Array Slot), va_P D cls (mw md mc b.1) H → va_D A (mw md mc b.1) → va_S A s.heap H locs → lv_has ls 9 [(0, .ref (md 100)), (1, .int b.2.1), (2, .int b.2.2.1), (3, .int b.2.2.2.1), (5, .int b.2.2.2.2.1), (6, .int b.2.2.2.2.2)] → W p l e ({ frames := 3, cells := 0, slots := 0, locals := 71 }) s m args below meth c H locs 0 0 Q (F0 m 279 ls [])) : ∀ (H : Heap) (locs : List Loc) (ls : Array Slot), va_P D cls (mw md mc S) H → va_D A (mw md mc S) → va_S A s.heap H locs → lv_has ls 9 [(0, .ref (md 100)), (1, .int x1), (2, .int x2), (3, .int x3), (5, .int x5), (6, .int x6), (7, .int x7), (8, .int x8)] → W p l e ({ frames := 3, cells := 0, slots := 0, locals := 71 }) s m args below meth c H locs 0 0 Q (F0 m 238 ls []) := by
  intro H locs ls hP hD hS hl
  obtain ⟨hx, hb, hr, hml, hown, hts, hK, hA⟩ := id hC
  unfold m_rbegin_B238 at Heq
  refine lv_iload hx hb d_rbegin_238 (lv_at hl 7 rfl) ?_
  refine lv_aload_n hx hb d_rbegin_240 rfl (lv_at hl 0 rfl) ?_
  refine va_get (D := D) (ci := 12) (v := .ref (md 17)) (C := R_MM) (T := F_MM) (N := 77) hx hb hts i_MM hown hK hP 0 rfl rfl 17 (by decide) (hts _ kw_1399) (fun _ h9 => h9) rfl d_rbegin_241 ?_
  refine lv_iload hx hb d_rbegin_244 (lv_at hl 6 rfl) ?_
  obtain ⟨hi_1, Heq⟩ := gd_some Heq
  refine va_iald hx hb hK hP 13 0 rfl rfl (i := x7) hi_1 d_rbegin_246 ?_
  refine w_i (y := S.a 17 x7.toNatClampNeg) rfl ?_
  refine lv_icmp_ge (tgt := 279) hx hb d_rbegin_247 (by decide) (fun c_2 => ?_) (fun c_2 => ?_)
  · replace Heq := (if_pos c_2).symm.trans Heq
    exact K0 _ (Option.some.inj Heq).symm _ _ _ hP hD hS (lv_sub hl [0, 1, 2, 3, 4, 5] rfl)
  · replace Heq := (if_neg c_2).symm.trans Heq
    refine lv_aload_n hx hb d_rbegin_250 rfl (lv_at hl 0 rfl) ?_
    refine lv_aload_n hx hb d_rbegin_251 rfl (lv_at hl 0 rfl) ?_
    refine va_get (D := D) (ci := 12) (v := .ref (md 26)) (C := R_MM) (T := F_MM) (N := 77) hx hb hts i_MM hown hK hP 0 rfl rfl 26 (by decide) (hts _ kw_1408) (fun _ h9 => h9) rfl d_rbegin_252 ?_
    refine lv_aload_n hx hb d_rbegin_255 rfl (lv_at hl 0 rfl) ?_
    refine va_get (D := D) (ci := 12) (v := .ref (md 16)) (C := R_MM) (T := F_MM) (N := 77) hx hb hts i_MM hown hK hP 0 rfl rfl 16 (by decide) (hts _ kw_1398) (fun _ h9 => h9) rfl d_rbegin_256 ?_
    refine lv_iload hx hb d_rbegin_259 (lv_at hl 6 rfl) ?_
    obtain ⟨hi_3, Heq⟩ := gd_some Heq
    refine va_iald hx hb hK hP 12 0 rfl rfl (i := x7) hi_3 d_rbegin_261 ?_
    refine w_i (y := S.a 16 x7.toNatClampNeg) rfl ?_
    refine lv_iload hx hb d_rbegin_262 (lv_at hl 7 rfl) ?_
    refine lv_iadd hx hb d_rbegin_264 ?_
    refine w_i (y := (S.a 16 x7.toNatClampNeg) + x8) rfl ?_
    obtain ⟨hi_4, Heq⟩ := gd_some Heq
    refine va_bald hx hb hK hP 20 1 rfl rfl (i := (S.a 16 x7.toNatClampNeg) + x8) hi_4 d_rbegin_265 ?_
    refine w_i (y := S.a 26 (((S.a 16 x7.toNatClampNeg) + x8).toNatClampNeg)) rfl ?_
    refine lv_sipush (v := 255) hx hb d_rbegin_266 (by decide) ?_
    refine lv_iand hx hb d_rbegin_269 ?_
    refine w_i (y := (S.a 26 (((S.a 16 x7.toNatClampNeg) + x8).toNatClampNeg)) &&& 255) rfl ?_
    obtain ⟨o_5, h_6, Heq⟩ := ob_some Heq
    have hFc := fr_all hD hS hA
    refine va_callv (va_runV (As := [.int ((S.a 26 (((S.a 16 x7.toNatClampNeg) + x8).toNatClampNeg)) &&& 255)]) (rest := []) ⟨hx, hb, hml, hown, hts⟩ (g_rescaped l D H.size h_6) (cw_v 1 hts kw_1926 kw_1923 kw_1925 kp_78 kw_11 rfl rfl (by decide +kernel) ⟨Nat.le_of_ble_eq_true rfl, Nat.le_of_ble_eq_true rfl⟩) ⟨g_blind, va_recv hK hP (ci := 12) (q0 := 0) rfl rfl, fun U hU hW => g_pre hU hW hP hK hD⟩ rfl rfl hl.1 rfl (lv_room (Nat.le_of_ble_eq_true rfl)) d_rbegin_270 ⟨Nat.le_of_ble_eq_true rfl, Nat.le_of_ble_eq_true rfl⟩) hS (fun q _ h => hFc q h) hFc (fun u t H1 locs ht hvm hw hB hz1 hk1 hS => ?_)
    obtain ⟨hP, -, hD1⟩ := hB
    rw [ht] at hP
    have hD := hD1.weaken (fun _ q _ h => hFc q.1 h)
    generalize H1 = H at hP hS ⊢
    refine W.cs (cells' := 0) (slots' := 0) rfl rfl ?_
    refine lv_iinc (v := x8 + 1) (lv' := [(8, .int (x8 + 1)), (0, .ref (md 100)), (1, .int x1), (2, .int x2), (3, .int x3), (5, .int x5), (6, .int x6), (7, .int x7)]) hx hb d_rbegin_273 hl (k := 7) rfl rfl (by decide) rfl (fun ls hl => ?_)
    refine lv_goto (tgt := 238) hx hb d_rbegin_276 (by decide) ?_
    exact Ka _ (Option.some.inj Heq).symm _ _ _ hP hD hS (lv_sub hl [1, 2, 3, 4, 5, 6, 7, 0] rfl)
def m_rbegin_L238 (S : MS) (x1 : Int32) (x2 : Int32) (x3 : Int32) (x5 : Int32) (x6 : Int32) (x7 : Int32) (x8 : Int32) : Option (MS × Int32 × Int32 × Int32 × Int32 × Int32) := lp (fun a : MS × Int32 × Int32 × Int32 × Int32 × Int32 × Int32 × Int32 => m_rbegin_B238 a.1 a.2.1 a.2.2.1 a.2.2.2.1 a.2.2.2.2.1 a.2.2.2.2.2.1 a.2.2.2.2.2.2.1 a.2.2.2.2.2.2.2) FU (S, x1, x2, x3, x5, x6, x7, x8)
theorem w_rbegin_L238 {p : Program} {l : Launch} {e : Env} {s : State} {m : MethodId} {args : Array Value} {below : List Frame} {meth : Method} {c : Code} {A : Nat → Prop} {D : va_G} {md : Nat → Nat} {mc : Nat → ClassId} {Q : State → Prop} (hC : MCx "JoinedTreesModel" prog_14_method_80_code 9 none p s m args meth c A D mc) {S : MS} {x1 : Int32} {x2 : Int32} {x3 : Int32} {x5 : Int32} {x6 : Int32} {x7 : Int32} {x8 : Int32} {o : MS × Int32 × Int32 × Int32 × Int32 × Int32} (Heq : m_rbegin_L238 S x1 x2 x3 x5 x6 x7 x8 = some o) (K0 : ∀ b : MS × Int32 × Int32 × Int32 × Int32 × Int32, o = b → ∀ (H : Heap) (locs : List Loc) (ls : Array Slot), va_P D cls (mw md mc b.1) H → va_D A (mw md mc b.1) → va_S A s.heap H locs → lv_has ls 9 [(0, .ref (md 100)), (1, .int b.2.1), (2, .int b.2.2.1), (3, .int b.2.2.2.1), (5, .int b.2.2.2.2.1), (6, .int b.2.2.2.2.2)] → W p l e ({ frames := 3, cells := 0, slots := 0, locals := 71 }) s m args below meth c H locs 0 0 Q (F0 m 279 ls [])) : ∀ (H : Heap) (locs : List Loc) (ls : Array Slot), va_P D cls (mw md mc S) H → va_D A (mw md mc S) → va_S A s.heap H locs → lv_has ls 9 [(0, .ref (md 100)), (1, .int x1), (2, .int x2), (3, .int x3), (5, .int x5), (6, .int x6), (7, .int x7), (8, .int x8)] → W p l e ({ frames := 3, cells := 0, slots := 0, locals := 71 }) s m args below meth c H locs 0 0 Q (F0 m 238 ls []) := by
  refine lp_w (G := fun a : MS × Int32 × Int32 × Int32 × Int32 × Int32 × Int32 × Int32 => ∀ (H : Heap) (locs : List Loc) (ls : Array Slot), va_P D cls (mw md mc a.1) H → va_D A (mw md mc a.1) → va_S A s.heap H locs → lv_has ls 9 [(0, .ref (md 100)), (1, .int a.2.1), (2, .int a.2.2.1), (3, .int a.2.2.2.1), (5, .int a.2.2.2.2.1), (6, .int a.2.2.2.2.2.1), (7, .int a.2.2.2.2.2.2.1), (8, .int a.2.2.2.2.2.2.2)] → W p l e ({ frames := 3, cells := 0, slots := 0, locals := 71 }) s m args below meth c H locs 0 0 Q (F0 m 238 ls [])) ?_ FU (S, x1, x2, x3, x5, x6, x7, x8) Heq
  intro a o1 ho Ka Ke
  exact w_rbegin_B238 hC ho (fun b h => Ka b h) (fun b h => K0 b (Ke _ h).symm)
def m_rbegin_J212 (S : MS) (x1 : Int32) (x2 : Int32) (x3 : Int32) (x5 : Int32) (x6 : Int32) (x7 : Int32) : Option ((MS × Int32 × Int32 × Int32 × Int32 × Int32) ⊕ (MS × Int32)) := ob (m_rpush S x7) (fun o_1 => m_rbegin_J279 o_1 x1 x2 x3 (x5 + 1) x6)
theorem d_rbegin_201 : decode prog_14_method_80_code 201 = .ok (.iload 5, 2) := by decide +kernel
theorem d_rbegin_203 : decode prog_14_method_80_code 203 = .ok (.ifCond .le 9, 3) := by decide +kernel
theorem d_rbegin_212 : decode prog_14_method_80_code 212 = .ok (.aload_n 0, 1) := by decide +kernel
theorem d_rbegin_213 : decode prog_14_method_80_code 213 = .ok (.iload 7, 2) := by decide +kernel
theorem d_rbegin_215 : decode prog_14_method_80_code 215 = .ok (.invokevirtual 450, 3) := by decide +kernel
theorem d_rbegin_218 : decode prog_14_method_80_code 218 = .ok (.iinc 5 1, 3) := by decide +kernel
theorem d_rbegin_221 : decode prog_14_method_80_code 221 = .ok (.goto 58, 3) := by decide +kernel
set_option maxHeartbeats 4000000 in
set_option maxRecDepth 100000 in
theorem w_rbegin_J212 {p : Program} {l : Launch} {e : Env} {s : State} {m : MethodId} {args : Array Value} {below : List Frame} {meth : Method} {c : Code} {A : Nat → Prop} {D : va_G} {md : Nat → Nat} {mc : Nat → ClassId} {Q : State → Prop} (hC : MCx "JoinedTreesModel" prog_14_method_80_code 9 none p s m args meth c A D mc) {S : MS} {x1 : Int32} {x2 : Int32} {x3 : Int32} {x5 : Int32} {x6 : Int32} {x7 : Int32} {o : ((MS × Int32 × Int32 × Int32 × Int32 × Int32) ⊕ (MS × Int32))} (Heq : m_rbegin_J212 S x1 x2 x3 x5 x6 x7 = some o) (Ka : ∀ b : MS × Int32 × Int32 × Int32 × Int32 × Int32, o = .inl b → ∀ (H : Heap) (locs : List Loc) (ls : Array Slot), va_P D cls (mw md mc b.1) H → va_D A (mw md mc b.1) → va_S A s.heap H locs → lv_has ls 9 [(0, .ref (md 100)), (1, .int b.2.1), (2, .int b.2.2.1), (3, .int b.2.2.2.1), (5, .int b.2.2.2.2.1), (6, .int b.2.2.2.2.2)] → W p l e ({ frames := 3, cells := 0, slots := 0, locals := 71 }) s m args below meth c H locs 0 0 Q (F0 m 133 ls [])) (K0 : ∀ b : MS × Int32, o = .inr b → ∀ (H : Heap) (locs : List Loc) (ls : Array Slot), va_P D cls (mw md mc b.1) H → va_D A (mw md mc b.1) → va_S A s.heap H locs → lv_has ls 9 [(0, .ref (md 100)), (3, .int b.2)] → W p l e ({ frames := 3, cells := 0, slots := 0, locals := 71 }) s m args below meth c H locs 0 0 Q (F0 m 298 ls [])) : ∀ (H : Heap) (locs : List Loc) (ls : Array Slot), va_P D cls (mw md mc S) H → va_D A (mw md mc S) → va_S A s.heap H locs → lv_has ls 9 [(0, .ref (md 100)), (1, .int x1), (2, .int x2), (3, .int x3), (5, .int x5), (6, .int x6), (7, .int x7)] → W p l e ({ frames := 3, cells := 0, slots := 0, locals := 71 }) s m args below meth c H locs 0 0 Q (F0 m 212 ls []) := by
  intro H locs ls hP hD hS hl
  obtain ⟨hx, hb, hr, hml, hown, hts, hK, hA⟩ := id hC
  unfold m_rbegin_J212 at Heq
  refine lv_aload_n hx hb d_rbegin_212 rfl (lv_at hl 0 rfl) ?_
  refine lv_iload hx hb d_rbegin_213 (lv_at hl 6 rfl) ?_
  obtain ⟨o_1, h_2, Heq⟩ := ob_some Heq
  have hFc := fr_all hD hS hA
  refine va_callv (va_runV (As := [.int x7]) (rest := []) ⟨hx, hb, hml, hown, hts⟩ (g_rpush l D H.size h_2) (cw_v 1 hts kw_1922 kw_1919 kw_1921 kp_77 kw_11 rfl rfl (by decide +kernel) ⟨Nat.le_of_ble_eq_true rfl, Nat.le_of_ble_eq_true rfl⟩) ⟨g_blind, va_recv hK hP (ci := 12) (q0 := 0) rfl rfl, fun U hU hW => g_pre hU hW hP hK hD⟩ rfl rfl hl.1 rfl (lv_room (Nat.le_of_ble_eq_true rfl)) d_rbegin_215 ⟨Nat.le_of_ble_eq_true rfl, Nat.le_of_ble_eq_true rfl⟩) hS (fun q _ h => hFc q h) hFc (fun u t H1 locs ht hvm hw hB hz1 hk1 hS => ?_)
  obtain ⟨hP, -, hD1⟩ := hB
  rw [ht] at hP
  have hD := hD1.weaken (fun _ q _ h => hFc q.1 h)
  generalize H1 = H at hP hS ⊢
  refine W.cs (cells' := 0) (slots' := 0) rfl rfl ?_
  refine lv_iinc (v := x5 + 1) (lv' := [(5, .int (x5 + 1)), (0, .ref (md 100)), (1, .int x1), (2, .int x2), (3, .int x3), (6, .int x6), (7, .int x7)]) hx hb d_rbegin_218 hl (k := 4) rfl rfl (by decide) rfl (fun ls hl => ?_)
  refine lv_goto (tgt := 279) hx hb d_rbegin_221 (by decide) ?_
  exact w_rbegin_J279 hC Heq Ka K0 _ _ _ hP hD hS (lv_sub hl [1, 2, 3, 4, 0, 5] rfl)
def m_rbegin_J156 (S : MS) (x1 : Int32) (x2 : Int32) (x3 : Int32) (x5 : Int32) (x6 : Int32) : Option ((MS × Int32 × Int32 × Int32 × Int32 × Int32) ⊕ (MS × Int32)) := gd x6 4000 ((if S.a 51 x6.toNatClampNeg = 0 then m_rbegin_J279 S x1 x2 x3 x5 x6 else gd x6 4000 (gd (S.a 48 x6.toNatClampNeg) 4000 (ob (m_relementCandidates S x1 x2 (S.a 8 ((S.a 48 x6.toNatClampNeg).toNatClampNeg))) (fun o_5 => (if x3 = 7 then (if x5 ≤ 0 then m_rbegin_J212 o_5 x1 x2 x3 x5 x6 (o_5.a 46 ((0 : Int32).toNatClampNeg)) else ob (m_rpush o_5 (-3)) (fun o_13 => m_rbegin_J212 o_13 x1 x2 x3 x5 x6 (o_5.a 46 ((0 : Int32).toNatClampNeg)))) else gd (o_5.a 46 ((0 : Int32).toNatClampNeg)) 4000 ((if o_5.a 11 ((o_5.a 46 ((0 : Int32).toNatClampNeg)).toNatClampNeg) = 4 then ob (m_rbegin_L238 o_5 x1 x2 x3 x5 x6 (o_5.a 46 ((0 : Int32).toNatClampNeg)) 0) (fun b_10 => m_rbegin_J279 b_10.1 b_10.2.1 b_10.2.2.1 b_10.2.2.2.1 b_10.2.2.2.2.1 b_10.2.2.2.2.2) else m_rbegin_J279 o_5 x1 x2 x3 x5 x6))))))))
theorem d_rbegin_206 : decode prog_14_method_80_code 206 = .ok (.aload_n 0, 1) := by decide +kernel
theorem d_rbegin_207 : decode prog_14_method_80_code 207 = .ok (.bipush (-3), 2) := by decide +kernel
theorem d_rbegin_209 : decode prog_14_method_80_code 209 = .ok (.invokevirtual 450, 3) := by decide +kernel
theorem d_rbegin_166 : decode prog_14_method_80_code 166 = .ok (.goto 113, 3) := by decide +kernel
set_option maxHeartbeats 4000000 in
set_option maxRecDepth 100000 in
theorem w_rbegin_J156 {p : Program} {l : Launch} {e : Env} {s : State} {m : MethodId} {args : Array Value} {below : List Frame} {meth : Method} {c : Code} {A : Nat → Prop} {D : va_G} {md : Nat → Nat} {mc : Nat → ClassId} {Q : State → Prop} (hC : MCx "JoinedTreesModel" prog_14_method_80_code 9 none p s m args meth c A D mc) {S : MS} {x1 : Int32} {x2 : Int32} {x3 : Int32} {x5 : Int32} {x6 : Int32} {o : ((MS × Int32 × Int32 × Int32 × Int32 × Int32) ⊕ (MS × Int32))} (Heq : m_rbegin_J156 S x1 x2 x3 x5 x6 = some o) (Ka : ∀ b : MS × Int32 × Int32 × Int32 × Int32 × Int32, o = .inl b → ∀ (H : Heap) (locs : List Loc) (ls : Array Slot), va_P D cls (mw md mc b.1) H → va_D A (mw md mc b.1) → va_S A s.heap H locs → lv_has ls 9 [(0, .ref (md 100)), (1, .int b.2.1), (2, .int b.2.2.1), (3, .int b.2.2.2.1), (5, .int b.2.2.2.2.1), (6, .int b.2.2.2.2.2)] → W p l e ({ frames := 3, cells := 0, slots := 0, locals := 71 }) s m args below meth c H locs 0 0 Q (F0 m 133 ls [])) (K0 : ∀ b : MS × Int32, o = .inr b → ∀ (H : Heap) (locs : List Loc) (ls : Array Slot), va_P D cls (mw md mc b.1) H → va_D A (mw md mc b.1) → va_S A s.heap H locs → lv_has ls 9 [(0, .ref (md 100)), (3, .int b.2)] → W p l e ({ frames := 3, cells := 0, slots := 0, locals := 71 }) s m args below meth c H locs 0 0 Q (F0 m 298 ls [])) : ∀ (H : Heap) (locs : List Loc) (ls : Array Slot), va_P D cls (mw md mc S) H → va_D A (mw md mc S) → va_S A s.heap H locs → lv_has ls 9 [(0, .ref (md 100)), (1, .int x1), (2, .int x2), (3, .int x3), (5, .int x5), (6, .int x6)] → W p l e ({ frames := 3, cells := 0, slots := 0, locals := 71 }) s m args below meth c H locs 0 0 Q (F0 m 156 ls []) := by
  intro H locs ls hP hD hS hl
  obtain ⟨hx, hb, hr, hml, hown, hts, hK, hA⟩ := id hC
  unfold m_rbegin_J156 at Heq
  refine lv_aload_n hx hb d_rbegin_156 rfl (lv_at hl 0 rfl) ?_
  refine va_get (D := D) (ci := 12) (v := .ref (md 51)) (C := R_MM) (T := F_MM) (N := 77) hx hb hts i_MM hown hK hP 0 rfl rfl 51 (by decide) (hts _ kw_1433) (fun _ h9 => h9) rfl d_rbegin_157 ?_
  refine lv_iload hx hb d_rbegin_160 (lv_at hl 5 rfl) ?_
  obtain ⟨hi_1, Heq⟩ := gd_some Heq
  refine va_zald hx hb hK hP 34 2 rfl rfl (i := x6) hi_1 d_rbegin_162 ?_
  refine w_i (y := S.a 51 x6.toNatClampNeg) rfl ?_
  refine lv_if_ne (tgt := 169) hx hb d_rbegin_163 (by decide) (fun c_2 => ?_) (fun c_2 => ?_)
  · replace Heq := (if_neg c_2).symm.trans Heq
    refine lv_aload_n hx hb d_rbegin_169 rfl (lv_at hl 0 rfl) ?_
    refine lv_iload_n hx hb d_rbegin_170 rfl (lv_at hl 1 rfl) ?_
    refine lv_iload_n hx hb d_rbegin_171 rfl (lv_at hl 2 rfl) ?_
    refine lv_aload_n hx hb d_rbegin_172 rfl (lv_at hl 0 rfl) ?_
    refine va_get (D := D) (ci := 12) (v := .ref (md 8)) (C := R_MM) (T := F_MM) (N := 77) hx hb hts i_MM hown hK hP 0 rfl rfl 8 (by decide) (hts _ kw_1390) (fun _ h9 => h9) rfl d_rbegin_173 ?_
    refine lv_aload_n hx hb d_rbegin_176 rfl (lv_at hl 0 rfl) ?_
    refine va_get (D := D) (ci := 12) (v := .ref (md 48)) (C := R_MM) (T := F_MM) (N := 77) hx hb hts i_MM hown hK hP 0 rfl rfl 48 (by decide) (hts _ kw_1430) (fun _ h9 => h9) rfl d_rbegin_177 ?_
    refine lv_iload hx hb d_rbegin_180 (lv_at hl 5 rfl) ?_
    obtain ⟨hi_3, Heq⟩ := gd_some Heq
    refine va_iald hx hb hK hP 32 0 rfl rfl (i := x6) hi_3 d_rbegin_182 ?_
    refine w_i (y := S.a 48 x6.toNatClampNeg) rfl ?_
    obtain ⟨hi_4, Heq⟩ := gd_some Heq
    refine va_iald hx hb hK hP 4 0 rfl rfl (i := S.a 48 x6.toNatClampNeg) hi_4 d_rbegin_183 ?_
    refine w_i (y := S.a 8 ((S.a 48 x6.toNatClampNeg).toNatClampNeg)) rfl ?_
    obtain ⟨o_5, h_6, Heq⟩ := ob_some Heq
    have hFc := fr_all hD hS hA
    refine va_callv (va_runV (As := [.int x1, .int x2, .int (S.a 8 ((S.a 48 x6.toNatClampNeg).toNatClampNeg))]) (rest := []) ⟨hx, hb, hml, hown, hts⟩ (g_relementCandidates l D H.size h_6) (cw_v 3 hts kw_1725 kw_1722 kw_1724 kp_49 kw_11 rfl rfl (by decide +kernel) ⟨Nat.le_of_ble_eq_true rfl, Nat.le_of_ble_eq_true rfl⟩) ⟨g_blind, va_recv hK hP (ci := 12) (q0 := 0) rfl rfl, fun U hU hW => g_pre hU hW hP hK hD⟩ rfl rfl hl.1 rfl (lv_room (Nat.le_of_ble_eq_true rfl)) d_rbegin_184 ⟨Nat.le_of_ble_eq_true rfl, Nat.le_of_ble_eq_true rfl⟩) hS (fun q _ h => hFc q h) hFc (fun u t H1 locs ht hvm hw hB hz1 hk1 hS => ?_)
    obtain ⟨hP, -, hD1⟩ := hB
    rw [ht] at hP
    have hD := hD1.weaken (fun _ q _ h => hFc q.1 h)
    generalize H1 = H at hP hS ⊢
    refine W.cs (cells' := 0) (slots' := 0) rfl rfl ?_
    refine lv_aload_n hx hb d_rbegin_187 rfl (lv_at hl 0 rfl) ?_
    refine va_get (D := D) (ci := 12) (v := .ref (md 46)) (C := R_MM) (T := F_MM) (N := 77) hx hb hts i_MM hown hK hP 0 rfl rfl 46 (by decide) (hts _ kw_1428) (fun _ h9 => h9) rfl d_rbegin_188 ?_
    refine lv_iconst (v := 0) hx hb d_rbegin_191 (by decide) ?_
    refine va_iald hx hb hK hP 31 0 rfl rfl (i := 0) (vp_in_nI (n := 0) (N := 4000) (by decide) (by decide)) d_rbegin_192 ?_
    refine w_i (y := o_5.a 46 ((0 : Int32).toNatClampNeg)) rfl ?_
    refine lv_istore (lv' := [(7, .int (o_5.a 46 ((0 : Int32).toNatClampNeg))), (0, .ref (md 100)), (1, .int x1), (2, .int x2), (3, .int x3), (5, .int x5), (6, .int x6)]) hx hb d_rbegin_193 hl (by decide) rfl (fun ls hl => ?_)
    refine lv_iload_n hx hb d_rbegin_195 rfl (lv_at hl 4 rfl) ?_
    refine lv_bipush (v := 7) hx hb d_rbegin_196 (by decide) ?_
    refine lv_icmp_ne (tgt := 224) hx hb d_rbegin_198 (by decide) (fun c_7 => ?_) (fun c_7 => ?_)
    · replace Heq := (if_neg c_7).symm.trans Heq
      refine lv_aload_n hx hb d_rbegin_224 rfl (lv_at hl 1 rfl) ?_
      refine va_get (D := D) (ci := 12) (v := .ref (md 11)) (C := R_MM) (T := F_MM) (N := 77) hx hb hts i_MM hown hK hP 0 rfl rfl 11 (by decide) (hts _ kw_1393) (fun _ h9 => h9) rfl d_rbegin_225 ?_
      refine lv_iload hx hb d_rbegin_228 (lv_at hl 0 rfl) ?_
      obtain ⟨hi_8, Heq⟩ := gd_some Heq
      refine va_iald hx hb hK hP 7 0 rfl rfl (i := o_5.a 46 ((0 : Int32).toNatClampNeg)) hi_8 d_rbegin_230 ?_
      refine w_i (y := o_5.a 11 ((o_5.a 46 ((0 : Int32).toNatClampNeg)).toNatClampNeg)) rfl ?_
      refine lv_iconst (v := 4) hx hb d_rbegin_231 (by decide) ?_
      refine lv_icmp_ne (tgt := 279) hx hb d_rbegin_232 (by decide) (fun c_9 => ?_) (fun c_9 => ?_)
      · replace Heq := (if_neg c_9).symm.trans Heq
        exact w_rbegin_J279 hC Heq Ka K0 _ _ _ hP hD hS (lv_sub hl [1, 2, 3, 4, 5, 6] rfl)
      · replace Heq := (if_pos c_9).symm.trans Heq
        refine lv_iconst (v := 0) hx hb d_rbegin_235 (by decide) ?_
        refine lv_istore (lv' := [(8, .int 0), (7, .int (o_5.a 46 ((0 : Int32).toNatClampNeg))), (0, .ref (md 100)), (1, .int x1), (2, .int x2), (3, .int x3), (5, .int x5), (6, .int x6)]) hx hb d_rbegin_236 hl (by decide) rfl (fun ls hl => ?_)
        obtain ⟨b_10, h_11, Heq⟩ := ob_some Heq
        refine w_rbegin_L238 hC h_11 (fun b h => ?_) _ _ _ hP hD hS (lv_sub hl [2, 3, 4, 5, 6, 7, 1, 0] rfl)
        subst h
        intro H locs ls hP hD hS hl
        exact w_rbegin_J279 hC Heq Ka K0 _ _ _ hP hD hS (lv_sub hl [0, 1, 2, 3, 4, 5] rfl)
    · replace Heq := (if_pos c_7).symm.trans Heq
      refine lv_iload hx hb d_rbegin_201 (lv_at hl 5 rfl) ?_
      refine lv_if_le (tgt := 212) hx hb d_rbegin_203 (by decide) (fun c_12 => ?_) (fun c_12 => ?_)
      · replace Heq := (if_pos c_12).symm.trans Heq
        exact w_rbegin_J212 hC Heq Ka K0 _ _ _ hP hD hS (lv_sub hl [1, 2, 3, 4, 5, 6, 0] rfl)
      · replace Heq := (if_neg c_12).symm.trans Heq
        refine lv_aload_n hx hb d_rbegin_206 rfl (lv_at hl 1 rfl) ?_
        refine lv_bipush (v := (-3)) hx hb d_rbegin_207 (by decide) ?_
        obtain ⟨o_13, h_14, Heq⟩ := ob_some Heq
        have hFc := fr_all hD hS hA
        refine va_callv (va_runV (As := [.int (-3)]) (rest := []) ⟨hx, hb, hml, hown, hts⟩ (g_rpush l D H.size h_14) (cw_v 1 hts kw_1922 kw_1919 kw_1921 kp_77 kw_11 rfl rfl (by decide +kernel) ⟨Nat.le_of_ble_eq_true rfl, Nat.le_of_ble_eq_true rfl⟩) ⟨g_blind, va_recv hK hP (ci := 12) (q0 := 0) rfl rfl, fun U hU hW => g_pre hU hW hP hK hD⟩ rfl rfl hl.1 rfl (lv_room (Nat.le_of_ble_eq_true rfl)) d_rbegin_209 ⟨Nat.le_of_ble_eq_true rfl, Nat.le_of_ble_eq_true rfl⟩) hS (fun q _ h => hFc q h) hFc (fun u t H1 locs ht hvm hw hB hz1 hk1 hS => ?_)
        obtain ⟨hP, -, hD1⟩ := hB
        rw [ht] at hP
        have hD := hD1.weaken (fun _ q _ h => hFc q.1 h)
        generalize H1 = H at hP hS ⊢
        refine W.cs (cells' := 0) (slots' := 0) rfl rfl ?_
        exact w_rbegin_J212 hC Heq Ka K0 _ _ _ hP hD hS (lv_sub hl [1, 2, 3, 4, 5, 6, 0] rfl)
  · replace Heq := (if_pos c_2).symm.trans Heq
    refine lv_goto (tgt := 279) hx hb d_rbegin_166 (by decide) ?_
    exact w_rbegin_J279 hC Heq Ka K0 _ _ _ hP hD hS (lv_sub hl [0, 1, 2, 3, 4, 5] rfl)
def m_rbegin_B133 (S : MS) (x1 : Int32) (x2 : Int32) (x3 : Int32) (x5 : Int32) (x6 : Int32) : Option ((MS × Int32 × Int32 × Int32 × Int32 × Int32) ⊕ (MS × Int32)) := (if x3 = 7 then (if x6 < 0 then some (.inr (S, x3)) else m_rbegin_J156 S x1 x2 x3 x5 x6) else (if S.i 50 ≤ x6 then some (.inr (S, x3)) else m_rbegin_J156 S x1 x2 x3 x5 x6))
theorem d_rbegin_139 : decode prog_14_method_80_code 139 = .ok (.iload 6, 2) := by decide +kernel
theorem d_rbegin_141 : decode prog_14_method_80_code 141 = .ok (.ifCond .lt 157, 3) := by decide +kernel
theorem d_rbegin_144 : decode prog_14_method_80_code 144 = .ok (.goto 12, 3) := by decide +kernel
set_option maxHeartbeats 4000000 in
set_option maxRecDepth 100000 in
theorem w_rbegin_B133 {p : Program} {l : Launch} {e : Env} {s : State} {m : MethodId} {args : Array Value} {below : List Frame} {meth : Method} {c : Code} {A : Nat → Prop} {D : va_G} {md : Nat → Nat} {mc : Nat → ClassId} {Q : State → Prop} (hC : MCx "JoinedTreesModel" prog_14_method_80_code 9 none p s m args meth c A D mc) {S : MS} {x1 : Int32} {x2 : Int32} {x3 : Int32} {x5 : Int32} {x6 : Int32} {o : ((MS × Int32 × Int32 × Int32 × Int32 × Int32) ⊕ (MS × Int32))} (Heq : m_rbegin_B133 S x1 x2 x3 x5 x6 = some o) (Ka : ∀ b : MS × Int32 × Int32 × Int32 × Int32 × Int32, o = .inl b → ∀ (H : Heap) (locs : List Loc) (ls : Array Slot), va_P D cls (mw md mc b.1) H → va_D A (mw md mc b.1) → va_S A s.heap H locs → lv_has ls 9 [(0, .ref (md 100)), (1, .int b.2.1), (2, .int b.2.2.1), (3, .int b.2.2.2.1), (5, .int b.2.2.2.2.1), (6, .int b.2.2.2.2.2)] → W p l e ({ frames := 3, cells := 0, slots := 0, locals := 71 }) s m args below meth c H locs 0 0 Q (F0 m 133 ls [])) (K0 : ∀ b : MS × Int32, o = .inr b → ∀ (H : Heap) (locs : List Loc) (ls : Array Slot), va_P D cls (mw md mc b.1) H → va_D A (mw md mc b.1) → va_S A s.heap H locs → lv_has ls 9 [(0, .ref (md 100)), (3, .int b.2)] → W p l e ({ frames := 3, cells := 0, slots := 0, locals := 71 }) s m args below meth c H locs 0 0 Q (F0 m 298 ls [])) : ∀ (H : Heap) (locs : List Loc) (ls : Array Slot), va_P D cls (mw md mc S) H → va_D A (mw md mc S) → va_S A s.heap H locs → lv_has ls 9 [(0, .ref (md 100)), (1, .int x1), (2, .int x2), (3, .int x3), (5, .int x5), (6, .int x6)] → W p l e ({ frames := 3, cells := 0, slots := 0, locals := 71 }) s m args below meth c H locs 0 0 Q (F0 m 133 ls []) := by
  intro H locs ls hP hD hS hl
  obtain ⟨hx, hb, hr, hml, hown, hts, hK, hA⟩ := id hC
  unfold m_rbegin_B133 at Heq
  refine lv_iload_n hx hb d_rbegin_133 rfl (lv_at hl 3 rfl) ?_
  refine lv_bipush (v := 7) hx hb d_rbegin_134 (by decide) ?_
  refine lv_icmp_ne (tgt := 147) hx hb d_rbegin_136 (by decide) (fun c_1 => ?_) (fun c_1 => ?_)
  · replace Heq := (if_neg c_1).symm.trans Heq
    refine lv_iload hx hb d_rbegin_147 (lv_at hl 5 rfl) ?_
    refine lv_aload_n hx hb d_rbegin_149 rfl (lv_at hl 0 rfl) ?_
    refine va_get (D := D) (ci := 12) (v := .int (S.i 50)) (C := R_MM) (T := F_MM) (N := 77) hx hb hts i_MM hown hK hP 0 rfl rfl 50 (by decide) (hts _ kw_1432) (fun _ h9 => h9) rfl d_rbegin_150 ?_
    refine lv_icmp_ge (tgt := 298) hx hb d_rbegin_153 (by decide) (fun c_2 => ?_) (fun c_2 => ?_)
    · replace Heq := (if_pos c_2).symm.trans Heq
      exact K0 _ (Option.some.inj Heq).symm _ _ _ hP hD hS (lv_sub hl [0, 3] rfl)
    · replace Heq := (if_neg c_2).symm.trans Heq
      exact w_rbegin_J156 hC Heq Ka K0 _ _ _ hP hD hS (lv_sub hl [0, 1, 2, 3, 4, 5] rfl)
  · replace Heq := (if_pos c_1).symm.trans Heq
    refine lv_iload hx hb d_rbegin_139 (lv_at hl 5 rfl) ?_
    refine lv_if_lt (tgt := 298) hx hb d_rbegin_141 (by decide) (fun c_3 => ?_) (fun c_3 => ?_)
    · replace Heq := (if_pos c_3).symm.trans Heq
      exact K0 _ (Option.some.inj Heq).symm _ _ _ hP hD hS (lv_sub hl [0, 3] rfl)
    · replace Heq := (if_neg c_3).symm.trans Heq
      refine lv_goto (tgt := 156) hx hb d_rbegin_144 (by decide) ?_
      exact w_rbegin_J156 hC Heq Ka K0 _ _ _ hP hD hS (lv_sub hl [0, 1, 2, 3, 4, 5] rfl)
def m_rbegin_L133 (S : MS) (x1 : Int32) (x2 : Int32) (x3 : Int32) (x5 : Int32) (x6 : Int32) : Option (MS × Int32) := lp (fun a : MS × Int32 × Int32 × Int32 × Int32 × Int32 => m_rbegin_B133 a.1 a.2.1 a.2.2.1 a.2.2.2.1 a.2.2.2.2.1 a.2.2.2.2.2) FU (S, x1, x2, x3, x5, x6)
theorem w_rbegin_L133 {p : Program} {l : Launch} {e : Env} {s : State} {m : MethodId} {args : Array Value} {below : List Frame} {meth : Method} {c : Code} {A : Nat → Prop} {D : va_G} {md : Nat → Nat} {mc : Nat → ClassId} {Q : State → Prop} (hC : MCx "JoinedTreesModel" prog_14_method_80_code 9 none p s m args meth c A D mc) {S : MS} {x1 : Int32} {x2 : Int32} {x3 : Int32} {x5 : Int32} {x6 : Int32} {o : MS × Int32} (Heq : m_rbegin_L133 S x1 x2 x3 x5 x6 = some o) (K0 : ∀ b : MS × Int32, o = b → ∀ (H : Heap) (locs : List Loc) (ls : Array Slot), va_P D cls (mw md mc b.1) H → va_D A (mw md mc b.1) → va_S A s.heap H locs → lv_has ls 9 [(0, .ref (md 100)), (3, .int b.2)] → W p l e ({ frames := 3, cells := 0, slots := 0, locals := 71 }) s m args below meth c H locs 0 0 Q (F0 m 298 ls [])) : ∀ (H : Heap) (locs : List Loc) (ls : Array Slot), va_P D cls (mw md mc S) H → va_D A (mw md mc S) → va_S A s.heap H locs → lv_has ls 9 [(0, .ref (md 100)), (1, .int x1), (2, .int x2), (3, .int x3), (5, .int x5), (6, .int x6)] → W p l e ({ frames := 3, cells := 0, slots := 0, locals := 71 }) s m args below meth c H locs 0 0 Q (F0 m 133 ls []) := by
  refine lp_w (G := fun a : MS × Int32 × Int32 × Int32 × Int32 × Int32 => ∀ (H : Heap) (locs : List Loc) (ls : Array Slot), va_P D cls (mw md mc a.1) H → va_D A (mw md mc a.1) → va_S A s.heap H locs → lv_has ls 9 [(0, .ref (md 100)), (1, .int a.2.1), (2, .int a.2.2.1), (3, .int a.2.2.2.1), (5, .int a.2.2.2.2.1), (6, .int a.2.2.2.2.2)] → W p l e ({ frames := 3, cells := 0, slots := 0, locals := 71 }) s m args below meth c H locs 0 0 Q (F0 m 133 ls [])) ?_ FU (S, x1, x2, x3, x5, x6) Heq
  intro a o1 ho Ka Ke
  exact w_rbegin_B133 hC ho (fun b h => Ka b h) (fun b h => K0 b (Ke _ h).symm)
def m_rbegin_J310 (S : MS) : Option MS := some S
theorem d_rbegin_298 : decode prog_14_method_80_code 298 = .ok (.iload_n 3, 1) := by decide +kernel
theorem d_rbegin_299 : decode prog_14_method_80_code 299 = .ok (.bipush 8, 2) := by decide +kernel
theorem d_rbegin_301 : decode prog_14_method_80_code 301 = .ok (.if_icmp .ne 9, 3) := by decide +kernel
theorem d_rbegin_310 : decode prog_14_method_80_code 310 = .ok (.return_, 1) := by decide +kernel
set_option maxHeartbeats 4000000 in
set_option maxRecDepth 100000 in
theorem w_rbegin_J310 {p : Program} {l : Launch} {e : Env} {s : State} {m : MethodId} {args : Array Value} {below : List Frame} {meth : Method} {c : Code} {A : Nat → Prop} {D : va_G} {md : Nat → Nat} {mc : Nat → ClassId} {Q : State → Prop} (hC : MCx "JoinedTreesModel" prog_14_method_80_code 9 none p s m args meth c A D mc) {S : MS} {o : MS} (Heq : m_rbegin_J310 S = some o) (Kr : ∀ r : MS, o = r → ∀ (pc : Nat) (H : Heap) (locs : List Loc) (ls : Array Slot), decode prog_14_method_80_code pc = .ok (.return_, 1) → va_P D cls (mw md mc r) H → va_D A (mw md mc r) → va_S A s.heap H locs → W p l e ({ frames := 3, cells := 0, slots := 0, locals := 71 }) s m args below meth c H locs 0 0 Q (F0 m pc ls [])) : ∀ (H : Heap) (locs : List Loc) (ls : Array Slot), va_P D cls (mw md mc S) H → va_D A (mw md mc S) → va_S A s.heap H locs → lv_has ls 9 [(0, .ref (md 100))] → W p l e ({ frames := 3, cells := 0, slots := 0, locals := 71 }) s m args below meth c H locs 0 0 Q (F0 m 310 ls []) := by
  intro H locs ls hP hD hS hl
  obtain ⟨hx, hb, hr, hml, hown, hts, hK, hA⟩ := id hC
  unfold m_rbegin_J310 at Heq
  exact Kr _ (Option.some.inj Heq).symm 310 _ _ _ d_rbegin_310 hP hD hS
def m_rbegin_J298 (S : MS) (x3 : Int32) : Option MS := (if x3 = 8 then ob (m_rwrite S 34) (fun o_2 => m_rbegin_J310 o_2) else m_rbegin_J310 S)
theorem d_rbegin_304 : decode prog_14_method_80_code 304 = .ok (.aload_n 0, 1) := by decide +kernel
theorem d_rbegin_305 : decode prog_14_method_80_code 305 = .ok (.bipush 34, 2) := by decide +kernel
theorem d_rbegin_307 : decode prog_14_method_80_code 307 = .ok (.invokevirtual 436, 3) := by decide +kernel
set_option maxHeartbeats 4000000 in
set_option maxRecDepth 100000 in
theorem w_rbegin_J298 {p : Program} {l : Launch} {e : Env} {s : State} {m : MethodId} {args : Array Value} {below : List Frame} {meth : Method} {c : Code} {A : Nat → Prop} {D : va_G} {md : Nat → Nat} {mc : Nat → ClassId} {Q : State → Prop} (hC : MCx "JoinedTreesModel" prog_14_method_80_code 9 none p s m args meth c A D mc) {S : MS} {x3 : Int32} {o : MS} (Heq : m_rbegin_J298 S x3 = some o) (Kr : ∀ r : MS, o = r → ∀ (pc : Nat) (H : Heap) (locs : List Loc) (ls : Array Slot), decode prog_14_method_80_code pc = .ok (.return_, 1) → va_P D cls (mw md mc r) H → va_D A (mw md mc r) → va_S A s.heap H locs → W p l e ({ frames := 3, cells := 0, slots := 0, locals := 71 }) s m args below meth c H locs 0 0 Q (F0 m pc ls [])) : ∀ (H : Heap) (locs : List Loc) (ls : Array Slot), va_P D cls (mw md mc S) H → va_D A (mw md mc S) → va_S A s.heap H locs → lv_has ls 9 [(0, .ref (md 100)), (3, .int x3)] → W p l e ({ frames := 3, cells := 0, slots := 0, locals := 71 }) s m args below meth c H locs 0 0 Q (F0 m 298 ls []) := by
  intro H locs ls hP hD hS hl
  obtain ⟨hx, hb, hr, hml, hown, hts, hK, hA⟩ := id hC
  unfold m_rbegin_J298 at Heq
  refine lv_iload_n hx hb d_rbegin_298 rfl (lv_at hl 1 rfl) ?_
  refine lv_bipush (v := 8) hx hb d_rbegin_299 (by decide) ?_
  refine lv_icmp_ne (tgt := 310) hx hb d_rbegin_301 (by decide) (fun c_1 => ?_) (fun c_1 => ?_)
  · replace Heq := (if_neg c_1).symm.trans Heq
    exact w_rbegin_J310 hC Heq Kr _ _ _ hP hD hS (lv_sub hl [0] rfl)
  · replace Heq := (if_pos c_1).symm.trans Heq
    refine lv_aload_n hx hb d_rbegin_304 rfl (lv_at hl 0 rfl) ?_
    refine lv_bipush (v := 34) hx hb d_rbegin_305 (by decide) ?_
    obtain ⟨o_2, h_3, Heq⟩ := ob_some Heq
    have hFc := fr_all hD hS hA
    refine va_callv (va_runV (As := [.int 34]) (rest := []) ⟨hx, hb, hml, hown, hts⟩ (g_rwrite l D H.size h_3) (cw_v 1 hts kw_1918 kw_1915 kw_1917 kp_76 kw_11 rfl rfl (by decide +kernel) ⟨Nat.le_of_ble_eq_true rfl, Nat.le_of_ble_eq_true rfl⟩) ⟨g_blind, va_recv hK hP (ci := 12) (q0 := 0) rfl rfl, fun U hU hW => g_pre hU hW hP hK hD⟩ rfl rfl hl.1 rfl (lv_room (Nat.le_of_ble_eq_true rfl)) d_rbegin_307 ⟨Nat.le_of_ble_eq_true rfl, Nat.le_of_ble_eq_true rfl⟩) hS (fun q _ h => hFc q h) hFc (fun u t H1 locs ht hvm hw hB hz1 hk1 hS => ?_)
    obtain ⟨hP, -, hD1⟩ := hB
    rw [ht] at hP
    have hD := hD1.weaken (fun _ q _ h => hFc q.1 h)
    generalize H1 = H at hP hS ⊢
    refine W.cs (cells' := 0) (slots' := 0) rfl rfl ?_
    exact w_rbegin_J310 hC Heq Kr _ _ _ hP hD hS (lv_sub hl [0] rfl)
def m_rbegin_J131 (S : MS) (x1 : Int32) (x2 : Int32) (x3 : Int32) (x5 : Int32) (t0 : Int32) : Option MS := ob (m_rbegin_L133 S x1 x2 x3 x5 t0) (fun b_1 => m_rbegin_J298 b_1.1 b_1.2)
set_option maxHeartbeats 4000000 in
set_option maxRecDepth 100000 in
theorem w_rbegin_J131 {p : Program} {l : Launch} {e : Env} {s : State} {m : MethodId} {args : Array Value} {below : List Frame} {meth : Method} {c : Code} {A : Nat → Prop} {D : va_G} {md : Nat → Nat} {mc : Nat → ClassId} {Q : State → Prop} (hC : MCx "JoinedTreesModel" prog_14_method_80_code 9 none p s m args meth c A D mc) {S : MS} {x1 : Int32} {x2 : Int32} {x3 : Int32} {x5 : Int32} {t0 : Int32} {o : MS} (Heq : m_rbegin_J131 S x1 x2 x3 x5 t0 = some o) (Kr : ∀ r : MS, o = r → ∀ (pc : Nat) (H : Heap) (locs : List Loc) (ls : Array Slot), decode prog_14_method_80_code pc = .ok (.return_, 1) → va_P D cls (mw md mc r) H → va_D A (mw md mc r) → va_S A s.heap H locs → W p l e ({ frames := 3, cells := 0, slots := 0, locals := 71 }) s m args below meth c H locs 0 0 Q (F0 m pc ls [])) : ∀ (H : Heap) (locs : List Loc) (ls : Array Slot), va_P D cls (mw md mc S) H → va_D A (mw md mc S) → va_S A s.heap H locs → lv_has ls 9 [(0, .ref (md 100)), (1, .int x1), (2, .int x2), (3, .int x3), (5, .int x5)] → W p l e ({ frames := 3, cells := 0, slots := 0, locals := 71 }) s m args below meth c H locs 0 0 Q (F0 m 131 ls [.int t0]) := by
  intro H locs ls hP hD hS hl
  obtain ⟨hx, hb, hr, hml, hown, hts, hK, hA⟩ := id hC
  unfold m_rbegin_J131 at Heq
  refine lv_istore (lv' := [(6, .int t0), (0, .ref (md 100)), (1, .int x1), (2, .int x2), (3, .int x3), (5, .int x5)]) hx hb d_rbegin_131 hl (by decide) rfl (fun ls hl => ?_)
  obtain ⟨b_1, h_2, Heq⟩ := ob_some Heq
  refine w_rbegin_L133 hC h_2 (fun b h => ?_) _ _ _ hP hD hS (lv_sub hl [1, 2, 3, 4, 5, 0] rfl)
  subst h
  intro H locs ls hP hD hS hl
  exact w_rbegin_J298 hC Heq Kr _ _ _ hP hD hS (lv_sub hl [0, 1] rfl)
def m_rbegin_J112 (S : MS) (x1 : Int32) (x2 : Int32) (x3 : Int32) : Option MS := (if x3 = 7 then m_rbegin_J131 S x1 x2 x3 0 ((S.i 50) - 1) else m_rbegin_J131 S x1 x2 x3 0 0)
theorem d_rbegin_121 : decode prog_14_method_80_code 121 = .ok (.aload_n 0, 1) := by decide +kernel
theorem d_rbegin_122 : decode prog_14_method_80_code 122 = .ok (.getfield 220, 3) := by decide +kernel
theorem d_rbegin_125 : decode prog_14_method_80_code 125 = .ok (.iconst 1, 1) := by decide +kernel
theorem d_rbegin_126 : decode prog_14_method_80_code 126 = .ok (.isub, 1) := by decide +kernel
theorem d_rbegin_127 : decode prog_14_method_80_code 127 = .ok (.goto 4, 3) := by decide +kernel
set_option maxHeartbeats 4000000 in
set_option maxRecDepth 100000 in
theorem w_rbegin_J112 {p : Program} {l : Launch} {e : Env} {s : State} {m : MethodId} {args : Array Value} {below : List Frame} {meth : Method} {c : Code} {A : Nat → Prop} {D : va_G} {md : Nat → Nat} {mc : Nat → ClassId} {Q : State → Prop} (hC : MCx "JoinedTreesModel" prog_14_method_80_code 9 none p s m args meth c A D mc) {S : MS} {x1 : Int32} {x2 : Int32} {x3 : Int32} {o : MS} (Heq : m_rbegin_J112 S x1 x2 x3 = some o) (Kr : ∀ r : MS, o = r → ∀ (pc : Nat) (H : Heap) (locs : List Loc) (ls : Array Slot), decode prog_14_method_80_code pc = .ok (.return_, 1) → va_P D cls (mw md mc r) H → va_D A (mw md mc r) → va_S A s.heap H locs → W p l e ({ frames := 3, cells := 0, slots := 0, locals := 71 }) s m args below meth c H locs 0 0 Q (F0 m pc ls [])) : ∀ (H : Heap) (locs : List Loc) (ls : Array Slot), va_P D cls (mw md mc S) H → va_D A (mw md mc S) → va_S A s.heap H locs → lv_has ls 9 [(0, .ref (md 100)), (1, .int x1), (2, .int x2), (3, .int x3)] → W p l e ({ frames := 3, cells := 0, slots := 0, locals := 71 }) s m args below meth c H locs 0 0 Q (F0 m 112 ls []) := by
  intro H locs ls hP hD hS hl
  obtain ⟨hx, hb, hr, hml, hown, hts, hK, hA⟩ := id hC
  unfold m_rbegin_J112 at Heq
  refine lv_iconst (v := 0) hx hb d_rbegin_112 (by decide) ?_
  refine lv_istore (lv' := [(5, .int 0), (0, .ref (md 100)), (1, .int x1), (2, .int x2), (3, .int x3)]) hx hb d_rbegin_113 hl (by decide) rfl (fun ls hl => ?_)
  refine lv_iload_n hx hb d_rbegin_115 rfl (lv_at hl 4 rfl) ?_
  refine lv_bipush (v := 7) hx hb d_rbegin_116 (by decide) ?_
  refine lv_icmp_ne (tgt := 130) hx hb d_rbegin_118 (by decide) (fun c_1 => ?_) (fun c_1 => ?_)
  · replace Heq := (if_neg c_1).symm.trans Heq
    refine lv_iconst (v := 0) hx hb d_rbegin_130 (by decide) ?_
    exact w_rbegin_J131 hC Heq Kr _ _ _ hP hD hS (lv_sub hl [1, 2, 3, 4, 0] rfl)
  · replace Heq := (if_pos c_1).symm.trans Heq
    refine lv_aload_n hx hb d_rbegin_121 rfl (lv_at hl 1 rfl) ?_
    refine va_get (D := D) (ci := 12) (v := .int (S.i 50)) (C := R_MM) (T := F_MM) (N := 77) hx hb hts i_MM hown hK hP 0 rfl rfl 50 (by decide) (hts _ kw_1432) (fun _ h9 => h9) rfl d_rbegin_122 ?_
    refine lv_iconst (v := 1) hx hb d_rbegin_125 (by decide) ?_
    refine lv_isub hx hb d_rbegin_126 ?_
    refine w_i (y := (S.i 50) - 1) rfl ?_
    refine lv_goto (tgt := 131) hx hb d_rbegin_127 (by decide) ?_
    exact w_rbegin_J131 hC Heq Kr _ _ _ hP hD hS (lv_sub hl [1, 2, 3, 4, 0] rfl)
def m_rbegin_J91 (S : MS) (x1 : Int32) (x2 : Int32) (x3 : Int32) (t0 : Int32) : Option MS := ob (m_rwrite S t0) (fun o_1 => (if x3 = 7 then ob (m_rpush o_1 (-2)) (fun o_4 => m_rbegin_J112 o_4 x1 x2 x3) else m_rbegin_J112 o_1 x1 x2 x3))
theorem d_rbegin_106 : decode prog_14_method_80_code 106 = .ok (.aload_n 0, 1) := by decide +kernel
theorem d_rbegin_107 : decode prog_14_method_80_code 107 = .ok (.bipush (-2), 2) := by decide +kernel
theorem d_rbegin_109 : decode prog_14_method_80_code 109 = .ok (.invokevirtual 450, 3) := by decide +kernel
set_option maxHeartbeats 4000000 in
set_option maxRecDepth 100000 in
theorem w_rbegin_J91 {p : Program} {l : Launch} {e : Env} {s : State} {m : MethodId} {args : Array Value} {below : List Frame} {meth : Method} {c : Code} {A : Nat → Prop} {D : va_G} {md : Nat → Nat} {mc : Nat → ClassId} {Q : State → Prop} (hC : MCx "JoinedTreesModel" prog_14_method_80_code 9 none p s m args meth c A D mc) {S : MS} {x1 : Int32} {x2 : Int32} {x3 : Int32} {t0 : Int32} {o : MS} (Heq : m_rbegin_J91 S x1 x2 x3 t0 = some o) (Kr : ∀ r : MS, o = r → ∀ (pc : Nat) (H : Heap) (locs : List Loc) (ls : Array Slot), decode prog_14_method_80_code pc = .ok (.return_, 1) → va_P D cls (mw md mc r) H → va_D A (mw md mc r) → va_S A s.heap H locs → W p l e ({ frames := 3, cells := 0, slots := 0, locals := 71 }) s m args below meth c H locs 0 0 Q (F0 m pc ls [])) : ∀ (H : Heap) (locs : List Loc) (ls : Array Slot), va_P D cls (mw md mc S) H → va_D A (mw md mc S) → va_S A s.heap H locs → lv_has ls 9 [(0, .ref (md 100)), (1, .int x1), (2, .int x2), (3, .int x3)] → W p l e ({ frames := 3, cells := 0, slots := 0, locals := 71 }) s m args below meth c H locs 0 0 Q (F0 m 91 ls [.int t0, .ref (md 100)]) := by
  intro H locs ls hP hD hS hl
  obtain ⟨hx, hb, hr, hml, hown, hts, hK, hA⟩ := id hC
  unfold m_rbegin_J91 at Heq
  obtain ⟨o_1, h_2, Heq⟩ := ob_some Heq
  have hFc := fr_all hD hS hA
  refine va_callv (va_runV (As := [.int t0]) (rest := []) ⟨hx, hb, hml, hown, hts⟩ (g_rwrite l D H.size h_2) (cw_v 1 hts kw_1918 kw_1915 kw_1917 kp_76 kw_11 rfl rfl (by decide +kernel) ⟨Nat.le_of_ble_eq_true rfl, Nat.le_of_ble_eq_true rfl⟩) ⟨g_blind, va_recv hK hP (ci := 12) (q0 := 0) rfl rfl, fun U hU hW => g_pre hU hW hP hK hD⟩ rfl rfl hl.1 rfl (lv_room (Nat.le_of_ble_eq_true rfl)) d_rbegin_91 ⟨Nat.le_of_ble_eq_true rfl, Nat.le_of_ble_eq_true rfl⟩) hS (fun q _ h => hFc q h) hFc (fun u t H1 locs ht hvm hw hB hz1 hk1 hS => ?_)
  obtain ⟨hP, -, hD1⟩ := hB
  rw [ht] at hP
  have hD := hD1.weaken (fun _ q _ h => hFc q.1 h)
  generalize H1 = H at hP hS ⊢
  refine W.cs (cells' := 0) (slots' := 0) rfl rfl ?_
  refine lv_aload_n hx hb d_rbegin_94 rfl (lv_at hl 0 rfl) ?_
  refine va_get (D := D) (ci := 12) (v := .int (o_1.i 73)) (C := R_MM) (T := F_MM) (N := 77) hx hb hts i_MM hown hK hP 0 rfl rfl 73 (by decide) (hts _ kw_1455) (fun _ h9 => h9) rfl d_rbegin_95 ?_
  refine lv_istore (lv' := [(4, .int (o_1.i 73)), (0, .ref (md 100)), (1, .int x1), (2, .int x2), (3, .int x3)]) hx hb d_rbegin_98 hl (by decide) rfl (fun ls hl => ?_)
  refine lv_iload_n hx hb d_rbegin_100 rfl (lv_at hl 4 rfl) ?_
  refine lv_bipush (v := 7) hx hb d_rbegin_101 (by decide) ?_
  refine lv_icmp_ne (tgt := 112) hx hb d_rbegin_103 (by decide) (fun c_3 => ?_) (fun c_3 => ?_)
  · replace Heq := (if_neg c_3).symm.trans Heq
    exact w_rbegin_J112 hC Heq Kr _ _ _ hP hD hS (lv_sub hl [1, 2, 3, 4] rfl)
  · replace Heq := (if_pos c_3).symm.trans Heq
    refine lv_aload_n hx hb d_rbegin_106 rfl (lv_at hl 1 rfl) ?_
    refine lv_bipush (v := (-2)) hx hb d_rbegin_107 (by decide) ?_
    obtain ⟨o_4, h_5, Heq⟩ := ob_some Heq
    have hFc := fr_all hD hS hA
    refine va_callv (va_runV (As := [.int (-2)]) (rest := []) ⟨hx, hb, hml, hown, hts⟩ (g_rpush l D H.size h_5) (cw_v 1 hts kw_1922 kw_1919 kw_1921 kp_77 kw_11 rfl rfl (by decide +kernel) ⟨Nat.le_of_ble_eq_true rfl, Nat.le_of_ble_eq_true rfl⟩) ⟨g_blind, va_recv hK hP (ci := 12) (q0 := 0) rfl rfl, fun U hU hW => g_pre hU hW hP hK hD⟩ rfl rfl hl.1 rfl (lv_room (Nat.le_of_ble_eq_true rfl)) d_rbegin_109 ⟨Nat.le_of_ble_eq_true rfl, Nat.le_of_ble_eq_true rfl⟩) hS (fun q _ h => hFc q h) hFc (fun u t H1 locs ht hvm hw hB hz1 hk1 hS => ?_)
    obtain ⟨hP, -, hD1⟩ := hB
    rw [ht] at hP
    have hD := hD1.weaken (fun _ q _ h => hFc q.1 h)
    generalize H1 = H at hP hS ⊢
    refine W.cs (cells' := 0) (slots' := 0) rfl rfl ?_
    exact w_rbegin_J112 hC Heq Kr _ _ _ hP hD hS (lv_sub hl [1, 2, 3, 4] rfl)
def m_rbegin_J58 (S : MS) (x4 : Int32) : Option ((MS × Int32) ⊕ MS) := some (.inl (S, (x4 + (-1))))
theorem d_rbegin_84 : decode prog_14_method_80_code 84 = .ok (.bipush 91, 2) := by decide +kernel
theorem d_rbegin_86 : decode prog_14_method_80_code 86 = .ok (.goto 5, 3) := by decide +kernel
theorem d_rbegin_6 : decode prog_14_method_80_code 6 = .ok (.aload_n 0, 1) := by decide +kernel
theorem d_rbegin_7 : decode prog_14_method_80_code 7 = .ok (.bipush 123, 2) := by decide +kernel
theorem d_rbegin_9 : decode prog_14_method_80_code 9 = .ok (.invokevirtual 436, 3) := by decide +kernel
theorem d_rbegin_12 : decode prog_14_method_80_code 12 = .ok (.aload_n 0, 1) := by decide +kernel
theorem d_rbegin_13 : decode prog_14_method_80_code 13 = .ok (.iload_n 1, 1) := by decide +kernel
theorem d_rbegin_14 : decode prog_14_method_80_code 14 = .ok (.iload_n 2, 1) := by decide +kernel
theorem d_rbegin_15 : decode prog_14_method_80_code 15 = .ok (.invokevirtual 417, 3) := by decide +kernel
theorem d_rbegin_18 : decode prog_14_method_80_code 18 = .ok (.aload_n 0, 1) := by decide +kernel
theorem d_rbegin_19 : decode prog_14_method_80_code 19 = .ok (.iconst (-1), 1) := by decide +kernel
theorem d_rbegin_20 : decode prog_14_method_80_code 20 = .ok (.invokevirtual 450, 3) := by decide +kernel
theorem d_rbegin_23 : decode prog_14_method_80_code 23 = .ok (.aload_n 0, 1) := by decide +kernel
theorem d_rbegin_24 : decode prog_14_method_80_code 24 = .ok (.getfield 411, 3) := by decide +kernel
theorem d_rbegin_27 : decode prog_14_method_80_code 27 = .ok (.iconst 1, 1) := by decide +kernel
theorem d_rbegin_28 : decode prog_14_method_80_code 28 = .ok (.isub, 1) := by decide +kernel
theorem d_rbegin_29 : decode prog_14_method_80_code 29 = .ok (.istore 4, 2) := by decide +kernel
theorem d_rbegin_31 : decode prog_14_method_80_code 31 = .ok (.iload 4, 2) := by decide +kernel
theorem d_rbegin_33 : decode prog_14_method_80_code 33 = .ok (.ifCond .lt 31, 3) := by decide +kernel
theorem d_rbegin_36 : decode prog_14_method_80_code 36 = .ok (.aload_n 0, 1) := by decide +kernel
theorem d_rbegin_37 : decode prog_14_method_80_code 37 = .ok (.aload_n 0, 1) := by decide +kernel
theorem d_rbegin_38 : decode prog_14_method_80_code 38 = .ok (.getfield 166, 3) := by decide +kernel
theorem d_rbegin_41 : decode prog_14_method_80_code 41 = .ok (.iload 4, 2) := by decide +kernel
theorem d_rbegin_43 : decode prog_14_method_80_code 43 = .ok (.iaload, 1) := by decide +kernel
theorem d_rbegin_44 : decode prog_14_method_80_code 44 = .ok (.invokevirtual 450, 3) := by decide +kernel
theorem d_rbegin_47 : decode prog_14_method_80_code 47 = .ok (.iload 4, 2) := by decide +kernel
theorem d_rbegin_49 : decode prog_14_method_80_code 49 = .ok (.ifCond .le 9, 3) := by decide +kernel
theorem d_rbegin_58 : decode prog_14_method_80_code 58 = .ok (.iinc 4 (-1), 3) := by decide +kernel
theorem d_rbegin_61 : decode prog_14_method_80_code 61 = .ok (.goto (-30), 3) := by decide +kernel
set_option maxHeartbeats 4000000 in
set_option maxRecDepth 100000 in
theorem w_rbegin_J58 {p : Program} {l : Launch} {e : Env} {s : State} {m : MethodId} {args : Array Value} {below : List Frame} {meth : Method} {c : Code} {A : Nat → Prop} {D : va_G} {md : Nat → Nat} {mc : Nat → ClassId} {Q : State → Prop} (hC : MCx "JoinedTreesModel" prog_14_method_80_code 9 none p s m args meth c A D mc) {S : MS} {x4 : Int32} {o : ((MS × Int32) ⊕ MS)} (Heq : m_rbegin_J58 S x4 = some o) (Ka : ∀ b : MS × Int32, o = .inl b → ∀ (H : Heap) (locs : List Loc) (ls : Array Slot), va_P D cls (mw md mc b.1) H → va_D A (mw md mc b.1) → va_S A s.heap H locs → lv_has ls 9 [(0, .ref (md 100)), (4, .int b.2)] → W p l e ({ frames := 3, cells := 0, slots := 0, locals := 71 }) s m args below meth c H locs 0 0 Q (F0 m 31 ls [])) (K0 : ∀ b : MS, o = .inr b → ∀ (H : Heap) (locs : List Loc) (ls : Array Slot), va_P D cls (mw md mc b) H → va_D A (mw md mc b) → va_S A s.heap H locs → lv_has ls 9 [(0, .ref (md 100))] → W p l e ({ frames := 3, cells := 0, slots := 0, locals := 71 }) s m args below meth c H locs 0 0 Q (F0 m 64 ls [])) : ∀ (H : Heap) (locs : List Loc) (ls : Array Slot), va_P D cls (mw md mc S) H → va_D A (mw md mc S) → va_S A s.heap H locs → lv_has ls 9 [(0, .ref (md 100)), (4, .int x4)] → W p l e ({ frames := 3, cells := 0, slots := 0, locals := 71 }) s m args below meth c H locs 0 0 Q (F0 m 58 ls []) := by
  intro H locs ls hP hD hS hl
  obtain ⟨hx, hb, hr, hml, hown, hts, hK, hA⟩ := id hC
  unfold m_rbegin_J58 at Heq
  refine lv_iinc (v := x4 + (-1)) (lv' := [(4, .int (x4 + (-1))), (0, .ref (md 100))]) hx hb d_rbegin_58 hl (k := 1) rfl rfl (by decide) rfl (fun ls hl => ?_)
  refine lv_goto (tgt := 31) hx hb d_rbegin_61 (by decide) ?_
  exact Ka _ (Option.some.inj Heq).symm _ _ _ hP hD hS (lv_sub hl [1, 0] rfl)
def m_rbegin_B31 (S : MS) (x4 : Int32) : Option ((MS × Int32) ⊕ MS) := (if x4 < 0 then some (.inr (S)) else gd x4 4000 (ob (m_rpush S (S.a 70 x4.toNatClampNeg)) (fun o_3 => (if x4 ≤ 0 then m_rbegin_J58 o_3 x4 else ob (m_rpush o_3 (-3)) (fun o_6 => m_rbegin_J58 o_6 x4)))))
theorem d_rbegin_52 : decode prog_14_method_80_code 52 = .ok (.aload_n 0, 1) := by decide +kernel
theorem d_rbegin_53 : decode prog_14_method_80_code 53 = .ok (.bipush (-3), 2) := by decide +kernel
theorem d_rbegin_55 : decode prog_14_method_80_code 55 = .ok (.invokevirtual 450, 3) := by decide +kernel
set_option maxHeartbeats 4000000 in
set_option maxRecDepth 100000 in
theorem w_rbegin_B31 {p : Program} {l : Launch} {e : Env} {s : State} {m : MethodId} {args : Array Value} {below : List Frame} {meth : Method} {c : Code} {A : Nat → Prop} {D : va_G} {md : Nat → Nat} {mc : Nat → ClassId} {Q : State → Prop} (hC : MCx "JoinedTreesModel" prog_14_method_80_code 9 none p s m args meth c A D mc) {S : MS} {x4 : Int32} {o : ((MS × Int32) ⊕ MS)} (Heq : m_rbegin_B31 S x4 = some o) (Ka : ∀ b : MS × Int32, o = .inl b → ∀ (H : Heap) (locs : List Loc) (ls : Array Slot), va_P D cls (mw md mc b.1) H → va_D A (mw md mc b.1) → va_S A s.heap H locs → lv_has ls 9 [(0, .ref (md 100)), (4, .int b.2)] → W p l e ({ frames := 3, cells := 0, slots := 0, locals := 71 }) s m args below meth c H locs 0 0 Q (F0 m 31 ls [])) (K0 : ∀ b : MS, o = .inr b → ∀ (H : Heap) (locs : List Loc) (ls : Array Slot), va_P D cls (mw md mc b) H → va_D A (mw md mc b) → va_S A s.heap H locs → lv_has ls 9 [(0, .ref (md 100))] → W p l e ({ frames := 3, cells := 0, slots := 0, locals := 71 }) s m args below meth c H locs 0 0 Q (F0 m 64 ls [])) : ∀ (H : Heap) (locs : List Loc) (ls : Array Slot), va_P D cls (mw md mc S) H → va_D A (mw md mc S) → va_S A s.heap H locs → lv_has ls 9 [(0, .ref (md 100)), (4, .int x4)] → W p l e ({ frames := 3, cells := 0, slots := 0, locals := 71 }) s m args below meth c H locs 0 0 Q (F0 m 31 ls []) := by
  intro H locs ls hP hD hS hl
  obtain ⟨hx, hb, hr, hml, hown, hts, hK, hA⟩ := id hC
  unfold m_rbegin_B31 at Heq
  refine lv_iload hx hb d_rbegin_31 (lv_at hl 1 rfl) ?_
  refine lv_if_lt (tgt := 64) hx hb d_rbegin_33 (by decide) (fun c_1 => ?_) (fun c_1 => ?_)
  · replace Heq := (if_pos c_1).symm.trans Heq
    exact K0 _ (Option.some.inj Heq).symm _ _ _ hP hD hS (lv_sub hl [0] rfl)
  · replace Heq := (if_neg c_1).symm.trans Heq
    refine lv_aload_n hx hb d_rbegin_36 rfl (lv_at hl 0 rfl) ?_
    refine lv_aload_n hx hb d_rbegin_37 rfl (lv_at hl 0 rfl) ?_
    refine va_get (D := D) (ci := 12) (v := .ref (md 70)) (C := R_MM) (T := F_MM) (N := 77) hx hb hts i_MM hown hK hP 0 rfl rfl 70 (by decide) (hts _ kw_1452) (fun _ h9 => h9) rfl d_rbegin_38 ?_
    refine lv_iload hx hb d_rbegin_41 (lv_at hl 1 rfl) ?_
    obtain ⟨hi_2, Heq⟩ := gd_some Heq
    refine va_iald hx hb hK hP 46 0 rfl rfl (i := x4) hi_2 d_rbegin_43 ?_
    refine w_i (y := S.a 70 x4.toNatClampNeg) rfl ?_
    obtain ⟨o_3, h_4, Heq⟩ := ob_some Heq
    have hFc := fr_all hD hS hA
    refine va_callv (va_runV (As := [.int (S.a 70 x4.toNatClampNeg)]) (rest := []) ⟨hx, hb, hml, hown, hts⟩ (g_rpush l D H.size h_4) (cw_v 1 hts kw_1922 kw_1919 kw_1921 kp_77 kw_11 rfl rfl (by decide +kernel) ⟨Nat.le_of_ble_eq_true rfl, Nat.le_of_ble_eq_true rfl⟩) ⟨g_blind, va_recv hK hP (ci := 12) (q0 := 0) rfl rfl, fun U hU hW => g_pre hU hW hP hK hD⟩ rfl rfl hl.1 rfl (lv_room (Nat.le_of_ble_eq_true rfl)) d_rbegin_44 ⟨Nat.le_of_ble_eq_true rfl, Nat.le_of_ble_eq_true rfl⟩) hS (fun q _ h => hFc q h) hFc (fun u t H1 locs ht hvm hw hB hz1 hk1 hS => ?_)
    obtain ⟨hP, -, hD1⟩ := hB
    rw [ht] at hP
    have hD := hD1.weaken (fun _ q _ h => hFc q.1 h)
    generalize H1 = H at hP hS ⊢
    refine W.cs (cells' := 0) (slots' := 0) rfl rfl ?_
    refine lv_iload hx hb d_rbegin_47 (lv_at hl 1 rfl) ?_
    refine lv_if_le (tgt := 58) hx hb d_rbegin_49 (by decide) (fun c_5 => ?_) (fun c_5 => ?_)
    · replace Heq := (if_pos c_5).symm.trans Heq
      exact w_rbegin_J58 hC Heq Ka K0 _ _ _ hP hD hS (lv_sub hl [0, 1] rfl)
    · replace Heq := (if_neg c_5).symm.trans Heq
      refine lv_aload_n hx hb d_rbegin_52 rfl (lv_at hl 0 rfl) ?_
      refine lv_bipush (v := (-3)) hx hb d_rbegin_53 (by decide) ?_
      obtain ⟨o_6, h_7, Heq⟩ := ob_some Heq
      have hFc := fr_all hD hS hA
      refine va_callv (va_runV (As := [.int (-3)]) (rest := []) ⟨hx, hb, hml, hown, hts⟩ (g_rpush l D H.size h_7) (cw_v 1 hts kw_1922 kw_1919 kw_1921 kp_77 kw_11 rfl rfl (by decide +kernel) ⟨Nat.le_of_ble_eq_true rfl, Nat.le_of_ble_eq_true rfl⟩) ⟨g_blind, va_recv hK hP (ci := 12) (q0 := 0) rfl rfl, fun U hU hW => g_pre hU hW hP hK hD⟩ rfl rfl hl.1 rfl (lv_room (Nat.le_of_ble_eq_true rfl)) d_rbegin_55 ⟨Nat.le_of_ble_eq_true rfl, Nat.le_of_ble_eq_true rfl⟩) hS (fun q _ h => hFc q h) hFc (fun u t H1 locs ht hvm hw hB hz1 hk1 hS => ?_)
      obtain ⟨hP, -, hD1⟩ := hB
      rw [ht] at hP
      have hD := hD1.weaken (fun _ q _ h => hFc q.1 h)
      generalize H1 = H at hP hS ⊢
      refine W.cs (cells' := 0) (slots' := 0) rfl rfl ?_
      exact w_rbegin_J58 hC Heq Ka K0 _ _ _ hP hD hS (lv_sub hl [0, 1] rfl)
def m_rbegin_L31 (S : MS) (x4 : Int32) : Option MS := lp (fun a : MS × Int32 => m_rbegin_B31 a.1 a.2) FU (S, x4)
theorem w_rbegin_L31 {p : Program} {l : Launch} {e : Env} {s : State} {m : MethodId} {args : Array Value} {below : List Frame} {meth : Method} {c : Code} {A : Nat → Prop} {D : va_G} {md : Nat → Nat} {mc : Nat → ClassId} {Q : State → Prop} (hC : MCx "JoinedTreesModel" prog_14_method_80_code 9 none p s m args meth c A D mc) {S : MS} {x4 : Int32} {o : MS} (Heq : m_rbegin_L31 S x4 = some o) (K0 : ∀ b : MS, o = b → ∀ (H : Heap) (locs : List Loc) (ls : Array Slot), va_P D cls (mw md mc b) H → va_D A (mw md mc b) → va_S A s.heap H locs → lv_has ls 9 [(0, .ref (md 100))] → W p l e ({ frames := 3, cells := 0, slots := 0, locals := 71 }) s m args below meth c H locs 0 0 Q (F0 m 64 ls [])) : ∀ (H : Heap) (locs : List Loc) (ls : Array Slot), va_P D cls (mw md mc S) H → va_D A (mw md mc S) → va_S A s.heap H locs → lv_has ls 9 [(0, .ref (md 100)), (4, .int x4)] → W p l e ({ frames := 3, cells := 0, slots := 0, locals := 71 }) s m args below meth c H locs 0 0 Q (F0 m 31 ls []) := by
  refine lp_w (G := fun a : MS × Int32 => ∀ (H : Heap) (locs : List Loc) (ls : Array Slot), va_P D cls (mw md mc a.1) H → va_D A (mw md mc a.1) → va_S A s.heap H locs → lv_has ls 9 [(0, .ref (md 100)), (4, .int a.2)] → W p l e ({ frames := 3, cells := 0, slots := 0, locals := 71 }) s m args below meth c H locs 0 0 Q (F0 m 31 ls [])) ?_ FU (S, x4) Heq
  intro a o1 ho Ka Ke
  exact w_rbegin_B31 hC ho (fun b h => Ka b h) (fun b h => K0 b (Ke _ h).symm)
def m_rbegin_J0 (S : MS) (x1 : Int32) (x2 : Int32) (x3 : Int32) : Option MS := (if x3 = 6 then ob (m_rwrite S 123) (fun o_7 => ob (m_rkeysOf o_7 x1 x2) (fun o_9 => ob (m_rpush o_9 (-1)) (fun o_11 => ob (m_rbegin_L31 o_11 ((o_11.i 71) - 1)) (fun b_13 => some b_13)))) else ob (m_rlist S x1 x2) (fun o_2 => ob (m_rmark o_2 x1 x2) (fun o_4 => (if x3 = 7 then m_rbegin_J91 o_4 x1 x2 x3 91 else m_rbegin_J91 o_4 x1 x2 x3 34))))
theorem d_rbegin_64 : decode prog_14_method_80_code 64 = .ok (.return_, 1) := by decide +kernel
set_option maxHeartbeats 4000000 in
set_option maxRecDepth 100000 in
theorem w_rbegin_J0 {p : Program} {l : Launch} {e : Env} {s : State} {m : MethodId} {args : Array Value} {below : List Frame} {meth : Method} {c : Code} {A : Nat → Prop} {D : va_G} {md : Nat → Nat} {mc : Nat → ClassId} {Q : State → Prop} (hC : MCx "JoinedTreesModel" prog_14_method_80_code 9 none p s m args meth c A D mc) {S : MS} {x1 : Int32} {x2 : Int32} {x3 : Int32} {o : MS} (Heq : m_rbegin_J0 S x1 x2 x3 = some o) (Kr : ∀ r : MS, o = r → ∀ (pc : Nat) (H : Heap) (locs : List Loc) (ls : Array Slot), decode prog_14_method_80_code pc = .ok (.return_, 1) → va_P D cls (mw md mc r) H → va_D A (mw md mc r) → va_S A s.heap H locs → W p l e ({ frames := 3, cells := 0, slots := 0, locals := 71 }) s m args below meth c H locs 0 0 Q (F0 m pc ls [])) : ∀ (H : Heap) (locs : List Loc) (ls : Array Slot), va_P D cls (mw md mc S) H → va_D A (mw md mc S) → va_S A s.heap H locs → lv_has ls 9 [(0, .ref (md 100)), (1, .int x1), (2, .int x2), (3, .int x3)] → W p l e ({ frames := 3, cells := 0, slots := 0, locals := 71 }) s m args below meth c H locs 0 0 Q (F0 m 0 ls []) := by
  intro H locs ls hP hD hS hl
  obtain ⟨hx, hb, hr, hml, hown, hts, hK, hA⟩ := id hC
  unfold m_rbegin_J0 at Heq
  refine lv_iload_n hx hb d_rbegin_0 rfl (lv_at hl 3 rfl) ?_
  refine lv_bipush (v := 6) hx hb d_rbegin_1 (by decide) ?_
  refine lv_icmp_ne (tgt := 65) hx hb d_rbegin_3 (by decide) (fun c_1 => ?_) (fun c_1 => ?_)
  · replace Heq := (if_neg c_1).symm.trans Heq
    refine lv_aload_n hx hb d_rbegin_65 rfl (lv_at hl 0 rfl) ?_
    refine lv_iload_n hx hb d_rbegin_66 rfl (lv_at hl 1 rfl) ?_
    refine lv_iload_n hx hb d_rbegin_67 rfl (lv_at hl 2 rfl) ?_
    obtain ⟨o_2, h_3, Heq⟩ := ob_some Heq
    have hFc := fr_all hD hS hA
    refine va_callv (va_runV (As := [.int x1, .int x2]) (rest := []) ⟨hx, hb, hml, hown, hts⟩ (g_rlist l D H.size h_3) (cw_v 2 hts kw_1717 kw_1714 kw_1716 kp_47 kw_11 rfl rfl (by decide +kernel) ⟨Nat.le_of_ble_eq_true rfl, Nat.le_of_ble_eq_true rfl⟩) ⟨g_blind, va_recv hK hP (ci := 12) (q0 := 0) rfl rfl, fun U hU hW => g_pre hU hW hP hK hD⟩ rfl rfl hl.1 rfl (lv_room (Nat.le_of_ble_eq_true rfl)) d_rbegin_68 ⟨Nat.le_of_ble_eq_true rfl, Nat.le_of_ble_eq_true rfl⟩) hS (fun q _ h => hFc q h) hFc (fun u t H1 locs ht hvm hw hB hz1 hk1 hS => ?_)
    obtain ⟨hP, -, hD1⟩ := hB
    rw [ht] at hP
    have hD := hD1.weaken (fun _ q _ h => hFc q.1 h)
    generalize H1 = H at hP hS ⊢
    refine W.cs (cells' := 0) (slots' := 0) rfl rfl ?_
    refine lv_aload_n hx hb d_rbegin_71 rfl (lv_at hl 0 rfl) ?_
    refine lv_iload_n hx hb d_rbegin_72 rfl (lv_at hl 1 rfl) ?_
    refine lv_iload_n hx hb d_rbegin_73 rfl (lv_at hl 2 rfl) ?_
    obtain ⟨o_4, h_5, Heq⟩ := ob_some Heq
    have hFc := fr_all hD hS hA
    refine va_callv (va_runV (As := [.int x1, .int x2]) (rest := []) ⟨hx, hb, hml, hown, hts⟩ (g_rmark l D H.size h_5) (cw_v 2 hts kw_1721 kw_1718 kw_1720 kp_48 kw_11 rfl rfl (by decide +kernel) ⟨Nat.le_of_ble_eq_true rfl, Nat.le_of_ble_eq_true rfl⟩) ⟨g_blind, va_recv hK hP (ci := 12) (q0 := 0) rfl rfl, fun U hU hW => g_pre hU hW hP hK hD⟩ rfl rfl hl.1 rfl (lv_room (Nat.le_of_ble_eq_true rfl)) d_rbegin_74 ⟨Nat.le_of_ble_eq_true rfl, Nat.le_of_ble_eq_true rfl⟩) hS (fun q _ h => hFc q h) hFc (fun u t H1 locs ht hvm hw hB hz1 hk1 hS => ?_)
    obtain ⟨hP, -, hD1⟩ := hB
    rw [ht] at hP
    have hD := hD1.weaken (fun _ q _ h => hFc q.1 h)
    generalize H1 = H at hP hS ⊢
    refine W.cs (cells' := 0) (slots' := 0) rfl rfl ?_
    refine lv_aload_n hx hb d_rbegin_77 rfl (lv_at hl 0 rfl) ?_
    refine lv_iload_n hx hb d_rbegin_78 rfl (lv_at hl 3 rfl) ?_
    refine lv_bipush (v := 7) hx hb d_rbegin_79 (by decide) ?_
    refine lv_icmp_ne (tgt := 89) hx hb d_rbegin_81 (by decide) (fun c_6 => ?_) (fun c_6 => ?_)
    · replace Heq := (if_neg c_6).symm.trans Heq
      refine lv_bipush (v := 34) hx hb d_rbegin_89 (by decide) ?_
      exact w_rbegin_J91 hC Heq Kr _ _ _ hP hD hS (lv_sub hl [0, 1, 2, 3] rfl)
    · replace Heq := (if_pos c_6).symm.trans Heq
      refine lv_bipush (v := 91) hx hb d_rbegin_84 (by decide) ?_
      refine lv_goto (tgt := 91) hx hb d_rbegin_86 (by decide) ?_
      exact w_rbegin_J91 hC Heq Kr _ _ _ hP hD hS (lv_sub hl [0, 1, 2, 3] rfl)
  · replace Heq := (if_pos c_1).symm.trans Heq
    refine lv_aload_n hx hb d_rbegin_6 rfl (lv_at hl 0 rfl) ?_
    refine lv_bipush (v := 123) hx hb d_rbegin_7 (by decide) ?_
    obtain ⟨o_7, h_8, Heq⟩ := ob_some Heq
    have hFc := fr_all hD hS hA
    refine va_callv (va_runV (As := [.int 123]) (rest := []) ⟨hx, hb, hml, hown, hts⟩ (g_rwrite l D H.size h_8) (cw_v 1 hts kw_1918 kw_1915 kw_1917 kp_76 kw_11 rfl rfl (by decide +kernel) ⟨Nat.le_of_ble_eq_true rfl, Nat.le_of_ble_eq_true rfl⟩) ⟨g_blind, va_recv hK hP (ci := 12) (q0 := 0) rfl rfl, fun U hU hW => g_pre hU hW hP hK hD⟩ rfl rfl hl.1 rfl (lv_room (Nat.le_of_ble_eq_true rfl)) d_rbegin_9 ⟨Nat.le_of_ble_eq_true rfl, Nat.le_of_ble_eq_true rfl⟩) hS (fun q _ h => hFc q h) hFc (fun u t H1 locs ht hvm hw hB hz1 hk1 hS => ?_)
    obtain ⟨hP, -, hD1⟩ := hB
    rw [ht] at hP
    have hD := hD1.weaken (fun _ q _ h => hFc q.1 h)
    generalize H1 = H at hP hS ⊢
    refine W.cs (cells' := 0) (slots' := 0) rfl rfl ?_
    refine lv_aload_n hx hb d_rbegin_12 rfl (lv_at hl 0 rfl) ?_
    refine lv_iload_n hx hb d_rbegin_13 rfl (lv_at hl 1 rfl) ?_
    refine lv_iload_n hx hb d_rbegin_14 rfl (lv_at hl 2 rfl) ?_
    obtain ⟨o_9, h_10, Heq⟩ := ob_some Heq
    have hFc := fr_all hD hS hA
    refine va_callv (va_runV (As := [.int x1, .int x2]) (rest := []) ⟨hx, hb, hml, hown, hts⟩ (g_rkeysOf l D H.size h_10) (cw_v 2 hts kw_1863 kw_1860 kw_1862 kp_70 kw_11 rfl rfl (by decide +kernel) ⟨Nat.le_of_ble_eq_true rfl, Nat.le_of_ble_eq_true rfl⟩) ⟨g_blind, va_recv hK hP (ci := 12) (q0 := 0) rfl rfl, fun U hU hW => g_pre hU hW hP hK hD⟩ rfl rfl hl.1 rfl (lv_room (Nat.le_of_ble_eq_true rfl)) d_rbegin_15 ⟨Nat.le_of_ble_eq_true rfl, Nat.le_of_ble_eq_true rfl⟩) hS (fun q _ h => hFc q h) hFc (fun u t H1 locs ht hvm hw hB hz1 hk1 hS => ?_)
    obtain ⟨hP, -, hD1⟩ := hB
    rw [ht] at hP
    have hD := hD1.weaken (fun _ q _ h => hFc q.1 h)
    generalize H1 = H at hP hS ⊢
    refine W.cs (cells' := 0) (slots' := 0) rfl rfl ?_
    refine lv_aload_n hx hb d_rbegin_18 rfl (lv_at hl 0 rfl) ?_
    refine lv_iconst (v := (-1)) hx hb d_rbegin_19 (by decide) ?_
    obtain ⟨o_11, h_12, Heq⟩ := ob_some Heq
    have hFc := fr_all hD hS hA
    refine va_callv (va_runV (As := [.int (-1)]) (rest := []) ⟨hx, hb, hml, hown, hts⟩ (g_rpush l D H.size h_12) (cw_v 1 hts kw_1922 kw_1919 kw_1921 kp_77 kw_11 rfl rfl (by decide +kernel) ⟨Nat.le_of_ble_eq_true rfl, Nat.le_of_ble_eq_true rfl⟩) ⟨g_blind, va_recv hK hP (ci := 12) (q0 := 0) rfl rfl, fun U hU hW => g_pre hU hW hP hK hD⟩ rfl rfl hl.1 rfl (lv_room (Nat.le_of_ble_eq_true rfl)) d_rbegin_20 ⟨Nat.le_of_ble_eq_true rfl, Nat.le_of_ble_eq_true rfl⟩) hS (fun q _ h => hFc q h) hFc (fun u t H1 locs ht hvm hw hB hz1 hk1 hS => ?_)
    obtain ⟨hP, -, hD1⟩ := hB
    rw [ht] at hP
    have hD := hD1.weaken (fun _ q _ h => hFc q.1 h)
    generalize H1 = H at hP hS ⊢
    refine W.cs (cells' := 0) (slots' := 0) rfl rfl ?_
    refine lv_aload_n hx hb d_rbegin_23 rfl (lv_at hl 0 rfl) ?_
    refine va_get (D := D) (ci := 12) (v := .int (o_11.i 71)) (C := R_MM) (T := F_MM) (N := 77) hx hb hts i_MM hown hK hP 0 rfl rfl 71 (by decide) (hts _ kw_1453) (fun _ h9 => h9) rfl d_rbegin_24 ?_
    refine lv_iconst (v := 1) hx hb d_rbegin_27 (by decide) ?_
    refine lv_isub hx hb d_rbegin_28 ?_
    refine w_i (y := (o_11.i 71) - 1) rfl ?_
    refine lv_istore (lv' := [(4, .int ((o_11.i 71) - 1)), (0, .ref (md 100)), (1, .int x1), (2, .int x2), (3, .int x3)]) hx hb d_rbegin_29 hl (by decide) rfl (fun ls hl => ?_)
    obtain ⟨b_13, h_14, Heq⟩ := ob_some Heq
    refine w_rbegin_L31 hC h_14 (fun b h => ?_) _ _ _ hP hD hS (lv_sub hl [1, 0] rfl)
    subst h
    intro H locs ls hP hD hS hl
    exact Kr _ (Option.some.inj Heq).symm 64 _ _ _ d_rbegin_64 hP hD hS
def m_rbegin (S : MS) (x1 : Int32) (x2 : Int32) (x3 : Int32) : Option MS := m_rbegin_J0 S x1 x2 x3
theorem g_rbegin (l : Launch) (D : va_G) (sz : Nat) {md : Nat → Nat} {mc : Nat → ClassId} {S : MS} {x1 : Int32} {x2 : Int32} {x3 : Int32} {o : MS} (Heq : m_rbegin S x1 x2 x3 = some o) : Met l ⟨"JoinedTreesModel", "begin", "(III)V"⟩ (Cond.code ⟨"JoinedTreesModel", "begin", "(III)V"⟩ prog_14_method_80_code 9 none :: gb) ({ frames := 3, cells := 0, slots := 0, locals := 71 }) (gPc D (mw md mc S) (mty mc) sz [.ref (md 100), .int x1, .int x2, .int x3]) (va_Qv (fun _ : Unit => True) (fun _ t => gO D (mw md mc o) (mty mc) (va_A (mw md mc S) sz) t) (va_A (mw md mc S) sz)) 0 0 (va_A (mw md mc S) sz) := by
  refine Met.ofW (cc := prog_14_method_80_code) (maxL := 9) (ret := none) (by decide) rfl ?_
  intro p e s m args below meth c s₁ B hml hv
  obtain ⟨rfl, hsz, hP, hK, hD0⟩ := hv
  have hx := B.exec
  have hb := B.bytes
  have hr := B.returns
  have hts : ∀ w9 ∈ gb, w9.before [.ref (md 100), .int x1, .int x2, .int x3].toArray s = true := fun w9 h => atoms_spec (ws := Cond.code ⟨"JoinedTreesModel", "begin", "(III)V"⟩ prog_14_method_80_code 9 none :: gb) B.pre w9 (List.mem_cons_of_mem _ h)
  have hown : s.vm.findClass "JoinedTreesModel" = some m.cls := findClass_of_methodNamed B.named
  have hlocks := B.notSynchronized
  subst hsz
  have hD := hD0.self (sz := s.heap.size)
  generalize hAe : va_A (mw md mc S) s.heap.size = A at hD ⊢
  have hA : ∀ q : Nat, s.heap.size ≤ q → A q := fun q h => by rw [← hAe]; exact Or.inr h
  have hS : va_S A s.heap s.heap [] := va_S.rf
  have hl := lv_entry ([.ref (md 100), .int x1, .int x2, .int x3]) (n := 9) (Nat.le_of_ble_eq_true rfl)
  rw [lg_entry_eq]
  generalize (lg_sl ([.ref (md 100), .int x1, .int x2, .int x3]) ++ List.replicate (9 - (lg_sl ([.ref (md 100), .int x1, .int x2, .int x3])).length) Slot.unset).toArray = ls at hl ⊢
  have hl : lv_has ls 9 [(0, .ref (md 100)), (1, .int x1), (2, .int x2), (3, .int x3)] := hl
  refine w_rbegin_J0 ⟨hx, hb, hr, hml, hown, hts, hK, hA⟩ Heq (fun r h pc H locs ls hd hP hD hS => ?_) _ _ _ hP hD hS (lv_sub hl [0, 1, 2, 3] rfl)
  subst h
  exact W.vret hx hb hr (fun t ht hW => ⟨⟨(), rfl, trivial, by rw [ht]; exact hP, va_K.moved hW.alike hK, hD⟩, hS.F ht⟩) hS.2.2 hd
