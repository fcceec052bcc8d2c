def m_rcounter_J94 (S : MS) (x1 : Int32) (x2 : Int32) (x3 : Int64) (x5 : Int32) : Option ((MS × Int32 × Int32 × Int64 × Int32) ⊕ (MS × Int64)) := some (.inl (S, x1, x2, x3, (x5 + 1)))
theorem d_rcounter_0 : decode prog_14_method_21_code 0 = .ok (.aload_n 0, 1) := by decide +kernel
theorem d_rcounter_1 : decode prog_14_method_21_code 1 = .ok (.getfield 63, 3) := by decide +kernel
theorem d_rcounter_4 : decode prog_14_method_21_code 4 = .ok (.iload_n 2, 1) := by decide +kernel
theorem d_rcounter_5 : decode prog_14_method_21_code 5 = .ok (.laload, 1) := by decide +kernel
theorem d_rcounter_6 : decode prog_14_method_21_code 6 = .ok (.lstore_n 3, 1) := by decide +kernel
theorem d_rcounter_7 : decode prog_14_method_21_code 7 = .ok (.iconst 0, 1) := by decide +kernel
theorem d_rcounter_8 : decode prog_14_method_21_code 8 = .ok (.istore 5, 2) := by decide +kernel
theorem d_rcounter_10 : decode prog_14_method_21_code 10 = .ok (.iload 5, 2) := by decide +kernel
theorem d_rcounter_12 : decode prog_14_method_21_code 12 = .ok (.aload_n 0, 1) := by decide +kernel
theorem d_rcounter_13 : decode prog_14_method_21_code 13 = .ok (.getfield 195, 3) := by decide +kernel
theorem d_rcounter_16 : decode prog_14_method_21_code 16 = .ok (.if_icmp .ge 84, 3) := by decide +kernel
theorem d_rcounter_19 : decode prog_14_method_21_code 19 = .ok (.aload_n 0, 1) := by decide +kernel
theorem d_rcounter_20 : decode prog_14_method_21_code 20 = .ok (.iload_n 1, 1) := by decide +kernel
theorem d_rcounter_21 : decode prog_14_method_21_code 21 = .ok (.iload 5, 2) := by decide +kernel
theorem d_rcounter_23 : decode prog_14_method_21_code 23 = .ok (.invokevirtual 198, 3) := by decide +kernel
theorem d_rcounter_26 : decode prog_14_method_21_code 26 = .ok (.ifCond .eq 68, 3) := by decide +kernel
theorem d_rcounter_94 : decode prog_14_method_21_code 94 = .ok (.iinc 5 1, 3) := by decide +kernel
theorem d_rcounter_97 : decode prog_14_method_21_code 97 = .ok (.goto (-87), 3) := by decide +kernel
set_option maxHeartbeats 4000000 in
set_option maxRecDepth 100000 in
theorem w_rcounter_J94 {p : Program} {l : Launch} {e : Env} {s : State} {m : MethodId} {args : Array Value} {below : List Frame} {meth : Method} {c : Code} {A : Nat → Prop} {D : va_G} {md : Nat → Nat} {mc : Nat → ClassId} {Q : State → Prop} (hC : MCx "JoinedTreesModel" prog_14_method_21_code 7 (some .long) p s m args meth c A D mc) {S : MS} {x1 : Int32} {x2 : Int32} {x3 : Int64} {x5 : Int32} {o : ((MS × Int32 × Int32 × Int64 × Int32) ⊕ (MS × Int64))} (Heq : m_rcounter_J94 S x1 x2 x3 x5 = some o) (Ka : ∀ b : MS × Int32 × Int32 × Int64 × Int32, o = .inl b → ∀ (H : Heap) (locs : List Loc) (ls : Array Slot), va_P D cls (mw md mc b.1) H → va_D A (mw md mc b.1) → va_S A s.heap H locs → lv_has ls 7 [(0, .ref (md 100)), (1, .int b.2.1), (2, .int b.2.2.1), (3, .long b.2.2.2.1), (5, .int b.2.2.2.2)] → W p l e ({ frames := 1, cells := 0, slots := 0, locals := 22 }) s m args below meth c H locs 0 0 Q (F0 m 10 ls [])) (K0 : ∀ b : MS × Int64, o = .inr b → ∀ (H : Heap) (locs : List Loc) (ls : Array Slot), va_P D cls (mw md mc b.1) H → va_D A (mw md mc b.1) → va_S A s.heap H locs → lv_has ls 7 [(0, .ref (md 100)), (3, .long b.2)] → W p l e ({ frames := 1, cells := 0, slots := 0, locals := 22 }) s m args below meth c H locs 0 0 Q (F0 m 100 ls [])) : ∀ (H : Heap) (locs : List Loc) (ls : Array Slot), va_P D cls (mw md mc S) H → va_D A (mw md mc S) → va_S A s.heap H locs → lv_has ls 7 [(0, .ref (md 100)), (1, .int x1), (2, .int x2), (3, .long x3), (5, .int x5)] → W p l e ({ frames := 1, cells := 0, slots := 0, locals := 22 }) s m args below meth c H locs 0 0 Q (F0 m 94 ls []) := by
  intro H locs ls hP hD hS hl
  obtain ⟨hx, hb, hr, hml, hown, hts, hK, hA⟩ := id hC
  unfold m_rcounter_J94 at Heq
  refine lv_iinc (v := x5 + 1) (lv' := [(5, .int (x5 + 1)), (0, .ref (md 100)), (1, .int x1), (2, .int x2), (3, .long x3)]) hx hb d_rcounter_94 hl (k := 4) rfl rfl (by decide) rfl (fun ls hl => ?_)
  refine lv_goto (tgt := 10) hx hb d_rcounter_97 (by decide) ?_
  exact Ka _ (Option.some.inj Heq).symm _ _ _ hP hD hS (lv_sub hl [1, 2, 3, 4, 0] rfl)
def m_rcounter_J88 (S : MS) (x1 : Int32) (x2 : Int32) (x3 : Int64) (x5 : Int32) (x6 : Int32) : Option ((MS × Int32 × Int32 × Int64 × Int32 × Int32) ⊕ (MS × Int32 × Int32 × Int64 × Int32)) := some (.inl (S, x1, x2, x3, x5, (x6 + 1)))
theorem d_rcounter_29 : decode prog_14_method_21_code 29 = .ok (.aload_n 0, 1) := by decide +kernel
theorem d_rcounter_30 : decode prog_14_method_21_code 30 = .ok (.getfield 29, 3) := by decide +kernel
theorem d_rcounter_33 : decode prog_14_method_21_code 33 = .ok (.iload 5, 2) := by decide +kernel
theorem d_rcounter_35 : decode prog_14_method_21_code 35 = .ok (.iaload, 1) := by decide +kernel
theorem d_rcounter_36 : decode prog_14_method_21_code 36 = .ok (.bipush 10, 2) := by decide +kernel
theorem d_rcounter_38 : decode prog_14_method_21_code 38 = .ok (.if_icmp .eq 6, 3) := by decide +kernel
theorem d_rcounter_44 : decode prog_14_method_21_code 44 = .ok (.iconst 0, 1) := by decide +kernel
theorem d_rcounter_45 : decode prog_14_method_21_code 45 = .ok (.istore 6, 2) := by decide +kernel
theorem d_rcounter_47 : decode prog_14_method_21_code 47 = .ok (.iload 6, 2) := by decide +kernel
theorem d_rcounter_49 : decode prog_14_method_21_code 49 = .ok (.aload_n 0, 1) := by decide +kernel
theorem d_rcounter_50 : decode prog_14_method_21_code 50 = .ok (.getfield 53, 3) := by decide +kernel
theorem d_rcounter_53 : decode prog_14_method_21_code 53 = .ok (.iload 5, 2) := by decide +kernel
theorem d_rcounter_55 : decode prog_14_method_21_code 55 = .ok (.iaload, 1) := by decide +kernel
theorem d_rcounter_56 : decode prog_14_method_21_code 56 = .ok (.if_icmp .ge 38, 3) := by decide +kernel
theorem d_rcounter_59 : decode prog_14_method_21_code 59 = .ok (.aload_n 0, 1) := by decide +kernel
theorem d_rcounter_60 : decode prog_14_method_21_code 60 = .ok (.getfield 68, 3) := by decide +kernel
theorem d_rcounter_63 : decode prog_14_method_21_code 63 = .ok (.aload_n 0, 1) := by decide +kernel
theorem d_rcounter_64 : decode prog_14_method_21_code 64 = .ok (.getfield 50, 3) := by decide +kernel
theorem d_rcounter_67 : decode prog_14_method_21_code 67 = .ok (.iload 5, 2) := by decide +kernel
theorem d_rcounter_69 : decode prog_14_method_21_code 69 = .ok (.iaload, 1) := by decide +kernel
theorem d_rcounter_70 : decode prog_14_method_21_code 70 = .ok (.iload 6, 2) := by decide +kernel
theorem d_rcounter_72 : decode prog_14_method_21_code 72 = .ok (.iadd, 1) := by decide +kernel
theorem d_rcounter_73 : decode prog_14_method_21_code 73 = .ok (.iaload, 1) := by decide +kernel
theorem d_rcounter_74 : decode prog_14_method_21_code 74 = .ok (.iload_n 2, 1) := by decide +kernel
theorem d_rcounter_75 : decode prog_14_method_21_code 75 = .ok (.if_icmp .ne 13, 3) := by decide +kernel
theorem d_rcounter_88 : decode prog_14_method_21_code 88 = .ok (.iinc 6 1, 3) := by decide +kernel
theorem d_rcounter_91 : decode prog_14_method_21_code 91 = .ok (.goto (-44), 3) := by decide +kernel
set_option maxHeartbeats 4000000 in
set_option maxRecDepth 100000 in
theorem w_rcounter_J88 {p : Program} {l : Launch} {e : Env} {s : State} {m : MethodId} {args : Array Value} {below : List Frame} {meth : Method} {c : Code} {A : Nat → Prop} {D : va_G} {md : Nat → Nat} {mc : Nat → ClassId} {Q : State → Prop} (hC : MCx "JoinedTreesModel" prog_14_method_21_code 7 (some .long) p s m args meth c A D mc) {S : MS} {x1 : Int32} {x2 : Int32} {x3 : Int64} {x5 : Int32} {x6 : Int32} {o : ((MS × Int32 × Int32 × Int64 × Int32 × Int32) ⊕ (MS × Int32 × Int32 × Int64 × Int32))} (Heq : m_rcounter_J88 S x1 x2 x3 x5 x6 = some o) (Ka : ∀ b : MS × Int32 × Int32 × Int64 × Int32 × Int32, o = .inl b → ∀ (H : Heap) (locs : List Loc) (ls : Array Slot), va_P D cls (mw md mc b.1) H → va_D A (mw md mc b.1) → va_S A s.heap H locs → lv_has ls 7 [(0, .ref (md 100)), (1, .int b.2.1), (2, .int b.2.2.1), (3, .long b.2.2.2.1), (5, .int b.2.2.2.2.1), (6, .int b.2.2.2.2.2)] → W p l e ({ frames := 1, cells := 0, slots := 0, locals := 22 }) s m args below meth c H locs 0 0 Q (F0 m 47 ls [])) (K0 : ∀ b : MS × Int32 × Int32 × Int64 × Int32, o = .inr b → ∀ (H : Heap) (locs : List Loc) (ls : Array Slot), va_P D cls (mw md mc b.1) H → va_D A (mw md mc b.1) → va_S A s.heap H locs → lv_has ls 7 [(0, .ref (md 100)), (1, .int b.2.1), (2, .int b.2.2.1), (3, .long b.2.2.2.1), (5, .int b.2.2.2.2)] → W p l e ({ frames := 1, cells := 0, slots := 0, locals := 22 }) s m args below meth c H locs 0 0 Q (F0 m 94 ls [])) : ∀ (H : Heap) (locs : List Loc) (ls : Array Slot), va_P D cls (mw md mc S) H → va_D A (mw md mc S) → va_S A s.heap H locs → lv_has ls 7 [(0, .ref (md 100)), (1, .int x1), (2, .int x2), (3, .long x3), (5, .int x5), (6, .int x6)] → W p l e ({ frames := 1, cells := 0, slots := 0, locals := 22 }) s m args below meth c H locs 0 0 Q (F0 m 88 ls []) := by
  intro H locs ls hP hD hS hl
  obtain ⟨hx, hb, hr, hml, hown, hts, hK, hA⟩ := id hC
  unfold m_rcounter_J88 at Heq
  refine lv_iinc (v := x6 + 1) (lv' := [(6, .int (x6 + 1)), (0, .ref (md 100)), (1, .int x1), (2, .int x2), (3, .long x3), (5, .int x5)]) hx hb d_rcounter_88 hl (k := 5) rfl rfl (by decide) rfl (fun ls hl => ?_)
  refine lv_goto (tgt := 47) hx hb d_rcounter_91 (by decide) ?_
  exact Ka _ (Option.some.inj Heq).symm _ _ _ hP hD hS (lv_sub hl [1, 2, 3, 4, 5, 0] rfl)
def m_rcounter_B47 (S : MS) (x1 : Int32) (x2 : Int32) (x3 : Int64) (x5 : Int32) (x6 : Int32) : Option ((MS × Int32 × Int32 × Int64 × Int32 × Int32) ⊕ (MS × Int32 × Int32 × Int64 × Int32)) := gd x5 4000 ((if S.a 19 x5.toNatClampNeg ≤ x6 then some (.inr (S, x1, x2, x3, x5)) else gd x5 4000 (gd ((S.a 18 x5.toNatClampNeg) + x6) 40000 ((if S.a 24 (((S.a 18 x5.toNatClampNeg) + x6).toNatClampNeg) = x2 then gd x5 4000 (m_rcounter_J88 S x1 x2 (x3 + (S.n 22 x5.toNatClampNeg)) x5 x6) else m_rcounter_J88 S x1 x2 x3 x5 x6)))))
theorem d_rcounter_78 : decode prog_14_method_21_code 78 = .ok (.lload_n 3, 1) := by decide +kernel
theorem d_rcounter_79 : decode prog_14_method_21_code 79 = .ok (.aload_n 0, 1) := by decide +kernel
theorem d_rcounter_80 : decode prog_14_method_21_code 80 = .ok (.getfield 63, 3) := by decide +kernel
theorem d_rcounter_83 : decode prog_14_method_21_code 83 = .ok (.iload 5, 2) := by decide +kernel
theorem d_rcounter_85 : decode prog_14_method_21_code 85 = .ok (.laload, 1) := by decide +kernel
theorem d_rcounter_86 : decode prog_14_method_21_code 86 = .ok (.ladd, 1) := by decide +kernel
theorem d_rcounter_87 : decode prog_14_method_21_code 87 = .ok (.lstore_n 3, 1) := by decide +kernel
set_option maxHeartbeats 4000000 in
set_option maxRecDepth 100000 in
theorem w_rcounter_B47 {p : Program} {l : Launch} {e : Env} {s : State} {m : MethodId} {args : Array Value} {below : List Frame} {meth : Method} {c : Code} {A : Nat → Prop} {D : va_G} {md : Nat → Nat} {mc : Nat → ClassId} {Q : State → Prop} (hC : MCx "JoinedTreesModel" prog_14_method_21_code 7 (some .long) p s m args meth c A D mc) {S : MS} {x1 : Int32} {x2 : Int32} {x3 : Int64} {x5 : Int32} {x6 : Int32} {o : ((MS × Int32 × Int32 × Int64 × Int32 × Int32) ⊕ (MS × Int32 × Int32 × Int64 × Int32))} (Heq : m_rcounter_B47 S x1 x2 x3 x5 x6 = some o) (Ka : ∀ b : MS × Int32 × Int32 × Int64 × Int32 × Int32, o = .inl b → ∀ (H : Heap) (locs : List Loc) (ls : Array Slot), va_P D cls (mw md mc b.1) H → va_D A (mw md mc b.1) → va_S A s.heap H locs → lv_has ls 7 [(0, .ref (md 100)), (1, .int b.2.1), (2, .int b.2.2.1), (3, .long b.2.2.2.1), (5, .int b.2.2.2.2.1), (6, .int b.2.2.2.2.2)] → W p l e ({ frames := 1, cells := 0, slots := 0, locals := 22 }) s m args below meth c H locs 0 0 Q (F0 m 47 ls [])) (K0 : ∀ b : MS × Int32 × Int32 × Int64 × Int32, o = .inr b → ∀ (H : Heap) (locs : List Loc) (ls : Array Slot), va_P D cls (mw md mc b.1) H → va_D A (mw md mc b.1) → va_S A s.heap H locs → lv_has ls 7 [(0, .ref (md 100)), (1, .int b.2.1), (2, .int b.2.2.1), (3, .long b.2.2.2.1), (5, .int b.2.2.2.2)] → W p l e ({ frames := 1, cells := 0, slots := 0, locals := 22 }) s m args below meth c H locs 0 0 Q (F0 m 94 ls [])) : ∀ (H : Heap) (locs : List Loc) (ls : Array Slot), va_P D cls (mw md mc S) H → va_D A (mw md mc S) → va_S A s.heap H locs → lv_has ls 7 [(0, .ref (md 100)), (1, .int x1), (2, .int x2), (3, .long x3), (5, .int x5), (6, .int x6)] → W p l e ({ frames := 1, cells := 0, slots := 0, locals := 22 }) s m args below meth c H locs 0 0 Q (F0 m 47 ls []) := by
  intro H locs ls hP hD hS hl
  obtain ⟨hx, hb, hr, hml, hown, hts, hK, hA⟩ := id hC
  unfold m_rcounter_B47 at Heq
  refine lv_iload hx hb d_rcounter_47 (lv_at hl 5 rfl) ?_
  refine lv_aload_n hx hb d_rcounter_49 rfl (lv_at hl 0 rfl) ?_
  refine va_get (D := D) (ci := 12) (v := .ref (md 19)) (C := R_MM) (T := F_MM) (N := 77) hx hb hts i_MM hown hK hP 0 rfl rfl 19 (by decide) (hts _ kw_1401) (fun _ h9 => h9) rfl d_rcounter_50 ?_
  refine lv_iload hx hb d_rcounter_53 (lv_at hl 4 rfl) ?_
  obtain ⟨hi_1, Heq⟩ := gd_some Heq
  refine va_iald hx hb hK hP 15 0 rfl rfl (i := x5) hi_1 d_rcounter_55 ?_
  refine w_i (y := S.a 19 x5.toNatClampNeg) rfl ?_
  refine lv_icmp_ge (tgt := 94) hx hb d_rcounter_56 (by decide) (fun c_2 => ?_) (fun c_2 => ?_)
  · replace Heq := (if_pos c_2).symm.trans Heq
    exact K0 _ (Option.some.inj Heq).symm _ _ _ hP hD hS (lv_sub hl [0, 1, 2, 3, 4] rfl)
  · replace Heq := (if_neg c_2).symm.trans Heq
    refine lv_aload_n hx hb d_rcounter_59 rfl (lv_at hl 0 rfl) ?_
    refine va_get (D := D) (ci := 12) (v := .ref (md 24)) (C := R_MM) (T := F_MM) (N := 77) hx hb hts i_MM hown hK hP 0 rfl rfl 24 (by decide) (hts _ kw_1406) (fun _ h9 => h9) rfl d_rcounter_60 ?_
    refine lv_aload_n hx hb d_rcounter_63 rfl (lv_at hl 0 rfl) ?_
    refine va_get (D := D) (ci := 12) (v := .ref (md 18)) (C := R_MM) (T := F_MM) (N := 77) hx hb hts i_MM hown hK hP 0 rfl rfl 18 (by decide) (hts _ kw_1400) (fun _ h9 => h9) rfl d_rcounter_64 ?_
    refine lv_iload hx hb d_rcounter_67 (lv_at hl 4 rfl) ?_
    obtain ⟨hi_3, Heq⟩ := gd_some Heq
    refine va_iald hx hb hK hP 14 0 rfl rfl (i := x5) hi_3 d_rcounter_69 ?_
    refine w_i (y := S.a 18 x5.toNatClampNeg) rfl ?_
    refine lv_iload hx hb d_rcounter_70 (lv_at hl 5 rfl) ?_
    refine lv_iadd hx hb d_rcounter_72 ?_
    refine w_i (y := (S.a 18 x5.toNatClampNeg) + x6) rfl ?_
    obtain ⟨hi_4, Heq⟩ := gd_some Heq
    refine va_iald hx hb hK hP 19 0 rfl rfl (i := (S.a 18 x5.toNatClampNeg) + x6) hi_4 d_rcounter_73 ?_
    refine w_i (y := S.a 24 (((S.a 18 x5.toNatClampNeg) + x6).toNatClampNeg)) rfl ?_
    refine lv_iload_n hx hb d_rcounter_74 rfl (lv_at hl 2 rfl) ?_
    refine lv_icmp_ne (tgt := 88) hx hb d_rcounter_75 (by decide) (fun c_5 => ?_) (fun c_5 => ?_)
    · replace Heq := (if_neg c_5).symm.trans Heq
      exact w_rcounter_J88 hC Heq Ka K0 _ _ _ hP hD hS (lv_sub hl [0, 1, 2, 3, 4, 5] rfl)
    · replace Heq := (if_pos c_5).symm.trans Heq
      refine lv_lload_n hx hb d_rcounter_78 rfl (lv_at hl 3 rfl) ?_
      refine lv_aload_n hx hb d_rcounter_79 rfl (lv_at hl 0 rfl) ?_
      refine va_get (D := D) (ci := 12) (v := .ref (md 22)) (C := R_MM) (T := F_MM) (N := 77) hx hb hts i_MM hown hK hP 0 rfl rfl 22 (by decide) (hts _ kw_1404) (fun _ h9 => h9) rfl d_rcounter_80 ?_
      refine lv_iload hx hb d_rcounter_83 (lv_at hl 4 rfl) ?_
      obtain ⟨hi_6, Heq⟩ := gd_some Heq
      refine va_lald hx hb hK hP 18 3 rfl rfl (i := x5) hi_6 d_rcounter_85 ?_
      refine w_l (y := S.n 22 x5.toNatClampNeg) rfl ?_
      refine lv_ladd hx hb d_rcounter_86 ?_
      refine w_l (y := x3 + (S.n 22 x5.toNatClampNeg)) rfl ?_
      refine lv_lstore_n (lv' := [(3, .long (x3 + (S.n 22 x5.toNatClampNeg))), (0, .ref (md 100)), (1, .int x1), (2, .int x2), (5, .int x5), (6, .int x6)]) hx hb d_rcounter_87 rfl hl (by decide) rfl (fun ls hl => ?_)
      exact w_rcounter_J88 hC Heq Ka K0 _ _ _ hP hD hS (lv_sub hl [1, 2, 3, 0, 4, 5] rfl)
def m_rcounter_L47 (S : MS) (x1 : Int32) (x2 : Int32) (x3 : Int64) (x5 : Int32) (x6 : Int32) : Option (MS × Int32 × Int32 × Int64 × Int32) := lp (fun a : MS × Int32 × Int32 × Int64 × Int32 × Int32 => m_rcounter_B47 a.1 a.2.1 a.2.2.1 a.2.2.2.1 a.2.2.2.2.1 a.2.2.2.2.2) FU (S, x1, x2, x3, x5, x6)
theorem w_rcounter_L47 {p : Program} {l : Launch} {e : Env} {s : State} {m : MethodId} {args : Array Value} {below : List Frame} {meth : Method} {c : Code} {A : Nat → Prop} {D : va_G} {md : Nat → Nat} {mc : Nat → ClassId} {Q : State → Prop} (hC : MCx "JoinedTreesModel" prog_14_method_21_code 7 (some .long) p s m args meth c A D mc) {S : MS} {x1 : Int32} {x2 : Int32} {x3 : Int64} {x5 : Int32} {x6 : Int32} {o : MS × Int32 × Int32 × Int64 × Int32} (Heq : m_rcounter_L47 S x1 x2 x3 x5 x6 = some o) (K0 : ∀ b : MS × Int32 × Int32 × Int64 × Int32, o = b → ∀ (H : Heap) (locs : List Loc) (ls : Array Slot), va_P D cls (mw md mc b.1) H → va_D A (mw md mc b.1) → va_S A s.heap H locs → lv_has ls 7 [(0, .ref (md 100)), (1, .int b.2.1), (2, .int b.2.2.1), (3, .long b.2.2.2.1), (5, .int b.2.2.2.2)] → W p l e ({ frames := 1, cells := 0, slots := 0, locals := 22 }) s m args below meth c H locs 0 0 Q (F0 m 94 ls [])) : ∀ (H : Heap) (locs : List Loc) (ls : Array Slot), va_P D cls (mw md mc S) H → va_D A (mw md mc S) → va_S A s.heap H locs → lv_has ls 7 [(0, .ref (md 100)), (1, .int x1), (2, .int x2), (3, .long x3), (5, .int x5), (6, .int x6)] → W p l e ({ frames := 1, cells := 0, slots := 0, locals := 22 }) s m args below meth c H locs 0 0 Q (F0 m 47 ls []) := by
  refine lp_w (G := fun a : MS × Int32 × Int32 × Int64 × Int32 × Int32 => ∀ (H : Heap) (locs : List Loc) (ls : Array Slot), va_P D cls (mw md mc a.1) H → va_D A (mw md mc a.1) → va_S A s.heap H locs → lv_has ls 7 [(0, .ref (md 100)), (1, .int a.2.1), (2, .int a.2.2.1), (3, .long a.2.2.2.1), (5, .int a.2.2.2.2.1), (6, .int a.2.2.2.2.2)] → W p l e ({ frames := 1, cells := 0, slots := 0, locals := 22 }) s m args below meth c H locs 0 0 Q (F0 m 47 ls [])) ?_ FU (S, x1, x2, x3, x5, x6) Heq
  intro a o1 ho Ka Ke
  exact w_rcounter_B47 hC ho (fun b h => Ka b h) (fun b h => K0 b (Ke _ h).symm)
def m_rcounter_B10 (S : MS) (x1 : Int32) (x2 : Int32) (x3 : Int64) (x5 : Int32) : Option ((MS × Int32 × Int32 × Int64 × Int32) ⊕ (MS × Int64)) := (if S.i 23 ≤ x5 then some (.inr (S, x3)) else ob (m_rin S x1 x5) (fun o_2 => (if o_2.2 = 0 then m_rcounter_J94 o_2.1 x1 x2 x3 x5 else gd x5 4000 ((if o_2.1.a 11 x5.toNatClampNeg = 10 then ob (m_rcounter_L47 o_2.1 x1 x2 x3 x5 0) (fun b_7 => m_rcounter_J94 b_7.1 b_7.2.1 b_7.2.2.1 b_7.2.2.2.1 b_7.2.2.2.2) else m_rcounter_J94 o_2.1 x1 x2 x3 x5)))))
theorem d_rcounter_41 : decode prog_14_method_21_code 41 = .ok (.goto 53, 3) := by decide +kernel
set_option maxHeartbeats 4000000 in
set_option maxRecDepth 100000 in
theorem w_rcounter_B10 {p : Program} {l : Launch} {e : Env} {s : State} {m : MethodId} {args : Array Value} {below : List Frame} {meth : Method} {c : Code} {A : Nat → Prop} {D : va_G} {md : Nat → Nat} {mc : Nat → ClassId} {Q : State → Prop} (hC : MCx "JoinedTreesModel" prog_14_method_21_code 7 (some .long) p s m args meth c A D mc) {S : MS} {x1 : Int32} {x2 : Int32} {x3 : Int64} {x5 : Int32} {o : ((MS × Int32 × Int32 × Int64 × Int32) ⊕ (MS × Int64))} (Heq : m_rcounter_B10 S x1 x2 x3 x5 = some o) (Ka : ∀ b : MS × Int32 × Int32 × Int64 × Int32, o = .inl b → ∀ (H : Heap) (locs : List Loc) (ls : Array Slot), va_P D cls (mw md mc b.1) H → va_D A (mw md mc b.1) → va_S A s.heap H locs → lv_has ls 7 [(0, .ref (md 100)), (1, .int b.2.1), (2, .int b.2.2.1), (3, .long b.2.2.2.1), (5, .int b.2.2.2.2)] → W p l e ({ frames := 1, cells := 0, slots := 0, locals := 22 }) s m args below meth c H locs 0 0 Q (F0 m 10 ls [])) (K0 : ∀ b : MS × Int64, o = .inr b → ∀ (H : Heap) (locs : List Loc) (ls : Array Slot), va_P D cls (mw md mc b.1) H → va_D A (mw md mc b.1) → va_S A s.heap H locs → lv_has ls 7 [(0, .ref (md 100)), (3, .long b.2)] → W p l e ({ frames := 1, cells := 0, slots := 0, locals := 22 }) s m args below meth c H locs 0 0 Q (F0 m 100 ls [])) : ∀ (H : Heap) (locs : List Loc) (ls : Array Slot), va_P D cls (mw md mc S) H → va_D A (mw md mc S) → va_S A s.heap H locs → lv_has ls 7 [(0, .ref (md 100)), (1, .int x1), (2, .int x2), (3, .long x3), (5, .int x5)] → W p l e ({ frames := 1, cells := 0, slots := 0, locals := 22 }) s m args below meth c H locs 0 0 Q (F0 m 10 ls []) := by
  intro H locs ls hP hD hS hl
  obtain ⟨hx, hb, hr, hml, hown, hts, hK, hA⟩ := id hC
  unfold m_rcounter_B10 at Heq
  refine lv_iload hx hb d_rcounter_10 (lv_at hl 4 rfl) ?_
  refine lv_aload_n hx hb d_rcounter_12 rfl (lv_at hl 0 rfl) ?_
  refine va_get (D := D) (ci := 12) (v := .int (S.i 23)) (C := R_MM) (T := F_MM) (N := 77) hx hb hts i_MM hown hK hP 0 rfl rfl 23 (by decide) (hts _ kw_1405) (fun _ h9 => h9) rfl d_rcounter_13 ?_
  refine lv_icmp_ge (tgt := 100) hx hb d_rcounter_16 (by decide) (fun c_1 => ?_) (fun c_1 => ?_)
  · replace Heq := (if_pos c_1).symm.trans Heq
    exact K0 _ (Option.some.inj Heq).symm _ _ _ hP hD hS (lv_sub hl [0, 3] rfl)
  · replace Heq := (if_neg c_1).symm.trans Heq
    refine lv_aload_n hx hb d_rcounter_19 rfl (lv_at hl 0 rfl) ?_
    refine lv_iload_n hx hb d_rcounter_20 rfl (lv_at hl 1 rfl) ?_
    refine lv_iload hx hb d_rcounter_21 (lv_at hl 4 rfl) ?_
    obtain ⟨o_2, h_3, Heq⟩ := ob_some Heq
    have hFc := fr_all hD hS hA
    refine va_calli (va_runV (As := [.int x1, .int x5]) (rest := []) ⟨hx, hb, hml, hown, hts⟩ (g_rin l D H.size h_3) (cw_v 2 hts kw_1656 kw_1653 kw_1655 kp_33 kw_11 rfl rfl (by decide +kernel) ⟨Nat.le_of_ble_eq_true rfl, Nat.le_of_ble_eq_true rfl⟩) ⟨g_blind, va_recv hK hP (ci := 12) (q0 := 0) rfl rfl, fun U hU hW => g_pre hU hW hP hK hD⟩ rfl rfl hl.1 rfl (lv_room (Nat.le_of_ble_eq_true rfl)) d_rcounter_23 ⟨Nat.le_of_ble_eq_true rfl, Nat.le_of_ble_eq_true rfl⟩) hS (fun q _ h => hFc q h) hFc (fun rz u t H1 locs ht hvm hw hB hz1 hk1 hS => ?_)
    obtain ⟨hP, -, hD1⟩ := hB
    rw [ht] at hP
    have hD := hD1.weaken (fun _ q _ h => hFc q.1 h)
    generalize H1 = H at hP hS ⊢
    refine W.cs (cells' := 0) (slots' := 0) rfl rfl ?_
    subst hw
    refine lv_if_eq (tgt := 94) hx hb d_rcounter_26 (by decide) (fun c_4 => ?_) (fun c_4 => ?_)
    · replace Heq := (if_pos c_4).symm.trans Heq
      exact w_rcounter_J94 hC Heq Ka K0 _ _ _ hP hD hS (lv_sub hl [0, 1, 2, 3, 4] rfl)
    · replace Heq := (if_neg c_4).symm.trans Heq
      refine lv_aload_n hx hb d_rcounter_29 rfl (lv_at hl 0 rfl) ?_
      refine va_get (D := D) (ci := 12) (v := .ref (md 11)) (C := R_MM) (T := F_MM) (N := 77) hx hb hts i_MM hown hK hP 0 rfl rfl 11 (by decide) (hts _ kw_1393) (fun _ h9 => h9) rfl d_rcounter_30 ?_
      refine lv_iload hx hb d_rcounter_33 (lv_at hl 4 rfl) ?_
      obtain ⟨hi_5, Heq⟩ := gd_some Heq
      refine va_iald hx hb hK hP 7 0 rfl rfl (i := x5) hi_5 d_rcounter_35 ?_
      refine w_i (y := o_2.1.a 11 x5.toNatClampNeg) rfl ?_
      refine lv_bipush (v := 10) hx hb d_rcounter_36 (by decide) ?_
      refine lv_icmp_eq (tgt := 44) hx hb d_rcounter_38 (by decide) (fun c_6 => ?_) (fun c_6 => ?_)
      · replace Heq := (if_pos c_6).symm.trans Heq
        refine lv_iconst (v := 0) hx hb d_rcounter_44 (by decide) ?_
        refine lv_istore (lv' := [(6, .int 0), (0, .ref (md 100)), (1, .int x1), (2, .int x2), (3, .long x3), (5, .int x5)]) hx hb d_rcounter_45 hl (by decide) rfl (fun ls hl => ?_)
        obtain ⟨b_7, h_8, Heq⟩ := ob_some Heq
        refine w_rcounter_L47 hC h_8 (fun b h => ?_) _ _ _ hP hD hS (lv_sub hl [1, 2, 3, 4, 5, 0] rfl)
        subst h
        intro H locs ls hP hD hS hl
        exact w_rcounter_J94 hC Heq Ka K0 _ _ _ hP hD hS (lv_sub hl [0, 1, 2, 3, 4] rfl)
      · replace Heq := (if_neg c_6).symm.trans Heq
        refine lv_goto (tgt := 94) hx hb d_rcounter_41 (by decide) ?_
        exact w_rcounter_J94 hC Heq Ka K0 _ _ _ hP hD hS (lv_sub hl [0, 1, 2, 3, 4] rfl)
def m_rcounter_L10 (S : MS) (x1 : Int32) (x2 : Int32) (x3 : Int64) (x5 : Int32) : Option (MS × Int64) := lp (fun a : MS × Int32 × Int32 × Int64 × Int32 => m_rcounter_B10 a.1 a.2.1 a.2.2.1 a.2.2.2.1 a.2.2.2.2) FU (S, x1, x2, x3, x5)
theorem w_rcounter_L10 {p : Program} {l : Launch} {e : Env} {s : State} {m : MethodId} {args : Array Value} {below : List Frame} {meth : Method} {c : Code} {A : Nat → Prop} {D : va_G} {md : Nat → Nat} {mc : Nat → ClassId} {Q : State → Prop} (hC : MCx "JoinedTreesModel" prog_14_method_21_code 7 (some .long) p s m args meth c A D mc) {S : MS} {x1 : Int32} {x2 : Int32} {x3 : Int64} {x5 : Int32} {o : MS × Int64} (Heq : m_rcounter_L10 S x1 x2 x3 x5 = some o) (K0 : ∀ b : MS × Int64, o = b → ∀ (H : Heap) (locs : List Loc) (ls : Array Slot), va_P D cls (mw md mc b.1) H → va_D A (mw md mc b.1) → va_S A s.heap H locs → lv_has ls 7 [(0, .ref (md 100)), (3, .long b.2)] → W p l e ({ frames := 1, cells := 0, slots := 0, locals := 22 }) s m args below meth c H locs 0 0 Q (F0 m 100 ls [])) : ∀ (H : Heap) (locs : List Loc) (ls : Array Slot), va_P D cls (mw md mc S) H → va_D A (mw md mc S) → va_S A s.heap H locs → lv_has ls 7 [(0, .ref (md 100)), (1, .int x1), (2, .int x2), (3, .long x3), (5, .int x5)] → W p l e ({ frames := 1, cells := 0, slots := 0, locals := 22 }) s m args below meth c H locs 0 0 Q (F0 m 10 ls []) := by
  refine lp_w (G := fun a : MS × Int32 × Int32 × Int64 × Int32 => ∀ (H : Heap) (locs : List Loc) (ls : Array Slot), va_P D cls (mw md mc a.1) H → va_D A (mw md mc a.1) → va_S A s.heap H locs → lv_has ls 7 [(0, .ref (md 100)), (1, .int a.2.1), (2, .int a.2.2.1), (3, .long a.2.2.2.1), (5, .int a.2.2.2.2)] → W p l e ({ frames := 1, cells := 0, slots := 0, locals := 22 }) s m args below meth c H locs 0 0 Q (F0 m 10 ls [])) ?_ FU (S, x1, x2, x3, x5) Heq
  intro a o1 ho Ka Ke
  exact w_rcounter_B10 hC ho (fun b h => Ka b h) (fun b h => K0 b (Ke _ h).symm)
def m_rcounter_J0 (S : MS) (x1 : Int32) (x2 : Int32) : Option (MS × Int64) := gd x2 4000 (ob (m_rcounter_L10 S x1 x2 (S.n 22 x2.toNatClampNeg) 0) (fun b_2 => some (b_2.1, b_2.2)))
theorem d_rcounter_100 : decode prog_14_method_21_code 100 = .ok (.lload_n 3, 1) := by decide +kernel
theorem d_rcounter_101 : decode prog_14_method_21_code 101 = .ok (.lreturn, 1) := by decide +kernel
set_option maxHeartbeats 4000000 in
set_option maxRecDepth 100000 in
theorem w_rcounter_J0 {p : Program} {l : Launch} {e : Env} {s : State} {m : MethodId} {args : Array Value} {below : List Frame} {meth : Method} {c : Code} {A : Nat → Prop} {D : va_G} {md : Nat → Nat} {mc : Nat → ClassId} {Q : State → Prop} (hC : MCx "JoinedTreesModel" prog_14_method_21_code 7 (some .long) p s m args meth c A D mc) {S : MS} {x1 : Int32} {x2 : Int32} {o : MS × Int64} (Heq : m_rcounter_J0 S x1 x2 = some o) (Kr : ∀ r : MS × Int64, o = r → ∀ (pc : Nat) (H : Heap) (locs : List Loc) (ls : Array Slot), decode prog_14_method_21_code pc = .ok (.lreturn, 1) → va_P D cls (mw md mc r.1) H → va_D A (mw md mc r.1) → va_S A s.heap H locs → W p l e ({ frames := 1, cells := 0, slots := 0, locals := 22 }) s m args below meth c H locs 0 0 Q (F0 m pc ls [.long r.2])) : ∀ (H : Heap) (locs : List Loc) (ls : Array Slot), va_P D cls (mw md mc S) H → va_D A (mw md mc S) → va_S A s.heap H locs → lv_has ls 7 [(0, .ref (md 100)), (1, .int x1), (2, .int x2)] → W p l e ({ frames := 1, cells := 0, slots := 0, locals := 22 }) s m args below meth c H locs 0 0 Q (F0 m 0 ls []) := by
  intro H locs ls hP hD hS hl
  obtain ⟨hx, hb, hr, hml, hown, hts, hK, hA⟩ := id hC
  unfold m_rcounter_J0 at Heq
  refine lv_aload_n hx hb d_rcounter_0 rfl (lv_at hl 0 rfl) ?_
  refine va_get (D := D) (ci := 12) (v := .ref (md 22)) (C := R_MM) (T := F_MM) (N := 77) hx hb hts i_MM hown hK hP 0 rfl rfl 22 (by decide) (hts _ kw_1404) (fun _ h9 => h9) rfl d_rcounter_1 ?_
  refine lv_iload_n hx hb d_rcounter_4 rfl (lv_at hl 2 rfl) ?_
  obtain ⟨hi_1, Heq⟩ := gd_some Heq
  refine va_lald hx hb hK hP 18 3 rfl rfl (i := x2) hi_1 d_rcounter_5 ?_
  refine w_l (y := S.n 22 x2.toNatClampNeg) rfl ?_
  refine lv_lstore_n (lv' := [(3, .long (S.n 22 x2.toNatClampNeg)), (0, .ref (md 100)), (1, .int x1), (2, .int x2)]) hx hb d_rcounter_6 rfl hl (by decide) rfl (fun ls hl => ?_)
  refine lv_iconst (v := 0) hx hb d_rcounter_7 (by decide) ?_
  refine lv_istore (lv' := [(5, .int 0), (3, .long (S.n 22 x2.toNatClampNeg)), (0, .ref (md 100)), (1, .int x1), (2, .int x2)]) hx hb d_rcounter_8 hl (by decide) rfl (fun ls hl => ?_)
  obtain ⟨b_2, h_3, Heq⟩ := ob_some Heq
  refine w_rcounter_L10 hC h_3 (fun b h => ?_) _ _ _ hP hD hS (lv_sub hl [2, 3, 4, 1, 0] rfl)
  subst h
  intro H locs ls hP hD hS hl
  refine lv_lload_n hx hb d_rcounter_100 rfl (lv_at hl 1 rfl) ?_
  exact Kr _ (Option.some.inj Heq).symm 101 _ _ _ d_rcounter_101 hP hD hS
def m_rcounter (S : MS) (x1 : Int32) (x2 : Int32) : Option (MS × Int64) := m_rcounter_J0 S x1 x2
theorem g_rcounter (l : Launch) (D : va_G) (sz : Nat) {md : Nat → Nat} {mc : Nat → ClassId} {S : MS} {x1 : Int32} {x2 : Int32} {o : MS × Int64} (Heq : m_rcounter S x1 x2 = some o) : Met l ⟨"JoinedTreesModel", "counter", "(II)J"⟩ (Cond.code ⟨"JoinedTreesModel", "counter", "(II)J"⟩ prog_14_method_21_code 7 (some .long) :: gb) ({ frames := 1, cells := 0, slots := 0, locals := 22 }) (gPc D (mw md mc S) (mty mc) sz [.ref (md 100), .int x1, .int x2]) (va_Ql (fun (r : Int64) (_ : Unit) => r = o.2) (fun _ t => gO D (mw md mc o.1) (mty mc) (va_A (mw md mc S) sz) t) (va_A (mw md mc S) sz)) 0 0 (va_A (mw md mc S) sz) := by
  refine Met.ofW (cc := prog_14_method_21_code) (maxL := 7) (ret := (some .long)) (by decide) rfl ?_
  intro p e s m args below meth c s₁ B hml hv
  obtain ⟨rfl, hsz, hP, hK, hD0⟩ := hv
  have hx := B.exec
  have hb := B.bytes
  have hr := B.returns
  have hts : ∀ w9 ∈ gb, w9.before [.ref (md 100), .int x1, .int x2].toArray s = true := fun w9 h => atoms_spec (ws := Cond.code ⟨"JoinedTreesModel", "counter", "(II)J"⟩ prog_14_method_21_code 7 (some .long) :: gb) B.pre w9 (List.mem_cons_of_mem _ h)
  have hown : s.vm.findClass "JoinedTreesModel" = some m.cls := findClass_of_methodNamed B.named
  have hlocks := B.notSynchronized
  subst hsz
  have hD := hD0.self (sz := s.heap.size)
  generalize hAe : va_A (mw md mc S) s.heap.size = A at hD ⊢
  have hA : ∀ q : Nat, s.heap.size ≤ q → A q := fun q h => by rw [← hAe]; exact Or.inr h
  have hS : va_S A s.heap s.heap [] := va_S.rf
  have hl := lv_entry ([.ref (md 100), .int x1, .int x2]) (n := 7) (Nat.le_of_ble_eq_true rfl)
  rw [lg_entry_eq]
  generalize (lg_sl ([.ref (md 100), .int x1, .int x2]) ++ List.replicate (7 - (lg_sl ([.ref (md 100), .int x1, .int x2])).length) Slot.unset).toArray = ls at hl ⊢
  have hl : lv_has ls 7 [(0, .ref (md 100)), (1, .int x1), (2, .int x2)] := hl
  refine w_rcounter_J0 ⟨hx, hb, hr, hml, hown, hts, hK, hA⟩ Heq (fun r h pc H locs ls hd hP hD hS => ?_) _ _ _ hP hD hS (lv_sub hl [0, 1, 2] rfl)
  subst h
  exact W.lret hx hb hr (fun t ht hW => ⟨⟨_, (), rfl, rfl, by rw [ht]; exact hP, va_K.moved hW.alike hK, hD⟩, hS.F ht⟩) hS.2.2 hd
def m_rgreatest_J35 (S : MS) (x1 : Int32) (x2 : Int32) (x3 : Int32) : Option ((MS × Int32 × Int32 × Int32) ⊕ (MS × Int32)) := some (.inl (S, x1, x2, (x3 + 1)))
theorem d_rgreatest_0 : decode prog_14_method_22_code 0 = .ok (.iconst 0, 1) := by decide +kernel
theorem d_rgreatest_1 : decode prog_14_method_22_code 1 = .ok (.istore_n 2, 1) := by decide +kernel
theorem d_rgreatest_2 : decode prog_14_method_22_code 2 = .ok (.iconst 0, 1) := by decide +kernel
theorem d_rgreatest_3 : decode prog_14_method_22_code 3 = .ok (.istore_n 3, 1) := by decide +kernel
theorem d_rgreatest_4 : decode prog_14_method_22_code 4 = .ok (.iload_n 3, 1) := by decide +kernel
theorem d_rgreatest_5 : decode prog_14_method_22_code 5 = .ok (.aload_n 0, 1) := by decide +kernel
theorem d_rgreatest_6 : decode prog_14_method_22_code 6 = .ok (.getfield 195, 3) := by decide +kernel
theorem d_rgreatest_9 : decode prog_14_method_22_code 9 = .ok (.if_icmp .ge 32, 3) := by decide +kernel
theorem d_rgreatest_12 : decode prog_14_method_22_code 12 = .ok (.aload_n 0, 1) := by decide +kernel
theorem d_rgreatest_13 : decode prog_14_method_22_code 13 = .ok (.iload_n 1, 1) := by decide +kernel
theorem d_rgreatest_14 : decode prog_14_method_22_code 14 = .ok (.iload_n 3, 1) := by decide +kernel
theorem d_rgreatest_15 : decode prog_14_method_22_code 15 = .ok (.invokevirtual 230, 3) := by decide +kernel
theorem d_rgreatest_18 : decode prog_14_method_22_code 18 = .ok (.ifCond .eq 17, 3) := by decide +kernel
theorem d_rgreatest_35 : decode prog_14_method_22_code 35 = .ok (.iinc 3 1, 3) := by decide +kernel
theorem d_rgreatest_38 : decode prog_14_method_22_code 38 = .ok (.goto (-34), 3) := by decide +kernel
set_option maxHeartbeats 4000000 in
set_option maxRecDepth 100000 in
theorem w_rgreatest_J35 {p : Program} {l : Launch} {e : Env} {s : State} {m : MethodId} {args : Array Value} {below : List Frame} {meth : Method} {c : Code} {A : Nat → Prop} {D : va_G} {md : Nat → Nat} {mc : Nat → ClassId} {Q : State → Prop} (hC : MCx "JoinedTreesModel" prog_14_method_22_code 4 (some .int) p s m args meth c A D mc) {S : MS} {x1 : Int32} {x2 : Int32} {x3 : Int32} {o : ((MS × Int32 × Int32 × Int32) ⊕ (MS × Int32))} (Heq : m_rgreatest_J35 S x1 x2 x3 = some o) (Ka : ∀ b : MS × Int32 × Int32 × Int32, o = .inl b → ∀ (H : Heap) (locs : List Loc) (ls : Array Slot), va_P D cls (mw md mc b.1) H → va_D A (mw md mc b.1) → va_S A s.heap H locs → lv_has ls 4 [(0, .ref (md 100)), (1, .int b.2.1), (2, .int b.2.2.1), (3, .int b.2.2.2)] → W p l e ({ frames := 1, cells := 0, slots := 0, locals := 24 }) s m args below meth c H locs 0 0 Q (F0 m 4 ls [])) (K0 : ∀ b : MS × Int32, o = .inr b → ∀ (H : Heap) (locs : List Loc) (ls : Array Slot), va_P D cls (mw md mc b.1) H → va_D A (mw md mc b.1) → va_S A s.heap H locs → lv_has ls 4 [(0, .ref (md 100)), (2, .int b.2)] → W p l e ({ frames := 1, cells := 0, slots := 0, locals := 24 }) s m args below meth c H locs 0 0 Q (F0 m 41 ls [])) : ∀ (H : Heap) (locs : List Loc) (ls : Array Slot), va_P D cls (mw md mc S) H → va_D A (mw md mc S) → va_S A s.heap H locs → lv_has ls 4 [(0, .ref (md 100)), (1, .int x1), (2, .int x2), (3, .int x3)] → W p l e ({ frames := 1, cells := 0, slots := 0, locals := 24 }) s m args below meth c H locs 0 0 Q (F0 m 35 ls []) := by
  intro H locs ls hP hD hS hl
  obtain ⟨hx, hb, hr, hml, hown, hts, hK, hA⟩ := id hC
  unfold m_rgreatest_J35 at Heq
  refine lv_iinc (v := x3 + 1) (lv' := [(3, .int (x3 + 1)), (0, .ref (md 100)), (1, .int x1), (2, .int x2)]) hx hb d_rgreatest_35 hl (k := 3) rfl rfl (by decide) rfl (fun ls hl => ?_)
  refine lv_goto (tgt := 4) hx hb d_rgreatest_38 (by decide) ?_
  exact Ka _ (Option.some.inj Heq).symm _ _ _ hP hD hS (lv_sub hl [1, 2, 3, 0] rfl)
def m_rgreatest_B4 (S : MS) (x1 : Int32) (x2 : Int32) (x3 : Int32) : Option ((MS × Int32 × Int32 × Int32) ⊕ (MS × Int32)) := (if S.i 23 ≤ x3 then some (.inr (S, x2)) else ob (m_rowns S x1 x3) (fun o_2 => (if o_2.2 = 0 then m_rgreatest_J35 o_2.1 x1 x2 x3 else gd x3 4000 (m_rgreatest_J35 o_2.1 x1 (if x2 < (o_2.1.a 8 x3.toNatClampNeg) / 8 then (o_2.1.a 8 x3.toNatClampNeg) / 8 else x2) x3))))
theorem d_rgreatest_21 : decode prog_14_method_22_code 21 = .ok (.iload_n 2, 1) := by decide +kernel
theorem d_rgreatest_22 : decode prog_14_method_22_code 22 = .ok (.aload_n 0, 1) := by decide +kernel
theorem d_rgreatest_23 : decode prog_14_method_22_code 23 = .ok (.getfield 19, 3) := by decide +kernel
theorem d_rgreatest_26 : decode prog_14_method_22_code 26 = .ok (.iload_n 3, 1) := by decide +kernel
theorem d_rgreatest_27 : decode prog_14_method_22_code 27 = .ok (.iaload, 1) := by decide +kernel
theorem d_rgreatest_28 : decode prog_14_method_22_code 28 = .ok (.bipush 8, 2) := by decide +kernel
theorem d_rgreatest_30 : decode prog_14_method_22_code 30 = .ok (.idiv, 1) := by decide +kernel
theorem d_rgreatest_31 : decode prog_14_method_22_code 31 = .ok (.invokestatic 233, 3) := by decide +kernel
theorem d_rgreatest_34 : decode prog_14_method_22_code 34 = .ok (.istore_n 2, 1) := by decide +kernel
set_option maxHeartbeats 4000000 in
set_option maxRecDepth 100000 in
theorem w_rgreatest_B4 {p : Program} {l : Launch} {e : Env} {s : State} {m : MethodId} {args : Array Value} {below : List Frame} {meth : Method} {c : Code} {A : Nat → Prop} {D : va_G} {md : Nat → Nat} {mc : Nat → ClassId} {Q : State → Prop} (hC : MCx "JoinedTreesModel" prog_14_method_22_code 4 (some .int) p s m args meth c A D mc) {S : MS} {x1 : Int32} {x2 : Int32} {x3 : Int32} {o : ((MS × Int32 × Int32 × Int32) ⊕ (MS × Int32))} (Heq : m_rgreatest_B4 S x1 x2 x3 = some o) (Ka : ∀ b : MS × Int32 × Int32 × Int32, o = .inl b → ∀ (H : Heap) (locs : List Loc) (ls : Array Slot), va_P D cls (mw md mc b.1) H → va_D A (mw md mc b.1) → va_S A s.heap H locs → lv_has ls 4 [(0, .ref (md 100)), (1, .int b.2.1), (2, .int b.2.2.1), (3, .int b.2.2.2)] → W p l e ({ frames := 1, cells := 0, slots := 0, locals := 24 }) s m args below meth c H locs 0 0 Q (F0 m 4 ls [])) (K0 : ∀ b : MS × Int32, o = .inr b → ∀ (H : Heap) (locs : List Loc) (ls : Array Slot), va_P D cls (mw md mc b.1) H → va_D A (mw md mc b.1) → va_S A s.heap H locs → lv_has ls 4 [(0, .ref (md 100)), (2, .int b.2)] → W p l e ({ frames := 1, cells := 0, slots := 0, locals := 24 }) s m args below meth c H locs 0 0 Q (F0 m 41 ls [])) : ∀ (H : Heap) (locs : List Loc) (ls : Array Slot), va_P D cls (mw md mc S) H → va_D A (mw md mc S) → va_S A s.heap H locs → lv_has ls 4 [(0, .ref (md 100)), (1, .int x1), (2, .int x2), (3, .int x3)] → W p l e ({ frames := 1, cells := 0, slots := 0, locals := 24 }) s m args below meth c H locs 0 0 Q (F0 m 4 ls []) := by
  intro H locs ls hP hD hS hl
  obtain ⟨hx, hb, hr, hml, hown, hts, hK, hA⟩ := id hC
  unfold m_rgreatest_B4 at Heq
  refine lv_iload_n hx hb d_rgreatest_4 rfl (lv_at hl 3 rfl) ?_
  refine lv_aload_n hx hb d_rgreatest_5 rfl (lv_at hl 0 rfl) ?_
  refine va_get (D := D) (ci := 12) (v := .int (S.i 23)) (C := R_MM) (T := F_MM) (N := 77) hx hb hts i_MM hown hK hP 0 rfl rfl 23 (by decide) (hts _ kw_1405) (fun _ h9 => h9) rfl d_rgreatest_6 ?_
  refine lv_icmp_ge (tgt := 41) hx hb d_rgreatest_9 (by decide) (fun c_1 => ?_) (fun c_1 => ?_)
  · replace Heq := (if_pos c_1).symm.trans Heq
    exact K0 _ (Option.some.inj Heq).symm _ _ _ hP hD hS (lv_sub hl [0, 2] rfl)
  · replace Heq := (if_neg c_1).symm.trans Heq
    refine lv_aload_n hx hb d_rgreatest_12 rfl (lv_at hl 0 rfl) ?_
    refine lv_iload_n hx hb d_rgreatest_13 rfl (lv_at hl 1 rfl) ?_
    refine lv_iload_n hx hb d_rgreatest_14 rfl (lv_at hl 3 rfl) ?_
    obtain ⟨o_2, h_3, Heq⟩ := ob_some Heq
    have hFc := fr_all hD hS hA
    refine va_calli (va_runV (As := [.int x1, .int x3]) (rest := []) ⟨hx, hb, hml, hown, hts⟩ (g_rowns l D H.size h_3) (cw_v 2 hts kw_1692 kw_1689 kw_1691 kp_42 kw_11 rfl rfl (by decide +kernel) ⟨Nat.le_of_ble_eq_true rfl, Nat.le_of_ble_eq_true rfl⟩) ⟨g_blind, va_recv hK hP (ci := 12) (q0 := 0) rfl rfl, fun U hU hW => g_pre hU hW hP hK hD⟩ rfl rfl hl.1 rfl (lv_room (Nat.le_of_ble_eq_true rfl)) d_rgreatest_15 ⟨Nat.le_of_ble_eq_true rfl, Nat.le_of_ble_eq_true rfl⟩) hS (fun q _ h => hFc q h) hFc (fun rz u t H1 locs ht hvm hw hB hz1 hk1 hS => ?_)
    obtain ⟨hP, -, hD1⟩ := hB
    rw [ht] at hP
    have hD := hD1.weaken (fun _ q _ h => hFc q.1 h)
    generalize H1 = H at hP hS ⊢
    refine W.cs (cells' := 0) (slots' := 0) rfl rfl ?_
    subst hw
    refine lv_if_eq (tgt := 35) hx hb d_rgreatest_18 (by decide) (fun c_4 => ?_) (fun c_4 => ?_)
    · replace Heq := (if_pos c_4).symm.trans Heq
      exact w_rgreatest_J35 hC Heq Ka K0 _ _ _ hP hD hS (lv_sub hl [0, 1, 2, 3] rfl)
    · replace Heq := (if_neg c_4).symm.trans Heq
      refine lv_iload_n hx hb d_rgreatest_21 rfl (lv_at hl 2 rfl) ?_
      refine lv_aload_n hx hb d_rgreatest_22 rfl (lv_at hl 0 rfl) ?_
      refine va_get (D := D) (ci := 12) (v := .ref (md 8)) (C := R_MM) (T := F_MM) (N := 77) hx hb hts i_MM hown hK hP 0 rfl rfl 8 (by decide) (hts _ kw_1390) (fun _ h9 => h9) rfl d_rgreatest_23 ?_
      refine lv_iload_n hx hb d_rgreatest_26 rfl (lv_at hl 3 rfl) ?_
      obtain ⟨hi_5, Heq⟩ := gd_some Heq
      refine va_iald hx hb hK hP 4 0 rfl rfl (i := x3) hi_5 d_rgreatest_27 ?_
      refine w_i (y := o_2.1.a 8 x3.toNatClampNeg) rfl ?_
      refine lv_bipush (v := 8) hx hb d_rgreatest_28 (by decide) ?_
      refine lv_idiv hx hb d_rgreatest_30 (by decide) ?_
      refine w_i (y := (o_2.1.a 8 x3.toNatClampNeg) / 8) rfl ?_
      refine va_mmax hx hb (hml.trans hl.1.symm) hown (hts _ kw_1693) (hts _ kw_1102) (hts _ kw_21) (hts _ kw_1103) (Nat.le_of_ble_eq_true rfl) (Nat.le_of_ble_eq_true rfl) (Nat.le_of_ble_eq_true rfl) (Nat.le_of_ble_eq_true rfl) d_rgreatest_31 ?_
      refine lv_istore_n (lv' := [(2, .int (if x2 < (o_2.1.a 8 x3.toNatClampNeg) / 8 then (o_2.1.a 8 x3.toNatClampNeg) / 8 else x2)), (0, .ref (md 100)), (1, .int x1), (3, .int x3)]) hx hb d_rgreatest_34 rfl hl (by decide) rfl (fun ls hl => ?_)
      exact w_rgreatest_J35 hC Heq Ka K0 _ _ _ hP hD hS (lv_sub hl [1, 2, 0, 3] rfl)
def m_rgreatest_L4 (S : MS) (x1 : Int32) (x2 : Int32) (x3 : Int32) : Option (MS × Int32) := lp (fun a : MS × Int32 × Int32 × Int32 => m_rgreatest_B4 a.1 a.2.1 a.2.2.1 a.2.2.2) FU (S, x1, x2, x3)
theorem w_rgreatest_L4 {p : Program} {l : Launch} {e : Env} {s : State} {m : MethodId} {args : Array Value} {below : List Frame} {meth : Method} {c : Code} {A : Nat → Prop} {D : va_G} {md : Nat → Nat} {mc : Nat → ClassId} {Q : State → Prop} (hC : MCx "JoinedTreesModel" prog_14_method_22_code 4 (some .int) p s m args meth c A D mc) {S : MS} {x1 : Int32} {x2 : Int32} {x3 : Int32} {o : MS × Int32} (Heq : m_rgreatest_L4 S x1 x2 x3 = some o) (K0 : ∀ b : MS × Int32, o = b → ∀ (H : Heap) (locs : List Loc) (ls : Array Slot), va_P D cls (mw md mc b.1) H → va_D A (mw md mc b.1) → va_S A s.heap H locs → lv_has ls 4 [(0, .ref (md 100)), (2, .int b.2)] → W p l e ({ frames := 1, cells := 0, slots := 0, locals := 24 }) s m args below meth c H locs 0 0 Q (F0 m 41 ls [])) : ∀ (H : Heap) (locs : List Loc) (ls : Array Slot), va_P D cls (mw md mc S) H → va_D A (mw md mc S) → va_S A s.heap H locs → lv_has ls 4 [(0, .ref (md 100)), (1, .int x1), (2, .int x2), (3, .int x3)] → W p l e ({ frames := 1, cells := 0, slots := 0, locals := 24 }) s m args below meth c H locs 0 0 Q (F0 m 4 ls []) := by
  refine lp_w (G := fun a : MS × Int32 × Int32 × Int32 => ∀ (H : Heap) (locs : List Loc) (ls : Array Slot), va_P D cls (mw md mc a.1) H → va_D A (mw md mc a.1) → va_S A s.heap H locs → lv_has ls 4 [(0, .ref (md 100)), (1, .int a.2.1), (2, .int a.2.2.1), (3, .int a.2.2.2)] → W p l e ({ frames := 1, cells := 0, slots := 0, locals := 24 }) s m args below meth c H locs 0 0 Q (F0 m 4 ls [])) ?_ FU (S, x1, x2, x3) Heq
  intro a o1 ho Ka Ke
  exact w_rgreatest_B4 hC ho (fun b h => Ka b h) (fun b h => K0 b (Ke _ h).symm)
def m_rgreatest_J0 (S : MS) (x1 : Int32) : Option (MS × Int32) := ob (m_rgreatest_L4 S x1 0 0) (fun b_1 => some (b_1.1, b_1.2))
theorem d_rgreatest_41 : decode prog_14_method_22_code 41 = .ok (.iload_n 2, 1) := by decide +kernel
theorem d_rgreatest_42 : decode prog_14_method_22_code 42 = .ok (.ireturn, 1) := by decide +kernel
set_option maxHeartbeats 4000000 in
set_option maxRecDepth 100000 in
theorem w_rgreatest_J0 {p : Program} {l : Launch} {e : Env} {s : State} {m : MethodId} {args : Array Value} {below : List Frame} {meth : Method} {c : Code} {A : Nat → Prop} {D : va_G} {md : Nat → Nat} {mc : Nat → ClassId} {Q : State → Prop} (hC : MCx "JoinedTreesModel" prog_14_method_22_code 4 (some .int) p s m args meth c A D mc) {S : MS} {x1 : Int32} {o : MS × Int32} (Heq : m_rgreatest_J0 S x1 = some o) (Kr : ∀ r : MS × Int32, o = r → ∀ (pc : Nat) (H : Heap) (locs : List Loc) (ls : Array Slot), decode prog_14_method_22_code pc = .ok (.ireturn, 1) → va_P D cls (mw md mc r.1) H → va_D A (mw md mc r.1) → va_S A s.heap H locs → W p l e ({ frames := 1, cells := 0, slots := 0, locals := 24 }) s m args below meth c H locs 0 0 Q (F0 m pc ls [.int r.2])) : ∀ (H : Heap) (locs : List Loc) (ls : Array Slot), va_P D cls (mw md mc S) H → va_D A (mw md mc S) → va_S A s.heap H locs → lv_has ls 4 [(0, .ref (md 100)), (1, .int x1)] → W p l e ({ frames := 1, cells := 0, slots := 0, locals := 24 }) s m args below meth c H locs 0 0 Q (F0 m 0 ls []) := by
  intro H locs ls hP hD hS hl
  obtain ⟨hx, hb, hr, hml, hown, hts, hK, hA⟩ := id hC
  unfold m_rgreatest_J0 at Heq
  refine lv_iconst (v := 0) hx hb d_rgreatest_0 (by decide) ?_
  refine lv_istore_n (lv' := [(2, .int 0), (0, .ref (md 100)), (1, .int x1)]) hx hb d_rgreatest_1 rfl hl (by decide) rfl (fun ls hl => ?_)
  refine lv_iconst (v := 0) hx hb d_rgreatest_2 (by decide) ?_
  refine lv_istore_n (lv' := [(3, .int 0), (2, .int 0), (0, .ref (md 100)), (1, .int x1)]) hx hb d_rgreatest_3 rfl hl (by decide) rfl (fun ls hl => ?_)
  obtain ⟨b_1, h_2, Heq⟩ := ob_some Heq
  refine w_rgreatest_L4 hC h_2 (fun b h => ?_) _ _ _ hP hD hS (lv_sub hl [2, 3, 1, 0] rfl)
  subst h
  intro H locs ls hP hD hS hl
  refine lv_iload_n hx hb d_rgreatest_41 rfl (lv_at hl 1 rfl) ?_
  exact Kr _ (Option.some.inj Heq).symm 42 _ _ _ d_rgreatest_42 hP hD hS
def m_rgreatest (S : MS) (x1 : Int32) : Option (MS × Int32) := m_rgreatest_J0 S x1
theorem g_rgreatest (l : Launch) (D : va_G) (sz : Nat) {md : Nat → Nat} {mc : Nat → ClassId} {S : MS} {x1 : Int32} {o : MS × Int32} (Heq : m_rgreatest S x1 = some o) : Met l ⟨"JoinedTreesModel", "greatest", "(I)I"⟩ (Cond.code ⟨"JoinedTreesModel", "greatest", "(I)I"⟩ prog_14_method_22_code 4 (some .int) :: gb) ({ frames := 1, cells := 0, slots := 0, locals := 24 }) (gPc D (mw md mc S) (mty mc) sz [.ref (md 100), .int x1]) (va_Qi (fun (r : Int32) (_ : Unit) => r = o.2) (fun _ t => gO D (mw md mc o.1) (mty mc) (va_A (mw md mc S) sz) t) (va_A (mw md mc S) sz)) 0 0 (va_A (mw md mc S) sz) := by
  refine Met.ofW (cc := prog_14_method_22_code) (maxL := 4) (ret := (some .int)) (by decide) rfl ?_
  intro p e s m args below meth c s₁ B hml hv
  obtain ⟨rfl, hsz, hP, hK, hD0⟩ := hv
  have hx := B.exec
  have hb := B.bytes
  have hr := B.returns
  have hts : ∀ w9 ∈ gb, w9.before [.ref (md 100), .int x1].toArray s = true := fun w9 h => atoms_spec (ws := Cond.code ⟨"JoinedTreesModel", "greatest", "(I)I"⟩ prog_14_method_22_code 4 (some .int) :: gb) B.pre w9 (List.mem_cons_of_mem _ h)
  have hown : s.vm.findClass "JoinedTreesModel" = some m.cls := findClass_of_methodNamed B.named
  have hlocks := B.notSynchronized
  subst hsz
  have hD := hD0.self (sz := s.heap.size)
  generalize hAe : va_A (mw md mc S) s.heap.size = A at hD ⊢
  have hA : ∀ q : Nat, s.heap.size ≤ q → A q := fun q h => by rw [← hAe]; exact Or.inr h
  have hS : va_S A s.heap s.heap [] := va_S.rf
  have hl := lv_entry ([.ref (md 100), .int x1]) (n := 4) (Nat.le_of_ble_eq_true rfl)
  rw [lg_entry_eq]
  generalize (lg_sl ([.ref (md 100), .int x1]) ++ List.replicate (4 - (lg_sl ([.ref (md 100), .int x1])).length) Slot.unset).toArray = ls at hl ⊢
  have hl : lv_has ls 4 [(0, .ref (md 100)), (1, .int x1)] := hl
  refine w_rgreatest_J0 ⟨hx, hb, hr, hml, hown, hts, hK, hA⟩ Heq (fun r h pc H locs ls hd hP hD hS => ?_) _ _ _ hP hD hS (lv_sub hl [0, 1] rfl)
  subst h
  exact W.iret hx hb hr (fun t ht hW => ⟨⟨_, (), rfl, rfl, by rw [ht]; exact hP, va_K.moved hW.alike hK, hD⟩, hS.F ht⟩) hS.2.2 hd
def m_rkeep_B3 (S : MS) (x1 : Nat) (x2 : Int32) (x3 : Int32) (x4 : Int32) : Option ((MS × Nat × Int32 × Int32 × Int32) ⊕ (MS × Int32)) := (if x3 ≤ x4 then some (.inr (S, x3)) else gB x1 (gd (x2 + x4) 8300 (gd ((S.i 27) + x4) 32876 (some (.inl ((S.setA 26 (upd (S.a 26) (((S.i 27) + x4).toNatClampNeg) (vp_nar .byte (S.a x1 ((x2 + x4).toNatClampNeg))))), x1, x2, x3, (x4 + 1)))))))
theorem d_rkeep_0 : decode prog_14_method_23_code 0 = .ok (.iconst 0, 1) := by decide +kernel
theorem d_rkeep_1 : decode prog_14_method_23_code 1 = .ok (.istore 4, 2) := by decide +kernel
theorem d_rkeep_3 : decode prog_14_method_23_code 3 = .ok (.iload 4, 2) := by decide +kernel
theorem d_rkeep_5 : decode prog_14_method_23_code 5 = .ok (.iload_n 3, 1) := by decide +kernel
theorem d_rkeep_6 : decode prog_14_method_23_code 6 = .ok (.if_icmp .ge 27, 3) := by decide +kernel
theorem d_rkeep_9 : decode prog_14_method_23_code 9 = .ok (.aload_n 0, 1) := by decide +kernel
theorem d_rkeep_10 : decode prog_14_method_23_code 10 = .ok (.getfield 72, 3) := by decide +kernel
theorem d_rkeep_13 : decode prog_14_method_23_code 13 = .ok (.aload_n 0, 1) := by decide +kernel
theorem d_rkeep_14 : decode prog_14_method_23_code 14 = .ok (.getfield 238, 3) := by decide +kernel
theorem d_rkeep_17 : decode prog_14_method_23_code 17 = .ok (.iload 4, 2) := by decide +kernel
theorem d_rkeep_19 : decode prog_14_method_23_code 19 = .ok (.iadd, 1) := by decide +kernel
theorem d_rkeep_20 : decode prog_14_method_23_code 20 = .ok (.aload_n 1, 1) := by decide +kernel
theorem d_rkeep_21 : decode prog_14_method_23_code 21 = .ok (.iload_n 2, 1) := by decide +kernel
theorem d_rkeep_22 : decode prog_14_method_23_code 22 = .ok (.iload 4, 2) := by decide +kernel
theorem d_rkeep_24 : decode prog_14_method_23_code 24 = .ok (.iadd, 1) := by decide +kernel
theorem d_rkeep_25 : decode prog_14_method_23_code 25 = .ok (.baload, 1) := by decide +kernel
theorem d_rkeep_26 : decode prog_14_method_23_code 26 = .ok (.bastore, 1) := by decide +kernel
theorem d_rkeep_27 : decode prog_14_method_23_code 27 = .ok (.iinc 4 1, 3) := by decide +kernel
theorem d_rkeep_30 : decode prog_14_method_23_code 30 = .ok (.goto (-27), 3) := by decide +kernel
set_option maxHeartbeats 4000000 in
set_option maxRecDepth 100000 in
theorem w_rkeep_B3 {p : Program} {l : Launch} {e : Env} {s : State} {m : MethodId} {args : Array Value} {below : List Frame} {meth : Method} {c : Code} {A : Nat → Prop} {D : va_G} {md : Nat → Nat} {mc : Nat → ClassId} {Q : State → Prop} (hC : MCx "JoinedTreesModel" prog_14_method_23_code 5 (some .int) p s m args meth c A D mc) {S : MS} {x1 : Nat} {x2 : Int32} {x3 : Int32} {x4 : Int32} {o : ((MS × Nat × Int32 × Int32 × Int32) ⊕ (MS × Int32))} (Heq : m_rkeep_B3 S x1 x2 x3 x4 = some o) (Ka : ∀ b : MS × Nat × Int32 × Int32 × Int32, o = .inl b → ∀ (H : Heap) (locs : List Loc) (ls : Array Slot), va_P D cls (mw md mc b.1) H → va_D A (mw md mc b.1) → va_S A s.heap H locs → lv_has ls 5 [(0, .ref (md 100)), (1, .ref (md b.2.1)), (2, .int b.2.2.1), (3, .int b.2.2.2.1), (4, .int b.2.2.2.2)] → W p l e ({ frames := 0, cells := 0, slots := 0, locals := 0 }) s m args below meth c H locs 0 0 Q (F0 m 3 ls [])) (K0 : ∀ b : MS × Int32, o = .inr b → ∀ (H : Heap) (locs : List Loc) (ls : Array Slot), va_P D cls (mw md mc b.1) H → va_D A (mw md mc b.1) → va_S A s.heap H locs → lv_has ls 5 [(0, .ref (md 100)), (3, .int b.2)] → W p l e ({ frames := 0, cells := 0, slots := 0, locals := 0 }) s m args below meth c H locs 0 0 Q (F0 m 33 ls [])) : ∀ (H : Heap) (locs : List Loc) (ls : Array Slot), va_P D cls (mw md mc S) H → va_D A (mw md mc S) → va_S A s.heap H locs → lv_has ls 5 [(0, .ref (md 100)), (1, .ref (md x1)), (2, .int x2), (3, .int x3), (4, .int x4)] → W p l e ({ frames := 0, cells := 0, slots := 0, locals := 0 }) s m args below meth c H locs 0 0 Q (F0 m 3 ls []) := by
  intro H locs ls hP hD hS hl
  obtain ⟨hx, hb, hr, hml, hown, hts, hK, hA⟩ := id hC
  unfold m_rkeep_B3 at Heq
  refine lv_iload hx hb d_rkeep_3 (lv_at hl 4 rfl) ?_
  refine lv_iload_n hx hb d_rkeep_5 rfl (lv_at hl 3 rfl) ?_
  refine lv_icmp_ge (tgt := 33) hx hb d_rkeep_6 (by decide) (fun c_1 => ?_) (fun c_1 => ?_)
  · replace Heq := (if_pos c_1).symm.trans Heq
    exact K0 _ (Option.some.inj Heq).symm _ _ _ hP hD hS (lv_sub hl [0, 3] rfl)
  · replace Heq := (if_neg c_1).symm.trans Heq
    refine lv_aload_n hx hb d_rkeep_9 rfl (lv_at hl 0 rfl) ?_
    refine va_get (D := D) (ci := 12) (v := .ref (md 26)) (C := R_MM) (T := F_MM) (N := 77) hx hb hts i_MM hown hK hP 0 rfl rfl 26 (by decide) (hts _ kw_1408) (fun _ h9 => h9) rfl d_rkeep_10 ?_
    refine lv_aload_n hx hb d_rkeep_13 rfl (lv_at hl 0 rfl) ?_
    refine va_get (D := D) (ci := 12) (v := .int (S.i 27)) (C := R_MM) (T := F_MM) (N := 77) hx hb hts i_MM hown hK hP 0 rfl rfl 27 (by decide) (hts _ kw_1409) (fun _ h9 => h9) rfl d_rkeep_14 ?_
    refine lv_iload hx hb d_rkeep_17 (lv_at hl 4 rfl) ?_
    refine lv_iadd hx hb d_rkeep_19 ?_
    refine w_i (y := (S.i 27) + x4) rfl ?_
    refine lv_aload_n hx hb d_rkeep_20 rfl (lv_at hl 1 rfl) ?_
    refine lv_iload_n hx hb d_rkeep_21 rfl (lv_at hl 2 rfl) ?_
    refine lv_iload hx hb d_rkeep_22 (lv_at hl 4 rfl) ?_
    refine lv_iadd hx hb d_rkeep_24 ?_
    refine w_i (y := x2 + x4) rfl ?_
    obtain ⟨hB_x1, Heq⟩ := gB_some Heq
    obtain ⟨hi_2, Heq⟩ := gd_some Heq
    refine va_bald hx hb hK hP (bpos x1) 1 (mp_B hB_x1) rfl (i := x2 + x4) hi_2 d_rkeep_25 ?_
    refine w_i (y := S.a x1 ((x2 + x4).toNatClampNeg)) rfl ?_
    obtain ⟨hi_3, Heq⟩ := gd_some Heq
    refine va_bast hx hb hK hP hD hS 20 1 rfl rfl (i := (S.i 27) + x4) (x := S.a x1 ((x2 + x4).toNatClampNeg)) hi_3 d_rkeep_26 (fun H locs hP hD hS => ?_)
    rw [mw_A26] at hP hD
    refine lv_iinc (v := x4 + 1) (lv' := [(4, .int (x4 + 1)), (0, .ref (md 100)), (1, .ref (md x1)), (2, .int x2), (3, .int x3)]) hx hb d_rkeep_27 hl (k := 4) rfl rfl (by decide) rfl (fun ls hl => ?_)
    refine lv_goto (tgt := 3) hx hb d_rkeep_30 (by decide) ?_
    exact Ka _ (Option.some.inj Heq).symm _ _ _ hP hD hS (lv_sub hl [1, 2, 3, 4, 0] rfl)
def m_rkeep_L3 (S : MS) (x1 : Nat) (x2 : Int32) (x3 : Int32) (x4 : Int32) : Option (MS × Int32) := lp (fun a : MS × Nat × Int32 × Int32 × Int32 => m_rkeep_B3 a.1 a.2.1 a.2.2.1 a.2.2.2.1 a.2.2.2.2) FU (S, x1, x2, x3, x4)
theorem w_rkeep_L3 {p : Program} {l : Launch} {e : Env} {s : State} {m : MethodId} {args : Array Value} {below : List Frame} {meth : Method} {c : Code} {A : Nat → Prop} {D : va_G} {md : Nat → Nat} {mc : Nat → ClassId} {Q : State → Prop} (hC : MCx "JoinedTreesModel" prog_14_method_23_code 5 (some .int) p s m args meth c A D mc) {S : MS} {x1 : Nat} {x2 : Int32} {x3 : Int32} {x4 : Int32} {o : MS × Int32} (Heq : m_rkeep_L3 S x1 x2 x3 x4 = some o) (K0 : ∀ b : MS × Int32, o = b → ∀ (H : Heap) (locs : List Loc) (ls : Array Slot), va_P D cls (mw md mc b.1) H → va_D A (mw md mc b.1) → va_S A s.heap H locs → lv_has ls 5 [(0, .ref (md 100)), (3, .int b.2)] → W p l e ({ frames := 0, cells := 0, slots := 0, locals := 0 }) s m args below meth c H locs 0 0 Q (F0 m 33 ls [])) : ∀ (H : Heap) (locs : List Loc) (ls : Array Slot), va_P D cls (mw md mc S) H → va_D A (mw md mc S) → va_S A s.heap H locs → lv_has ls 5 [(0, .ref (md 100)), (1, .ref (md x1)), (2, .int x2), (3, .int x3), (4, .int x4)] → W p l e ({ frames := 0, cells := 0, slots := 0, locals := 0 }) s m args below meth c H locs 0 0 Q (F0 m 3 ls []) := by
  refine lp_w (G := fun a : MS × Nat × Int32 × Int32 × Int32 => ∀ (H : Heap) (locs : List Loc) (ls : Array Slot), va_P D cls (mw md mc a.1) H → va_D A (mw md mc a.1) → va_S A s.heap H locs → lv_has ls 5 [(0, .ref (md 100)), (1, .ref (md a.2.1)), (2, .int a.2.2.1), (3, .int a.2.2.2.1), (4, .int a.2.2.2.2)] → W p l e ({ frames := 0, cells := 0, slots := 0, locals := 0 }) s m args below meth c H locs 0 0 Q (F0 m 3 ls [])) ?_ FU (S, x1, x2, x3, x4) Heq
  intro a o1 ho Ka Ke
  exact w_rkeep_B3 hC ho (fun b h => Ka b h) (fun b h => K0 b (Ke _ h).symm)
def m_rkeep_J0 (S : MS) (x1 : Nat) (x2 : Int32) (x3 : Int32) : Option (MS × Int32) := ob (m_rkeep_L3 S x1 x2 x3 0) (fun b_1 => some ((b_1.1.setI 27 ((b_1.1.i 27) + b_1.2)), ((b_1.1.i 27) + b_1.2) - b_1.2))
theorem d_rkeep_33 : decode prog_14_method_23_code 33 = .ok (.aload_n 0, 1) := by decide +kernel
theorem d_rkeep_34 : decode prog_14_method_23_code 34 = .ok (.dup, 1) := by decide +kernel
theorem d_rkeep_35 : decode prog_14_method_23_code 35 = .ok (.getfield 238, 3) := by decide +kernel
theorem d_rkeep_38 : decode prog_14_method_23_code 38 = .ok (.iload_n 3, 1) := by decide +kernel
theorem d_rkeep_39 : decode prog_14_method_23_code 39 = .ok (.iadd, 1) := by decide +kernel
theorem d_rkeep_40 : decode prog_14_method_23_code 40 = .ok (.putfield 238, 3) := by decide +kernel
theorem d_rkeep_43 : decode prog_14_method_23_code 43 = .ok (.aload_n 0, 1) := by decide +kernel
theorem d_rkeep_44 : decode prog_14_method_23_code 44 = .ok (.getfield 238, 3) := by decide +kernel
theorem d_rkeep_47 : decode prog_14_method_23_code 47 = .ok (.iload_n 3, 1) := by decide +kernel
theorem d_rkeep_48 : decode prog_14_method_23_code 48 = .ok (.isub, 1) := by decide +kernel
theorem d_rkeep_49 : decode prog_14_method_23_code 49 = .ok (.ireturn, 1) := by decide +kernel
set_option maxHeartbeats 4000000 in
set_option maxRecDepth 100000 in
theorem w_rkeep_J0 {p : Program} {l : Launch} {e : Env} {s : State} {m : MethodId} {args : Array Value} {below : List Frame} {meth : Method} {c : Code} {A : Nat → Prop} {D : va_G} {md : Nat → Nat} {mc : Nat → ClassId} {Q : State → Prop} (hC : MCx "JoinedTreesModel" prog_14_method_23_code 5 (some .int) p s m args meth c A D mc) {S : MS} {x1 : Nat} {x2 : Int32} {x3 : Int32} {o : MS × Int32} (Heq : m_rkeep_J0 S x1 x2 x3 = some o) (Kr : ∀ r : MS × Int32, o = r → ∀ (pc : Nat) (H : Heap) (locs : List Loc) (ls : Array Slot), decode prog_14_method_23_code pc = .ok (.ireturn, 1) → va_P D cls (mw md mc r.1) H → va_D A (mw md mc r.1) → va_S A s.heap H locs → W p l e ({ frames := 0, cells := 0, slots := 0, locals := 0 }) s m args below meth c H locs 0 0 Q (F0 m pc ls [.int r.2])) : ∀ (H : Heap) (locs : List Loc) (ls : Array Slot), va_P D cls (mw md mc S) H → va_D A (mw md mc S) → va_S A s.heap H locs → lv_has ls 5 [(0, .ref (md 100)), (1, .ref (md x1)), (2, .int x2), (3, .int x3)] → W p l e ({ frames := 0, cells := 0, slots := 0, locals := 0 }) s m args below meth c H locs 0 0 Q (F0 m 0 ls []) := by
  intro H locs ls hP hD hS hl
  obtain ⟨hx, hb, hr, hml, hown, hts, hK, hA⟩ := id hC
  unfold m_rkeep_J0 at Heq
  refine lv_iconst (v := 0) hx hb d_rkeep_0 (by decide) ?_
  refine lv_istore (lv' := [(4, .int 0), (0, .ref (md 100)), (1, .ref (md x1)), (2, .int x2), (3, .int x3)]) hx hb d_rkeep_1 hl (by decide) rfl (fun ls hl => ?_)
  obtain ⟨b_1, h_2, Heq⟩ := ob_some Heq
  refine w_rkeep_L3 hC h_2 (fun b h => ?_) _ _ _ hP hD hS (lv_sub hl [1, 2, 3, 4, 0] rfl)
  subst h
  intro H locs ls hP hD hS hl
  refine lv_aload_n hx hb d_rkeep_33 rfl (lv_at hl 0 rfl) ?_
  refine lv_dup hx hb d_rkeep_34 rfl ?_
  refine va_get (D := D) (ci := 12) (v := .int (b_1.1.i 27)) (C := R_MM) (T := F_MM) (N := 77) hx hb hts i_MM hown hK hP 0 rfl rfl 27 (by decide) (hts _ kw_1409) (fun _ h9 => h9) rfl d_rkeep_35 ?_
  refine lv_iload_n hx hb d_rkeep_38 rfl (lv_at hl 1 rfl) ?_
  refine lv_iadd hx hb d_rkeep_39 ?_
  refine w_i (y := (b_1.1.i 27) + b_1.2) rfl ?_
  refine va_put (D := D) (ci := 12) (v := .int ((b_1.1.i 27) + b_1.2)) (ty := .int) (C := R_MM) (T := F_MM) (N := 77) hx hb hts i_MM t_MM t_MM_ok n_MM hown hK hP hD hS 0 rfl rfl 27 (by decide) (hts _ kw_1409) (fun _ h9 => h9) rfl (by decide +kernel) rfl rfl (Nat.le_of_ble_eq_true rfl) d_rkeep_40 (fun H locs hP hD hS => ?_)
  rw [mw_I27] at hP hD
  refine lv_aload_n hx hb d_rkeep_43 rfl (lv_at hl 0 rfl) ?_
  refine va_get (D := D) (ci := 12) (v := .int ((b_1.1.i 27) + b_1.2)) (C := R_MM) (T := F_MM) (N := 77) hx hb hts i_MM hown hK hP 0 rfl rfl 27 (by decide) (hts _ kw_1409) (fun _ h9 => h9) rfl d_rkeep_44 ?_
  refine lv_iload_n hx hb d_rkeep_47 rfl (lv_at hl 1 rfl) ?_
  refine lv_isub hx hb d_rkeep_48 ?_
  refine w_i (y := ((b_1.1.i 27) + b_1.2) - b_1.2) rfl ?_
  exact Kr _ (Option.some.inj Heq).symm 49 _ _ _ d_rkeep_49 hP hD hS
def m_rkeep (S : MS) (x1 : Nat) (x2 : Int32) (x3 : Int32) : Option (MS × Int32) := m_rkeep_J0 S x1 x2 x3
theorem g_rkeep (l : Launch) (D : va_G) (sz : Nat) {md : Nat → Nat} {mc : Nat → ClassId} {S : MS} {x1 : Nat} {x2 : Int32} {x3 : Int32} {o : MS × Int32} (Heq : m_rkeep S x1 x2 x3 = some o) : Met l ⟨"JoinedTreesModel", "keep", "([BII)I"⟩ (Cond.code ⟨"JoinedTreesModel", "keep", "([BII)I"⟩ prog_14_method_23_code 5 (some .int) :: gb) ({ frames := 0, cells := 0, slots := 0, locals := 0 }) (gPc D (mw md mc S) (mty mc) sz [.ref (md 100), .ref (md x1), .int x2, .int x3]) (va_Qi (fun (r : Int32) (_ : Unit) => r = o.2) (fun _ t => gO D (mw md mc o.1) (mty mc) (va_A (mw md mc S) sz) t) (va_A (mw md mc S) sz)) 0 0 (va_A (mw md mc S) sz) := by
  refine Met.ofW (cc := prog_14_method_23_code) (maxL := 5) (ret := (some .int)) (by decide) rfl ?_
  intro p e s m args below meth c s₁ B hml hv
  obtain ⟨rfl, hsz, hP, hK, hD0⟩ := hv
  have hx := B.exec
  have hb := B.bytes
  have hr := B.returns
  have hts : ∀ w9 ∈ gb, w9.before [.ref (md 100), .ref (md x1), .int x2, .int x3].toArray s = true := fun w9 h => atoms_spec (ws := Cond.code ⟨"JoinedTreesModel", "keep", "([BII)I"⟩ prog_14_method_23_code 5 (some .int) :: gb) B.pre w9 (List.mem_cons_of_mem _ h)
  have hown : s.vm.findClass "JoinedTreesModel" = some m.cls := findClass_of_methodNamed B.named
  have hlocks := B.notSynchronized
  subst hsz
  have hD := hD0.self (sz := s.heap.size)
  generalize hAe : va_A (mw md mc S) s.heap.size = A at hD ⊢
  have hA : ∀ q : Nat, s.heap.size ≤ q → A q := fun q h => by rw [← hAe]; exact Or.inr h
  have hS : va_S A s.heap s.heap [] := va_S.rf
  have hl := lv_entry ([.ref (md 100), .ref (md x1), .int x2, .int x3]) (n := 5) (Nat.le_of_ble_eq_true rfl)
  rw [lg_entry_eq]
  generalize (lg_sl ([.ref (md 100), .ref (md x1), .int x2, .int x3]) ++ List.replicate (5 - (lg_sl ([.ref (md 100), .ref (md x1), .int x2, .int x3])).length) Slot.unset).toArray = ls at hl ⊢
  have hl : lv_has ls 5 [(0, .ref (md 100)), (1, .ref (md x1)), (2, .int x2), (3, .int x3)] := hl
  refine w_rkeep_J0 ⟨hx, hb, hr, hml, hown, hts, hK, hA⟩ Heq (fun r h pc H locs ls hd hP hD hS => ?_) _ _ _ hP hD hS (lv_sub hl [0, 1, 2, 3] rfl)
  subst h
  exact W.iret hx hb hr (fun t ht hW => ⟨⟨_, (), rfl, rfl, by rw [ht]; exact hP, va_K.moved hW.alike hK, hD⟩, hS.F ht⟩) hS.2.2 hd
def m_rmake_B151 (S : MS) (x6 : Int32) (x7 : Int32) : Option ((MS × Int32 × Int32) ⊕ (MS × Int32 × Int32)) := (if x7 ≤ 0 then some (.inr (S, x6, x7)) else gd (x7 - 1) 4000 (gd (S.a 28 ((x7 - 1).toNatClampNeg)) 4000 (gd x6 4000 ((if S.a 8 ((S.a 28 ((x7 - 1).toNatClampNeg)).toNatClampNeg) ≤ S.a 8 x6.toNatClampNeg then some (.inr (S, x6, x7)) else gd (x7 - 1) 4000 (gd x7 4000 (some (.inl ((S.setA 28 (upd (S.a 28) x7.toNatClampNeg (S.a 28 ((x7 - 1).toNatClampNeg)))), x6, (x7 + (-1)))))))))))
theorem d_rmake_0 : decode prog_14_method_24_code 0 = .ok (.aload_n 0, 1) := by decide +kernel
theorem d_rmake_1 : decode prog_14_method_24_code 1 = .ok (.getfield 195, 3) := by decide +kernel
theorem d_rmake_4 : decode prog_14_method_24_code 4 = .ok (.istore 6, 2) := by decide +kernel
theorem d_rmake_6 : decode prog_14_method_24_code 6 = .ok (.aload_n 0, 1) := by decide +kernel
theorem d_rmake_7 : decode prog_14_method_24_code 7 = .ok (.getfield 19, 3) := by decide +kernel
theorem d_rmake_10 : decode prog_14_method_24_code 10 = .ok (.iload 6, 2) := by decide +kernel
theorem d_rmake_12 : decode prog_14_method_24_code 12 = .ok (.bipush 8, 2) := by decide +kernel
theorem d_rmake_14 : decode prog_14_method_24_code 14 = .ok (.aload_n 0, 1) := by decide +kernel
theorem d_rmake_15 : decode prog_14_method_24_code 15 = .ok (.iload_n 1, 1) := by decide +kernel
theorem d_rmake_16 : decode prog_14_method_24_code 16 = .ok (.invokevirtual 241, 3) := by decide +kernel
theorem d_rmake_19 : decode prog_14_method_24_code 19 = .ok (.iconst 1, 1) := by decide +kernel
theorem d_rmake_20 : decode prog_14_method_24_code 20 = .ok (.iadd, 1) := by decide +kernel
theorem d_rmake_21 : decode prog_14_method_24_code 21 = .ok (.imul, 1) := by decide +kernel
theorem d_rmake_22 : decode prog_14_method_24_code 22 = .ok (.iload_n 1, 1) := by decide +kernel
theorem d_rmake_23 : decode prog_14_method_24_code 23 = .ok (.iadd, 1) := by decide +kernel
theorem d_rmake_24 : decode prog_14_method_24_code 24 = .ok (.iastore, 1) := by decide +kernel
theorem d_rmake_25 : decode prog_14_method_24_code 25 = .ok (.aload_n 0, 1) := by decide +kernel
theorem d_rmake_26 : decode prog_14_method_24_code 26 = .ok (.getfield 23, 3) := by decide +kernel
theorem d_rmake_29 : decode prog_14_method_24_code 29 = .ok (.iload 6, 2) := by decide +kernel
theorem d_rmake_31 : decode prog_14_method_24_code 31 = .ok (.iload_n 2, 1) := by decide +kernel
theorem d_rmake_32 : decode prog_14_method_24_code 32 = .ok (.iastore, 1) := by decide +kernel
theorem d_rmake_33 : decode prog_14_method_24_code 33 = .ok (.aload_n 0, 1) := by decide +kernel
theorem d_rmake_34 : decode prog_14_method_24_code 34 = .ok (.getfield 26, 3) := by decide +kernel
theorem d_rmake_37 : decode prog_14_method_24_code 37 = .ok (.iload 6, 2) := by decide +kernel
theorem d_rmake_39 : decode prog_14_method_24_code 39 = .ok (.iconst 0, 1) := by decide +kernel
theorem d_rmake_40 : decode prog_14_method_24_code 40 = .ok (.iastore, 1) := by decide +kernel
theorem d_rmake_41 : decode prog_14_method_24_code 41 = .ok (.aload_n 0, 1) := by decide +kernel
theorem d_rmake_42 : decode prog_14_method_24_code 42 = .ok (.getfield 29, 3) := by decide +kernel
theorem d_rmake_45 : decode prog_14_method_24_code 45 = .ok (.iload 6, 2) := by decide +kernel
theorem d_rmake_47 : decode prog_14_method_24_code 47 = .ok (.iload_n 3, 1) := by decide +kernel
theorem d_rmake_48 : decode prog_14_method_24_code 48 = .ok (.iastore, 1) := by decide +kernel
theorem d_rmake_49 : decode prog_14_method_24_code 49 = .ok (.aload_n 0, 1) := by decide +kernel
theorem d_rmake_50 : decode prog_14_method_24_code 50 = .ok (.getfield 63, 3) := by decide +kernel
theorem d_rmake_53 : decode prog_14_method_24_code 53 = .ok (.iload 6, 2) := by decide +kernel
theorem d_rmake_55 : decode prog_14_method_24_code 55 = .ok (.iload_n 3, 1) := by decide +kernel
theorem d_rmake_56 : decode prog_14_method_24_code 56 = .ok (.iconst 3, 1) := by decide +kernel
theorem d_rmake_57 : decode prog_14_method_24_code 57 = .ok (.if_icmp .eq 14, 3) := by decide +kernel
theorem d_rmake_71 : decode prog_14_method_24_code 71 = .ok (.lload 4, 2) := by decide +kernel
theorem d_rmake_73 : decode prog_14_method_24_code 73 = .ok (.goto 4, 3) := by decide +kernel
theorem d_rmake_77 : decode prog_14_method_24_code 77 = .ok (.lastore, 1) := by decide +kernel
theorem d_rmake_78 : decode prog_14_method_24_code 78 = .ok (.aload_n 0, 1) := by decide +kernel
theorem d_rmake_79 : decode prog_14_method_24_code 79 = .ok (.getfield 32, 3) := by decide +kernel
theorem d_rmake_82 : decode prog_14_method_24_code 82 = .ok (.iload 6, 2) := by decide +kernel
theorem d_rmake_84 : decode prog_14_method_24_code 84 = .ok (.iload_n 1, 1) := by decide +kernel
theorem d_rmake_85 : decode prog_14_method_24_code 85 = .ok (.iastore, 1) := by decide +kernel
theorem d_rmake_86 : decode prog_14_method_24_code 86 = .ok (.aload_n 0, 1) := by decide +kernel
theorem d_rmake_87 : decode prog_14_method_24_code 87 = .ok (.getfield 35, 3) := by decide +kernel
theorem d_rmake_90 : decode prog_14_method_24_code 90 = .ok (.iload 6, 2) := by decide +kernel
theorem d_rmake_92 : decode prog_14_method_24_code 92 = .ok (.iconst (-1), 1) := by decide +kernel
theorem d_rmake_93 : decode prog_14_method_24_code 93 = .ok (.iastore, 1) := by decide +kernel
theorem d_rmake_94 : decode prog_14_method_24_code 94 = .ok (.aload_n 0, 1) := by decide +kernel
theorem d_rmake_95 : decode prog_14_method_24_code 95 = .ok (.getfield 41, 3) := by decide +kernel
theorem d_rmake_98 : decode prog_14_method_24_code 98 = .ok (.iload 6, 2) := by decide +kernel
theorem d_rmake_100 : decode prog_14_method_24_code 100 = .ok (.iconst 0, 1) := by decide +kernel
theorem d_rmake_101 : decode prog_14_method_24_code 101 = .ok (.iastore, 1) := by decide +kernel
theorem d_rmake_102 : decode prog_14_method_24_code 102 = .ok (.aload_n 0, 1) := by decide +kernel
theorem d_rmake_103 : decode prog_14_method_24_code 103 = .ok (.getfield 47, 3) := by decide +kernel
theorem d_rmake_106 : decode prog_14_method_24_code 106 = .ok (.iload 6, 2) := by decide +kernel
theorem d_rmake_108 : decode prog_14_method_24_code 108 = .ok (.iconst 0, 1) := by decide +kernel
theorem d_rmake_109 : decode prog_14_method_24_code 109 = .ok (.iastore, 1) := by decide +kernel
theorem d_rmake_110 : decode prog_14_method_24_code 110 = .ok (.aload_n 0, 1) := by decide +kernel
theorem d_rmake_111 : decode prog_14_method_24_code 111 = .ok (.getfield 56, 3) := by decide +kernel
theorem d_rmake_114 : decode prog_14_method_24_code 114 = .ok (.iload 6, 2) := by decide +kernel
theorem d_rmake_116 : decode prog_14_method_24_code 116 = .ok (.iconst 0, 1) := by decide +kernel
theorem d_rmake_117 : decode prog_14_method_24_code 117 = .ok (.bastore, 1) := by decide +kernel
theorem d_rmake_118 : decode prog_14_method_24_code 118 = .ok (.aload_n 0, 1) := by decide +kernel
theorem d_rmake_119 : decode prog_14_method_24_code 119 = .ok (.getfield 60, 3) := by decide +kernel
theorem d_rmake_122 : decode prog_14_method_24_code 122 = .ok (.iload 6, 2) := by decide +kernel
theorem d_rmake_124 : decode prog_14_method_24_code 124 = .ok (.iconst 0, 1) := by decide +kernel
theorem d_rmake_125 : decode prog_14_method_24_code 125 = .ok (.bastore, 1) := by decide +kernel
theorem d_rmake_126 : decode prog_14_method_24_code 126 = .ok (.aload_n 0, 1) := by decide +kernel
theorem d_rmake_127 : decode prog_14_method_24_code 127 = .ok (.getfield 50, 3) := by decide +kernel
theorem d_rmake_130 : decode prog_14_method_24_code 130 = .ok (.iload 6, 2) := by decide +kernel
theorem d_rmake_132 : decode prog_14_method_24_code 132 = .ok (.aload_n 0, 1) := by decide +kernel
theorem d_rmake_133 : decode prog_14_method_24_code 133 = .ok (.getfield 244, 3) := by decide +kernel
theorem d_rmake_136 : decode prog_14_method_24_code 136 = .ok (.iastore, 1) := by decide +kernel
theorem d_rmake_137 : decode prog_14_method_24_code 137 = .ok (.aload_n 0, 1) := by decide +kernel
theorem d_rmake_138 : decode prog_14_method_24_code 138 = .ok (.getfield 53, 3) := by decide +kernel
theorem d_rmake_141 : decode prog_14_method_24_code 141 = .ok (.iload 6, 2) := by decide +kernel
theorem d_rmake_143 : decode prog_14_method_24_code 143 = .ok (.iconst 0, 1) := by decide +kernel
theorem d_rmake_144 : decode prog_14_method_24_code 144 = .ok (.iastore, 1) := by decide +kernel
theorem d_rmake_145 : decode prog_14_method_24_code 145 = .ok (.aload_n 0, 1) := by decide +kernel
theorem d_rmake_146 : decode prog_14_method_24_code 146 = .ok (.getfield 195, 3) := by decide +kernel
theorem d_rmake_149 : decode prog_14_method_24_code 149 = .ok (.istore 7, 2) := by decide +kernel
theorem d_rmake_151 : decode prog_14_method_24_code 151 = .ok (.iload 7, 2) := by decide +kernel
theorem d_rmake_153 : decode prog_14_method_24_code 153 = .ok (.ifCond .le 49, 3) := by decide +kernel
theorem d_rmake_156 : decode prog_14_method_24_code 156 = .ok (.aload_n 0, 1) := by decide +kernel
theorem d_rmake_157 : decode prog_14_method_24_code 157 = .ok (.getfield 19, 3) := by decide +kernel
theorem d_rmake_160 : decode prog_14_method_24_code 160 = .ok (.aload_n 0, 1) := by decide +kernel
theorem d_rmake_161 : decode prog_14_method_24_code 161 = .ok (.getfield 75, 3) := by decide +kernel
theorem d_rmake_164 : decode prog_14_method_24_code 164 = .ok (.iload 7, 2) := by decide +kernel
theorem d_rmake_166 : decode prog_14_method_24_code 166 = .ok (.iconst 1, 1) := by decide +kernel
theorem d_rmake_167 : decode prog_14_method_24_code 167 = .ok (.isub, 1) := by decide +kernel
theorem d_rmake_168 : decode prog_14_method_24_code 168 = .ok (.iaload, 1) := by decide +kernel
theorem d_rmake_169 : decode prog_14_method_24_code 169 = .ok (.iaload, 1) := by decide +kernel
theorem d_rmake_170 : decode prog_14_method_24_code 170 = .ok (.aload_n 0, 1) := by decide +kernel
theorem d_rmake_171 : decode prog_14_method_24_code 171 = .ok (.getfield 19, 3) := by decide +kernel
theorem d_rmake_174 : decode prog_14_method_24_code 174 = .ok (.iload 6, 2) := by decide +kernel
theorem d_rmake_176 : decode prog_14_method_24_code 176 = .ok (.iaload, 1) := by decide +kernel
theorem d_rmake_177 : decode prog_14_method_24_code 177 = .ok (.if_icmp .le 25, 3) := by decide +kernel
theorem d_rmake_180 : decode prog_14_method_24_code 180 = .ok (.aload_n 0, 1) := by decide +kernel
theorem d_rmake_181 : decode prog_14_method_24_code 181 = .ok (.getfield 75, 3) := by decide +kernel
theorem d_rmake_184 : decode prog_14_method_24_code 184 = .ok (.iload 7, 2) := by decide +kernel
theorem d_rmake_186 : decode prog_14_method_24_code 186 = .ok (.aload_n 0, 1) := by decide +kernel
theorem d_rmake_187 : decode prog_14_method_24_code 187 = .ok (.getfield 75, 3) := by decide +kernel
theorem d_rmake_190 : decode prog_14_method_24_code 190 = .ok (.iload 7, 2) := by decide +kernel
theorem d_rmake_192 : decode prog_14_method_24_code 192 = .ok (.iconst 1, 1) := by decide +kernel
theorem d_rmake_193 : decode prog_14_method_24_code 193 = .ok (.isub, 1) := by decide +kernel
theorem d_rmake_194 : decode prog_14_method_24_code 194 = .ok (.iaload, 1) := by decide +kernel
theorem d_rmake_195 : decode prog_14_method_24_code 195 = .ok (.iastore, 1) := by decide +kernel
theorem d_rmake_196 : decode prog_14_method_24_code 196 = .ok (.iinc 7 (-1), 3) := by decide +kernel
theorem d_rmake_199 : decode prog_14_method_24_code 199 = .ok (.goto (-48), 3) := by decide +kernel
set_option maxHeartbeats 4000000 in
set_option maxRecDepth 100000 in
theorem w_rmake_B151 {p : Program} {l : Launch} {e : Env} {s : State} {m : MethodId} {args : Array Value} {below : List Frame} {meth : Method} {c : Code} {A : Nat → Prop} {D : va_G} {md : Nat → Nat} {mc : Nat → ClassId} {Q : State → Prop} (hC : MCx "JoinedTreesModel" prog_14_method_24_code 8 (some .int) p s m args meth c A D mc) {S : MS} {x6 : Int32} {x7 : Int32} {o : ((MS × Int32 × Int32) ⊕ (MS × Int32 × Int32))} (Heq : m_rmake_B151 S x6 x7 = some o) (Ka : ∀ b : MS × Int32 × Int32, o = .inl b → ∀ (H : Heap) (locs : List Loc) (ls : Array Slot), va_P D cls (mw md mc b.1) H → va_D A (mw md mc b.1) → va_S A s.heap H locs → lv_has ls 8 [(0, .ref (md 100)), (6, .int b.2.1), (7, .int b.2.2)] → W p l e ({ frames := 2, cells := 0, slots := 0, locals := 47 }) s m args below meth c H locs 0 0 Q (F0 m 151 ls [])) (K0 : ∀ b : MS × Int32 × Int32, o = .inr b → ∀ (H : Heap) (locs : List Loc) (ls : Array Slot), va_P D cls (mw md mc b.1) H → va_D A (mw md mc b.1) → va_S A s.heap H locs → lv_has ls 8 [(0, .ref (md 100)), (6, .int b.2.1), (7, .int b.2.2)] → W p l e ({ frames := 2, cells := 0, slots := 0, locals := 47 }) s m args below meth c H locs 0 0 Q (F0 m 202 ls [])) : ∀ (H : Heap) (locs : List Loc) (ls : Array Slot), va_P D cls (mw md mc S) H → va_D A (mw md mc S) → va_S A s.heap H locs → lv_has ls 8 [(0, .ref (md 100)), (6, .int x6), (7, .int x7)] → W p l e ({ frames := 2, cells := 0, slots := 0, locals := 47 }) s m args below meth c H locs 0 0 Q (F0 m 151 ls []) := by
  intro H locs ls hP hD hS hl
  obtain ⟨hx, hb, hr, hml, hown, hts, hK, hA⟩ := id hC
  unfold m_rmake_B151 at Heq
  refine lv_iload hx hb d_rmake_151 (lv_at hl 2 rfl) ?_
  refine lv_if_le (tgt := 202) hx hb d_rmake_153 (by decide) (fun c_1 => ?_) (fun c_1 => ?_)
  · replace Heq := (if_pos c_1).symm.trans Heq
    exact K0 _ (Option.some.inj Heq).symm _ _ _ hP hD hS (lv_sub hl [0, 1, 2] rfl)
  · replace Heq := (if_neg c_1).symm.trans Heq
    refine lv_aload_n hx hb d_rmake_156 rfl (lv_at hl 0 rfl) ?_
    refine va_get (D := D) (ci := 12) (v := .ref (md 8)) (C := R_MM) (T := F_MM) (N := 77) hx hb hts i_MM hown hK hP 0 rfl rfl 8 (by decide) (hts _ kw_1390) (fun _ h9 => h9) rfl d_rmake_157 ?_
    refine lv_aload_n hx hb d_rmake_160 rfl (lv_at hl 0 rfl) ?_
    refine va_get (D := D) (ci := 12) (v := .ref (md 28)) (C := R_MM) (T := F_MM) (N := 77) hx hb hts i_MM hown hK hP 0 rfl rfl 28 (by decide) (hts _ kw_1410) (fun _ h9 => h9) rfl d_rmake_161 ?_
    refine lv_iload hx hb d_rmake_164 (lv_at hl 2 rfl) ?_
    refine lv_iconst (v := 1) hx hb d_rmake_166 (by decide) ?_
    refine lv_isub hx hb d_rmake_167 ?_
    refine w_i (y := x7 - 1) rfl ?_
    obtain ⟨hi_2, Heq⟩ := gd_some Heq
    refine va_iald hx hb hK hP 21 0 rfl rfl (i := x7 - 1) hi_2 d_rmake_168 ?_
    refine w_i (y := S.a 28 ((x7 - 1).toNatClampNeg)) rfl ?_
    obtain ⟨hi_3, Heq⟩ := gd_some Heq
    refine va_iald hx hb hK hP 4 0 rfl rfl (i := S.a 28 ((x7 - 1).toNatClampNeg)) hi_3 d_rmake_169 ?_
    refine w_i (y := S.a 8 ((S.a 28 ((x7 - 1).toNatClampNeg)).toNatClampNeg)) rfl ?_
    refine lv_aload_n hx hb d_rmake_170 rfl (lv_at hl 0 rfl) ?_
    refine va_get (D := D) (ci := 12) (v := .ref (md 8)) (C := R_MM) (T := F_MM) (N := 77) hx hb hts i_MM hown hK hP 0 rfl rfl 8 (by decide) (hts _ kw_1390) (fun _ h9 => h9) rfl d_rmake_171 ?_
    refine lv_iload hx hb d_rmake_174 (lv_at hl 1 rfl) ?_
    obtain ⟨hi_4, Heq⟩ := gd_some Heq
    refine va_iald hx hb hK hP 4 0 rfl rfl (i := x6) hi_4 d_rmake_176 ?_
    refine w_i (y := S.a 8 x6.toNatClampNeg) rfl ?_
    refine lv_icmp_le (tgt := 202) hx hb d_rmake_177 (by decide) (fun c_5 => ?_) (fun c_5 => ?_)
    · replace Heq := (if_pos c_5).symm.trans Heq
      exact K0 _ (Option.some.inj Heq).symm _ _ _ hP hD hS (lv_sub hl [0, 1, 2] rfl)
    · replace Heq := (if_neg c_5).symm.trans Heq
      refine lv_aload_n hx hb d_rmake_180 rfl (lv_at hl 0 rfl) ?_
      refine va_get (D := D) (ci := 12) (v := .ref (md 28)) (C := R_MM) (T := F_MM) (N := 77) hx hb hts i_MM hown hK hP 0 rfl rfl 28 (by decide) (hts _ kw_1410) (fun _ h9 => h9) rfl d_rmake_181 ?_
      refine lv_iload hx hb d_rmake_184 (lv_at hl 2 rfl) ?_
      refine lv_aload_n hx hb d_rmake_186 rfl (lv_at hl 0 rfl) ?_
      refine va_get (D := D) (ci := 12) (v := .ref (md 28)) (C := R_MM) (T := F_MM) (N := 77) hx hb hts i_MM hown hK hP 0 rfl rfl 28 (by decide) (hts _ kw_1410) (fun _ h9 => h9) rfl d_rmake_187 ?_
      refine lv_iload hx hb d_rmake_190 (lv_at hl 2 rfl) ?_
      refine lv_iconst (v := 1) hx hb d_rmake_192 (by decide) ?_
      refine lv_isub hx hb d_rmake_193 ?_
      refine w_i (y := x7 - 1) rfl ?_
      obtain ⟨hi_6, Heq⟩ := gd_some Heq
      refine va_iald hx hb hK hP 21 0 rfl rfl (i := x7 - 1) hi_6 d_rmake_194 ?_
      refine w_i (y := S.a 28 ((x7 - 1).toNatClampNeg)) rfl ?_
      obtain ⟨hi_7, Heq⟩ := gd_some Heq
      refine va_iast hx hb hK hP hD hS 21 0 rfl rfl (i := x7) (x := S.a 28 ((x7 - 1).toNatClampNeg)) hi_7 d_rmake_195 (fun H locs hP hD hS => ?_)
      rw [mw_A28] at hP hD
      refine lv_iinc (v := x7 + (-1)) (lv' := [(7, .int (x7 + (-1))), (0, .ref (md 100)), (6, .int x6)]) hx hb d_rmake_196 hl (k := 2) rfl rfl (by decide) rfl (fun ls hl => ?_)
      refine lv_goto (tgt := 151) hx hb d_rmake_199 (by decide) ?_
      exact Ka _ (Option.some.inj Heq).symm _ _ _ hP hD hS (lv_sub hl [1, 2, 0] rfl)
def m_rmake_L151 (S : MS) (x6 : Int32) (x7 : Int32) : Option (MS × Int32 × Int32) := lp (fun a : MS × Int32 × Int32 => m_rmake_B151 a.1 a.2.1 a.2.2) FU (S, x6, x7)
theorem w_rmake_L151 {p : Program} {l : Launch} {e : Env} {s : State} {m : MethodId} {args : Array Value} {below : List Frame} {meth : Method} {c : Code} {A : Nat → Prop} {D : va_G} {md : Nat → Nat} {mc : Nat → ClassId} {Q : State → Prop} (hC : MCx "JoinedTreesModel" prog_14_method_24_code 8 (some .int) p s m args meth c A D mc) {S : MS} {x6 : Int32} {x7 : Int32} {o : MS × Int32 × Int32} (Heq : m_rmake_L151 S x6 x7 = some o) (K0 : ∀ b : MS × Int32 × Int32, o = b → ∀ (H : Heap) (locs : List Loc) (ls : Array Slot), va_P D cls (mw md mc b.1) H → va_D A (mw md mc b.1) → va_S A s.heap H locs → lv_has ls 8 [(0, .ref (md 100)), (6, .int b.2.1), (7, .int b.2.2)] → W p l e ({ frames := 2, cells := 0, slots := 0, locals := 47 }) s m args below meth c H locs 0 0 Q (F0 m 202 ls [])) : ∀ (H : Heap) (locs : List Loc) (ls : Array Slot), va_P D cls (mw md mc S) H → va_D A (mw md mc S) → va_S A s.heap H locs → lv_has ls 8 [(0, .ref (md 100)), (6, .int x6), (7, .int x7)] → W p l e ({ frames := 2, cells := 0, slots := 0, locals := 47 }) s m args below meth c H locs 0 0 Q (F0 m 151 ls []) := by
  refine lp_w (G := fun a : MS × Int32 × Int32 => ∀ (H : Heap) (locs : List Loc) (ls : Array Slot), va_P D cls (mw md mc a.1) H → va_D A (mw md mc a.1) → va_S A s.heap H locs → lv_has ls 8 [(0, .ref (md 100)), (6, .int a.2.1), (7, .int a.2.2)] → W p l e ({ frames := 2, cells := 0, slots := 0, locals := 47 }) s m args below meth c H locs 0 0 Q (F0 m 151 ls [])) ?_ FU (S, x6, x7) Heq
  intro a o1 ho Ka Ke
  exact w_rmake_B151 hC ho (fun b h => Ka b h) (fun b h => K0 b (Ke _ h).symm)
def m_rmake_J202 (S : MS) (x6 : Int32) (x7 : Int32) : Option (MS × Int32) := gd x7 4000 (some (((S.setA 28 (upd (S.a 28) x7.toNatClampNeg x6)).setI 23 ((S.i 23) + 1)), x6))
theorem d_rmake_202 : decode prog_14_method_24_code 202 = .ok (.aload_n 0, 1) := by decide +kernel
theorem d_rmake_203 : decode prog_14_method_24_code 203 = .ok (.getfield 75, 3) := by decide +kernel
theorem d_rmake_206 : decode prog_14_method_24_code 206 = .ok (.iload 7, 2) := by decide +kernel
theorem d_rmake_208 : decode prog_14_method_24_code 208 = .ok (.iload 6, 2) := by decide +kernel
theorem d_rmake_210 : decode prog_14_method_24_code 210 = .ok (.iastore, 1) := by decide +kernel
theorem d_rmake_211 : decode prog_14_method_24_code 211 = .ok (.aload_n 0, 1) := by decide +kernel
theorem d_rmake_212 : decode prog_14_method_24_code 212 = .ok (.dup, 1) := by decide +kernel
theorem d_rmake_213 : decode prog_14_method_24_code 213 = .ok (.getfield 195, 3) := by decide +kernel
theorem d_rmake_216 : decode prog_14_method_24_code 216 = .ok (.iconst 1, 1) := by decide +kernel
theorem d_rmake_217 : decode prog_14_method_24_code 217 = .ok (.iadd, 1) := by decide +kernel
theorem d_rmake_218 : decode prog_14_method_24_code 218 = .ok (.putfield 195, 3) := by decide +kernel
theorem d_rmake_221 : decode prog_14_method_24_code 221 = .ok (.iload 6, 2) := by decide +kernel
theorem d_rmake_223 : decode prog_14_method_24_code 223 = .ok (.ireturn, 1) := by decide +kernel
set_option maxHeartbeats 4000000 in
set_option maxRecDepth 100000 in
theorem w_rmake_J202 {p : Program} {l : Launch} {e : Env} {s : State} {m : MethodId} {args : Array Value} {below : List Frame} {meth : Method} {c : Code} {A : Nat → Prop} {D : va_G} {md : Nat → Nat} {mc : Nat → ClassId} {Q : State → Prop} (hC : MCx "JoinedTreesModel" prog_14_method_24_code 8 (some .int) p s m args meth c A D mc) {S : MS} {x6 : Int32} {x7 : Int32} {o : MS × Int32} (Heq : m_rmake_J202 S x6 x7 = some o) (Kr : ∀ r : MS × Int32, o = r → ∀ (pc : Nat) (H : Heap) (locs : List Loc) (ls : Array Slot), decode prog_14_method_24_code pc = .ok (.ireturn, 1) → va_P D cls (mw md mc r.1) H → va_D A (mw md mc r.1) → va_S A s.heap H locs → W p l e ({ frames := 2, cells := 0, slots := 0, locals := 47 }) s m args below meth c H locs 0 0 Q (F0 m pc ls [.int r.2])) : ∀ (H : Heap) (locs : List Loc) (ls : Array Slot), va_P D cls (mw md mc S) H → va_D A (mw md mc S) → va_S A s.heap H locs → lv_has ls 8 [(0, .ref (md 100)), (6, .int x6), (7, .int x7)] → W p l e ({ frames := 2, cells := 0, slots := 0, locals := 47 }) s m args below meth c H locs 0 0 Q (F0 m 202 ls []) := by
  intro H locs ls hP hD hS hl
  obtain ⟨hx, hb, hr, hml, hown, hts, hK, hA⟩ := id hC
  unfold m_rmake_J202 at Heq
  refine lv_aload_n hx hb d_rmake_202 rfl (lv_at hl 0 rfl) ?_
  refine va_get (D := D) (ci := 12) (v := .ref (md 28)) (C := R_MM) (T := F_MM) (N := 77) hx hb hts i_MM hown hK hP 0 rfl rfl 28 (by decide) (hts _ kw_1410) (fun _ h9 => h9) rfl d_rmake_203 ?_
  refine lv_iload hx hb d_rmake_206 (lv_at hl 2 rfl) ?_
  refine lv_iload hx hb d_rmake_208 (lv_at hl 1 rfl) ?_
  obtain ⟨hi_1, Heq⟩ := gd_some Heq
  refine va_iast hx hb hK hP hD hS 21 0 rfl rfl (i := x7) (x := x6) hi_1 d_rmake_210 (fun H locs hP hD hS => ?_)
  rw [mw_A28] at hP hD
  refine lv_aload_n hx hb d_rmake_211 rfl (lv_at hl 0 rfl) ?_
  refine lv_dup hx hb d_rmake_212 rfl ?_
  refine va_get (D := D) (ci := 12) (v := .int (S.i 23)) (C := R_MM) (T := F_MM) (N := 77) hx hb hts i_MM hown hK hP 0 rfl rfl 23 (by decide) (hts _ kw_1405) (fun _ h9 => h9) rfl d_rmake_213 ?_
  refine lv_iconst (v := 1) hx hb d_rmake_216 (by decide) ?_
  refine lv_iadd hx hb d_rmake_217 ?_
  refine w_i (y := (S.i 23) + 1) rfl ?_
  refine va_put (D := D) (ci := 12) (v := .int ((S.i 23) + 1)) (ty := .int) (C := R_MM) (T := F_MM) (N := 77) hx hb hts i_MM t_MM t_MM_ok n_MM hown hK hP hD hS 0 rfl rfl 23 (by decide) (hts _ kw_1405) (fun _ h9 => h9) rfl (by decide +kernel) rfl rfl (Nat.le_of_ble_eq_true rfl) d_rmake_218 (fun H locs hP hD hS => ?_)
  rw [mw_I23] at hP hD
  refine lv_iload hx hb d_rmake_221 (lv_at hl 1 rfl) ?_
  exact Kr _ (Option.some.inj Heq).symm 223 _ _ _ d_rmake_223 hP hD hS
def m_rmake_J77 (S : MS) (x1 : Int32) (x6 : Int32) (t0 : Int64) (t1 : Int32) : Option (MS × Int32) := gd t1 4000 (gd x6 4000 (gd x6 4000 (gd x6 4000 (gd x6 4000 (gd x6 4000 (gd x6 4000 (gd x6 4000 (gd x6 4000 (ob (m_rmake_L151 (((((((((S.setN 22 (vp_updL (S.n 22) t1.toNatClampNeg t0)).setA 12 (upd (S.a 12) x6.toNatClampNeg x1)).setA 13 (upd (S.a 13) x6.toNatClampNeg (-1))).setA 15 (upd (S.a 15) x6.toNatClampNeg 0)).setA 17 (upd (S.a 17) x6.toNatClampNeg 0)).setA 20 (upd (S.a 20) x6.toNatClampNeg (vp_nar .boolean 0))).setA 21 (upd (S.a 21) x6.toNatClampNeg (vp_nar .boolean 0))).setA 18 (upd (S.a 18) x6.toNatClampNeg (S.i 25))).setA 19 (upd (S.a 19) x6.toNatClampNeg 0)) x6 (S.i 23)) (fun b_10 => m_rmake_J202 b_10.1 b_10.2.1 b_10.2.2))))))))))
set_option maxHeartbeats 4000000 in
set_option maxRecDepth 100000 in
theorem w_rmake_J77 {p : Program} {l : Launch} {e : Env} {s : State} {m : MethodId} {args : Array Value} {below : List Frame} {meth : Method} {c : Code} {A : Nat → Prop} {D : va_G} {md : Nat → Nat} {mc : Nat → ClassId} {Q : State → Prop} (hC : MCx "JoinedTreesModel" prog_14_method_24_code 8 (some .int) p s m args meth c A D mc) {S : MS} {x1 : Int32} {x6 : Int32} {t0 : Int64} {t1 : Int32} {o : MS × Int32} (Heq : m_rmake_J77 S x1 x6 t0 t1 = some o) (Kr : ∀ r : MS × Int32, o = r → ∀ (pc : Nat) (H : Heap) (locs : List Loc) (ls : Array Slot), decode prog_14_method_24_code pc = .ok (.ireturn, 1) → va_P D cls (mw md mc r.1) H → va_D A (mw md mc r.1) → va_S A s.heap H locs → W p l e ({ frames := 2, cells := 0, slots := 0, locals := 47 }) s m args below meth c H locs 0 0 Q (F0 m pc ls [.int r.2])) : ∀ (H : Heap) (locs : List Loc) (ls : Array Slot), va_P D cls (mw md mc S) H → va_D A (mw md mc S) → va_S A s.heap H locs → lv_has ls 8 [(0, .ref (md 100)), (1, .int x1), (6, .int x6)] → W p l e ({ frames := 2, cells := 0, slots := 0, locals := 47 }) s m args below meth c H locs 0 0 Q (F0 m 77 ls [.long t0, .int t1, .ref (md 22)]) := by
  intro H locs ls hP hD hS hl
  obtain ⟨hx, hb, hr, hml, hown, hts, hK, hA⟩ := id hC
  unfold m_rmake_J77 at Heq
  obtain ⟨hi_1, Heq⟩ := gd_some Heq
  refine va_last hx hb hK hP hD hS 18 3 rfl rfl (i := t1) (x := t0) hi_1 d_rmake_77 (fun H locs hP hD hS => ?_)
  rw [mw_A22] at hP hD
  refine lv_aload_n hx hb d_rmake_78 rfl (lv_at hl 0 rfl) ?_
  refine va_get (D := D) (ci := 12) (v := .ref (md 12)) (C := R_MM) (T := F_MM) (N := 77) hx hb hts i_MM hown hK hP 0 rfl rfl 12 (by decide) (hts _ kw_1394) (fun _ h9 => h9) rfl d_rmake_79 ?_
  refine lv_iload hx hb d_rmake_82 (lv_at hl 2 rfl) ?_
  refine lv_iload_n hx hb d_rmake_84 rfl (lv_at hl 1 rfl) ?_
  obtain ⟨hi_2, Heq⟩ := gd_some Heq
  refine va_iast hx hb hK hP hD hS 8 0 rfl rfl (i := x6) (x := x1) hi_2 d_rmake_85 (fun H locs hP hD hS => ?_)
  rw [mw_A12] at hP hD
  refine lv_aload_n hx hb d_rmake_86 rfl (lv_at hl 0 rfl) ?_
  refine va_get (D := D) (ci := 12) (v := .ref (md 13)) (C := R_MM) (T := F_MM) (N := 77) hx hb hts i_MM hown hK hP 0 rfl rfl 13 (by decide) (hts _ kw_1395) (fun _ h9 => h9) rfl d_rmake_87 ?_
  refine lv_iload hx hb d_rmake_90 (lv_at hl 2 rfl) ?_
  refine lv_iconst (v := (-1)) hx hb d_rmake_92 (by decide) ?_
  obtain ⟨hi_3, Heq⟩ := gd_some Heq
  refine va_iast hx hb hK hP hD hS 9 0 rfl rfl (i := x6) (x := (-1)) hi_3 d_rmake_93 (fun H locs hP hD hS => ?_)
  rw [mw_A13] at hP hD
  refine lv_aload_n hx hb d_rmake_94 rfl (lv_at hl 0 rfl) ?_
  refine va_get (D := D) (ci := 12) (v := .ref (md 15)) (C := R_MM) (T := F_MM) (N := 77) hx hb hts i_MM hown hK hP 0 rfl rfl 15 (by decide) (hts _ kw_1397) (fun _ h9 => h9) rfl d_rmake_95 ?_
  refine lv_iload hx hb d_rmake_98 (lv_at hl 2 rfl) ?_
  refine lv_iconst (v := 0) hx hb d_rmake_100 (by decide) ?_
  obtain ⟨hi_4, Heq⟩ := gd_some Heq
  refine va_iast hx hb hK hP hD hS 11 0 rfl rfl (i := x6) (x := 0) hi_4 d_rmake_101 (fun H locs hP hD hS => ?_)
  rw [mw_A15] at hP hD
  refine lv_aload_n hx hb d_rmake_102 rfl (lv_at hl 0 rfl) ?_
  refine va_get (D := D) (ci := 12) (v := .ref (md 17)) (C := R_MM) (T := F_MM) (N := 77) hx hb hts i_MM hown hK hP 0 rfl rfl 17 (by decide) (hts _ kw_1399) (fun _ h9 => h9) rfl d_rmake_103 ?_
  refine lv_iload hx hb d_rmake_106 (lv_at hl 2 rfl) ?_
  refine lv_iconst (v := 0) hx hb d_rmake_108 (by decide) ?_
  obtain ⟨hi_5, Heq⟩ := gd_some Heq
  refine va_iast hx hb hK hP hD hS 13 0 rfl rfl (i := x6) (x := 0) hi_5 d_rmake_109 (fun H locs hP hD hS => ?_)
  rw [mw_A17] at hP hD
  refine lv_aload_n hx hb d_rmake_110 rfl (lv_at hl 0 rfl) ?_
  refine va_get (D := D) (ci := 12) (v := .ref (md 20)) (C := R_MM) (T := F_MM) (N := 77) hx hb hts i_MM hown hK hP 0 rfl rfl 20 (by decide) (hts _ kw_1402) (fun _ h9 => h9) rfl d_rmake_111 ?_
  refine lv_iload hx hb d_rmake_114 (lv_at hl 2 rfl) ?_
  refine lv_iconst (v := 0) hx hb d_rmake_116 (by decide) ?_
  obtain ⟨hi_6, Heq⟩ := gd_some Heq
  refine va_zast hx hb hK hP hD hS 16 2 rfl rfl (i := x6) (x := 0) hi_6 d_rmake_117 (fun H locs hP hD hS => ?_)
  rw [mw_A20] at hP hD
  refine lv_aload_n hx hb d_rmake_118 rfl (lv_at hl 0 rfl) ?_
  refine va_get (D := D) (ci := 12) (v := .ref (md 21)) (C := R_MM) (T := F_MM) (N := 77) hx hb hts i_MM hown hK hP 0 rfl rfl 21 (by decide) (hts _ kw_1403) (fun _ h9 => h9) rfl d_rmake_119 ?_
  refine lv_iload hx hb d_rmake_122 (lv_at hl 2 rfl) ?_
  refine lv_iconst (v := 0) hx hb d_rmake_124 (by decide) ?_
  obtain ⟨hi_7, Heq⟩ := gd_some Heq
  refine va_zast hx hb hK hP hD hS 17 2 rfl rfl (i := x6) (x := 0) hi_7 d_rmake_125 (fun H locs hP hD hS => ?_)
  rw [mw_A21] at hP hD
  refine lv_aload_n hx hb d_rmake_126 rfl (lv_at hl 0 rfl) ?_
  refine va_get (D := D) (ci := 12) (v := .ref (md 18)) (C := R_MM) (T := F_MM) (N := 77) hx hb hts i_MM hown hK hP 0 rfl rfl 18 (by decide) (hts _ kw_1400) (fun _ h9 => h9) rfl d_rmake_127 ?_
  refine lv_iload hx hb d_rmake_130 (lv_at hl 2 rfl) ?_
  refine lv_aload_n hx hb d_rmake_132 rfl (lv_at hl 0 rfl) ?_
  refine va_get (D := D) (ci := 12) (v := .int (S.i 25)) (C := R_MM) (T := F_MM) (N := 77) hx hb hts i_MM hown hK hP 0 rfl rfl 25 (by decide) (hts _ kw_1407) (fun _ h9 => h9) rfl d_rmake_133 ?_
  obtain ⟨hi_8, Heq⟩ := gd_some Heq
  refine va_iast hx hb hK hP hD hS 14 0 rfl rfl (i := x6) (x := S.i 25) hi_8 d_rmake_136 (fun H locs hP hD hS => ?_)
  rw [mw_A18] at hP hD
  refine lv_aload_n hx hb d_rmake_137 rfl (lv_at hl 0 rfl) ?_
  refine va_get (D := D) (ci := 12) (v := .ref (md 19)) (C := R_MM) (T := F_MM) (N := 77) hx hb hts i_MM hown hK hP 0 rfl rfl 19 (by decide) (hts _ kw_1401) (fun _ h9 => h9) rfl d_rmake_138 ?_
  refine lv_iload hx hb d_rmake_141 (lv_at hl 2 rfl) ?_
  refine lv_iconst (v := 0) hx hb d_rmake_143 (by decide) ?_
  obtain ⟨hi_9, Heq⟩ := gd_some Heq
  refine va_iast hx hb hK hP hD hS 15 0 rfl rfl (i := x6) (x := 0) hi_9 d_rmake_144 (fun H locs hP hD hS => ?_)
  rw [mw_A19] at hP hD
  refine lv_aload_n hx hb d_rmake_145 rfl (lv_at hl 0 rfl) ?_
  refine va_get (D := D) (ci := 12) (v := .int (S.i 23)) (C := R_MM) (T := F_MM) (N := 77) hx hb hts i_MM hown hK hP 0 rfl rfl 23 (by decide) (hts _ kw_1405) (fun _ h9 => h9) rfl d_rmake_146 ?_
  refine lv_istore (lv' := [(7, .int (S.i 23)), (0, .ref (md 100)), (1, .int x1), (6, .int x6)]) hx hb d_rmake_149 hl (by decide) rfl (fun ls hl => ?_)
  obtain ⟨b_10, h_11, Heq⟩ := ob_some Heq
  refine w_rmake_L151 hC h_11 (fun b h => ?_) _ _ _ hP hD hS (lv_sub hl [1, 3, 0] rfl)
  subst h
  intro H locs ls hP hD hS hl
  exact w_rmake_J202 hC Heq Kr _ _ _ hP hD hS (lv_sub hl [0, 1, 2] rfl)
def m_rmake_J71 (S : MS) (x1 : Int32) (x4 : Int64) (x6 : Int32) (t0 : Int32) : Option (MS × Int32) := m_rmake_J77 S x1 x6 x4 t0
set_option maxHeartbeats 4000000 in
set_option maxRecDepth 100000 in
theorem w_rmake_J71 {p : Program} {l : Launch} {e : Env} {s : State} {m : MethodId} {args : Array Value} {below : List Frame} {meth : Method} {c : Code} {A : Nat → Prop} {D : va_G} {md : Nat → Nat} {mc : Nat → ClassId} {Q : State → Prop} (hC : MCx "JoinedTreesModel" prog_14_method_24_code 8 (some .int) p s m args meth c A D mc) {S : MS} {x1 : Int32} {x4 : Int64} {x6 : Int32} {t0 : Int32} {o : MS × Int32} (Heq : m_rmake_J71 S x1 x4 x6 t0 = some o) (Kr : ∀ r : MS × Int32, o = r → ∀ (pc : Nat) (H : Heap) (locs : List Loc) (ls : Array Slot), decode prog_14_method_24_code pc = .ok (.ireturn, 1) → va_P D cls (mw md mc r.1) H → va_D A (mw md mc r.1) → va_S A s.heap H locs → W p l e ({ frames := 2, cells := 0, slots := 0, locals := 47 }) s m args below meth c H locs 0 0 Q (F0 m pc ls [.int r.2])) : ∀ (H : Heap) (locs : List Loc) (ls : Array Slot), va_P D cls (mw md mc S) H → va_D A (mw md mc S) → va_S A s.heap H locs → lv_has ls 8 [(0, .ref (md 100)), (1, .int x1), (4, .long x4), (6, .int x6)] → W p l e ({ frames := 2, cells := 0, slots := 0, locals := 47 }) s m args below meth c H locs 0 0 Q (F0 m 71 ls [.int t0, .ref (md 22)]) := by
  intro H locs ls hP hD hS hl
  obtain ⟨hx, hb, hr, hml, hown, hts, hK, hA⟩ := id hC
  unfold m_rmake_J71 at Heq
  refine lv_lload hx hb d_rmake_71 (lv_at hl 2 rfl) ?_
  refine lv_goto (tgt := 77) hx hb d_rmake_73 (by decide) ?_
  exact w_rmake_J77 hC Heq Kr _ _ _ hP hD hS (lv_sub hl [0, 1, 3] rfl)
def m_rmake_J0 (S : MS) (x1 : Int32) (x2 : Int32) (x3 : Int32) (x4 : Int64) : Option (MS × Int32) := ob (m_rgreatest S x1) (fun o_1 => gd (S.i 23) 4000 (gd (S.i 23) 4000 (gd (S.i 23) 4000 (gd (S.i 23) 4000 ((if x3 = 3 then m_rmake_J71 ((((o_1.1.setA 8 (upd (o_1.1.a 8) ((S.i 23).toNatClampNeg) ((8 * (o_1.2 + 1)) + x1))).setA 9 (upd (o_1.1.a 9) ((S.i 23).toNatClampNeg) x2)).setA 10 (upd (o_1.1.a 10) ((S.i 23).toNatClampNeg) 0)).setA 11 (upd (o_1.1.a 11) ((S.i 23).toNatClampNeg) x3)) x1 x4 (S.i 23) (S.i 23) else (if x3 = 5 then m_rmake_J71 ((((o_1.1.setA 8 (upd (o_1.1.a 8) ((S.i 23).toNatClampNeg) ((8 * (o_1.2 + 1)) + x1))).setA 9 (upd (o_1.1.a 9) ((S.i 23).toNatClampNeg) x2)).setA 10 (upd (o_1.1.a 10) ((S.i 23).toNatClampNeg) 0)).setA 11 (upd (o_1.1.a 11) ((S.i 23).toNatClampNeg) x3)) x1 x4 (S.i 23) (S.i 23) else (if x3 = 10 then m_rmake_J71 ((((o_1.1.setA 8 (upd (o_1.1.a 8) ((S.i 23).toNatClampNeg) ((8 * (o_1.2 + 1)) + x1))).setA 9 (upd (o_1.1.a 9) ((S.i 23).toNatClampNeg) x2)).setA 10 (upd (o_1.1.a 10) ((S.i 23).toNatClampNeg) 0)).setA 11 (upd (o_1.1.a 11) ((S.i 23).toNatClampNeg) x3)) x1 x4 (S.i 23) (S.i 23) else m_rmake_J77 ((((o_1.1.setA 8 (upd (o_1.1.a 8) ((S.i 23).toNatClampNeg) ((8 * (o_1.2 + 1)) + x1))).setA 9 (upd (o_1.1.a 9) ((S.i 23).toNatClampNeg) x2)).setA 10 (upd (o_1.1.a 10) ((S.i 23).toNatClampNeg) 0)).setA 11 (upd (o_1.1.a 11) ((S.i 23).toNatClampNeg) x3)) x1 (S.i 23) 0 (S.i 23)))))))))
theorem d_rmake_60 : decode prog_14_method_24_code 60 = .ok (.iload_n 3, 1) := by decide +kernel
theorem d_rmake_61 : decode prog_14_method_24_code 61 = .ok (.iconst 5, 1) := by decide +kernel
theorem d_rmake_62 : decode prog_14_method_24_code 62 = .ok (.if_icmp .eq 9, 3) := by decide +kernel
theorem d_rmake_65 : decode prog_14_method_24_code 65 = .ok (.iload_n 3, 1) := by decide +kernel
theorem d_rmake_66 : decode prog_14_method_24_code 66 = .ok (.bipush 10, 2) := by decide +kernel
theorem d_rmake_68 : decode prog_14_method_24_code 68 = .ok (.if_icmp .ne 8, 3) := by decide +kernel
theorem d_rmake_76 : decode prog_14_method_24_code 76 = .ok (.lconst 0, 1) := by decide +kernel
set_option maxHeartbeats 4000000 in
set_option maxRecDepth 100000 in
theorem w_rmake_J0 {p : Program} {l : Launch} {e : Env} {s : State} {m : MethodId} {args : Array Value} {below : List Frame} {meth : Method} {c : Code} {A : Nat → Prop} {D : va_G} {md : Nat → Nat} {mc : Nat → ClassId} {Q : State → Prop} (hC : MCx "JoinedTreesModel" prog_14_method_24_code 8 (some .int) p s m args meth c A D mc) {S : MS} {x1 : Int32} {x2 : Int32} {x3 : Int32} {x4 : Int64} {o : MS × Int32} (Heq : m_rmake_J0 S x1 x2 x3 x4 = some o) (Kr : ∀ r : MS × Int32, o = r → ∀ (pc : Nat) (H : Heap) (locs : List Loc) (ls : Array Slot), decode prog_14_method_24_code pc = .ok (.ireturn, 1) → va_P D cls (mw md mc r.1) H → va_D A (mw md mc r.1) → va_S A s.heap H locs → W p l e ({ frames := 2, cells := 0, slots := 0, locals := 47 }) s m args below meth c H locs 0 0 Q (F0 m pc ls [.int r.2])) : ∀ (H : Heap) (locs : List Loc) (ls : Array Slot), va_P D cls (mw md mc S) H → va_D A (mw md mc S) → va_S A s.heap H locs → lv_has ls 8 [(0, .ref (md 100)), (1, .int x1), (2, .int x2), (3, .int x3), (4, .long x4)] → W p l e ({ frames := 2, cells := 0, slots := 0, locals := 47 }) s m args below meth c H locs 0 0 Q (F0 m 0 ls []) := by
  intro H locs ls hP hD hS hl
  obtain ⟨hx, hb, hr, hml, hown, hts, hK, hA⟩ := id hC
  unfold m_rmake_J0 at Heq
  refine lv_aload_n hx hb d_rmake_0 rfl (lv_at hl 0 rfl) ?_
  refine va_get (D := D) (ci := 12) (v := .int (S.i 23)) (C := R_MM) (T := F_MM) (N := 77) hx hb hts i_MM hown hK hP 0 rfl rfl 23 (by decide) (hts _ kw_1405) (fun _ h9 => h9) rfl d_rmake_1 ?_
  refine lv_istore (lv' := [(6, .int (S.i 23)), (0, .ref (md 100)), (1, .int x1), (2, .int x2), (3, .int x3), (4, .long x4)]) hx hb d_rmake_4 hl (by decide) rfl (fun ls hl => ?_)
  refine lv_aload_n hx hb d_rmake_6 rfl (lv_at hl 1 rfl) ?_
  refine va_get (D := D) (ci := 12) (v := .ref (md 8)) (C := R_MM) (T := F_MM) (N := 77) hx hb hts i_MM hown hK hP 0 rfl rfl 8 (by decide) (hts _ kw_1390) (fun _ h9 => h9) rfl d_rmake_7 ?_
  refine lv_iload hx hb d_rmake_10 (lv_at hl 0 rfl) ?_
  refine lv_bipush (v := 8) hx hb d_rmake_12 (by decide) ?_
  refine lv_aload_n hx hb d_rmake_14 rfl (lv_at hl 1 rfl) ?_
  refine lv_iload_n hx hb d_rmake_15 rfl (lv_at hl 2 rfl) ?_
  obtain ⟨o_1, h_2, Heq⟩ := ob_some Heq
  have hFc := fr_all hD hS hA
  refine va_calli (va_runV (As := [.int x1]) (rest := [.int 8, .int (S.i 23), .ref (md 8)]) ⟨hx, hb, hml, hown, hts⟩ (g_rgreatest l D H.size h_2) (cw_v 1 hts kw_1688 kw_1685 kw_1687 kp_41 kw_11 rfl rfl (by decide +kernel) ⟨Nat.le_of_ble_eq_true rfl, Nat.le_of_ble_eq_true rfl⟩) ⟨g_blind, va_recv hK hP (ci := 12) (q0 := 0) rfl rfl, fun U hU hW => g_pre hU hW hP hK hD⟩ rfl rfl hl.1 rfl (lv_room (Nat.le_of_ble_eq_true rfl)) d_rmake_16 ⟨Nat.le_of_ble_eq_true rfl, Nat.le_of_ble_eq_true rfl⟩) hS (fun q _ h => hFc q h) hFc (fun rz u t H1 locs ht hvm hw hB hz1 hk1 hS => ?_)
  obtain ⟨hP, -, hD1⟩ := hB
  rw [ht] at hP
  have hD := hD1.weaken (fun _ q _ h => hFc q.1 h)
  generalize H1 = H at hP hS ⊢
  refine W.cs (cells' := 0) (slots' := 0) rfl rfl ?_
  subst hw
  refine lv_iconst (v := 1) hx hb d_rmake_19 (by decide) ?_
  refine lv_iadd hx hb d_rmake_20 ?_
  refine w_i (y := o_1.2 + 1) rfl ?_
  refine lv_imul hx hb d_rmake_21 ?_
  refine w_i (y := 8 * (o_1.2 + 1)) rfl ?_
  refine lv_iload_n hx hb d_rmake_22 rfl (lv_at hl 2 rfl) ?_
  refine lv_iadd hx hb d_rmake_23 ?_
  refine w_i (y := (8 * (o_1.2 + 1)) + x1) rfl ?_
  obtain ⟨hi_3, Heq⟩ := gd_some Heq
  refine va_iast hx hb hK hP hD hS 4 0 rfl rfl (i := S.i 23) (x := (8 * (o_1.2 + 1)) + x1) hi_3 d_rmake_24 (fun H locs hP hD hS => ?_)
  rw [mw_A8] at hP hD
  refine lv_aload_n hx hb d_rmake_25 rfl (lv_at hl 1 rfl) ?_
  refine va_get (D := D) (ci := 12) (v := .ref (md 9)) (C := R_MM) (T := F_MM) (N := 77) hx hb hts i_MM hown hK hP 0 rfl rfl 9 (by decide) (hts _ kw_1391) (fun _ h9 => h9) rfl d_rmake_26 ?_
  refine lv_iload hx hb d_rmake_29 (lv_at hl 0 rfl) ?_
  refine lv_iload_n hx hb d_rmake_31 rfl (lv_at hl 3 rfl) ?_
  obtain ⟨hi_4, Heq⟩ := gd_some Heq
  refine va_iast hx hb hK hP hD hS 5 0 rfl rfl (i := S.i 23) (x := x2) hi_4 d_rmake_32 (fun H locs hP hD hS => ?_)
  rw [mw_A9] at hP hD
  refine lv_aload_n hx hb d_rmake_33 rfl (lv_at hl 1 rfl) ?_
  refine va_get (D := D) (ci := 12) (v := .ref (md 10)) (C := R_MM) (T := F_MM) (N := 77) hx hb hts i_MM hown hK hP 0 rfl rfl 10 (by decide) (hts _ kw_1392) (fun _ h9 => h9) rfl d_rmake_34 ?_
  refine lv_iload hx hb d_rmake_37 (lv_at hl 0 rfl) ?_
  refine lv_iconst (v := 0) hx hb d_rmake_39 (by decide) ?_
  obtain ⟨hi_5, Heq⟩ := gd_some Heq
  refine va_iast hx hb hK hP hD hS 6 0 rfl rfl (i := S.i 23) (x := 0) hi_5 d_rmake_40 (fun H locs hP hD hS => ?_)
  rw [mw_A10] at hP hD
  refine lv_aload_n hx hb d_rmake_41 rfl (lv_at hl 1 rfl) ?_
  refine va_get (D := D) (ci := 12) (v := .ref (md 11)) (C := R_MM) (T := F_MM) (N := 77) hx hb hts i_MM hown hK hP 0 rfl rfl 11 (by decide) (hts _ kw_1393) (fun _ h9 => h9) rfl d_rmake_42 ?_
  refine lv_iload hx hb d_rmake_45 (lv_at hl 0 rfl) ?_
  refine lv_iload_n hx hb d_rmake_47 rfl (lv_at hl 4 rfl) ?_
  obtain ⟨hi_6, Heq⟩ := gd_some Heq
  refine va_iast hx hb hK hP hD hS 7 0 rfl rfl (i := S.i 23) (x := x3) hi_6 d_rmake_48 (fun H locs hP hD hS => ?_)
  rw [mw_A11] at hP hD
  refine lv_aload_n hx hb d_rmake_49 rfl (lv_at hl 1 rfl) ?_
  refine va_get (D := D) (ci := 12) (v := .ref (md 22)) (C := R_MM) (T := F_MM) (N := 77) hx hb hts i_MM hown hK hP 0 rfl rfl 22 (by decide) (hts _ kw_1404) (fun _ h9 => h9) rfl d_rmake_50 ?_
  refine lv_iload hx hb d_rmake_53 (lv_at hl 0 rfl) ?_
  refine lv_iload_n hx hb d_rmake_55 rfl (lv_at hl 4 rfl) ?_
  refine lv_iconst (v := 3) hx hb d_rmake_56 (by decide) ?_
  refine lv_icmp_eq (tgt := 71) hx hb d_rmake_57 (by decide) (fun c_7 => ?_) (fun c_7 => ?_)
  · replace Heq := (if_pos c_7).symm.trans Heq
    exact w_rmake_J71 hC Heq Kr _ _ _ hP hD hS (lv_sub hl [1, 2, 5, 0] rfl)
  · replace Heq := (if_neg c_7).symm.trans Heq
    refine lv_iload_n hx hb d_rmake_60 rfl (lv_at hl 4 rfl) ?_
    refine lv_iconst (v := 5) hx hb d_rmake_61 (by decide) ?_
    refine lv_icmp_eq (tgt := 71) hx hb d_rmake_62 (by decide) (fun c_8 => ?_) (fun c_8 => ?_)
    · replace Heq := (if_pos c_8).symm.trans Heq
      exact w_rmake_J71 hC Heq Kr _ _ _ hP hD hS (lv_sub hl [1, 2, 5, 0] rfl)
    · replace Heq := (if_neg c_8).symm.trans Heq
      refine lv_iload_n hx hb d_rmake_65 rfl (lv_at hl 4 rfl) ?_
      refine lv_bipush (v := 10) hx hb d_rmake_66 (by decide) ?_
      refine lv_icmp_ne (tgt := 76) hx hb d_rmake_68 (by decide) (fun c_9 => ?_) (fun c_9 => ?_)
      · replace Heq := (if_neg c_9).symm.trans Heq
        refine lv_lconst (v := 0) hx hb d_rmake_76 (by decide) ?_
        exact w_rmake_J77 hC Heq Kr _ _ _ hP hD hS (lv_sub hl [1, 2, 0] rfl)
      · replace Heq := (if_pos c_9).symm.trans Heq
        exact w_rmake_J71 hC Heq Kr _ _ _ hP hD hS (lv_sub hl [1, 2, 5, 0] rfl)
def m_rmake (S : MS) (x1 : Int32) (x2 : Int32) (x3 : Int32) (x4 : Int64) : Option (MS × Int32) := m_rmake_J0 S x1 x2 x3 x4
theorem g_rmake (l : Launch) (D : va_G) (sz : Nat) {md : Nat → Nat} {mc : Nat → ClassId} {S : MS} {x1 : Int32} {x2 : Int32} {x3 : Int32} {x4 : Int64} {o : MS × Int32} (Heq : m_rmake S x1 x2 x3 x4 = some o) : Met l ⟨"JoinedTreesModel", "make", "(IIIJ)I"⟩ (Cond.code ⟨"JoinedTreesModel", "make", "(IIIJ)I"⟩ prog_14_method_24_code 8 (some .int) :: gb) ({ frames := 2, cells := 0, slots := 0, locals := 47 }) (gPc D (mw md mc S) (mty mc) sz [.ref (md 100), .int x1, .int x2, .int x3, .long x4]) (va_Qi (fun (r : Int32) (_ : Unit) => r = o.2) (fun _ t => gO D (mw md mc o.1) (mty mc) (va_A (mw md mc S) sz) t) (va_A (mw md mc S) sz)) 0 0 (va_A (mw md mc S) sz) := by
  refine Met.ofW (cc := prog_14_method_24_code) (maxL := 8) (ret := (some .int)) (by decide) rfl ?_
  intro p e s m args below meth c s₁ B hml hv
  obtain ⟨rfl, hsz, hP, hK, hD0⟩ := hv
  have hx := B.exec
  have hb := B.bytes
  have hr := B.returns
  have hts : ∀ w9 ∈ gb, w9.before [.ref (md 100), .int x1, .int x2, .int x3, .long x4].toArray s = true := fun w9 h => atoms_spec (ws := Cond.code ⟨"JoinedTreesModel", "make", "(IIIJ)I"⟩ prog_14_method_24_code 8 (some .int) :: gb) B.pre w9 (List.mem_cons_of_mem _ h)
  have hown : s.vm.findClass "JoinedTreesModel" = some m.cls := findClass_of_methodNamed B.named
  have hlocks := B.notSynchronized
  subst hsz
  have hD := hD0.self (sz := s.heap.size)
  generalize hAe : va_A (mw md mc S) s.heap.size = A at hD ⊢
  have hA : ∀ q : Nat, s.heap.size ≤ q → A q := fun q h => by rw [← hAe]; exact Or.inr h
  have hS : va_S A s.heap s.heap [] := va_S.rf
  have hl := lv_entry ([.ref (md 100), .int x1, .int x2, .int x3, .long x4]) (n := 8) (Nat.le_of_ble_eq_true rfl)
  rw [lg_entry_eq]
  generalize (lg_sl ([.ref (md 100), .int x1, .int x2, .int x3, .long x4]) ++ List.replicate (8 - (lg_sl ([.ref (md 100), .int x1, .int x2, .int x3, .long x4])).length) Slot.unset).toArray = ls at hl ⊢
  have hl : lv_has ls 8 [(0, .ref (md 100)), (1, .int x1), (2, .int x2), (3, .int x3), (4, .long x4)] := hl
  refine w_rmake_J0 ⟨hx, hb, hr, hml, hown, hts, hK, hA⟩ Heq (fun r h pc H locs ls hd hP hD hS => ?_) _ _ _ hP hD hS (lv_sub hl [0, 1, 2, 3, 4] rfl)
  subst h
  exact W.iret hx hb hr (fun t ht hW => ⟨⟨_, (), rfl, rfl, by rw [ht]; exact hP, va_K.moved hW.alike hK, hD⟩, hS.F ht⟩) hS.2.2 hd
def m_rfollows_J68 (S : MS) (x1 : Int32) (x2 : Int32) (x3 : Int32) : Option ((MS × Int32 × Int32 × Int32) ⊕ MS) := some (.inl (S, x1, x2, (x3 + (-1))))
theorem d_rfollows_0 : decode prog_14_method_25_code 0 = .ok (.aload_n 0, 1) := by decide +kernel
theorem d_rfollows_1 : decode prog_14_method_25_code 1 = .ok (.getfield 210, 3) := by decide +kernel
theorem d_rfollows_4 : decode prog_14_method_25_code 4 = .ok (.iconst 1, 1) := by decide +kernel
theorem d_rfollows_5 : decode prog_14_method_25_code 5 = .ok (.isub, 1) := by decide +kernel
theorem d_rfollows_6 : decode prog_14_method_25_code 6 = .ok (.istore_n 3, 1) := by decide +kernel
theorem d_rfollows_7 : decode prog_14_method_25_code 7 = .ok (.iload_n 3, 1) := by decide +kernel
theorem d_rfollows_8 : decode prog_14_method_25_code 8 = .ok (.ifCond .lt 66, 3) := by decide +kernel
theorem d_rfollows_11 : decode prog_14_method_25_code 11 = .ok (.iload_n 2, 1) := by decide +kernel
theorem d_rfollows_12 : decode prog_14_method_25_code 12 = .ok (.ifCond .eq 21, 3) := by decide +kernel
theorem d_rfollows_33 : decode prog_14_method_25_code 33 = .ok (.aload_n 0, 1) := by decide +kernel
theorem d_rfollows_34 : decode prog_14_method_25_code 34 = .ok (.getfield 68, 3) := by decide +kernel
theorem d_rfollows_37 : decode prog_14_method_25_code 37 = .ok (.aload_n 0, 1) := by decide +kernel
theorem d_rfollows_38 : decode prog_14_method_25_code 38 = .ok (.getfield 244, 3) := by decide +kernel
theorem d_rfollows_41 : decode prog_14_method_25_code 41 = .ok (.aload_n 0, 1) := by decide +kernel
theorem d_rfollows_42 : decode prog_14_method_25_code 42 = .ok (.getfield 121, 3) := by decide +kernel
theorem d_rfollows_45 : decode prog_14_method_25_code 45 = .ok (.iload_n 3, 1) := by decide +kernel
theorem d_rfollows_46 : decode prog_14_method_25_code 46 = .ok (.iaload, 1) := by decide +kernel
theorem d_rfollows_47 : decode prog_14_method_25_code 47 = .ok (.iastore, 1) := by decide +kernel
theorem d_rfollows_48 : decode prog_14_method_25_code 48 = .ok (.aload_n 0, 1) := by decide +kernel
theorem d_rfollows_49 : decode prog_14_method_25_code 49 = .ok (.dup, 1) := by decide +kernel
theorem d_rfollows_50 : decode prog_14_method_25_code 50 = .ok (.getfield 244, 3) := by decide +kernel
theorem d_rfollows_53 : decode prog_14_method_25_code 53 = .ok (.iconst 1, 1) := by decide +kernel
theorem d_rfollows_54 : decode prog_14_method_25_code 54 = .ok (.iadd, 1) := by decide +kernel
theorem d_rfollows_55 : decode prog_14_method_25_code 55 = .ok (.putfield 244, 3) := by decide +kernel
theorem d_rfollows_58 : decode prog_14_method_25_code 58 = .ok (.aload_n 0, 1) := by decide +kernel
theorem d_rfollows_59 : decode prog_14_method_25_code 59 = .ok (.getfield 53, 3) := by decide +kernel
theorem d_rfollows_62 : decode prog_14_method_25_code 62 = .ok (.iload_n 1, 1) := by decide +kernel
theorem d_rfollows_63 : decode prog_14_method_25_code 63 = .ok (.dup2, 1) := by decide +kernel
theorem d_rfollows_64 : decode prog_14_method_25_code 64 = .ok (.iaload, 1) := by decide +kernel
theorem d_rfollows_65 : decode prog_14_method_25_code 65 = .ok (.iconst 1, 1) := by decide +kernel
theorem d_rfollows_66 : decode prog_14_method_25_code 66 = .ok (.iadd, 1) := by decide +kernel
theorem d_rfollows_67 : decode prog_14_method_25_code 67 = .ok (.iastore, 1) := by decide +kernel
theorem d_rfollows_68 : decode prog_14_method_25_code 68 = .ok (.iinc 3 (-1), 3) := by decide +kernel
theorem d_rfollows_71 : decode prog_14_method_25_code 71 = .ok (.goto (-64), 3) := by decide +kernel
set_option maxHeartbeats 4000000 in
set_option maxRecDepth 100000 in
theorem w_rfollows_J68 {p : Program} {l : Launch} {e : Env} {s : State} {m : MethodId} {args : Array Value} {below : List Frame} {meth : Method} {c : Code} {A : Nat → Prop} {D : va_G} {md : Nat → Nat} {mc : Nat → ClassId} {Q : State → Prop} (hC : MCx "JoinedTreesModel" prog_14_method_25_code 4 none p s m args meth c A D mc) {S : MS} {x1 : Int32} {x2 : Int32} {x3 : Int32} {o : ((MS × Int32 × Int32 × Int32) ⊕ MS)} (Heq : m_rfollows_J68 S x1 x2 x3 = some o) (Ka : ∀ b : MS × Int32 × Int32 × Int32, o = .inl b → ∀ (H : Heap) (locs : List Loc) (ls : Array Slot), va_P D cls (mw md mc b.1) H → va_D A (mw md mc b.1) → va_S A s.heap H locs → lv_has ls 4 [(0, .ref (md 100)), (1, .int b.2.1), (2, .int b.2.2.1), (3, .int b.2.2.2)] → W p l e ({ frames := 0, cells := 0, slots := 0, locals := 0 }) s m args below meth c H locs 0 0 Q (F0 m 7 ls [])) (K0 : ∀ b : MS, o = .inr b → ∀ (H : Heap) (locs : List Loc) (ls : Array Slot), va_P D cls (mw md mc b) H → va_D A (mw md mc b) → va_S A s.heap H locs → lv_has ls 4 [(0, .ref (md 100))] → W p l e ({ frames := 0, cells := 0, slots := 0, locals := 0 }) s m args below meth c H locs 0 0 Q (F0 m 74 ls [])) : ∀ (H : Heap) (locs : List Loc) (ls : Array Slot), va_P D cls (mw md mc S) H → va_D A (mw md mc S) → va_S A s.heap H locs → lv_has ls 4 [(0, .ref (md 100)), (1, .int x1), (2, .int x2), (3, .int x3)] → W p l e ({ frames := 0, cells := 0, slots := 0, locals := 0 }) s m args below meth c H locs 0 0 Q (F0 m 68 ls []) := by
  intro H locs ls hP hD hS hl
  obtain ⟨hx, hb, hr, hml, hown, hts, hK, hA⟩ := id hC
  unfold m_rfollows_J68 at Heq
  refine lv_iinc (v := x3 + (-1)) (lv' := [(3, .int (x3 + (-1))), (0, .ref (md 100)), (1, .int x1), (2, .int x2)]) hx hb d_rfollows_68 hl (k := 3) rfl rfl (by decide) rfl (fun ls hl => ?_)
  refine lv_goto (tgt := 7) hx hb d_rfollows_71 (by decide) ?_
  exact Ka _ (Option.some.inj Heq).symm _ _ _ hP hD hS (lv_sub hl [1, 2, 3, 0] rfl)
def m_rfollows_J33 (S : MS) (x1 : Int32) (x2 : Int32) (x3 : Int32) : Option ((MS × Int32 × Int32 × Int32) ⊕ MS) := gd x3 4000 (gd (S.i 25) 40000 (gd x1 4000 (gd x1 4000 (m_rfollows_J68 (((S.setA 24 (upd (S.a 24) ((S.i 25).toNatClampNeg) (S.a 46 x3.toNatClampNeg))).setI 25 ((S.i 25) + 1)).setA 19 (upd (S.a 19) x1.toNatClampNeg ((S.a 19 x1.toNatClampNeg) + 1))) x1 x2 x3))))
set_option maxHeartbeats 4000000 in
set_option maxRecDepth 100000 in
theorem w_rfollows_J33 {p : Program} {l : Launch} {e : Env} {s : State} {m : MethodId} {args : Array Value} {below : List Frame} {meth : Method} {c : Code} {A : Nat → Prop} {D : va_G} {md : Nat → Nat} {mc : Nat → ClassId} {Q : State → Prop} (hC : MCx "JoinedTreesModel" prog_14_method_25_code 4 none p s m args meth c A D mc) {S : MS} {x1 : Int32} {x2 : Int32} {x3 : Int32} {o : ((MS × Int32 × Int32 × Int32) ⊕ MS)} (Heq : m_rfollows_J33 S x1 x2 x3 = some o) (Ka : ∀ b : MS × Int32 × Int32 × Int32, o = .inl b → ∀ (H : Heap) (locs : List Loc) (ls : Array Slot), va_P D cls (mw md mc b.1) H → va_D A (mw md mc b.1) → va_S A s.heap H locs → lv_has ls 4 [(0, .ref (md 100)), (1, .int b.2.1), (2, .int b.2.2.1), (3, .int b.2.2.2)] → W p l e ({ frames := 0, cells := 0, slots := 0, locals := 0 }) s m args below meth c H locs 0 0 Q (F0 m 7 ls [])) (K0 : ∀ b : MS, o = .inr b → ∀ (H : Heap) (locs : List Loc) (ls : Array Slot), va_P D cls (mw md mc b) H → va_D A (mw md mc b) → va_S A s.heap H locs → lv_has ls 4 [(0, .ref (md 100))] → W p l e ({ frames := 0, cells := 0, slots := 0, locals := 0 }) s m args below meth c H locs 0 0 Q (F0 m 74 ls [])) : ∀ (H : Heap) (locs : List Loc) (ls : Array Slot), va_P D cls (mw md mc S) H → va_D A (mw md mc S) → va_S A s.heap H locs → lv_has ls 4 [(0, .ref (md 100)), (1, .int x1), (2, .int x2), (3, .int x3)] → W p l e ({ frames := 0, cells := 0, slots := 0, locals := 0 }) s m args below meth c H locs 0 0 Q (F0 m 33 ls []) := by
  intro H locs ls hP hD hS hl
  obtain ⟨hx, hb, hr, hml, hown, hts, hK, hA⟩ := id hC
  unfold m_rfollows_J33 at Heq
  refine lv_aload_n hx hb d_rfollows_33 rfl (lv_at hl 0 rfl) ?_
  refine va_get (D := D) (ci := 12) (v := .ref (md 24)) (C := R_MM) (T := F_MM) (N := 77) hx hb hts i_MM hown hK hP 0 rfl rfl 24 (by decide) (hts _ kw_1406) (fun _ h9 => h9) rfl d_rfollows_34 ?_
  refine lv_aload_n hx hb d_rfollows_37 rfl (lv_at hl 0 rfl) ?_
  refine va_get (D := D) (ci := 12) (v := .int (S.i 25)) (C := R_MM) (T := F_MM) (N := 77) hx hb hts i_MM hown hK hP 0 rfl rfl 25 (by decide) (hts _ kw_1407) (fun _ h9 => h9) rfl d_rfollows_38 ?_
  refine lv_aload_n hx hb d_rfollows_41 rfl (lv_at hl 0 rfl) ?_
  refine va_get (D := D) (ci := 12) (v := .ref (md 46)) (C := R_MM) (T := F_MM) (N := 77) hx hb hts i_MM hown hK hP 0 rfl rfl 46 (by decide) (hts _ kw_1428) (fun _ h9 => h9) rfl d_rfollows_42 ?_
  refine lv_iload_n hx hb d_rfollows_45 rfl (lv_at hl 3 rfl) ?_
  obtain ⟨hi_1, Heq⟩ := gd_some Heq
  refine va_iald hx hb hK hP 31 0 rfl rfl (i := x3) hi_1 d_rfollows_46 ?_
  refine w_i (y := S.a 46 x3.toNatClampNeg) rfl ?_
  obtain ⟨hi_2, Heq⟩ := gd_some Heq
  refine va_iast hx hb hK hP hD hS 19 0 rfl rfl (i := S.i 25) (x := S.a 46 x3.toNatClampNeg) hi_2 d_rfollows_47 (fun H locs hP hD hS => ?_)
  rw [mw_A24] at hP hD
  refine lv_aload_n hx hb d_rfollows_48 rfl (lv_at hl 0 rfl) ?_
  refine lv_dup hx hb d_rfollows_49 rfl ?_
  refine va_get (D := D) (ci := 12) (v := .int (S.i 25)) (C := R_MM) (T := F_MM) (N := 77) hx hb hts i_MM hown hK hP 0 rfl rfl 25 (by decide) (hts _ kw_1407) (fun _ h9 => h9) rfl d_rfollows_50 ?_
  refine lv_iconst (v := 1) hx hb d_rfollows_53 (by decide) ?_
  refine lv_iadd hx hb d_rfollows_54 ?_
  refine w_i (y := (S.i 25) + 1) rfl ?_
  refine va_put (D := D) (ci := 12) (v := .int ((S.i 25) + 1)) (ty := .int) (C := R_MM) (T := F_MM) (N := 77) hx hb hts i_MM t_MM t_MM_ok n_MM hown hK hP hD hS 0 rfl rfl 25 (by decide) (hts _ kw_1407) (fun _ h9 => h9) rfl (by decide +kernel) rfl rfl (Nat.le_of_ble_eq_true rfl) d_rfollows_55 (fun H locs hP hD hS => ?_)
  rw [mw_I25] at hP hD
  refine lv_aload_n hx hb d_rfollows_58 rfl (lv_at hl 0 rfl) ?_
  refine va_get (D := D) (ci := 12) (v := .ref (md 19)) (C := R_MM) (T := F_MM) (N := 77) hx hb hts i_MM hown hK hP 0 rfl rfl 19 (by decide) (hts _ kw_1401) (fun _ h9 => h9) rfl d_rfollows_59 ?_
  refine lv_iload_n hx hb d_rfollows_62 rfl (lv_at hl 1 rfl) ?_
  refine lv_dup2_11 hx hb d_rfollows_63 rfl rfl ?_
  obtain ⟨hi_3, Heq⟩ := gd_some Heq
  refine va_iald hx hb hK hP 15 0 rfl rfl (i := x1) hi_3 d_rfollows_64 ?_
  refine w_i (y := S.a 19 x1.toNatClampNeg) rfl ?_
  refine lv_iconst (v := 1) hx hb d_rfollows_65 (by decide) ?_
  refine lv_iadd hx hb d_rfollows_66 ?_
  refine w_i (y := (S.a 19 x1.toNatClampNeg) + 1) rfl ?_
  obtain ⟨hi_4, Heq⟩ := gd_some Heq
  refine va_iast hx hb hK hP hD hS 15 0 rfl rfl (i := x1) (x := (S.a 19 x1.toNatClampNeg) + 1) hi_4 d_rfollows_67 (fun H locs hP hD hS => ?_)
  rw [mw_A19] at hP hD
  exact w_rfollows_J68 hC Heq Ka K0 _ _ _ hP hD hS (lv_sub hl [0, 1, 2, 3] rfl)
def m_rfollows_B7 (S : MS) (x1 : Int32) (x2 : Int32) (x3 : Int32) : Option ((MS × Int32 × Int32 × Int32) ⊕ MS) := (if x3 < 0 then some (.inr (S)) else (if x2 = 0 then m_rfollows_J33 S x1 x2 x3 else gd x3 4000 (gd (S.a 46 x3.toNatClampNeg) 4000 ((if S.a 11 ((S.a 46 x3.toNatClampNeg).toNatClampNeg) = 5 then m_rfollows_J33 S x1 x2 x3 else m_rfollows_J68 S x1 x2 x3)))))
theorem d_rfollows_15 : decode prog_14_method_25_code 15 = .ok (.aload_n 0, 1) := by decide +kernel
theorem d_rfollows_16 : decode prog_14_method_25_code 16 = .ok (.getfield 29, 3) := by decide +kernel
theorem d_rfollows_19 : decode prog_14_method_25_code 19 = .ok (.aload_n 0, 1) := by decide +kernel
theorem d_rfollows_20 : decode prog_14_method_25_code 20 = .ok (.getfield 121, 3) := by decide +kernel
theorem d_rfollows_23 : decode prog_14_method_25_code 23 = .ok (.iload_n 3, 1) := by decide +kernel
theorem d_rfollows_24 : decode prog_14_method_25_code 24 = .ok (.iaload, 1) := by decide +kernel
theorem d_rfollows_25 : decode prog_14_method_25_code 25 = .ok (.iaload, 1) := by decide +kernel
theorem d_rfollows_26 : decode prog_14_method_25_code 26 = .ok (.iconst 5, 1) := by decide +kernel
theorem d_rfollows_27 : decode prog_14_method_25_code 27 = .ok (.if_icmp .eq 6, 3) := by decide +kernel
theorem d_rfollows_30 : decode prog_14_method_25_code 30 = .ok (.goto 38, 3) := by decide +kernel
set_option maxHeartbeats 4000000 in
set_option maxRecDepth 100000 in
theorem w_rfollows_B7 {p : Program} {l : Launch} {e : Env} {s : State} {m : MethodId} {args : Array Value} {below : List Frame} {meth : Method} {c : Code} {A : Nat → Prop} {D : va_G} {md : Nat → Nat} {mc : Nat → ClassId} {Q : State → Prop} (hC : MCx "JoinedTreesModel" prog_14_method_25_code 4 none p s m args meth c A D mc) {S : MS} {x1 : Int32} {x2 : Int32} {x3 : Int32} {o : ((MS × Int32 × Int32 × Int32) ⊕ MS)} (Heq : m_rfollows_B7 S x1 x2 x3 = some o) (Ka : ∀ b : MS × Int32 × Int32 × Int32, o = .inl b → ∀ (H : Heap) (locs : List Loc) (ls : Array Slot), va_P D cls (mw md mc b.1) H → va_D A (mw md mc b.1) → va_S A s.heap H locs → lv_has ls 4 [(0, .ref (md 100)), (1, .int b.2.1), (2, .int b.2.2.1), (3, .int b.2.2.2)] → W p l e ({ frames := 0, cells := 0, slots := 0, locals := 0 }) s m args below meth c H locs 0 0 Q (F0 m 7 ls [])) (K0 : ∀ b : MS, o = .inr b → ∀ (H : Heap) (locs : List Loc) (ls : Array Slot), va_P D cls (mw md mc b) H → va_D A (mw md mc b) → va_S A s.heap H locs → lv_has ls 4 [(0, .ref (md 100))] → W p l e ({ frames := 0, cells := 0, slots := 0, locals := 0 }) s m args below meth c H locs 0 0 Q (F0 m 74 ls [])) : ∀ (H : Heap) (locs : List Loc) (ls : Array Slot), va_P D cls (mw md mc S) H → va_D A (mw md mc S) → va_S A s.heap H locs → lv_has ls 4 [(0, .ref (md 100)), (1, .int x1), (2, .int x2), (3, .int x3)] → W p l e ({ frames := 0, cells := 0, slots := 0, locals := 0 }) s m args below meth c H locs 0 0 Q (F0 m 7 ls []) := by
  intro H locs ls hP hD hS hl
  obtain ⟨hx, hb, hr, hml, hown, hts, hK, hA⟩ := id hC
  unfold m_rfollows_B7 at Heq
  refine lv_iload_n hx hb d_rfollows_7 rfl (lv_at hl 3 rfl) ?_
  refine lv_if_lt (tgt := 74) hx hb d_rfollows_8 (by decide) (fun c_1 => ?_) (fun c_1 => ?_)
  · replace Heq := (if_pos c_1).symm.trans Heq
    exact K0 _ (Option.some.inj Heq).symm _ _ _ hP hD hS (lv_sub hl [0] rfl)
  · replace Heq := (if_neg c_1).symm.trans Heq
    refine lv_iload_n hx hb d_rfollows_11 rfl (lv_at hl 2 rfl) ?_
    refine lv_if_eq (tgt := 33) hx hb d_rfollows_12 (by decide) (fun c_2 => ?_) (fun c_2 => ?_)
    · replace Heq := (if_pos c_2).symm.trans Heq
      exact w_rfollows_J33 hC Heq Ka K0 _ _ _ hP hD hS (lv_sub hl [0, 1, 2, 3] rfl)
    · replace Heq := (if_neg c_2).symm.trans Heq
      refine lv_aload_n hx hb d_rfollows_15 rfl (lv_at hl 0 rfl) ?_
      refine va_get (D := D) (ci := 12) (v := .ref (md 11)) (C := R_MM) (T := F_MM) (N := 77) hx hb hts i_MM hown hK hP 0 rfl rfl 11 (by decide) (hts _ kw_1393) (fun _ h9 => h9) rfl d_rfollows_16 ?_
      refine lv_aload_n hx hb d_rfollows_19 rfl (lv_at hl 0 rfl) ?_
      refine va_get (D := D) (ci := 12) (v := .ref (md 46)) (C := R_MM) (T := F_MM) (N := 77) hx hb hts i_MM hown hK hP 0 rfl rfl 46 (by decide) (hts _ kw_1428) (fun _ h9 => h9) rfl d_rfollows_20 ?_
      refine lv_iload_n hx hb d_rfollows_23 rfl (lv_at hl 3 rfl) ?_
      obtain ⟨hi_3, Heq⟩ := gd_some Heq
      refine va_iald hx hb hK hP 31 0 rfl rfl (i := x3) hi_3 d_rfollows_24 ?_
      refine w_i (y := S.a 46 x3.toNatClampNeg) rfl ?_
      obtain ⟨hi_4, Heq⟩ := gd_some Heq
      refine va_iald hx hb hK hP 7 0 rfl rfl (i := S.a 46 x3.toNatClampNeg) hi_4 d_rfollows_25 ?_
      refine w_i (y := S.a 11 ((S.a 46 x3.toNatClampNeg).toNatClampNeg)) rfl ?_
      refine lv_iconst (v := 5) hx hb d_rfollows_26 (by decide) ?_
      refine lv_icmp_eq (tgt := 33) hx hb d_rfollows_27 (by decide) (fun c_5 => ?_) (fun c_5 => ?_)
      · replace Heq := (if_pos c_5).symm.trans Heq
        exact w_rfollows_J33 hC Heq Ka K0 _ _ _ hP hD hS (lv_sub hl [0, 1, 2, 3] rfl)
      · replace Heq := (if_neg c_5).symm.trans Heq
        refine lv_goto (tgt := 68) hx hb d_rfollows_30 (by decide) ?_
        exact w_rfollows_J68 hC Heq Ka K0 _ _ _ hP hD hS (lv_sub hl [0, 1, 2, 3] rfl)
def m_rfollows_L7 (S : MS) (x1 : Int32) (x2 : Int32) (x3 : Int32) : Option MS := lp (fun a : MS × Int32 × Int32 × Int32 => m_rfollows_B7 a.1 a.2.1 a.2.2.1 a.2.2.2) FU (S, x1, x2, x3)
theorem w_rfollows_L7 {p : Program} {l : Launch} {e : Env} {s : State} {m : MethodId} {args : Array Value} {below : List Frame} {meth : Method} {c : Code} {A : Nat → Prop} {D : va_G} {md : Nat → Nat} {mc : Nat → ClassId} {Q : State → Prop} (hC : MCx "JoinedTreesModel" prog_14_method_25_code 4 none p s m args meth c A D mc) {S : MS} {x1 : Int32} {x2 : Int32} {x3 : Int32} {o : MS} (Heq : m_rfollows_L7 S x1 x2 x3 = some o) (K0 : ∀ b : MS, o = b → ∀ (H : Heap) (locs : List Loc) (ls : Array Slot), va_P D cls (mw md mc b) H → va_D A (mw md mc b) → va_S A s.heap H locs → lv_has ls 4 [(0, .ref (md 100))] → W p l e ({ frames := 0, cells := 0, slots := 0, locals := 0 }) s m args below meth c H locs 0 0 Q (F0 m 74 ls [])) : ∀ (H : Heap) (locs : List Loc) (ls : Array Slot), va_P D cls (mw md mc S) H → va_D A (mw md mc S) → va_S A s.heap H locs → lv_has ls 4 [(0, .ref (md 100)), (1, .int x1), (2, .int x2), (3, .int x3)] → W p l e ({ frames := 0, cells := 0, slots := 0, locals := 0 }) s m args below meth c H locs 0 0 Q (F0 m 7 ls []) := by
  refine lp_w (G := fun a : MS × Int32 × Int32 × Int32 => ∀ (H : Heap) (locs : List Loc) (ls : Array Slot), va_P D cls (mw md mc a.1) H → va_D A (mw md mc a.1) → va_S A s.heap H locs → lv_has ls 4 [(0, .ref (md 100)), (1, .int a.2.1), (2, .int a.2.2.1), (3, .int a.2.2.2)] → W p l e ({ frames := 0, cells := 0, slots := 0, locals := 0 }) s m args below meth c H locs 0 0 Q (F0 m 7 ls [])) ?_ FU (S, x1, x2, x3) Heq
  intro a o1 ho Ka Ke
  exact w_rfollows_B7 hC ho (fun b h => Ka b h) (fun b h => K0 b (Ke _ h).symm)
def m_rfollows_J0 (S : MS) (x1 : Int32) (x2 : Int32) : Option MS := ob (m_rfollows_L7 S x1 x2 ((S.i 47) - 1)) (fun b_1 => some b_1)
theorem d_rfollows_74 : decode prog_14_method_25_code 74 = .ok (.return_, 1) := by decide +kernel
set_option maxHeartbeats 4000000 in
set_option maxRecDepth 100000 in
theorem w_rfollows_J0 {p : Program} {l : Launch} {e : Env} {s : State} {m : MethodId} {args : Array Value} {below : List Frame} {meth : Method} {c : Code} {A : Nat → Prop} {D : va_G} {md : Nat → Nat} {mc : Nat → ClassId} {Q : State → Prop} (hC : MCx "JoinedTreesModel" prog_14_method_25_code 4 none p s m args meth c A D mc) {S : MS} {x1 : Int32} {x2 : Int32} {o : MS} (Heq : m_rfollows_J0 S x1 x2 = some o) (Kr : ∀ r : MS, o = r → ∀ (pc : Nat) (H : Heap) (locs : List Loc) (ls : Array Slot), decode prog_14_method_25_code pc = .ok (.return_, 1) → va_P D cls (mw md mc r) H → va_D A (mw md mc r) → va_S A s.heap H locs → W p l e ({ frames := 0, cells := 0, slots := 0, locals := 0 }) s m args below meth c H locs 0 0 Q (F0 m pc ls [])) : ∀ (H : Heap) (locs : List Loc) (ls : Array Slot), va_P D cls (mw md mc S) H → va_D A (mw md mc S) → va_S A s.heap H locs → lv_has ls 4 [(0, .ref (md 100)), (1, .int x1), (2, .int x2)] → W p l e ({ frames := 0, cells := 0, slots := 0, locals := 0 }) s m args below meth c H locs 0 0 Q (F0 m 0 ls []) := by
  intro H locs ls hP hD hS hl
  obtain ⟨hx, hb, hr, hml, hown, hts, hK, hA⟩ := id hC
  unfold m_rfollows_J0 at Heq
  refine lv_aload_n hx hb d_rfollows_0 rfl (lv_at hl 0 rfl) ?_
  refine va_get (D := D) (ci := 12) (v := .int (S.i 47)) (C := R_MM) (T := F_MM) (N := 77) hx hb hts i_MM hown hK hP 0 rfl rfl 47 (by decide) (hts _ kw_1429) (fun _ h9 => h9) rfl d_rfollows_1 ?_
  refine lv_iconst (v := 1) hx hb d_rfollows_4 (by decide) ?_
  refine lv_isub hx hb d_rfollows_5 ?_
  refine w_i (y := (S.i 47) - 1) rfl ?_
  refine lv_istore_n (lv' := [(3, .int ((S.i 47) - 1)), (0, .ref (md 100)), (1, .int x1), (2, .int x2)]) hx hb d_rfollows_6 rfl hl (by decide) rfl (fun ls hl => ?_)
  obtain ⟨b_1, h_2, Heq⟩ := ob_some Heq
  refine w_rfollows_L7 hC h_2 (fun b h => ?_) _ _ _ hP hD hS (lv_sub hl [1, 2, 3, 0] rfl)
  subst h
  intro H locs ls hP hD hS hl
  exact Kr _ (Option.some.inj Heq).symm 74 _ _ _ d_rfollows_74 hP hD hS
def m_rfollows (S : MS) (x1 : Int32) (x2 : Int32) : Option MS := m_rfollows_J0 S x1 x2
theorem g_rfollows (l : Launch) (D : va_G) (sz : Nat) {md : Nat → Nat} {mc : Nat → ClassId} {S : MS} {x1 : Int32} {x2 : Int32} {o : MS} (Heq : m_rfollows S x1 x2 = some o) : Met l ⟨"JoinedTreesModel", "follows", "(IZ)V"⟩ (Cond.code ⟨"JoinedTreesModel", "follows", "(IZ)V"⟩ prog_14_method_25_code 4 none :: gb) ({ frames := 0, cells := 0, slots := 0, locals := 0 }) (gPc D (mw md mc S) (mty mc) sz [.ref (md 100), .int x1, .int x2]) (va_Qv (fun _ : Unit => True) (fun _ t => gO D (mw md mc o) (mty mc) (va_A (mw md mc S) sz) t) (va_A (mw md mc S) sz)) 0 0 (va_A (mw md mc S) sz) := by
  refine Met.ofW (cc := prog_14_method_25_code) (maxL := 4) (ret := none) (by decide) rfl ?_
  intro p e s m args below meth c s₁ B hml hv
  obtain ⟨rfl, hsz, hP, hK, hD0⟩ := hv
  have hx := B.exec
  have hb := B.bytes
  have hr := B.returns
  have hts : ∀ w9 ∈ gb, w9.before [.ref (md 100), .int x1, .int x2].toArray s = true := fun w9 h => atoms_spec (ws := Cond.code ⟨"JoinedTreesModel", "follows", "(IZ)V"⟩ prog_14_method_25_code 4 none :: gb) B.pre w9 (List.mem_cons_of_mem _ h)
  have hown : s.vm.findClass "JoinedTreesModel" = some m.cls := findClass_of_methodNamed B.named
  have hlocks := B.notSynchronized
  subst hsz
  have hD := hD0.self (sz := s.heap.size)
  generalize hAe : va_A (mw md mc S) s.heap.size = A at hD ⊢
  have hA : ∀ q : Nat, s.heap.size ≤ q → A q := fun q h => by rw [← hAe]; exact Or.inr h
  have hS : va_S A s.heap s.heap [] := va_S.rf
  have hl := lv_entry ([.ref (md 100), .int x1, .int x2]) (n := 4) (Nat.le_of_ble_eq_true rfl)
  rw [lg_entry_eq]
  generalize (lg_sl ([.ref (md 100), .int x1, .int x2]) ++ List.replicate (4 - (lg_sl ([.ref (md 100), .int x1, .int x2])).length) Slot.unset).toArray = ls at hl ⊢
  have hl : lv_has ls 4 [(0, .ref (md 100)), (1, .int x1), (2, .int x2)] := hl
  refine w_rfollows_J0 ⟨hx, hb, hr, hml, hown, hts, hK, hA⟩ Heq (fun r h pc H locs ls hd hP hD hS => ?_) _ _ _ hP hD hS (lv_sub hl [0, 1, 2] rfl)
  subst h
  exact W.vret hx hb hr (fun t ht hW => ⟨⟨(), rfl, trivial, by rw [ht]; exact hP, va_K.moved hW.alike hK, hD⟩, hS.F ht⟩) hS.2.2 hd
