def m_rhide_B2 (S : MS) (x1 : Int32) (x2 : Int32) : Option ((MS × Int32 × Int32) ⊕ (MS × Int32)) := (if S.i 23 ≤ x2 then some (.inr (S, x1)) else gd x2 4000 (some (.inl ((S.setA 45 (upd (S.a 45) x2.toNatClampNeg (vp_nar .boolean 0))), x1, (x2 + 1)))))
theorem d_rhide_0 : decode prog_14_method_10_code 0 = .ok (.iconst 0, 1) := by decide +kernel
theorem d_rhide_1 : decode prog_14_method_10_code 1 = .ok (.istore_n 2, 1) := by decide +kernel
theorem d_rhide_2 : decode prog_14_method_10_code 2 = .ok (.iload_n 2, 1) := by decide +kernel
theorem d_rhide_3 : decode prog_14_method_10_code 3 = .ok (.aload_n 0, 1) := by decide +kernel
theorem d_rhide_4 : decode prog_14_method_10_code 4 = .ok (.getfield 195, 3) := by decide +kernel
theorem d_rhide_7 : decode prog_14_method_10_code 7 = .ok (.if_icmp .ge 16, 3) := by decide +kernel
theorem d_rhide_10 : decode prog_14_method_10_code 10 = .ok (.aload_n 0, 1) := by decide +kernel
theorem d_rhide_11 : decode prog_14_method_10_code 11 = .ok (.getfield 118, 3) := by decide +kernel
theorem d_rhide_14 : decode prog_14_method_10_code 14 = .ok (.iload_n 2, 1) := by decide +kernel
theorem d_rhide_15 : decode prog_14_method_10_code 15 = .ok (.iconst 0, 1) := by decide +kernel
theorem d_rhide_16 : decode prog_14_method_10_code 16 = .ok (.bastore, 1) := by decide +kernel
theorem d_rhide_17 : decode prog_14_method_10_code 17 = .ok (.iinc 2 1, 3) := by decide +kernel
theorem d_rhide_20 : decode prog_14_method_10_code 20 = .ok (.goto (-18), 3) := by decide +kernel
set_option maxHeartbeats 4000000 in
set_option maxRecDepth 100000 in
theorem w_rhide_B2 {p : Program} {l : Launch} {e : Env} {s : State} {m : MethodId} {args : Array Value} {below : List Frame} {meth : Method} {c : Code} {A : Nat → Prop} {D : va_G} {md : Nat → Nat} {mc : Nat → ClassId} {Q : State → Prop} (hC : MCx "JoinedTreesModel" prog_14_method_10_code 4 none p s m args meth c A D mc) {S : MS} {x1 : Int32} {x2 : Int32} {o : ((MS × Int32 × Int32) ⊕ (MS × Int32))} (Heq : m_rhide_B2 S x1 x2 = some o) (Ka : ∀ b : MS × Int32 × Int32, o = .inl b → ∀ (H : Heap) (locs : List Loc) (ls : Array Slot), va_P D cls (mw md mc b.1) H → va_D A (mw md mc b.1) → va_S A s.heap H locs → lv_has ls 4 [(0, .ref (md 100)), (1, .int b.2.1), (2, .int b.2.2)] → W p l e ({ frames := 1, cells := 0, slots := 0, locals := 22 }) s m args below meth c H locs 0 0 Q (F0 m 2 ls [])) (K0 : ∀ b : MS × Int32, o = .inr b → ∀ (H : Heap) (locs : List Loc) (ls : Array Slot), va_P D cls (mw md mc b.1) H → va_D A (mw md mc b.1) → va_S A s.heap H locs → lv_has ls 4 [(0, .ref (md 100)), (1, .int b.2)] → W p l e ({ frames := 1, cells := 0, slots := 0, locals := 22 }) s m args below meth c H locs 0 0 Q (F0 m 23 ls [])) : ∀ (H : Heap) (locs : List Loc) (ls : Array Slot), va_P D cls (mw md mc S) H → va_D A (mw md mc S) → va_S A s.heap H locs → lv_has ls 4 [(0, .ref (md 100)), (1, .int x1), (2, .int x2)] → W p l e ({ frames := 1, cells := 0, slots := 0, locals := 22 }) s m args below meth c H locs 0 0 Q (F0 m 2 ls []) := by
  intro H locs ls hP hD hS hl
  obtain ⟨hx, hb, hr, hml, hown, hts, hK, hA⟩ := id hC
  unfold m_rhide_B2 at Heq
  refine lv_iload_n hx hb d_rhide_2 rfl (lv_at hl 2 rfl) ?_
  refine lv_aload_n hx hb d_rhide_3 rfl (lv_at hl 0 rfl) ?_
  refine va_get (D := D) (ci := 12) (v := .int (S.i 23)) (C := R_MM) (T := F_MM) (N := 77) hx hb hts i_MM hown hK hP 0 rfl rfl 23 (by decide) (hts _ kw_1405) (fun _ h9 => h9) rfl d_rhide_4 ?_
  refine lv_icmp_ge (tgt := 23) hx hb d_rhide_7 (by decide) (fun c_1 => ?_) (fun c_1 => ?_)
  · replace Heq := (if_pos c_1).symm.trans Heq
    exact K0 _ (Option.some.inj Heq).symm _ _ _ hP hD hS (lv_sub hl [0, 1] rfl)
  · replace Heq := (if_neg c_1).symm.trans Heq
    refine lv_aload_n hx hb d_rhide_10 rfl (lv_at hl 0 rfl) ?_
    refine va_get (D := D) (ci := 12) (v := .ref (md 45)) (C := R_MM) (T := F_MM) (N := 77) hx hb hts i_MM hown hK hP 0 rfl rfl 45 (by decide) (hts _ kw_1427) (fun _ h9 => h9) rfl d_rhide_11 ?_
    refine lv_iload_n hx hb d_rhide_14 rfl (lv_at hl 2 rfl) ?_
    refine lv_iconst (v := 0) hx hb d_rhide_15 (by decide) ?_
    obtain ⟨hi_2, Heq⟩ := gd_some Heq
    refine va_zast hx hb hK hP hD hS 30 2 rfl rfl (i := x2) (x := 0) hi_2 d_rhide_16 (fun H locs hP hD hS => ?_)
    rw [mw_A45] at hP hD
    refine lv_iinc (v := x2 + 1) (lv' := [(2, .int (x2 + 1)), (0, .ref (md 100)), (1, .int x1)]) hx hb d_rhide_17 hl (k := 2) rfl rfl (by decide) rfl (fun ls hl => ?_)
    refine lv_goto (tgt := 2) hx hb d_rhide_20 (by decide) ?_
    exact Ka _ (Option.some.inj Heq).symm _ _ _ hP hD hS (lv_sub hl [1, 2, 0] rfl)
def m_rhide_L2 (S : MS) (x1 : Int32) (x2 : Int32) : Option (MS × Int32) := lp (fun a : MS × Int32 × Int32 => m_rhide_B2 a.1 a.2.1 a.2.2) FU (S, x1, x2)
theorem w_rhide_L2 {p : Program} {l : Launch} {e : Env} {s : State} {m : MethodId} {args : Array Value} {below : List Frame} {meth : Method} {c : Code} {A : Nat → Prop} {D : va_G} {md : Nat → Nat} {mc : Nat → ClassId} {Q : State → Prop} (hC : MCx "JoinedTreesModel" prog_14_method_10_code 4 none p s m args meth c A D mc) {S : MS} {x1 : Int32} {x2 : Int32} {o : MS × Int32} (Heq : m_rhide_L2 S x1 x2 = some o) (K0 : ∀ b : MS × Int32, o = b → ∀ (H : Heap) (locs : List Loc) (ls : Array Slot), va_P D cls (mw md mc b.1) H → va_D A (mw md mc b.1) → va_S A s.heap H locs → lv_has ls 4 [(0, .ref (md 100)), (1, .int b.2)] → W p l e ({ frames := 1, cells := 0, slots := 0, locals := 22 }) s m args below meth c H locs 0 0 Q (F0 m 23 ls [])) : ∀ (H : Heap) (locs : List Loc) (ls : Array Slot), va_P D cls (mw md mc S) H → va_D A (mw md mc S) → va_S A s.heap H locs → lv_has ls 4 [(0, .ref (md 100)), (1, .int x1), (2, .int x2)] → W p l e ({ frames := 1, cells := 0, slots := 0, locals := 22 }) s m args below meth c H locs 0 0 Q (F0 m 2 ls []) := by
  refine lp_w (G := fun a : MS × Int32 × Int32 => ∀ (H : Heap) (locs : List Loc) (ls : Array Slot), va_P D cls (mw md mc a.1) H → va_D A (mw md mc a.1) → va_S A s.heap H locs → lv_has ls 4 [(0, .ref (md 100)), (1, .int a.2.1), (2, .int a.2.2)] → W p l e ({ frames := 1, cells := 0, slots := 0, locals := 22 }) s m args below meth c H locs 0 0 Q (F0 m 2 ls [])) ?_ FU (S, x1, x2) Heq
  intro a o1 ho Ka Ke
  exact w_rhide_B2 hC ho (fun b h => Ka b h) (fun b h => K0 b (Ke _ h).symm)
def m_rhide_J93 (S : MS) (x1 : Int32) (x2 : Int32) : Option ((MS × Int32 × Int32) ⊕ MS) := some (.inl (S, x1, (x2 + 1)))
theorem d_rhide_23 : decode prog_14_method_10_code 23 = .ok (.iconst 0, 1) := by decide +kernel
theorem d_rhide_24 : decode prog_14_method_10_code 24 = .ok (.istore_n 2, 1) := by decide +kernel
theorem d_rhide_25 : decode prog_14_method_10_code 25 = .ok (.iload_n 2, 1) := by decide +kernel
theorem d_rhide_26 : decode prog_14_method_10_code 26 = .ok (.aload_n 0, 1) := by decide +kernel
theorem d_rhide_27 : decode prog_14_method_10_code 27 = .ok (.getfield 195, 3) := by decide +kernel
theorem d_rhide_30 : decode prog_14_method_10_code 30 = .ok (.if_icmp .ge 69, 3) := by decide +kernel
theorem d_rhide_33 : decode prog_14_method_10_code 33 = .ok (.aload_n 0, 1) := by decide +kernel
theorem d_rhide_34 : decode prog_14_method_10_code 34 = .ok (.iload_n 1, 1) := by decide +kernel
theorem d_rhide_35 : decode prog_14_method_10_code 35 = .ok (.iload_n 2, 1) := by decide +kernel
theorem d_rhide_36 : decode prog_14_method_10_code 36 = .ok (.invokevirtual 198, 3) := by decide +kernel
theorem d_rhide_39 : decode prog_14_method_10_code 39 = .ok (.ifCond .eq 54, 3) := by decide +kernel
theorem d_rhide_93 : decode prog_14_method_10_code 93 = .ok (.iinc 2 1, 3) := by decide +kernel
theorem d_rhide_96 : decode prog_14_method_10_code 96 = .ok (.goto (-71), 3) := by decide +kernel
set_option maxHeartbeats 4000000 in
set_option maxRecDepth 100000 in
theorem w_rhide_J93 {p : Program} {l : Launch} {e : Env} {s : State} {m : MethodId} {args : Array Value} {below : List Frame} {meth : Method} {c : Code} {A : Nat → Prop} {D : va_G} {md : Nat → Nat} {mc : Nat → ClassId} {Q : State → Prop} (hC : MCx "JoinedTreesModel" prog_14_method_10_code 4 none p s m args meth c A D mc) {S : MS} {x1 : Int32} {x2 : Int32} {o : ((MS × Int32 × Int32) ⊕ MS)} (Heq : m_rhide_J93 S x1 x2 = some o) (Ka : ∀ b : MS × Int32 × Int32, o = .inl b → ∀ (H : Heap) (locs : List Loc) (ls : Array Slot), va_P D cls (mw md mc b.1) H → va_D A (mw md mc b.1) → va_S A s.heap H locs → lv_has ls 4 [(0, .ref (md 100)), (1, .int b.2.1), (2, .int b.2.2)] → W p l e ({ frames := 1, cells := 0, slots := 0, locals := 22 }) s m args below meth c H locs 0 0 Q (F0 m 25 ls [])) (K0 : ∀ b : MS, o = .inr b → ∀ (H : Heap) (locs : List Loc) (ls : Array Slot), va_P D cls (mw md mc b) H → va_D A (mw md mc b) → va_S A s.heap H locs → lv_has ls 4 [(0, .ref (md 100))] → W p l e ({ frames := 1, cells := 0, slots := 0, locals := 22 }) s m args below meth c H locs 0 0 Q (F0 m 99 ls [])) : ∀ (H : Heap) (locs : List Loc) (ls : Array Slot), va_P D cls (mw md mc S) H → va_D A (mw md mc S) → va_S A s.heap H locs → lv_has ls 4 [(0, .ref (md 100)), (1, .int x1), (2, .int x2)] → W p l e ({ frames := 1, cells := 0, slots := 0, locals := 22 }) s m args below meth c H locs 0 0 Q (F0 m 93 ls []) := by
  intro H locs ls hP hD hS hl
  obtain ⟨hx, hb, hr, hml, hown, hts, hK, hA⟩ := id hC
  unfold m_rhide_J93 at Heq
  refine lv_iinc (v := x2 + 1) (lv' := [(2, .int (x2 + 1)), (0, .ref (md 100)), (1, .int x1)]) hx hb d_rhide_93 hl (k := 2) rfl rfl (by decide) rfl (fun ls hl => ?_)
  refine lv_goto (tgt := 25) hx hb d_rhide_96 (by decide) ?_
  exact Ka _ (Option.some.inj Heq).symm _ _ _ hP hD hS (lv_sub hl [1, 2, 0] rfl)
def m_rhide_B58 (S : MS) (x1 : Int32) (x2 : Int32) (x3 : Int32) : Option ((MS × Int32 × Int32 × Int32) ⊕ (MS × Int32 × Int32)) := gd x2 4000 ((if S.a 19 x2.toNatClampNeg ≤ x3 then some (.inr (S, x1, x2)) else gd x2 4000 (gd ((S.a 18 x2.toNatClampNeg) + x3) 40000 (gd (S.a 24 (((S.a 18 x2.toNatClampNeg) + x3).toNatClampNeg)) 4000 (some (.inl ((S.setA 45 (upd (S.a 45) ((S.a 24 (((S.a 18 x2.toNatClampNeg) + x3).toNatClampNeg)).toNatClampNeg) (vp_nar .boolean 1))), x1, x2, (x3 + 1))))))))
theorem d_rhide_42 : decode prog_14_method_10_code 42 = .ok (.aload_n 0, 1) := by decide +kernel
theorem d_rhide_43 : decode prog_14_method_10_code 43 = .ok (.getfield 29, 3) := by decide +kernel
theorem d_rhide_46 : decode prog_14_method_10_code 46 = .ok (.iload_n 2, 1) := by decide +kernel
theorem d_rhide_47 : decode prog_14_method_10_code 47 = .ok (.iaload, 1) := by decide +kernel
theorem d_rhide_48 : decode prog_14_method_10_code 48 = .ok (.bipush 10, 2) := by decide +kernel
theorem d_rhide_50 : decode prog_14_method_10_code 50 = .ok (.if_icmp .ne 6, 3) := by decide +kernel
theorem d_rhide_56 : decode prog_14_method_10_code 56 = .ok (.iconst 0, 1) := by decide +kernel
theorem d_rhide_57 : decode prog_14_method_10_code 57 = .ok (.istore_n 3, 1) := by decide +kernel
theorem d_rhide_58 : decode prog_14_method_10_code 58 = .ok (.iload_n 3, 1) := by decide +kernel
theorem d_rhide_59 : decode prog_14_method_10_code 59 = .ok (.aload_n 0, 1) := by decide +kernel
theorem d_rhide_60 : decode prog_14_method_10_code 60 = .ok (.getfield 53, 3) := by decide +kernel
theorem d_rhide_63 : decode prog_14_method_10_code 63 = .ok (.iload_n 2, 1) := by decide +kernel
theorem d_rhide_64 : decode prog_14_method_10_code 64 = .ok (.iaload, 1) := by decide +kernel
theorem d_rhide_65 : decode prog_14_method_10_code 65 = .ok (.if_icmp .ge 28, 3) := by decide +kernel
theorem d_rhide_68 : decode prog_14_method_10_code 68 = .ok (.aload_n 0, 1) := by decide +kernel
theorem d_rhide_69 : decode prog_14_method_10_code 69 = .ok (.getfield 118, 3) := by decide +kernel
theorem d_rhide_72 : decode prog_14_method_10_code 72 = .ok (.aload_n 0, 1) := by decide +kernel
theorem d_rhide_73 : decode prog_14_method_10_code 73 = .ok (.getfield 68, 3) := by decide +kernel
theorem d_rhide_76 : decode prog_14_method_10_code 76 = .ok (.aload_n 0, 1) := by decide +kernel
theorem d_rhide_77 : decode prog_14_method_10_code 77 = .ok (.getfield 50, 3) := by decide +kernel
theorem d_rhide_80 : decode prog_14_method_10_code 80 = .ok (.iload_n 2, 1) := by decide +kernel
theorem d_rhide_81 : decode prog_14_method_10_code 81 = .ok (.iaload, 1) := by decide +kernel
theorem d_rhide_82 : decode prog_14_method_10_code 82 = .ok (.iload_n 3, 1) := by decide +kernel
theorem d_rhide_83 : decode prog_14_method_10_code 83 = .ok (.iadd, 1) := by decide +kernel
theorem d_rhide_84 : decode prog_14_method_10_code 84 = .ok (.iaload, 1) := by decide +kernel
theorem d_rhide_85 : decode prog_14_method_10_code 85 = .ok (.iconst 1, 1) := by decide +kernel
theorem d_rhide_86 : decode prog_14_method_10_code 86 = .ok (.bastore, 1) := by decide +kernel
theorem d_rhide_87 : decode prog_14_method_10_code 87 = .ok (.iinc 3 1, 3) := by decide +kernel
theorem d_rhide_90 : decode prog_14_method_10_code 90 = .ok (.goto (-32), 3) := by decide +kernel
set_option maxHeartbeats 4000000 in
set_option maxRecDepth 100000 in
theorem w_rhide_B58 {p : Program} {l : Launch} {e : Env} {s : State} {m : MethodId} {args : Array Value} {below : List Frame} {meth : Method} {c : Code} {A : Nat → Prop} {D : va_G} {md : Nat → Nat} {mc : Nat → ClassId} {Q : State → Prop} (hC : MCx "JoinedTreesModel" prog_14_method_10_code 4 none p s m args meth c A D mc) {S : MS} {x1 : Int32} {x2 : Int32} {x3 : Int32} {o : ((MS × Int32 × Int32 × Int32) ⊕ (MS × Int32 × Int32))} (Heq : m_rhide_B58 S x1 x2 x3 = some o) (Ka : ∀ b : MS × Int32 × Int32 × Int32, o = .inl b → ∀ (H : Heap) (locs : List Loc) (ls : Array Slot), va_P D cls (mw md mc b.1) H → va_D A (mw md mc b.1) → va_S A s.heap H locs → lv_has ls 4 [(0, .ref (md 100)), (1, .int b.2.1), (2, .int b.2.2.1), (3, .int b.2.2.2)] → W p l e ({ frames := 1, cells := 0, slots := 0, locals := 22 }) s m args below meth c H locs 0 0 Q (F0 m 58 ls [])) (K0 : ∀ b : MS × Int32 × Int32, o = .inr b → ∀ (H : Heap) (locs : List Loc) (ls : Array Slot), va_P D cls (mw md mc b.1) H → va_D A (mw md mc b.1) → va_S A s.heap H locs → lv_has ls 4 [(0, .ref (md 100)), (1, .int b.2.1), (2, .int b.2.2)] → W p l e ({ frames := 1, cells := 0, slots := 0, locals := 22 }) s m args below meth c H locs 0 0 Q (F0 m 93 ls [])) : ∀ (H : Heap) (locs : List Loc) (ls : Array Slot), va_P D cls (mw md mc S) H → va_D A (mw md mc S) → va_S A s.heap H locs → lv_has ls 4 [(0, .ref (md 100)), (1, .int x1), (2, .int x2), (3, .int x3)] → W p l e ({ frames := 1, cells := 0, slots := 0, locals := 22 }) s m args below meth c H locs 0 0 Q (F0 m 58 ls []) := by
  intro H locs ls hP hD hS hl
  obtain ⟨hx, hb, hr, hml, hown, hts, hK, hA⟩ := id hC
  unfold m_rhide_B58 at Heq
  refine lv_iload_n hx hb d_rhide_58 rfl (lv_at hl 3 rfl) ?_
  refine lv_aload_n hx hb d_rhide_59 rfl (lv_at hl 0 rfl) ?_
  refine va_get (D := D) (ci := 12) (v := .ref (md 19)) (C := R_MM) (T := F_MM) (N := 77) hx hb hts i_MM hown hK hP 0 rfl rfl 19 (by decide) (hts _ kw_1401) (fun _ h9 => h9) rfl d_rhide_60 ?_
  refine lv_iload_n hx hb d_rhide_63 rfl (lv_at hl 2 rfl) ?_
  obtain ⟨hi_1, Heq⟩ := gd_some Heq
  refine va_iald hx hb hK hP 15 0 rfl rfl (i := x2) hi_1 d_rhide_64 ?_
  refine w_i (y := S.a 19 x2.toNatClampNeg) rfl ?_
  refine lv_icmp_ge (tgt := 93) hx hb d_rhide_65 (by decide) (fun c_2 => ?_) (fun c_2 => ?_)
  · replace Heq := (if_pos c_2).symm.trans Heq
    exact K0 _ (Option.some.inj Heq).symm _ _ _ hP hD hS (lv_sub hl [0, 1, 2] rfl)
  · replace Heq := (if_neg c_2).symm.trans Heq
    refine lv_aload_n hx hb d_rhide_68 rfl (lv_at hl 0 rfl) ?_
    refine va_get (D := D) (ci := 12) (v := .ref (md 45)) (C := R_MM) (T := F_MM) (N := 77) hx hb hts i_MM hown hK hP 0 rfl rfl 45 (by decide) (hts _ kw_1427) (fun _ h9 => h9) rfl d_rhide_69 ?_
    refine lv_aload_n hx hb d_rhide_72 rfl (lv_at hl 0 rfl) ?_
    refine va_get (D := D) (ci := 12) (v := .ref (md 24)) (C := R_MM) (T := F_MM) (N := 77) hx hb hts i_MM hown hK hP 0 rfl rfl 24 (by decide) (hts _ kw_1406) (fun _ h9 => h9) rfl d_rhide_73 ?_
    refine lv_aload_n hx hb d_rhide_76 rfl (lv_at hl 0 rfl) ?_
    refine va_get (D := D) (ci := 12) (v := .ref (md 18)) (C := R_MM) (T := F_MM) (N := 77) hx hb hts i_MM hown hK hP 0 rfl rfl 18 (by decide) (hts _ kw_1400) (fun _ h9 => h9) rfl d_rhide_77 ?_
    refine lv_iload_n hx hb d_rhide_80 rfl (lv_at hl 2 rfl) ?_
    obtain ⟨hi_3, Heq⟩ := gd_some Heq
    refine va_iald hx hb hK hP 14 0 rfl rfl (i := x2) hi_3 d_rhide_81 ?_
    refine w_i (y := S.a 18 x2.toNatClampNeg) rfl ?_
    refine lv_iload_n hx hb d_rhide_82 rfl (lv_at hl 3 rfl) ?_
    refine lv_iadd hx hb d_rhide_83 ?_
    refine w_i (y := (S.a 18 x2.toNatClampNeg) + x3) rfl ?_
    obtain ⟨hi_4, Heq⟩ := gd_some Heq
    refine va_iald hx hb hK hP 19 0 rfl rfl (i := (S.a 18 x2.toNatClampNeg) + x3) hi_4 d_rhide_84 ?_
    refine w_i (y := S.a 24 (((S.a 18 x2.toNatClampNeg) + x3).toNatClampNeg)) rfl ?_
    refine lv_iconst (v := 1) hx hb d_rhide_85 (by decide) ?_
    obtain ⟨hi_5, Heq⟩ := gd_some Heq
    refine va_zast hx hb hK hP hD hS 30 2 rfl rfl (i := S.a 24 (((S.a 18 x2.toNatClampNeg) + x3).toNatClampNeg)) (x := 1) hi_5 d_rhide_86 (fun H locs hP hD hS => ?_)
    rw [mw_A45] at hP hD
    refine lv_iinc (v := x3 + 1) (lv' := [(3, .int (x3 + 1)), (0, .ref (md 100)), (1, .int x1), (2, .int x2)]) hx hb d_rhide_87 hl (k := 3) rfl rfl (by decide) rfl (fun ls hl => ?_)
    refine lv_goto (tgt := 58) hx hb d_rhide_90 (by decide) ?_
    exact Ka _ (Option.some.inj Heq).symm _ _ _ hP hD hS (lv_sub hl [1, 2, 3, 0] rfl)
def m_rhide_L58 (S : MS) (x1 : Int32) (x2 : Int32) (x3 : Int32) : Option (MS × Int32 × Int32) := lp (fun a : MS × Int32 × Int32 × Int32 => m_rhide_B58 a.1 a.2.1 a.2.2.1 a.2.2.2) FU (S, x1, x2, x3)
theorem w_rhide_L58 {p : Program} {l : Launch} {e : Env} {s : State} {m : MethodId} {args : Array Value} {below : List Frame} {meth : Method} {c : Code} {A : Nat → Prop} {D : va_G} {md : Nat → Nat} {mc : Nat → ClassId} {Q : State → Prop} (hC : MCx "JoinedTreesModel" prog_14_method_10_code 4 none p s m args meth c A D mc) {S : MS} {x1 : Int32} {x2 : Int32} {x3 : Int32} {o : MS × Int32 × Int32} (Heq : m_rhide_L58 S x1 x2 x3 = some o) (K0 : ∀ b : MS × Int32 × Int32, o = b → ∀ (H : Heap) (locs : List Loc) (ls : Array Slot), va_P D cls (mw md mc b.1) H → va_D A (mw md mc b.1) → va_S A s.heap H locs → lv_has ls 4 [(0, .ref (md 100)), (1, .int b.2.1), (2, .int b.2.2)] → W p l e ({ frames := 1, cells := 0, slots := 0, locals := 22 }) s m args below meth c H locs 0 0 Q (F0 m 93 ls [])) : ∀ (H : Heap) (locs : List Loc) (ls : Array Slot), va_P D cls (mw md mc S) H → va_D A (mw md mc S) → va_S A s.heap H locs → lv_has ls 4 [(0, .ref (md 100)), (1, .int x1), (2, .int x2), (3, .int x3)] → W p l e ({ frames := 1, cells := 0, slots := 0, locals := 22 }) s m args below meth c H locs 0 0 Q (F0 m 58 ls []) := by
  refine lp_w (G := fun a : MS × Int32 × Int32 × Int32 => ∀ (H : Heap) (locs : List Loc) (ls : Array Slot), va_P D cls (mw md mc a.1) H → va_D A (mw md mc a.1) → va_S A s.heap H locs → lv_has ls 4 [(0, .ref (md 100)), (1, .int a.2.1), (2, .int a.2.2.1), (3, .int a.2.2.2)] → W p l e ({ frames := 1, cells := 0, slots := 0, locals := 22 }) s m args below meth c H locs 0 0 Q (F0 m 58 ls [])) ?_ FU (S, x1, x2, x3) Heq
  intro a o1 ho Ka Ke
  exact w_rhide_B58 hC ho (fun b h => Ka b h) (fun b h => K0 b (Ke _ h).symm)
def m_rhide_B25 (S : MS) (x1 : Int32) (x2 : Int32) : Option ((MS × Int32 × Int32) ⊕ MS) := (if S.i 23 ≤ x2 then some (.inr (S)) else ob (m_rin S x1 x2) (fun o_2 => (if o_2.2 = 0 then m_rhide_J93 o_2.1 x1 x2 else gd x2 4000 ((if o_2.1.a 11 x2.toNatClampNeg = 10 then m_rhide_J93 o_2.1 x1 x2 else ob (m_rhide_L58 o_2.1 x1 x2 0) (fun b_7 => m_rhide_J93 b_7.1 b_7.2.1 b_7.2.2))))))
theorem d_rhide_53 : decode prog_14_method_10_code 53 = .ok (.goto 40, 3) := by decide +kernel
set_option maxHeartbeats 4000000 in
set_option maxRecDepth 100000 in
theorem w_rhide_B25 {p : Program} {l : Launch} {e : Env} {s : State} {m : MethodId} {args : Array Value} {below : List Frame} {meth : Method} {c : Code} {A : Nat → Prop} {D : va_G} {md : Nat → Nat} {mc : Nat → ClassId} {Q : State → Prop} (hC : MCx "JoinedTreesModel" prog_14_method_10_code 4 none p s m args meth c A D mc) {S : MS} {x1 : Int32} {x2 : Int32} {o : ((MS × Int32 × Int32) ⊕ MS)} (Heq : m_rhide_B25 S x1 x2 = some o) (Ka : ∀ b : MS × Int32 × Int32, o = .inl b → ∀ (H : Heap) (locs : List Loc) (ls : Array Slot), va_P D cls (mw md mc b.1) H → va_D A (mw md mc b.1) → va_S A s.heap H locs → lv_has ls 4 [(0, .ref (md 100)), (1, .int b.2.1), (2, .int b.2.2)] → W p l e ({ frames := 1, cells := 0, slots := 0, locals := 22 }) s m args below meth c H locs 0 0 Q (F0 m 25 ls [])) (K0 : ∀ b : MS, o = .inr b → ∀ (H : Heap) (locs : List Loc) (ls : Array Slot), va_P D cls (mw md mc b) H → va_D A (mw md mc b) → va_S A s.heap H locs → lv_has ls 4 [(0, .ref (md 100))] → W p l e ({ frames := 1, cells := 0, slots := 0, locals := 22 }) s m args below meth c H locs 0 0 Q (F0 m 99 ls [])) : ∀ (H : Heap) (locs : List Loc) (ls : Array Slot), va_P D cls (mw md mc S) H → va_D A (mw md mc S) → va_S A s.heap H locs → lv_has ls 4 [(0, .ref (md 100)), (1, .int x1), (2, .int x2)] → W p l e ({ frames := 1, cells := 0, slots := 0, locals := 22 }) s m args below meth c H locs 0 0 Q (F0 m 25 ls []) := by
  intro H locs ls hP hD hS hl
  obtain ⟨hx, hb, hr, hml, hown, hts, hK, hA⟩ := id hC
  unfold m_rhide_B25 at Heq
  refine lv_iload_n hx hb d_rhide_25 rfl (lv_at hl 2 rfl) ?_
  refine lv_aload_n hx hb d_rhide_26 rfl (lv_at hl 0 rfl) ?_
  refine va_get (D := D) (ci := 12) (v := .int (S.i 23)) (C := R_MM) (T := F_MM) (N := 77) hx hb hts i_MM hown hK hP 0 rfl rfl 23 (by decide) (hts _ kw_1405) (fun _ h9 => h9) rfl d_rhide_27 ?_
  refine lv_icmp_ge (tgt := 99) hx hb d_rhide_30 (by decide) (fun c_1 => ?_) (fun c_1 => ?_)
  · replace Heq := (if_pos c_1).symm.trans Heq
    exact K0 _ (Option.some.inj Heq).symm _ _ _ hP hD hS (lv_sub hl [0] rfl)
  · replace Heq := (if_neg c_1).symm.trans Heq
    refine lv_aload_n hx hb d_rhide_33 rfl (lv_at hl 0 rfl) ?_
    refine lv_iload_n hx hb d_rhide_34 rfl (lv_at hl 1 rfl) ?_
    refine lv_iload_n hx hb d_rhide_35 rfl (lv_at hl 2 rfl) ?_
    obtain ⟨o_2, h_3, Heq⟩ := ob_some Heq
    have hFc := fr_all hD hS hA
    refine va_calli (va_runV (As := [.int x1, .int x2]) (rest := []) ⟨hx, hb, hml, hown, hts⟩ (g_rin l D H.size h_3) (cw_v 2 hts kw_1656 kw_1653 kw_1655 kp_33 kw_11 rfl rfl (by decide +kernel) ⟨Nat.le_of_ble_eq_true rfl, Nat.le_of_ble_eq_true rfl⟩) ⟨g_blind, va_recv hK hP (ci := 12) (q0 := 0) rfl rfl, fun U hU hW => g_pre hU hW hP hK hD⟩ rfl rfl hl.1 rfl (lv_room (Nat.le_of_ble_eq_true rfl)) d_rhide_36 ⟨Nat.le_of_ble_eq_true rfl, Nat.le_of_ble_eq_true rfl⟩) hS (fun q _ h => hFc q h) hFc (fun rz u t H1 locs ht hvm hw hB hz1 hk1 hS => ?_)
    obtain ⟨hP, -, hD1⟩ := hB
    rw [ht] at hP
    have hD := hD1.weaken (fun _ q _ h => hFc q.1 h)
    generalize H1 = H at hP hS ⊢
    refine W.cs (cells' := 0) (slots' := 0) rfl rfl ?_
    subst hw
    refine lv_if_eq (tgt := 93) hx hb d_rhide_39 (by decide) (fun c_4 => ?_) (fun c_4 => ?_)
    · replace Heq := (if_pos c_4).symm.trans Heq
      exact w_rhide_J93 hC Heq Ka K0 _ _ _ hP hD hS (lv_sub hl [0, 1, 2] rfl)
    · replace Heq := (if_neg c_4).symm.trans Heq
      refine lv_aload_n hx hb d_rhide_42 rfl (lv_at hl 0 rfl) ?_
      refine va_get (D := D) (ci := 12) (v := .ref (md 11)) (C := R_MM) (T := F_MM) (N := 77) hx hb hts i_MM hown hK hP 0 rfl rfl 11 (by decide) (hts _ kw_1393) (fun _ h9 => h9) rfl d_rhide_43 ?_
      refine lv_iload_n hx hb d_rhide_46 rfl (lv_at hl 2 rfl) ?_
      obtain ⟨hi_5, Heq⟩ := gd_some Heq
      refine va_iald hx hb hK hP 7 0 rfl rfl (i := x2) hi_5 d_rhide_47 ?_
      refine w_i (y := o_2.1.a 11 x2.toNatClampNeg) rfl ?_
      refine lv_bipush (v := 10) hx hb d_rhide_48 (by decide) ?_
      refine lv_icmp_ne (tgt := 56) hx hb d_rhide_50 (by decide) (fun c_6 => ?_) (fun c_6 => ?_)
      · replace Heq := (if_neg c_6).symm.trans Heq
        refine lv_iconst (v := 0) hx hb d_rhide_56 (by decide) ?_
        refine lv_istore_n (lv' := [(3, .int 0), (0, .ref (md 100)), (1, .int x1), (2, .int x2)]) hx hb d_rhide_57 rfl hl (by decide) rfl (fun ls hl => ?_)
        obtain ⟨b_7, h_8, Heq⟩ := ob_some Heq
        refine w_rhide_L58 hC h_8 (fun b h => ?_) _ _ _ hP hD hS (lv_sub hl [1, 2, 3, 0] rfl)
        subst h
        intro H locs ls hP hD hS hl
        exact w_rhide_J93 hC Heq Ka K0 _ _ _ hP hD hS (lv_sub hl [0, 1, 2] rfl)
      · replace Heq := (if_pos c_6).symm.trans Heq
        refine lv_goto (tgt := 93) hx hb d_rhide_53 (by decide) ?_
        exact w_rhide_J93 hC Heq Ka K0 _ _ _ hP hD hS (lv_sub hl [0, 1, 2] rfl)
def m_rhide_L25 (S : MS) (x1 : Int32) (x2 : Int32) : Option MS := lp (fun a : MS × Int32 × Int32 => m_rhide_B25 a.1 a.2.1 a.2.2) FU (S, x1, x2)
theorem w_rhide_L25 {p : Program} {l : Launch} {e : Env} {s : State} {m : MethodId} {args : Array Value} {below : List Frame} {meth : Method} {c : Code} {A : Nat → Prop} {D : va_G} {md : Nat → Nat} {mc : Nat → ClassId} {Q : State → Prop} (hC : MCx "JoinedTreesModel" prog_14_method_10_code 4 none p s m args meth c A D mc) {S : MS} {x1 : Int32} {x2 : Int32} {o : MS} (Heq : m_rhide_L25 S x1 x2 = some o) (K0 : ∀ b : MS, o = b → ∀ (H : Heap) (locs : List Loc) (ls : Array Slot), va_P D cls (mw md mc b) H → va_D A (mw md mc b) → va_S A s.heap H locs → lv_has ls 4 [(0, .ref (md 100))] → W p l e ({ frames := 1, cells := 0, slots := 0, locals := 22 }) s m args below meth c H locs 0 0 Q (F0 m 99 ls [])) : ∀ (H : Heap) (locs : List Loc) (ls : Array Slot), va_P D cls (mw md mc S) H → va_D A (mw md mc S) → va_S A s.heap H locs → lv_has ls 4 [(0, .ref (md 100)), (1, .int x1), (2, .int x2)] → W p l e ({ frames := 1, cells := 0, slots := 0, locals := 22 }) s m args below meth c H locs 0 0 Q (F0 m 25 ls []) := by
  refine lp_w (G := fun a : MS × Int32 × Int32 => ∀ (H : Heap) (locs : List Loc) (ls : Array Slot), va_P D cls (mw md mc a.1) H → va_D A (mw md mc a.1) → va_S A s.heap H locs → lv_has ls 4 [(0, .ref (md 100)), (1, .int a.2.1), (2, .int a.2.2)] → W p l e ({ frames := 1, cells := 0, slots := 0, locals := 22 }) s m args below meth c H locs 0 0 Q (F0 m 25 ls [])) ?_ FU (S, x1, x2) Heq
  intro a o1 ho Ka Ke
  exact w_rhide_B25 hC ho (fun b h => Ka b h) (fun b h => K0 b (Ke _ h).symm)
def m_rhide_J0 (S : MS) (x1 : Int32) : Option MS := ob (m_rhide_L2 S x1 0) (fun b_1 => ob (m_rhide_L25 b_1.1 b_1.2 0) (fun b_3 => some b_3))
theorem d_rhide_99 : decode prog_14_method_10_code 99 = .ok (.return_, 1) := by decide +kernel
set_option maxHeartbeats 4000000 in
set_option maxRecDepth 100000 in
theorem w_rhide_J0 {p : Program} {l : Launch} {e : Env} {s : State} {m : MethodId} {args : Array Value} {below : List Frame} {meth : Method} {c : Code} {A : Nat → Prop} {D : va_G} {md : Nat → Nat} {mc : Nat → ClassId} {Q : State → Prop} (hC : MCx "JoinedTreesModel" prog_14_method_10_code 4 none p s m args meth c A D mc) {S : MS} {x1 : Int32} {o : MS} (Heq : m_rhide_J0 S x1 = some o) (Kr : ∀ r : MS, o = r → ∀ (pc : Nat) (H : Heap) (locs : List Loc) (ls : Array Slot), decode prog_14_method_10_code pc = .ok (.return_, 1) → va_P D cls (mw md mc r) H → va_D A (mw md mc r) → va_S A s.heap H locs → W p l e ({ frames := 1, cells := 0, slots := 0, locals := 22 }) s m args below meth c H locs 0 0 Q (F0 m pc ls [])) : ∀ (H : Heap) (locs : List Loc) (ls : Array Slot), va_P D cls (mw md mc S) H → va_D A (mw md mc S) → va_S A s.heap H locs → lv_has ls 4 [(0, .ref (md 100)), (1, .int x1)] → W p l e ({ frames := 1, cells := 0, slots := 0, locals := 22 }) s m args below meth c H locs 0 0 Q (F0 m 0 ls []) := by
  intro H locs ls hP hD hS hl
  obtain ⟨hx, hb, hr, hml, hown, hts, hK, hA⟩ := id hC
  unfold m_rhide_J0 at Heq
  refine lv_iconst (v := 0) hx hb d_rhide_0 (by decide) ?_
  refine lv_istore_n (lv' := [(2, .int 0), (0, .ref (md 100)), (1, .int x1)]) hx hb d_rhide_1 rfl hl (by decide) rfl (fun ls hl => ?_)
  obtain ⟨b_1, h_2, Heq⟩ := ob_some Heq
  refine w_rhide_L2 hC h_2 (fun b h => ?_) _ _ _ hP hD hS (lv_sub hl [1, 2, 0] rfl)
  subst h
  intro H locs ls hP hD hS hl
  refine lv_iconst (v := 0) hx hb d_rhide_23 (by decide) ?_
  refine lv_istore_n (lv' := [(2, .int 0), (0, .ref (md 100)), (1, .int b_1.2)]) hx hb d_rhide_24 rfl hl (by decide) rfl (fun ls hl => ?_)
  obtain ⟨b_3, h_4, Heq⟩ := ob_some Heq
  refine w_rhide_L25 hC h_4 (fun b h => ?_) _ _ _ hP hD hS (lv_sub hl [1, 2, 0] rfl)
  subst h
  intro H locs ls hP hD hS hl
  exact Kr _ (Option.some.inj Heq).symm 99 _ _ _ d_rhide_99 hP hD hS
def m_rhide (S : MS) (x1 : Int32) : Option MS := m_rhide_J0 S x1
theorem g_rhide (l : Launch) (D : va_G) (sz : Nat) {md : Nat → Nat} {mc : Nat → ClassId} {S : MS} {x1 : Int32} {o : MS} (Heq : m_rhide S x1 = some o) : Met l ⟨"JoinedTreesModel", "hide", "(I)V"⟩ (Cond.code ⟨"JoinedTreesModel", "hide", "(I)V"⟩ prog_14_method_10_code 4 none :: gb) ({ frames := 1, cells := 0, slots := 0, locals := 22 }) (gPc D (mw md mc S) (mty mc) sz [.ref (md 100), .int x1]) (va_Qv (fun _ : Unit => True) (fun _ t => gO D (mw md mc o) (mty mc) (va_A (mw md mc S) sz) t) (va_A (mw md mc S) sz)) 0 0 (va_A (mw md mc S) sz) := by
  refine Met.ofW (cc := prog_14_method_10_code) (maxL := 4) (ret := none) (by decide) rfl ?_
  intro p e s m args below meth c s₁ B hml hv
  obtain ⟨rfl, hsz, hP, hK, hD0⟩ := hv
  have hx := B.exec
  have hb := B.bytes
  have hr := B.returns
  have hts : ∀ w9 ∈ gb, w9.before [.ref (md 100), .int x1].toArray s = true := fun w9 h => atoms_spec (ws := Cond.code ⟨"JoinedTreesModel", "hide", "(I)V"⟩ prog_14_method_10_code 4 none :: gb) B.pre w9 (List.mem_cons_of_mem _ h)
  have hown : s.vm.findClass "JoinedTreesModel" = some m.cls := findClass_of_methodNamed B.named
  have hlocks := B.notSynchronized
  subst hsz
  have hD := hD0.self (sz := s.heap.size)
  generalize hAe : va_A (mw md mc S) s.heap.size = A at hD ⊢
  have hA : ∀ q : Nat, s.heap.size ≤ q → A q := fun q h => by rw [← hAe]; exact Or.inr h
  have hS : va_S A s.heap s.heap [] := va_S.rf
  have hl := lv_entry ([.ref (md 100), .int x1]) (n := 4) (Nat.le_of_ble_eq_true rfl)
  rw [lg_entry_eq]
  generalize (lg_sl ([.ref (md 100), .int x1]) ++ List.replicate (4 - (lg_sl ([.ref (md 100), .int x1])).length) Slot.unset).toArray = ls at hl ⊢
  have hl : lv_has ls 4 [(0, .ref (md 100)), (1, .int x1)] := hl
  refine w_rhide_J0 ⟨hx, hb, hr, hml, hown, hts, hK, hA⟩ Heq (fun r h pc H locs ls hd hP hD hS => ?_) _ _ _ hP hD hS (lv_sub hl [0, 1] rfl)
  subst h
  exact W.vret hx hb hr (fun t ht hW => ⟨⟨(), rfl, trivial, by rw [ht]; exact hP, va_K.moved hW.alike hK, hD⟩, hS.F ht⟩) hS.2.2 hd
def m_rvisible_J34 (S : MS) (t0 : Int32) : Option (MS × Int32) := (if t0 = 0 ∨ t0 = 1 then some (S, t0) else none)
theorem d_rvisible_0 : decode prog_14_method_11_code 0 = .ok (.aload_n 0, 1) := by decide +kernel
theorem d_rvisible_1 : decode prog_14_method_11_code 1 = .ok (.iload_n 1, 1) := by decide +kernel
theorem d_rvisible_2 : decode prog_14_method_11_code 2 = .ok (.iload_n 2, 1) := by decide +kernel
theorem d_rvisible_3 : decode prog_14_method_11_code 3 = .ok (.invokevirtual 198, 3) := by decide +kernel
theorem d_rvisible_6 : decode prog_14_method_11_code 6 = .ok (.ifCond .eq 27, 3) := by decide +kernel
theorem d_rvisible_33 : decode prog_14_method_11_code 33 = .ok (.iconst 0, 1) := by decide +kernel
theorem d_rvisible_34 : decode prog_14_method_11_code 34 = .ok (.ireturn, 1) := by decide +kernel
set_option maxHeartbeats 4000000 in
set_option maxRecDepth 100000 in
theorem w_rvisible_J34 {p : Program} {l : Launch} {e : Env} {s : State} {m : MethodId} {args : Array Value} {below : List Frame} {meth : Method} {c : Code} {A : Nat → Prop} {D : va_G} {md : Nat → Nat} {mc : Nat → ClassId} {Q : State → Prop} (hC : MCx "JoinedTreesModel" prog_14_method_11_code 3 (some .boolean) p s m args meth c A D mc) {S : MS} {t0 : Int32} {o : MS × Int32} (Heq : m_rvisible_J34 S t0 = some o) (Kr : ∀ r : MS × Int32, o = r → ∀ (pc : Nat) (H : Heap) (locs : List Loc) (ls : Array Slot), decode prog_14_method_11_code pc = .ok (.ireturn, 1) → (r.2 = 0 ∨ r.2 = 1) → va_P D cls (mw md mc r.1) H → va_D A (mw md mc r.1) → va_S A s.heap H locs → W p l e ({ frames := 1, cells := 0, slots := 0, locals := 22 }) s m args below meth c H locs 0 0 Q (F0 m pc ls [.int r.2])) : ∀ (H : Heap) (locs : List Loc) (ls : Array Slot), va_P D cls (mw md mc S) H → va_D A (mw md mc S) → va_S A s.heap H locs → lv_has ls 3 [(0, .ref (md 100))] → W p l e ({ frames := 1, cells := 0, slots := 0, locals := 22 }) s m args below meth c H locs 0 0 Q (F0 m 34 ls [.int t0]) := by
  intro H locs ls hP hD hS hl
  obtain ⟨hx, hb, hr, hml, hown, hts, hK, hA⟩ := id hC
  unfold m_rvisible_J34 at Heq
  by_cases hz_1 : t0 = 0 ∨ t0 = 1
  case neg => rw [if_neg hz_1] at Heq; cases Heq
  replace Heq := (if_pos hz_1).symm.trans Heq
  exact Kr _ (Option.some.inj Heq).symm 34 _ _ _ d_rvisible_34 hz_1 hP hD hS
def m_rvisible_J33 (S : MS) : Option (MS × Int32) := m_rvisible_J34 S 0
set_option maxHeartbeats 4000000 in
set_option maxRecDepth 100000 in
theorem w_rvisible_J33 {p : Program} {l : Launch} {e : Env} {s : State} {m : MethodId} {args : Array Value} {below : List Frame} {meth : Method} {c : Code} {A : Nat → Prop} {D : va_G} {md : Nat → Nat} {mc : Nat → ClassId} {Q : State → Prop} (hC : MCx "JoinedTreesModel" prog_14_method_11_code 3 (some .boolean) p s m args meth c A D mc) {S : MS} {o : MS × Int32} (Heq : m_rvisible_J33 S = some o) (Kr : ∀ r : MS × Int32, o = r → ∀ (pc : Nat) (H : Heap) (locs : List Loc) (ls : Array Slot), decode prog_14_method_11_code pc = .ok (.ireturn, 1) → (r.2 = 0 ∨ r.2 = 1) → va_P D cls (mw md mc r.1) H → va_D A (mw md mc r.1) → va_S A s.heap H locs → W p l e ({ frames := 1, cells := 0, slots := 0, locals := 22 }) s m args below meth c H locs 0 0 Q (F0 m pc ls [.int r.2])) : ∀ (H : Heap) (locs : List Loc) (ls : Array Slot), va_P D cls (mw md mc S) H → va_D A (mw md mc S) → va_S A s.heap H locs → lv_has ls 3 [(0, .ref (md 100))] → W p l e ({ frames := 1, cells := 0, slots := 0, locals := 22 }) s m args below meth c H locs 0 0 Q (F0 m 33 ls []) := by
  intro H locs ls hP hD hS hl
  obtain ⟨hx, hb, hr, hml, hown, hts, hK, hA⟩ := id hC
  unfold m_rvisible_J33 at Heq
  refine lv_iconst (v := 0) hx hb d_rvisible_33 (by decide) ?_
  exact w_rvisible_J34 hC Heq Kr _ _ _ hP hD hS (lv_sub hl [0] rfl)
def m_rvisible_J0 (S : MS) (x1 : Int32) (x2 : Int32) : Option (MS × Int32) := ob (m_rin S x1 x2) (fun o_1 => (if o_1.2 = 0 then m_rvisible_J33 o_1.1 else gd x2 4000 ((if 8 < o_1.1.a 11 x2.toNatClampNeg then m_rvisible_J33 o_1.1 else gd x2 4000 ((if o_1.1.a 45 x2.toNatClampNeg = 0 then m_rvisible_J34 o_1.1 1 else m_rvisible_J33 o_1.1))))))
theorem d_rvisible_9 : decode prog_14_method_11_code 9 = .ok (.aload_n 0, 1) := by decide +kernel
theorem d_rvisible_10 : decode prog_14_method_11_code 10 = .ok (.getfield 29, 3) := by decide +kernel
theorem d_rvisible_13 : decode prog_14_method_11_code 13 = .ok (.iload_n 2, 1) := by decide +kernel
theorem d_rvisible_14 : decode prog_14_method_11_code 14 = .ok (.iaload, 1) := by decide +kernel
theorem d_rvisible_15 : decode prog_14_method_11_code 15 = .ok (.bipush 8, 2) := by decide +kernel
theorem d_rvisible_17 : decode prog_14_method_11_code 17 = .ok (.if_icmp .gt 16, 3) := by decide +kernel
theorem d_rvisible_20 : decode prog_14_method_11_code 20 = .ok (.aload_n 0, 1) := by decide +kernel
theorem d_rvisible_21 : decode prog_14_method_11_code 21 = .ok (.getfield 118, 3) := by decide +kernel
theorem d_rvisible_24 : decode prog_14_method_11_code 24 = .ok (.iload_n 2, 1) := by decide +kernel
theorem d_rvisible_25 : decode prog_14_method_11_code 25 = .ok (.baload, 1) := by decide +kernel
theorem d_rvisible_26 : decode prog_14_method_11_code 26 = .ok (.ifCond .ne 7, 3) := by decide +kernel
theorem d_rvisible_29 : decode prog_14_method_11_code 29 = .ok (.iconst 1, 1) := by decide +kernel
theorem d_rvisible_30 : decode prog_14_method_11_code 30 = .ok (.goto 4, 3) := by decide +kernel
set_option maxHeartbeats 4000000 in
set_option maxRecDepth 100000 in
theorem w_rvisible_J0 {p : Program} {l : Launch} {e : Env} {s : State} {m : MethodId} {args : Array Value} {below : List Frame} {meth : Method} {c : Code} {A : Nat → Prop} {D : va_G} {md : Nat → Nat} {mc : Nat → ClassId} {Q : State → Prop} (hC : MCx "JoinedTreesModel" prog_14_method_11_code 3 (some .boolean) p s m args meth c A D mc) {S : MS} {x1 : Int32} {x2 : Int32} {o : MS × Int32} (Heq : m_rvisible_J0 S x1 x2 = some o) (Kr : ∀ r : MS × Int32, o = r → ∀ (pc : Nat) (H : Heap) (locs : List Loc) (ls : Array Slot), decode prog_14_method_11_code pc = .ok (.ireturn, 1) → (r.2 = 0 ∨ r.2 = 1) → va_P D cls (mw md mc r.1) H → va_D A (mw md mc r.1) → va_S A s.heap H locs → W p l e ({ frames := 1, cells := 0, slots := 0, locals := 22 }) s m args below meth c H locs 0 0 Q (F0 m pc ls [.int r.2])) : ∀ (H : Heap) (locs : List Loc) (ls : Array Slot), va_P D cls (mw md mc S) H → va_D A (mw md mc S) → va_S A s.heap H locs → lv_has ls 3 [(0, .ref (md 100)), (1, .int x1), (2, .int x2)] → W p l e ({ frames := 1, cells := 0, slots := 0, locals := 22 }) s m args below meth c H locs 0 0 Q (F0 m 0 ls []) := by
  intro H locs ls hP hD hS hl
  obtain ⟨hx, hb, hr, hml, hown, hts, hK, hA⟩ := id hC
  unfold m_rvisible_J0 at Heq
  refine lv_aload_n hx hb d_rvisible_0 rfl (lv_at hl 0 rfl) ?_
  refine lv_iload_n hx hb d_rvisible_1 rfl (lv_at hl 1 rfl) ?_
  refine lv_iload_n hx hb d_rvisible_2 rfl (lv_at hl 2 rfl) ?_
  obtain ⟨o_1, h_2, Heq⟩ := ob_some Heq
  have hFc := fr_all hD hS hA
  refine va_calli (va_runV (As := [.int x1, .int x2]) (rest := []) ⟨hx, hb, hml, hown, hts⟩ (g_rin l D H.size h_2) (cw_v 2 hts kw_1656 kw_1653 kw_1655 kp_33 kw_11 rfl rfl (by decide +kernel) ⟨Nat.le_of_ble_eq_true rfl, Nat.le_of_ble_eq_true rfl⟩) ⟨g_blind, va_recv hK hP (ci := 12) (q0 := 0) rfl rfl, fun U hU hW => g_pre hU hW hP hK hD⟩ rfl rfl hl.1 rfl (lv_room (Nat.le_of_ble_eq_true rfl)) d_rvisible_3 ⟨Nat.le_of_ble_eq_true rfl, Nat.le_of_ble_eq_true rfl⟩) hS (fun q _ h => hFc q h) hFc (fun rz u t H1 locs ht hvm hw hB hz1 hk1 hS => ?_)
  obtain ⟨hP, -, hD1⟩ := hB
  rw [ht] at hP
  have hD := hD1.weaken (fun _ q _ h => hFc q.1 h)
  generalize H1 = H at hP hS ⊢
  refine W.cs (cells' := 0) (slots' := 0) rfl rfl ?_
  subst hw
  refine lv_if_eq (tgt := 33) hx hb d_rvisible_6 (by decide) (fun c_3 => ?_) (fun c_3 => ?_)
  · replace Heq := (if_pos c_3).symm.trans Heq
    exact w_rvisible_J33 hC Heq Kr _ _ _ hP hD hS (lv_sub hl [0] rfl)
  · replace Heq := (if_neg c_3).symm.trans Heq
    refine lv_aload_n hx hb d_rvisible_9 rfl (lv_at hl 0 rfl) ?_
    refine va_get (D := D) (ci := 12) (v := .ref (md 11)) (C := R_MM) (T := F_MM) (N := 77) hx hb hts i_MM hown hK hP 0 rfl rfl 11 (by decide) (hts _ kw_1393) (fun _ h9 => h9) rfl d_rvisible_10 ?_
    refine lv_iload_n hx hb d_rvisible_13 rfl (lv_at hl 2 rfl) ?_
    obtain ⟨hi_4, Heq⟩ := gd_some Heq
    refine va_iald hx hb hK hP 7 0 rfl rfl (i := x2) hi_4 d_rvisible_14 ?_
    refine w_i (y := o_1.1.a 11 x2.toNatClampNeg) rfl ?_
    refine lv_bipush (v := 8) hx hb d_rvisible_15 (by decide) ?_
    refine lv_icmp_gt (tgt := 33) hx hb d_rvisible_17 (by decide) (fun c_5 => ?_) (fun c_5 => ?_)
    · replace Heq := (if_pos c_5).symm.trans Heq
      exact w_rvisible_J33 hC Heq Kr _ _ _ hP hD hS (lv_sub hl [0] rfl)
    · replace Heq := (if_neg c_5).symm.trans Heq
      refine lv_aload_n hx hb d_rvisible_20 rfl (lv_at hl 0 rfl) ?_
      refine va_get (D := D) (ci := 12) (v := .ref (md 45)) (C := R_MM) (T := F_MM) (N := 77) hx hb hts i_MM hown hK hP 0 rfl rfl 45 (by decide) (hts _ kw_1427) (fun _ h9 => h9) rfl d_rvisible_21 ?_
      refine lv_iload_n hx hb d_rvisible_24 rfl (lv_at hl 2 rfl) ?_
      obtain ⟨hi_6, Heq⟩ := gd_some Heq
      refine va_zald hx hb hK hP 30 2 rfl rfl (i := x2) hi_6 d_rvisible_25 ?_
      refine w_i (y := o_1.1.a 45 x2.toNatClampNeg) rfl ?_
      refine lv_if_ne (tgt := 33) hx hb d_rvisible_26 (by decide) (fun c_7 => ?_) (fun c_7 => ?_)
      · replace Heq := (if_neg c_7).symm.trans Heq
        exact w_rvisible_J33 hC Heq Kr _ _ _ hP hD hS (lv_sub hl [0] rfl)
      · replace Heq := (if_pos c_7).symm.trans Heq
        refine lv_iconst (v := 1) hx hb d_rvisible_29 (by decide) ?_
        refine lv_goto (tgt := 34) hx hb d_rvisible_30 (by decide) ?_
        exact w_rvisible_J34 hC Heq Kr _ _ _ hP hD hS (lv_sub hl [0] rfl)
def m_rvisible (S : MS) (x1 : Int32) (x2 : Int32) : Option (MS × Int32) := m_rvisible_J0 S x1 x2
theorem g_rvisible (l : Launch) (D : va_G) (sz : Nat) {md : Nat → Nat} {mc : Nat → ClassId} {S : MS} {x1 : Int32} {x2 : Int32} {o : MS × Int32} (Heq : m_rvisible S x1 x2 = some o) : Met l ⟨"JoinedTreesModel", "visible", "(II)Z"⟩ (Cond.code ⟨"JoinedTreesModel", "visible", "(II)Z"⟩ prog_14_method_11_code 3 (some .boolean) :: gb) ({ frames := 1, cells := 0, slots := 0, locals := 22 }) (gPc D (mw md mc S) (mty mc) sz [.ref (md 100), .int x1, .int x2]) (va_Qi (fun (r : Int32) (_ : Unit) => r = o.2) (fun _ t => gO D (mw md mc o.1) (mty mc) (va_A (mw md mc S) sz) t) (va_A (mw md mc S) sz)) 0 0 (va_A (mw md mc S) sz) := by
  refine Met.ofW (cc := prog_14_method_11_code) (maxL := 3) (ret := (some .boolean)) (by decide) rfl ?_
  intro p e s m args below meth c s₁ B hml hv
  obtain ⟨rfl, hsz, hP, hK, hD0⟩ := hv
  have hx := B.exec
  have hb := B.bytes
  have hr := B.returns
  have hts : ∀ w9 ∈ gb, w9.before [.ref (md 100), .int x1, .int x2].toArray s = true := fun w9 h => atoms_spec (ws := Cond.code ⟨"JoinedTreesModel", "visible", "(II)Z"⟩ prog_14_method_11_code 3 (some .boolean) :: gb) B.pre w9 (List.mem_cons_of_mem _ h)
  have hown : s.vm.findClass "JoinedTreesModel" = some m.cls := findClass_of_methodNamed B.named
  have hlocks := B.notSynchronized
  subst hsz
  have hD := hD0.self (sz := s.heap.size)
  generalize hAe : va_A (mw md mc S) s.heap.size = A at hD ⊢
  have hA : ∀ q : Nat, s.heap.size ≤ q → A q := fun q h => by rw [← hAe]; exact Or.inr h
  have hS : va_S A s.heap s.heap [] := va_S.rf
  have hl := lv_entry ([.ref (md 100), .int x1, .int x2]) (n := 3) (Nat.le_of_ble_eq_true rfl)
  rw [lg_entry_eq]
  generalize (lg_sl ([.ref (md 100), .int x1, .int x2]) ++ List.replicate (3 - (lg_sl ([.ref (md 100), .int x1, .int x2])).length) Slot.unset).toArray = ls at hl ⊢
  have hl : lv_has ls 3 [(0, .ref (md 100)), (1, .int x1), (2, .int x2)] := hl
  refine w_rvisible_J0 ⟨hx, hb, hr, hml, hown, hts, hK, hA⟩ Heq (fun r h pc H locs ls hd hz hP hD hS => ?_) _ _ _ hP hD hS (lv_sub hl [0, 1, 2] rfl)
  subst h
  exact W.zret (ty := .boolean) hx hb hr (by rcases hz with hz | hz <;> rw [hz] <;> rfl) (fun t ht hW => ⟨⟨_, (), rfl, rfl, by rw [ht]; exact hP, va_K.moved hW.alike hK, hD⟩, hS.F ht⟩) hS.2.2 hd
def m_rmaker_J59 (S : MS) (x1 : Int32) (x2 : Int32) (x3 : Int32) : Option ((MS × Int32 × Int32 × Int32) ⊕ (MS ⊕ (MS × Int32))) := some (.inl (S, x1, x2, (x3 + 1)))
theorem d_rmaker_0 : decode prog_14_method_12_code 0 = .ok (.iload_n 2, 1) := by decide +kernel
theorem d_rmaker_1 : decode prog_14_method_12_code 1 = .ok (.ifCond .ne 5, 3) := by decide +kernel
theorem d_rmaker_6 : decode prog_14_method_12_code 6 = .ok (.iconst 0, 1) := by decide +kernel
theorem d_rmaker_7 : decode prog_14_method_12_code 7 = .ok (.istore_n 3, 1) := by decide +kernel
theorem d_rmaker_8 : decode prog_14_method_12_code 8 = .ok (.iload_n 3, 1) := by decide +kernel
theorem d_rmaker_9 : decode prog_14_method_12_code 9 = .ok (.aload_n 0, 1) := by decide +kernel
theorem d_rmaker_10 : decode prog_14_method_12_code 10 = .ok (.getfield 195, 3) := by decide +kernel
theorem d_rmaker_13 : decode prog_14_method_12_code 13 = .ok (.if_icmp .ge 52, 3) := by decide +kernel
theorem d_rmaker_16 : decode prog_14_method_12_code 16 = .ok (.aload_n 0, 1) := by decide +kernel
theorem d_rmaker_17 : decode prog_14_method_12_code 17 = .ok (.getfield 19, 3) := by decide +kernel
theorem d_rmaker_20 : decode prog_14_method_12_code 20 = .ok (.iload_n 3, 1) := by decide +kernel
theorem d_rmaker_21 : decode prog_14_method_12_code 21 = .ok (.iaload, 1) := by decide +kernel
theorem d_rmaker_22 : decode prog_14_method_12_code 22 = .ok (.iload_n 2, 1) := by decide +kernel
theorem d_rmaker_23 : decode prog_14_method_12_code 23 = .ok (.if_icmp .ne 36, 3) := by decide +kernel
theorem d_rmaker_59 : decode prog_14_method_12_code 59 = .ok (.iinc 3 1, 3) := by decide +kernel
theorem d_rmaker_62 : decode prog_14_method_12_code 62 = .ok (.goto (-54), 3) := by decide +kernel
set_option maxHeartbeats 4000000 in
set_option maxRecDepth 100000 in
theorem w_rmaker_J59 {p : Program} {l : Launch} {e : Env} {s : State} {m : MethodId} {args : Array Value} {below : List Frame} {meth : Method} {c : Code} {A : Nat → Prop} {D : va_G} {md : Nat → Nat} {mc : Nat → ClassId} {Q : State → Prop} (hC : MCx "JoinedTreesModel" prog_14_method_12_code 4 (some .int) p s m args meth c A D mc) {S : MS} {x1 : Int32} {x2 : Int32} {x3 : Int32} {o : ((MS × Int32 × Int32 × Int32) ⊕ (MS ⊕ (MS × Int32)))} (Heq : m_rmaker_J59 S x1 x2 x3 = some o) (Ka : ∀ b : MS × Int32 × Int32 × Int32, o = .inl b → ∀ (H : Heap) (locs : List Loc) (ls : Array Slot), va_P D cls (mw md mc b.1) H → va_D A (mw md mc b.1) → va_S A s.heap H locs → lv_has ls 4 [(0, .ref (md 100)), (1, .int b.2.1), (2, .int b.2.2.1), (3, .int b.2.2.2)] → W p l e ({ frames := 1, cells := 0, slots := 0, locals := 22 }) s m args below meth c H locs 0 0 Q (F0 m 8 ls [])) (K0 : ∀ b : MS, o = .inr (.inl b) → ∀ (H : Heap) (locs : List Loc) (ls : Array Slot), va_P D cls (mw md mc b) H → va_D A (mw md mc b) → va_S A s.heap H locs → lv_has ls 4 [(0, .ref (md 100))] → W p l e ({ frames := 1, cells := 0, slots := 0, locals := 22 }) s m args below meth c H locs 0 0 Q (F0 m 65 ls [])) (Kr : ∀ r : MS × Int32, o = .inr (.inr r) → ∀ (pc : Nat) (H : Heap) (locs : List Loc) (ls : Array Slot), decode prog_14_method_12_code pc = .ok (.ireturn, 1) → va_P D cls (mw md mc r.1) H → va_D A (mw md mc r.1) → va_S A s.heap H locs → W p l e ({ frames := 1, cells := 0, slots := 0, locals := 22 }) s m args below meth c H locs 0 0 Q (F0 m pc ls [.int r.2])) : ∀ (H : Heap) (locs : List Loc) (ls : Array Slot), va_P D cls (mw md mc S) H → va_D A (mw md mc S) → va_S A s.heap H locs → lv_has ls 4 [(0, .ref (md 100)), (1, .int x1), (2, .int x2), (3, .int x3)] → W p l e ({ frames := 1, cells := 0, slots := 0, locals := 22 }) s m args below meth c H locs 0 0 Q (F0 m 59 ls []) := by
  intro H locs ls hP hD hS hl
  obtain ⟨hx, hb, hr, hml, hown, hts, hK, hA⟩ := id hC
  unfold m_rmaker_J59 at Heq
  refine lv_iinc (v := x3 + 1) (lv' := [(3, .int (x3 + 1)), (0, .ref (md 100)), (1, .int x1), (2, .int x2)]) hx hb d_rmaker_59 hl (k := 3) rfl rfl (by decide) rfl (fun ls hl => ?_)
  refine lv_goto (tgt := 8) hx hb d_rmaker_62 (by decide) ?_
  exact Ka _ (Option.some.inj Heq).symm _ _ _ hP hD hS (lv_sub hl [1, 2, 3, 0] rfl)
def m_rmaker_B8 (S : MS) (x1 : Int32) (x2 : Int32) (x3 : Int32) : Option ((MS × Int32 × Int32 × Int32) ⊕ (MS ⊕ (MS × Int32))) := (if S.i 23 ≤ x3 then some (.inr (.inl (S))) else gd x3 4000 ((if S.a 8 x3.toNatClampNeg = x2 then ob (m_rin S x1 x3) (fun o_4 => (if o_4.2 = 0 then m_rmaker_J59 o_4.1 x1 x2 x3 else gd x3 4000 ((if o_4.1.a 11 x3.toNatClampNeg < 6 then m_rmaker_J59 o_4.1 x1 x2 x3 else gd x3 4000 ((if 8 < o_4.1.a 11 x3.toNatClampNeg then m_rmaker_J59 o_4.1 x1 x2 x3 else some (.inr (.inr (o_4.1, x3))))))))) else m_rmaker_J59 S x1 x2 x3)))
theorem d_rmaker_26 : decode prog_14_method_12_code 26 = .ok (.aload_n 0, 1) := by decide +kernel
theorem d_rmaker_27 : decode prog_14_method_12_code 27 = .ok (.iload_n 1, 1) := by decide +kernel
theorem d_rmaker_28 : decode prog_14_method_12_code 28 = .ok (.iload_n 3, 1) := by decide +kernel
theorem d_rmaker_29 : decode prog_14_method_12_code 29 = .ok (.invokevirtual 198, 3) := by decide +kernel
theorem d_rmaker_32 : decode prog_14_method_12_code 32 = .ok (.ifCond .eq 27, 3) := by decide +kernel
theorem d_rmaker_35 : decode prog_14_method_12_code 35 = .ok (.aload_n 0, 1) := by decide +kernel
theorem d_rmaker_36 : decode prog_14_method_12_code 36 = .ok (.getfield 29, 3) := by decide +kernel
theorem d_rmaker_39 : decode prog_14_method_12_code 39 = .ok (.iload_n 3, 1) := by decide +kernel
theorem d_rmaker_40 : decode prog_14_method_12_code 40 = .ok (.iaload, 1) := by decide +kernel
theorem d_rmaker_41 : decode prog_14_method_12_code 41 = .ok (.bipush 6, 2) := by decide +kernel
theorem d_rmaker_43 : decode prog_14_method_12_code 43 = .ok (.if_icmp .lt 16, 3) := by decide +kernel
theorem d_rmaker_46 : decode prog_14_method_12_code 46 = .ok (.aload_n 0, 1) := by decide +kernel
theorem d_rmaker_47 : decode prog_14_method_12_code 47 = .ok (.getfield 29, 3) := by decide +kernel
theorem d_rmaker_50 : decode prog_14_method_12_code 50 = .ok (.iload_n 3, 1) := by decide +kernel
theorem d_rmaker_51 : decode prog_14_method_12_code 51 = .ok (.iaload, 1) := by decide +kernel
theorem d_rmaker_52 : decode prog_14_method_12_code 52 = .ok (.bipush 8, 2) := by decide +kernel
theorem d_rmaker_54 : decode prog_14_method_12_code 54 = .ok (.if_icmp .gt 5, 3) := by decide +kernel
theorem d_rmaker_57 : decode prog_14_method_12_code 57 = .ok (.iload_n 3, 1) := by decide +kernel
theorem d_rmaker_58 : decode prog_14_method_12_code 58 = .ok (.ireturn, 1) := by decide +kernel
set_option maxHeartbeats 4000000 in
set_option maxRecDepth 100000 in
theorem w_rmaker_B8 {p : Program} {l : Launch} {e : Env} {s : State} {m : MethodId} {args : Array Value} {below : List Frame} {meth : Method} {c : Code} {A : Nat → Prop} {D : va_G} {md : Nat → Nat} {mc : Nat → ClassId} {Q : State → Prop} (hC : MCx "JoinedTreesModel" prog_14_method_12_code 4 (some .int) p s m args meth c A D mc) {S : MS} {x1 : Int32} {x2 : Int32} {x3 : Int32} {o : ((MS × Int32 × Int32 × Int32) ⊕ (MS ⊕ (MS × Int32)))} (Heq : m_rmaker_B8 S x1 x2 x3 = some o) (Ka : ∀ b : MS × Int32 × Int32 × Int32, o = .inl b → ∀ (H : Heap) (locs : List Loc) (ls : Array Slot), va_P D cls (mw md mc b.1) H → va_D A (mw md mc b.1) → va_S A s.heap H locs → lv_has ls 4 [(0, .ref (md 100)), (1, .int b.2.1), (2, .int b.2.2.1), (3, .int b.2.2.2)] → W p l e ({ frames := 1, cells := 0, slots := 0, locals := 22 }) s m args below meth c H locs 0 0 Q (F0 m 8 ls [])) (K0 : ∀ b : MS, o = .inr (.inl b) → ∀ (H : Heap) (locs : List Loc) (ls : Array Slot), va_P D cls (mw md mc b) H → va_D A (mw md mc b) → va_S A s.heap H locs → lv_has ls 4 [(0, .ref (md 100))] → W p l e ({ frames := 1, cells := 0, slots := 0, locals := 22 }) s m args below meth c H locs 0 0 Q (F0 m 65 ls [])) (Kr : ∀ r : MS × Int32, o = .inr (.inr r) → ∀ (pc : Nat) (H : Heap) (locs : List Loc) (ls : Array Slot), decode prog_14_method_12_code pc = .ok (.ireturn, 1) → va_P D cls (mw md mc r.1) H → va_D A (mw md mc r.1) → va_S A s.heap H locs → W p l e ({ frames := 1, cells := 0, slots := 0, locals := 22 }) s m args below meth c H locs 0 0 Q (F0 m pc ls [.int r.2])) : ∀ (H : Heap) (locs : List Loc) (ls : Array Slot), va_P D cls (mw md mc S) H → va_D A (mw md mc S) → va_S A s.heap H locs → lv_has ls 4 [(0, .ref (md 100)), (1, .int x1), (2, .int x2), (3, .int x3)] → W p l e ({ frames := 1, cells := 0, slots := 0, locals := 22 }) s m args below meth c H locs 0 0 Q (F0 m 8 ls []) := by
  intro H locs ls hP hD hS hl
  obtain ⟨hx, hb, hr, hml, hown, hts, hK, hA⟩ := id hC
  unfold m_rmaker_B8 at Heq
  refine lv_iload_n hx hb d_rmaker_8 rfl (lv_at hl 3 rfl) ?_
  refine lv_aload_n hx hb d_rmaker_9 rfl (lv_at hl 0 rfl) ?_
  refine va_get (D := D) (ci := 12) (v := .int (S.i 23)) (C := R_MM) (T := F_MM) (N := 77) hx hb hts i_MM hown hK hP 0 rfl rfl 23 (by decide) (hts _ kw_1405) (fun _ h9 => h9) rfl d_rmaker_10 ?_
  refine lv_icmp_ge (tgt := 65) hx hb d_rmaker_13 (by decide) (fun c_1 => ?_) (fun c_1 => ?_)
  · replace Heq := (if_pos c_1).symm.trans Heq
    exact K0 _ (Option.some.inj Heq).symm _ _ _ hP hD hS (lv_sub hl [0] rfl)
  · replace Heq := (if_neg c_1).symm.trans Heq
    refine lv_aload_n hx hb d_rmaker_16 rfl (lv_at hl 0 rfl) ?_
    refine va_get (D := D) (ci := 12) (v := .ref (md 8)) (C := R_MM) (T := F_MM) (N := 77) hx hb hts i_MM hown hK hP 0 rfl rfl 8 (by decide) (hts _ kw_1390) (fun _ h9 => h9) rfl d_rmaker_17 ?_
    refine lv_iload_n hx hb d_rmaker_20 rfl (lv_at hl 3 rfl) ?_
    obtain ⟨hi_2, Heq⟩ := gd_some Heq
    refine va_iald hx hb hK hP 4 0 rfl rfl (i := x3) hi_2 d_rmaker_21 ?_
    refine w_i (y := S.a 8 x3.toNatClampNeg) rfl ?_
    refine lv_iload_n hx hb d_rmaker_22 rfl (lv_at hl 2 rfl) ?_
    refine lv_icmp_ne (tgt := 59) hx hb d_rmaker_23 (by decide) (fun c_3 => ?_) (fun c_3 => ?_)
    · replace Heq := (if_neg c_3).symm.trans Heq
      exact w_rmaker_J59 hC Heq Ka K0 Kr _ _ _ hP hD hS (lv_sub hl [0, 1, 2, 3] rfl)
    · replace Heq := (if_pos c_3).symm.trans Heq
      refine lv_aload_n hx hb d_rmaker_26 rfl (lv_at hl 0 rfl) ?_
      refine lv_iload_n hx hb d_rmaker_27 rfl (lv_at hl 1 rfl) ?_
      refine lv_iload_n hx hb d_rmaker_28 rfl (lv_at hl 3 rfl) ?_
      obtain ⟨o_4, h_5, Heq⟩ := ob_some Heq
      have hFc := fr_all hD hS hA
      refine va_calli (va_runV (As := [.int x1, .int x3]) (rest := []) ⟨hx, hb, hml, hown, hts⟩ (g_rin l D H.size h_5) (cw_v 2 hts kw_1656 kw_1653 kw_1655 kp_33 kw_11 rfl rfl (by decide +kernel) ⟨Nat.le_of_ble_eq_true rfl, Nat.le_of_ble_eq_true rfl⟩) ⟨g_blind, va_recv hK hP (ci := 12) (q0 := 0) rfl rfl, fun U hU hW => g_pre hU hW hP hK hD⟩ rfl rfl hl.1 rfl (lv_room (Nat.le_of_ble_eq_true rfl)) d_rmaker_29 ⟨Nat.le_of_ble_eq_true rfl, Nat.le_of_ble_eq_true rfl⟩) hS (fun q _ h => hFc q h) hFc (fun rz u t H1 locs ht hvm hw hB hz1 hk1 hS => ?_)
      obtain ⟨hP, -, hD1⟩ := hB
      rw [ht] at hP
      have hD := hD1.weaken (fun _ q _ h => hFc q.1 h)
      generalize H1 = H at hP hS ⊢
      refine W.cs (cells' := 0) (slots' := 0) rfl rfl ?_
      subst hw
      refine lv_if_eq (tgt := 59) hx hb d_rmaker_32 (by decide) (fun c_6 => ?_) (fun c_6 => ?_)
      · replace Heq := (if_pos c_6).symm.trans Heq
        exact w_rmaker_J59 hC Heq Ka K0 Kr _ _ _ hP hD hS (lv_sub hl [0, 1, 2, 3] rfl)
      · replace Heq := (if_neg c_6).symm.trans Heq
        refine lv_aload_n hx hb d_rmaker_35 rfl (lv_at hl 0 rfl) ?_
        refine va_get (D := D) (ci := 12) (v := .ref (md 11)) (C := R_MM) (T := F_MM) (N := 77) hx hb hts i_MM hown hK hP 0 rfl rfl 11 (by decide) (hts _ kw_1393) (fun _ h9 => h9) rfl d_rmaker_36 ?_
        refine lv_iload_n hx hb d_rmaker_39 rfl (lv_at hl 3 rfl) ?_
        obtain ⟨hi_7, Heq⟩ := gd_some Heq
        refine va_iald hx hb hK hP 7 0 rfl rfl (i := x3) hi_7 d_rmaker_40 ?_
        refine w_i (y := o_4.1.a 11 x3.toNatClampNeg) rfl ?_
        refine lv_bipush (v := 6) hx hb d_rmaker_41 (by decide) ?_
        refine lv_icmp_lt (tgt := 59) hx hb d_rmaker_43 (by decide) (fun c_8 => ?_) (fun c_8 => ?_)
        · replace Heq := (if_pos c_8).symm.trans Heq
          exact w_rmaker_J59 hC Heq Ka K0 Kr _ _ _ hP hD hS (lv_sub hl [0, 1, 2, 3] rfl)
        · replace Heq := (if_neg c_8).symm.trans Heq
          refine lv_aload_n hx hb d_rmaker_46 rfl (lv_at hl 0 rfl) ?_
          refine va_get (D := D) (ci := 12) (v := .ref (md 11)) (C := R_MM) (T := F_MM) (N := 77) hx hb hts i_MM hown hK hP 0 rfl rfl 11 (by decide) (hts _ kw_1393) (fun _ h9 => h9) rfl d_rmaker_47 ?_
          refine lv_iload_n hx hb d_rmaker_50 rfl (lv_at hl 3 rfl) ?_
          obtain ⟨hi_9, Heq⟩ := gd_some Heq
          refine va_iald hx hb hK hP 7 0 rfl rfl (i := x3) hi_9 d_rmaker_51 ?_
          refine w_i (y := o_4.1.a 11 x3.toNatClampNeg) rfl ?_
          refine lv_bipush (v := 8) hx hb d_rmaker_52 (by decide) ?_
          refine lv_icmp_gt (tgt := 59) hx hb d_rmaker_54 (by decide) (fun c_10 => ?_) (fun c_10 => ?_)
          · replace Heq := (if_pos c_10).symm.trans Heq
            exact w_rmaker_J59 hC Heq Ka K0 Kr _ _ _ hP hD hS (lv_sub hl [0, 1, 2, 3] rfl)
          · replace Heq := (if_neg c_10).symm.trans Heq
            refine lv_iload_n hx hb d_rmaker_57 rfl (lv_at hl 3 rfl) ?_
            exact Kr _ (Option.some.inj Heq).symm 58 _ _ _ d_rmaker_58 hP hD hS
def m_rmaker_L8 (S : MS) (x1 : Int32) (x2 : Int32) (x3 : Int32) : Option (MS ⊕ (MS × Int32)) := lp (fun a : MS × Int32 × Int32 × Int32 => m_rmaker_B8 a.1 a.2.1 a.2.2.1 a.2.2.2) FU (S, x1, x2, x3)
theorem w_rmaker_L8 {p : Program} {l : Launch} {e : Env} {s : State} {m : MethodId} {args : Array Value} {below : List Frame} {meth : Method} {c : Code} {A : Nat → Prop} {D : va_G} {md : Nat → Nat} {mc : Nat → ClassId} {Q : State → Prop} (hC : MCx "JoinedTreesModel" prog_14_method_12_code 4 (some .int) p s m args meth c A D mc) {S : MS} {x1 : Int32} {x2 : Int32} {x3 : Int32} {o : (MS ⊕ (MS × Int32))} (Heq : m_rmaker_L8 S x1 x2 x3 = some o) (K0 : ∀ b : MS, o = (.inl b) → ∀ (H : Heap) (locs : List Loc) (ls : Array Slot), va_P D cls (mw md mc b) H → va_D A (mw md mc b) → va_S A s.heap H locs → lv_has ls 4 [(0, .ref (md 100))] → W p l e ({ frames := 1, cells := 0, slots := 0, locals := 22 }) s m args below meth c H locs 0 0 Q (F0 m 65 ls [])) (Kr : ∀ r : MS × Int32, o = (.inr r) → ∀ (pc : Nat) (H : Heap) (locs : List Loc) (ls : Array Slot), decode prog_14_method_12_code pc = .ok (.ireturn, 1) → va_P D cls (mw md mc r.1) H → va_D A (mw md mc r.1) → va_S A s.heap H locs → W p l e ({ frames := 1, cells := 0, slots := 0, locals := 22 }) s m args below meth c H locs 0 0 Q (F0 m pc ls [.int r.2])) : ∀ (H : Heap) (locs : List Loc) (ls : Array Slot), va_P D cls (mw md mc S) H → va_D A (mw md mc S) → va_S A s.heap H locs → lv_has ls 4 [(0, .ref (md 100)), (1, .int x1), (2, .int x2), (3, .int x3)] → W p l e ({ frames := 1, cells := 0, slots := 0, locals := 22 }) s m args below meth c H locs 0 0 Q (F0 m 8 ls []) := by
  refine lp_w (G := fun a : MS × Int32 × Int32 × Int32 => ∀ (H : Heap) (locs : List Loc) (ls : Array Slot), va_P D cls (mw md mc a.1) H → va_D A (mw md mc a.1) → va_S A s.heap H locs → lv_has ls 4 [(0, .ref (md 100)), (1, .int a.2.1), (2, .int a.2.2.1), (3, .int a.2.2.2)] → W p l e ({ frames := 1, cells := 0, slots := 0, locals := 22 }) s m args below meth c H locs 0 0 Q (F0 m 8 ls [])) ?_ FU (S, x1, x2, x3) Heq
  intro a o1 ho Ka Ke
  exact w_rmaker_B8 hC ho (fun b h => Ka b h) (fun b h => K0 b (Ke _ h).symm) (fun r h => Kr r (Ke _ h).symm)
def m_rmaker_J0 (S : MS) (x1 : Int32) (x2 : Int32) : Option (MS × Int32) := (if x2 = 0 then some (S, (-1)) else oe (m_rmaker_L8 S x1 x2 0) (fun b_2 => some (b_2, (-2))) (fun r_4 => some r_4))
theorem d_rmaker_65 : decode prog_14_method_12_code 65 = .ok (.bipush (-2), 2) := by decide +kernel
theorem d_rmaker_67 : decode prog_14_method_12_code 67 = .ok (.ireturn, 1) := by decide +kernel
theorem d_rmaker_4 : decode prog_14_method_12_code 4 = .ok (.iconst (-1), 1) := by decide +kernel
theorem d_rmaker_5 : decode prog_14_method_12_code 5 = .ok (.ireturn, 1) := by decide +kernel
set_option maxHeartbeats 4000000 in
set_option maxRecDepth 100000 in
theorem w_rmaker_J0 {p : Program} {l : Launch} {e : Env} {s : State} {m : MethodId} {args : Array Value} {below : List Frame} {meth : Method} {c : Code} {A : Nat → Prop} {D : va_G} {md : Nat → Nat} {mc : Nat → ClassId} {Q : State → Prop} (hC : MCx "JoinedTreesModel" prog_14_method_12_code 4 (some .int) p s m args meth c A D mc) {S : MS} {x1 : Int32} {x2 : Int32} {o : MS × Int32} (Heq : m_rmaker_J0 S x1 x2 = some o) (Kr : ∀ r : MS × Int32, o = r → ∀ (pc : Nat) (H : Heap) (locs : List Loc) (ls : Array Slot), decode prog_14_method_12_code pc = .ok (.ireturn, 1) → va_P D cls (mw md mc r.1) H → va_D A (mw md mc r.1) → va_S A s.heap H locs → W p l e ({ frames := 1, cells := 0, slots := 0, locals := 22 }) s m args below meth c H locs 0 0 Q (F0 m pc ls [.int r.2])) : ∀ (H : Heap) (locs : List Loc) (ls : Array Slot), va_P D cls (mw md mc S) H → va_D A (mw md mc S) → va_S A s.heap H locs → lv_has ls 4 [(0, .ref (md 100)), (1, .int x1), (2, .int x2)] → W p l e ({ frames := 1, cells := 0, slots := 0, locals := 22 }) s m args below meth c H locs 0 0 Q (F0 m 0 ls []) := by
  intro H locs ls hP hD hS hl
  obtain ⟨hx, hb, hr, hml, hown, hts, hK, hA⟩ := id hC
  unfold m_rmaker_J0 at Heq
  refine lv_iload_n hx hb d_rmaker_0 rfl (lv_at hl 2 rfl) ?_
  refine lv_if_ne (tgt := 6) hx hb d_rmaker_1 (by decide) (fun c_1 => ?_) (fun c_1 => ?_)
  · replace Heq := (if_neg c_1).symm.trans Heq
    refine lv_iconst (v := 0) hx hb d_rmaker_6 (by decide) ?_
    refine lv_istore_n (lv' := [(3, .int 0), (0, .ref (md 100)), (1, .int x1), (2, .int x2)]) hx hb d_rmaker_7 rfl hl (by decide) rfl (fun ls hl => ?_)
    rcases oe_some Heq with ⟨b_2, h_3, Heq⟩ | ⟨r_4, h_3, Heq⟩
    · refine w_rmaker_L8 hC h_3 (fun b h => ?_) (fun r h => by cases h) _ _ _ hP hD hS (lv_sub hl [1, 2, 3, 0] rfl)
      cases h
      intro H locs ls hP hD hS hl
      refine lv_bipush (v := (-2)) hx hb d_rmaker_65 (by decide) ?_
      exact Kr _ (Option.some.inj Heq).symm 67 _ _ _ d_rmaker_67 hP hD hS
    · refine w_rmaker_L8 hC h_3 (fun b h => by cases h) (fun r h => ?_) _ _ _ hP hD hS (lv_sub hl [1, 2, 3, 0] rfl)
      cases h
      exact Kr _ (Option.some.inj Heq).symm
  · replace Heq := (if_pos c_1).symm.trans Heq
    refine lv_iconst (v := (-1)) hx hb d_rmaker_4 (by decide) ?_
    exact Kr _ (Option.some.inj Heq).symm 5 _ _ _ d_rmaker_5 hP hD hS
def m_rmaker (S : MS) (x1 : Int32) (x2 : Int32) : Option (MS × Int32) := m_rmaker_J0 S x1 x2
theorem g_rmaker (l : Launch) (D : va_G) (sz : Nat) {md : Nat → Nat} {mc : Nat → ClassId} {S : MS} {x1 : Int32} {x2 : Int32} {o : MS × Int32} (Heq : m_rmaker S x1 x2 = some o) : Met l ⟨"JoinedTreesModel", "maker", "(II)I"⟩ (Cond.code ⟨"JoinedTreesModel", "maker", "(II)I"⟩ prog_14_method_12_code 4 (some .int) :: gb) ({ frames := 1, cells := 0, slots := 0, locals := 22 }) (gPc D (mw md mc S) (mty mc) sz [.ref (md 100), .int x1, .int x2]) (va_Qi (fun (r : Int32) (_ : Unit) => r = o.2) (fun _ t => gO D (mw md mc o.1) (mty mc) (va_A (mw md mc S) sz) t) (va_A (mw md mc S) sz)) 0 0 (va_A (mw md mc S) sz) := by
  refine Met.ofW (cc := prog_14_method_12_code) (maxL := 4) (ret := (some .int)) (by decide) rfl ?_
  intro p e s m args below meth c s₁ B hml hv
  obtain ⟨rfl, hsz, hP, hK, hD0⟩ := hv
  have hx := B.exec
  have hb := B.bytes
  have hr := B.returns
  have hts : ∀ w9 ∈ gb, w9.before [.ref (md 100), .int x1, .int x2].toArray s = true := fun w9 h => atoms_spec (ws := Cond.code ⟨"JoinedTreesModel", "maker", "(II)I"⟩ prog_14_method_12_code 4 (some .int) :: gb) B.pre w9 (List.mem_cons_of_mem _ h)
  have hown : s.vm.findClass "JoinedTreesModel" = some m.cls := findClass_of_methodNamed B.named
  have hlocks := B.notSynchronized
  subst hsz
  have hD := hD0.self (sz := s.heap.size)
  generalize hAe : va_A (mw md mc S) s.heap.size = A at hD ⊢
  have hA : ∀ q : Nat, s.heap.size ≤ q → A q := fun q h => by rw [← hAe]; exact Or.inr h
  have hS : va_S A s.heap s.heap [] := va_S.rf
  have hl := lv_entry ([.ref (md 100), .int x1, .int x2]) (n := 4) (Nat.le_of_ble_eq_true rfl)
  rw [lg_entry_eq]
  generalize (lg_sl ([.ref (md 100), .int x1, .int x2]) ++ List.replicate (4 - (lg_sl ([.ref (md 100), .int x1, .int x2])).length) Slot.unset).toArray = ls at hl ⊢
  have hl : lv_has ls 4 [(0, .ref (md 100)), (1, .int x1), (2, .int x2)] := hl
  refine w_rmaker_J0 ⟨hx, hb, hr, hml, hown, hts, hK, hA⟩ Heq (fun r h pc H locs ls hd hP hD hS => ?_) _ _ _ hP hD hS (lv_sub hl [0, 1, 2] rfl)
  subst h
  exact W.iret hx hb hr (fun t ht hW => ⟨⟨_, (), rfl, rfl, by rw [ht]; exact hP, va_K.moved hW.alike hK, hD⟩, hS.F ht⟩) hS.2.2 hd
def m_rkindOf_J33 (S : MS) (t0 : Int32) : Option (MS × Int32) := some (S, t0)
theorem d_rkindOf_0 : decode prog_14_method_13_code 0 = .ok (.aload_n 0, 1) := by decide +kernel
theorem d_rkindOf_1 : decode prog_14_method_13_code 1 = .ok (.iload_n 1, 1) := by decide +kernel
theorem d_rkindOf_2 : decode prog_14_method_13_code 2 = .ok (.iload_n 2, 1) := by decide +kernel
theorem d_rkindOf_3 : decode prog_14_method_13_code 3 = .ok (.invokevirtual 202, 3) := by decide +kernel
theorem d_rkindOf_6 : decode prog_14_method_13_code 6 = .ok (.istore_n 3, 1) := by decide +kernel
theorem d_rkindOf_7 : decode prog_14_method_13_code 7 = .ok (.iload_n 3, 1) := by decide +kernel
theorem d_rkindOf_8 : decode prog_14_method_13_code 8 = .ok (.bipush (-2), 2) := by decide +kernel
theorem d_rkindOf_10 : decode prog_14_method_13_code 10 = .ok (.if_icmp .ne 7, 3) := by decide +kernel
theorem d_rkindOf_17 : decode prog_14_method_13_code 17 = .ok (.iload_n 3, 1) := by decide +kernel
theorem d_rkindOf_18 : decode prog_14_method_13_code 18 = .ok (.iconst (-1), 1) := by decide +kernel
theorem d_rkindOf_19 : decode prog_14_method_13_code 19 = .ok (.if_icmp .ne 8, 3) := by decide +kernel
theorem d_rkindOf_27 : decode prog_14_method_13_code 27 = .ok (.aload_n 0, 1) := by decide +kernel
theorem d_rkindOf_28 : decode prog_14_method_13_code 28 = .ok (.getfield 29, 3) := by decide +kernel
theorem d_rkindOf_31 : decode prog_14_method_13_code 31 = .ok (.iload_n 3, 1) := by decide +kernel
theorem d_rkindOf_32 : decode prog_14_method_13_code 32 = .ok (.iaload, 1) := by decide +kernel
theorem d_rkindOf_33 : decode prog_14_method_13_code 33 = .ok (.ireturn, 1) := by decide +kernel
set_option maxHeartbeats 4000000 in
set_option maxRecDepth 100000 in
theorem w_rkindOf_J33 {p : Program} {l : Launch} {e : Env} {s : State} {m : MethodId} {args : Array Value} {below : List Frame} {meth : Method} {c : Code} {A : Nat → Prop} {D : va_G} {md : Nat → Nat} {mc : Nat → ClassId} {Q : State → Prop} (hC : MCx "JoinedTreesModel" prog_14_method_13_code 4 (some .int) p s m args meth c A D mc) {S : MS} {t0 : Int32} {o : MS × Int32} (Heq : m_rkindOf_J33 S t0 = some o) (Kr : ∀ r : MS × Int32, o = r → ∀ (pc : Nat) (H : Heap) (locs : List Loc) (ls : Array Slot), decode prog_14_method_13_code pc = .ok (.ireturn, 1) → va_P D cls (mw md mc r.1) H → va_D A (mw md mc r.1) → va_S A s.heap H locs → W p l e ({ frames := 2, cells := 0, slots := 0, locals := 45 }) s m args below meth c H locs 0 0 Q (F0 m pc ls [.int r.2])) : ∀ (H : Heap) (locs : List Loc) (ls : Array Slot), va_P D cls (mw md mc S) H → va_D A (mw md mc S) → va_S A s.heap H locs → lv_has ls 4 [(0, .ref (md 100))] → W p l e ({ frames := 2, cells := 0, slots := 0, locals := 45 }) s m args below meth c H locs 0 0 Q (F0 m 33 ls [.int t0]) := by
  intro H locs ls hP hD hS hl
  obtain ⟨hx, hb, hr, hml, hown, hts, hK, hA⟩ := id hC
  unfold m_rkindOf_J33 at Heq
  exact Kr _ (Option.some.inj Heq).symm 33 _ _ _ d_rkindOf_33 hP hD hS
def m_rkindOf_J0 (S : MS) (x1 : Int32) (x2 : Int32) : Option (MS × Int32) := ob (m_rmaker S x1 x2) (fun o_1 => (if o_1.2 = (-2) then m_rkindOf_J33 o_1.1 (-1) else (if o_1.2 = (-1) then m_rkindOf_J33 o_1.1 6 else gd o_1.2 4000 (m_rkindOf_J33 o_1.1 (o_1.1.a 11 o_1.2.toNatClampNeg)))))
theorem d_rkindOf_22 : decode prog_14_method_13_code 22 = .ok (.bipush 6, 2) := by decide +kernel
theorem d_rkindOf_24 : decode prog_14_method_13_code 24 = .ok (.goto 9, 3) := by decide +kernel
theorem d_rkindOf_13 : decode prog_14_method_13_code 13 = .ok (.iconst (-1), 1) := by decide +kernel
theorem d_rkindOf_14 : decode prog_14_method_13_code 14 = .ok (.goto 19, 3) := by decide +kernel
set_option maxHeartbeats 4000000 in
set_option maxRecDepth 100000 in
theorem w_rkindOf_J0 {p : Program} {l : Launch} {e : Env} {s : State} {m : MethodId} {args : Array Value} {below : List Frame} {meth : Method} {c : Code} {A : Nat → Prop} {D : va_G} {md : Nat → Nat} {mc : Nat → ClassId} {Q : State → Prop} (hC : MCx "JoinedTreesModel" prog_14_method_13_code 4 (some .int) p s m args meth c A D mc) {S : MS} {x1 : Int32} {x2 : Int32} {o : MS × Int32} (Heq : m_rkindOf_J0 S x1 x2 = some o) (Kr : ∀ r : MS × Int32, o = r → ∀ (pc : Nat) (H : Heap) (locs : List Loc) (ls : Array Slot), decode prog_14_method_13_code pc = .ok (.ireturn, 1) → va_P D cls (mw md mc r.1) H → va_D A (mw md mc r.1) → va_S A s.heap H locs → W p l e ({ frames := 2, cells := 0, slots := 0, locals := 45 }) s m args below meth c H locs 0 0 Q (F0 m pc ls [.int r.2])) : ∀ (H : Heap) (locs : List Loc) (ls : Array Slot), va_P D cls (mw md mc S) H → va_D A (mw md mc S) → va_S A s.heap H locs → lv_has ls 4 [(0, .ref (md 100)), (1, .int x1), (2, .int x2)] → W p l e ({ frames := 2, cells := 0, slots := 0, locals := 45 }) s m args below meth c H locs 0 0 Q (F0 m 0 ls []) := by
  intro H locs ls hP hD hS hl
  obtain ⟨hx, hb, hr, hml, hown, hts, hK, hA⟩ := id hC
  unfold m_rkindOf_J0 at Heq
  refine lv_aload_n hx hb d_rkindOf_0 rfl (lv_at hl 0 rfl) ?_
  refine lv_iload_n hx hb d_rkindOf_1 rfl (lv_at hl 1 rfl) ?_
  refine lv_iload_n hx hb d_rkindOf_2 rfl (lv_at hl 2 rfl) ?_
  obtain ⟨o_1, h_2, Heq⟩ := ob_some Heq
  have hFc := fr_all hD hS hA
  refine va_calli (va_runV (As := [.int x1, .int x2]) (rest := []) ⟨hx, hb, hml, hown, hts⟩ (g_rmaker l D H.size h_2) (cw_v 2 hts kw_1652 kw_1649 kw_1651 kp_32 kw_11 rfl rfl (by decide +kernel) ⟨Nat.le_of_ble_eq_true rfl, Nat.le_of_ble_eq_true rfl⟩) ⟨g_blind, va_recv hK hP (ci := 12) (q0 := 0) rfl rfl, fun U hU hW => g_pre hU hW hP hK hD⟩ rfl rfl hl.1 rfl (lv_room (Nat.le_of_ble_eq_true rfl)) d_rkindOf_3 ⟨Nat.le_of_ble_eq_true rfl, Nat.le_of_ble_eq_true rfl⟩) hS (fun q _ h => hFc q h) hFc (fun rz u t H1 locs ht hvm hw hB hz1 hk1 hS => ?_)
  obtain ⟨hP, -, hD1⟩ := hB
  rw [ht] at hP
  have hD := hD1.weaken (fun _ q _ h => hFc q.1 h)
  generalize H1 = H at hP hS ⊢
  refine W.cs (cells' := 0) (slots' := 0) rfl rfl ?_
  subst hw
  refine lv_istore_n (lv' := [(3, .int o_1.2), (0, .ref (md 100)), (1, .int x1), (2, .int x2)]) hx hb d_rkindOf_6 rfl hl (by decide) rfl (fun ls hl => ?_)
  refine lv_iload_n hx hb d_rkindOf_7 rfl (lv_at hl 0 rfl) ?_
  refine lv_bipush (v := (-2)) hx hb d_rkindOf_8 (by decide) ?_
  refine lv_icmp_ne (tgt := 17) hx hb d_rkindOf_10 (by decide) (fun c_3 => ?_) (fun c_3 => ?_)
  · replace Heq := (if_neg c_3).symm.trans Heq
    refine lv_iload_n hx hb d_rkindOf_17 rfl (lv_at hl 0 rfl) ?_
    refine lv_iconst (v := (-1)) hx hb d_rkindOf_18 (by decide) ?_
    refine lv_icmp_ne (tgt := 27) hx hb d_rkindOf_19 (by decide) (fun c_4 => ?_) (fun c_4 => ?_)
    · replace Heq := (if_neg c_4).symm.trans Heq
      refine lv_aload_n hx hb d_rkindOf_27 rfl (lv_at hl 1 rfl) ?_
      refine va_get (D := D) (ci := 12) (v := .ref (md 11)) (C := R_MM) (T := F_MM) (N := 77) hx hb hts i_MM hown hK hP 0 rfl rfl 11 (by decide) (hts _ kw_1393) (fun _ h9 => h9) rfl d_rkindOf_28 ?_
      refine lv_iload_n hx hb d_rkindOf_31 rfl (lv_at hl 0 rfl) ?_
      obtain ⟨hi_5, Heq⟩ := gd_some Heq
      refine va_iald hx hb hK hP 7 0 rfl rfl (i := o_1.2) hi_5 d_rkindOf_32 ?_
      refine w_i (y := o_1.1.a 11 o_1.2.toNatClampNeg) rfl ?_
      exact w_rkindOf_J33 hC Heq Kr _ _ _ hP hD hS (lv_sub hl [1] rfl)
    · replace Heq := (if_pos c_4).symm.trans Heq
      refine lv_bipush (v := 6) hx hb d_rkindOf_22 (by decide) ?_
      refine lv_goto (tgt := 33) hx hb d_rkindOf_24 (by decide) ?_
      exact w_rkindOf_J33 hC Heq Kr _ _ _ hP hD hS (lv_sub hl [1] rfl)
  · replace Heq := (if_pos c_3).symm.trans Heq
    refine lv_iconst (v := (-1)) hx hb d_rkindOf_13 (by decide) ?_
    refine lv_goto (tgt := 33) hx hb d_rkindOf_14 (by decide) ?_
    exact w_rkindOf_J33 hC Heq Kr _ _ _ hP hD hS (lv_sub hl [1] rfl)
def m_rkindOf (S : MS) (x1 : Int32) (x2 : Int32) : Option (MS × Int32) := m_rkindOf_J0 S x1 x2
theorem g_rkindOf (l : Launch) (D : va_G) (sz : Nat) {md : Nat → Nat} {mc : Nat → ClassId} {S : MS} {x1 : Int32} {x2 : Int32} {o : MS × Int32} (Heq : m_rkindOf S x1 x2 = some o) : Met l ⟨"JoinedTreesModel", "kindOf", "(II)I"⟩ (Cond.code ⟨"JoinedTreesModel", "kindOf", "(II)I"⟩ prog_14_method_13_code 4 (some .int) :: gb) ({ frames := 2, cells := 0, slots := 0, locals := 45 }) (gPc D (mw md mc S) (mty mc) sz [.ref (md 100), .int x1, .int x2]) (va_Qi (fun (r : Int32) (_ : Unit) => r = o.2) (fun _ t => gO D (mw md mc o.1) (mty mc) (va_A (mw md mc S) sz) t) (va_A (mw md mc S) sz)) 0 0 (va_A (mw md mc S) sz) := by
  refine Met.ofW (cc := prog_14_method_13_code) (maxL := 4) (ret := (some .int)) (by decide) rfl ?_
  intro p e s m args below meth c s₁ B hml hv
  obtain ⟨rfl, hsz, hP, hK, hD0⟩ := hv
  have hx := B.exec
  have hb := B.bytes
  have hr := B.returns
  have hts : ∀ w9 ∈ gb, w9.before [.ref (md 100), .int x1, .int x2].toArray s = true := fun w9 h => atoms_spec (ws := Cond.code ⟨"JoinedTreesModel", "kindOf", "(II)I"⟩ prog_14_method_13_code 4 (some .int) :: gb) B.pre w9 (List.mem_cons_of_mem _ h)
  have hown : s.vm.findClass "JoinedTreesModel" = some m.cls := findClass_of_methodNamed B.named
  have hlocks := B.notSynchronized
  subst hsz
  have hD := hD0.self (sz := s.heap.size)
  generalize hAe : va_A (mw md mc S) s.heap.size = A at hD ⊢
  have hA : ∀ q : Nat, s.heap.size ≤ q → A q := fun q h => by rw [← hAe]; exact Or.inr h
  have hS : va_S A s.heap s.heap [] := va_S.rf
  have hl := lv_entry ([.ref (md 100), .int x1, .int x2]) (n := 4) (Nat.le_of_ble_eq_true rfl)
  rw [lg_entry_eq]
  generalize (lg_sl ([.ref (md 100), .int x1, .int x2]) ++ List.replicate (4 - (lg_sl ([.ref (md 100), .int x1, .int x2])).length) Slot.unset).toArray = ls at hl ⊢
  have hl : lv_has ls 4 [(0, .ref (md 100)), (1, .int x1), (2, .int x2)] := hl
  refine w_rkindOf_J0 ⟨hx, hb, hr, hml, hown, hts, hK, hA⟩ Heq (fun r h pc H locs ls hd hP hD hS => ?_) _ _ _ hP hD hS (lv_sub hl [0, 1, 2] rfl)
  subst h
  exact W.iret hx hb hr (fun t ht hW => ⟨⟨_, (), rfl, rfl, by rw [ht]; exact hP, va_K.moved hW.alike hK, hD⟩, hS.F ht⟩) hS.2.2 hd
def m_rsameKey_B16 (S : MS) (x1 : Int32) (x2 : Nat) (x3 : Int32) (x4 : Int32) (x5 : Int32) : Option ((MS × Int32 × Nat × Int32 × Int32 × Int32) ⊕ (MS ⊕ (MS × Int32))) := (if x4 ≤ x5 then some (.inr (.inl (S))) else gd x1 4000 (gd ((S.a 14 x1.toNatClampNeg) + x5) 32876 (gB x2 (gd (x3 + x5) 8300 ((if S.a 26 (((S.a 14 x1.toNatClampNeg) + x5).toNatClampNeg) = S.a x2 ((x3 + x5).toNatClampNeg) then some (.inl (S, x1, x2, x3, x4, (x5 + 1))) else some (.inr (.inr (S, 0)))))))))
theorem d_rsameKey_0 : decode prog_14_method_14_code 0 = .ok (.aload_n 0, 1) := by decide +kernel
theorem d_rsameKey_1 : decode prog_14_method_14_code 1 = .ok (.getfield 41, 3) := by decide +kernel
theorem d_rsameKey_4 : decode prog_14_method_14_code 4 = .ok (.iload_n 1, 1) := by decide +kernel
theorem d_rsameKey_5 : decode prog_14_method_14_code 5 = .ok (.iaload, 1) := by decide +kernel
theorem d_rsameKey_6 : decode prog_14_method_14_code 6 = .ok (.iload 4, 2) := by decide +kernel
theorem d_rsameKey_8 : decode prog_14_method_14_code 8 = .ok (.if_icmp .eq 5, 3) := by decide +kernel
theorem d_rsameKey_13 : decode prog_14_method_14_code 13 = .ok (.iconst 0, 1) := by decide +kernel
theorem d_rsameKey_14 : decode prog_14_method_14_code 14 = .ok (.istore 5, 2) := by decide +kernel
theorem d_rsameKey_16 : decode prog_14_method_14_code 16 = .ok (.iload 5, 2) := by decide +kernel
theorem d_rsameKey_18 : decode prog_14_method_14_code 18 = .ok (.iload 4, 2) := by decide +kernel
theorem d_rsameKey_20 : decode prog_14_method_14_code 20 = .ok (.if_icmp .ge 34, 3) := by decide +kernel
theorem d_rsameKey_23 : decode prog_14_method_14_code 23 = .ok (.aload_n 0, 1) := by decide +kernel
theorem d_rsameKey_24 : decode prog_14_method_14_code 24 = .ok (.getfield 72, 3) := by decide +kernel
theorem d_rsameKey_27 : decode prog_14_method_14_code 27 = .ok (.aload_n 0, 1) := by decide +kernel
theorem d_rsameKey_28 : decode prog_14_method_14_code 28 = .ok (.getfield 38, 3) := by decide +kernel
theorem d_rsameKey_31 : decode prog_14_method_14_code 31 = .ok (.iload_n 1, 1) := by decide +kernel
theorem d_rsameKey_32 : decode prog_14_method_14_code 32 = .ok (.iaload, 1) := by decide +kernel
theorem d_rsameKey_33 : decode prog_14_method_14_code 33 = .ok (.iload 5, 2) := by decide +kernel
theorem d_rsameKey_35 : decode prog_14_method_14_code 35 = .ok (.iadd, 1) := by decide +kernel
theorem d_rsameKey_36 : decode prog_14_method_14_code 36 = .ok (.baload, 1) := by decide +kernel
theorem d_rsameKey_37 : decode prog_14_method_14_code 37 = .ok (.aload_n 2, 1) := by decide +kernel
theorem d_rsameKey_38 : decode prog_14_method_14_code 38 = .ok (.iload_n 3, 1) := by decide +kernel
theorem d_rsameKey_39 : decode prog_14_method_14_code 39 = .ok (.iload 5, 2) := by decide +kernel
theorem d_rsameKey_41 : decode prog_14_method_14_code 41 = .ok (.iadd, 1) := by decide +kernel
theorem d_rsameKey_42 : decode prog_14_method_14_code 42 = .ok (.baload, 1) := by decide +kernel
theorem d_rsameKey_43 : decode prog_14_method_14_code 43 = .ok (.if_icmp .eq 5, 3) := by decide +kernel
theorem d_rsameKey_48 : decode prog_14_method_14_code 48 = .ok (.iinc 5 1, 3) := by decide +kernel
theorem d_rsameKey_51 : decode prog_14_method_14_code 51 = .ok (.goto (-35), 3) := by decide +kernel
theorem d_rsameKey_46 : decode prog_14_method_14_code 46 = .ok (.iconst 0, 1) := by decide +kernel
theorem d_rsameKey_47 : decode prog_14_method_14_code 47 = .ok (.ireturn, 1) := by decide +kernel
set_option maxHeartbeats 4000000 in
set_option maxRecDepth 100000 in
theorem w_rsameKey_B16 {p : Program} {l : Launch} {e : Env} {s : State} {m : MethodId} {args : Array Value} {below : List Frame} {meth : Method} {c : Code} {A : Nat → Prop} {D : va_G} {md : Nat → Nat} {mc : Nat → ClassId} {Q : State → Prop} (hC : MCx "JoinedTreesModel" prog_14_method_14_code 6 (some .boolean) p s m args meth c A D mc) {S : MS} {x1 : Int32} {x2 : Nat} {x3 : Int32} {x4 : Int32} {x5 : Int32} {o : ((MS × Int32 × Nat × Int32 × Int32 × Int32) ⊕ (MS ⊕ (MS × Int32)))} (Heq : m_rsameKey_B16 S x1 x2 x3 x4 x5 = some o) (Ka : ∀ b : MS × Int32 × Nat × Int32 × Int32 × Int32, o = .inl b → ∀ (H : Heap) (locs : List Loc) (ls : Array Slot), va_P D cls (mw md mc b.1) H → va_D A (mw md mc b.1) → va_S A s.heap H locs → lv_has ls 6 [(0, .ref (md 100)), (1, .int b.2.1), (2, .ref (md b.2.2.1)), (3, .int b.2.2.2.1), (4, .int b.2.2.2.2.1), (5, .int b.2.2.2.2.2)] → W p l e ({ frames := 0, cells := 0, slots := 0, locals := 0 }) s m args below meth c H locs 0 0 Q (F0 m 16 ls [])) (K0 : ∀ b : MS, o = .inr (.inl b) → ∀ (H : Heap) (locs : List Loc) (ls : Array Slot), va_P D cls (mw md mc b) H → va_D A (mw md mc b) → va_S A s.heap H locs → lv_has ls 6 [(0, .ref (md 100))] → W p l e ({ frames := 0, cells := 0, slots := 0, locals := 0 }) s m args below meth c H locs 0 0 Q (F0 m 54 ls [])) (Kr : ∀ r : MS × Int32, o = .inr (.inr r) → ∀ (pc : Nat) (H : Heap) (locs : List Loc) (ls : Array Slot), decode prog_14_method_14_code pc = .ok (.ireturn, 1) → (r.2 = 0 ∨ r.2 = 1) → va_P D cls (mw md mc r.1) H → va_D A (mw md mc r.1) → va_S A s.heap H locs → W p l e ({ frames := 0, cells := 0, slots := 0, locals := 0 }) s m args below meth c H locs 0 0 Q (F0 m pc ls [.int r.2])) : ∀ (H : Heap) (locs : List Loc) (ls : Array Slot), va_P D cls (mw md mc S) H → va_D A (mw md mc S) → va_S A s.heap H locs → lv_has ls 6 [(0, .ref (md 100)), (1, .int x1), (2, .ref (md x2)), (3, .int x3), (4, .int x4), (5, .int x5)] → W p l e ({ frames := 0, cells := 0, slots := 0, locals := 0 }) s m args below meth c H locs 0 0 Q (F0 m 16 ls []) := by
  intro H locs ls hP hD hS hl
  obtain ⟨hx, hb, hr, hml, hown, hts, hK, hA⟩ := id hC
  unfold m_rsameKey_B16 at Heq
  refine lv_iload hx hb d_rsameKey_16 (lv_at hl 5 rfl) ?_
  refine lv_iload hx hb d_rsameKey_18 (lv_at hl 4 rfl) ?_
  refine lv_icmp_ge (tgt := 54) hx hb d_rsameKey_20 (by decide) (fun c_1 => ?_) (fun c_1 => ?_)
  · replace Heq := (if_pos c_1).symm.trans Heq
    exact K0 _ (Option.some.inj Heq).symm _ _ _ hP hD hS (lv_sub hl [0] rfl)
  · replace Heq := (if_neg c_1).symm.trans Heq
    refine lv_aload_n hx hb d_rsameKey_23 rfl (lv_at hl 0 rfl) ?_
    refine va_get (D := D) (ci := 12) (v := .ref (md 26)) (C := R_MM) (T := F_MM) (N := 77) hx hb hts i_MM hown hK hP 0 rfl rfl 26 (by decide) (hts _ kw_1408) (fun _ h9 => h9) rfl d_rsameKey_24 ?_
    refine lv_aload_n hx hb d_rsameKey_27 rfl (lv_at hl 0 rfl) ?_
    refine va_get (D := D) (ci := 12) (v := .ref (md 14)) (C := R_MM) (T := F_MM) (N := 77) hx hb hts i_MM hown hK hP 0 rfl rfl 14 (by decide) (hts _ kw_1396) (fun _ h9 => h9) rfl d_rsameKey_28 ?_
    refine lv_iload_n hx hb d_rsameKey_31 rfl (lv_at hl 1 rfl) ?_
    obtain ⟨hi_2, Heq⟩ := gd_some Heq
    refine va_iald hx hb hK hP 10 0 rfl rfl (i := x1) hi_2 d_rsameKey_32 ?_
    refine w_i (y := S.a 14 x1.toNatClampNeg) rfl ?_
    refine lv_iload hx hb d_rsameKey_33 (lv_at hl 5 rfl) ?_
    refine lv_iadd hx hb d_rsameKey_35 ?_
    refine w_i (y := (S.a 14 x1.toNatClampNeg) + x5) rfl ?_
    obtain ⟨hi_3, Heq⟩ := gd_some Heq
    refine va_bald hx hb hK hP 20 1 rfl rfl (i := (S.a 14 x1.toNatClampNeg) + x5) hi_3 d_rsameKey_36 ?_
    refine w_i (y := S.a 26 (((S.a 14 x1.toNatClampNeg) + x5).toNatClampNeg)) rfl ?_
    refine lv_aload_n hx hb d_rsameKey_37 rfl (lv_at hl 2 rfl) ?_
    refine lv_iload_n hx hb d_rsameKey_38 rfl (lv_at hl 3 rfl) ?_
    refine lv_iload hx hb d_rsameKey_39 (lv_at hl 5 rfl) ?_
    refine lv_iadd hx hb d_rsameKey_41 ?_
    refine w_i (y := x3 + x5) rfl ?_
    obtain ⟨hB_x2, Heq⟩ := gB_some Heq
    obtain ⟨hi_4, Heq⟩ := gd_some Heq
    refine va_bald hx hb hK hP (bpos x2) 1 (mp_B hB_x2) rfl (i := x3 + x5) hi_4 d_rsameKey_42 ?_
    refine w_i (y := S.a x2 ((x3 + x5).toNatClampNeg)) rfl ?_
    refine lv_icmp_eq (tgt := 48) hx hb d_rsameKey_43 (by decide) (fun c_5 => ?_) (fun c_5 => ?_)
    · replace Heq := (if_pos c_5).symm.trans Heq
      refine lv_iinc (v := x5 + 1) (lv' := [(5, .int (x5 + 1)), (0, .ref (md 100)), (1, .int x1), (2, .ref (md x2)), (3, .int x3), (4, .int x4)]) hx hb d_rsameKey_48 hl (k := 5) rfl rfl (by decide) rfl (fun ls hl => ?_)
      refine lv_goto (tgt := 16) hx hb d_rsameKey_51 (by decide) ?_
      exact Ka _ (Option.some.inj Heq).symm _ _ _ hP hD hS (lv_sub hl [1, 2, 3, 4, 5, 0] rfl)
    · replace Heq := (if_neg c_5).symm.trans Heq
      refine lv_iconst (v := 0) hx hb d_rsameKey_46 (by decide) ?_
      exact Kr _ (Option.some.inj Heq).symm 47 _ _ _ d_rsameKey_47 (Or.inl rfl) hP hD hS
def m_rsameKey_L16 (S : MS) (x1 : Int32) (x2 : Nat) (x3 : Int32) (x4 : Int32) (x5 : Int32) : Option (MS ⊕ (MS × Int32)) := lp (fun a : MS × Int32 × Nat × Int32 × Int32 × Int32 => m_rsameKey_B16 a.1 a.2.1 a.2.2.1 a.2.2.2.1 a.2.2.2.2.1 a.2.2.2.2.2) FU (S, x1, x2, x3, x4, x5)
theorem w_rsameKey_L16 {p : Program} {l : Launch} {e : Env} {s : State} {m : MethodId} {args : Array Value} {below : List Frame} {meth : Method} {c : Code} {A : Nat → Prop} {D : va_G} {md : Nat → Nat} {mc : Nat → ClassId} {Q : State → Prop} (hC : MCx "JoinedTreesModel" prog_14_method_14_code 6 (some .boolean) p s m args meth c A D mc) {S : MS} {x1 : Int32} {x2 : Nat} {x3 : Int32} {x4 : Int32} {x5 : Int32} {o : (MS ⊕ (MS × Int32))} (Heq : m_rsameKey_L16 S x1 x2 x3 x4 x5 = some o) (K0 : ∀ b : MS, o = (.inl b) → ∀ (H : Heap) (locs : List Loc) (ls : Array Slot), va_P D cls (mw md mc b) H → va_D A (mw md mc b) → va_S A s.heap H locs → lv_has ls 6 [(0, .ref (md 100))] → W p l e ({ frames := 0, cells := 0, slots := 0, locals := 0 }) s m args below meth c H locs 0 0 Q (F0 m 54 ls [])) (Kr : ∀ r : MS × Int32, o = (.inr r) → ∀ (pc : Nat) (H : Heap) (locs : List Loc) (ls : Array Slot), decode prog_14_method_14_code pc = .ok (.ireturn, 1) → (r.2 = 0 ∨ r.2 = 1) → va_P D cls (mw md mc r.1) H → va_D A (mw md mc r.1) → va_S A s.heap H locs → W p l e ({ frames := 0, cells := 0, slots := 0, locals := 0 }) s m args below meth c H locs 0 0 Q (F0 m pc ls [.int r.2])) : ∀ (H : Heap) (locs : List Loc) (ls : Array Slot), va_P D cls (mw md mc S) H → va_D A (mw md mc S) → va_S A s.heap H locs → lv_has ls 6 [(0, .ref (md 100)), (1, .int x1), (2, .ref (md x2)), (3, .int x3), (4, .int x4), (5, .int x5)] → W p l e ({ frames := 0, cells := 0, slots := 0, locals := 0 }) s m args below meth c H locs 0 0 Q (F0 m 16 ls []) := by
  refine lp_w (G := fun a : MS × Int32 × Nat × Int32 × Int32 × Int32 => ∀ (H : Heap) (locs : List Loc) (ls : Array Slot), va_P D cls (mw md mc a.1) H → va_D A (mw md mc a.1) → va_S A s.heap H locs → lv_has ls 6 [(0, .ref (md 100)), (1, .int a.2.1), (2, .ref (md a.2.2.1)), (3, .int a.2.2.2.1), (4, .int a.2.2.2.2.1), (5, .int a.2.2.2.2.2)] → W p l e ({ frames := 0, cells := 0, slots := 0, locals := 0 }) s m args below meth c H locs 0 0 Q (F0 m 16 ls [])) ?_ FU (S, x1, x2, x3, x4, x5) Heq
  intro a o1 ho Ka Ke
  exact w_rsameKey_B16 hC ho (fun b h => Ka b h) (fun b h => K0 b (Ke _ h).symm) (fun r h => Kr r (Ke _ h).symm)
def m_rsameKey_J0 (S : MS) (x1 : Int32) (x2 : Nat) (x3 : Int32) (x4 : Int32) : Option (MS × Int32) := gd x1 4000 ((if S.a 15 x1.toNatClampNeg = x4 then oe (m_rsameKey_L16 S x1 x2 x3 x4 0) (fun b_3 => some (b_3, 1)) (fun r_5 => some r_5) else some (S, 0)))
theorem d_rsameKey_54 : decode prog_14_method_14_code 54 = .ok (.iconst 1, 1) := by decide +kernel
theorem d_rsameKey_55 : decode prog_14_method_14_code 55 = .ok (.ireturn, 1) := by decide +kernel
theorem d_rsameKey_11 : decode prog_14_method_14_code 11 = .ok (.iconst 0, 1) := by decide +kernel
theorem d_rsameKey_12 : decode prog_14_method_14_code 12 = .ok (.ireturn, 1) := by decide +kernel
set_option maxHeartbeats 4000000 in
set_option maxRecDepth 100000 in
theorem w_rsameKey_J0 {p : Program} {l : Launch} {e : Env} {s : State} {m : MethodId} {args : Array Value} {below : List Frame} {meth : Method} {c : Code} {A : Nat → Prop} {D : va_G} {md : Nat → Nat} {mc : Nat → ClassId} {Q : State → Prop} (hC : MCx "JoinedTreesModel" prog_14_method_14_code 6 (some .boolean) p s m args meth c A D mc) {S : MS} {x1 : Int32} {x2 : Nat} {x3 : Int32} {x4 : Int32} {o : MS × Int32} (Heq : m_rsameKey_J0 S x1 x2 x3 x4 = some o) (Kr : ∀ r : MS × Int32, o = r → ∀ (pc : Nat) (H : Heap) (locs : List Loc) (ls : Array Slot), decode prog_14_method_14_code pc = .ok (.ireturn, 1) → (r.2 = 0 ∨ r.2 = 1) → va_P D cls (mw md mc r.1) H → va_D A (mw md mc r.1) → va_S A s.heap H locs → W p l e ({ frames := 0, cells := 0, slots := 0, locals := 0 }) s m args below meth c H locs 0 0 Q (F0 m pc ls [.int r.2])) : ∀ (H : Heap) (locs : List Loc) (ls : Array Slot), va_P D cls (mw md mc S) H → va_D A (mw md mc S) → va_S A s.heap H locs → lv_has ls 6 [(0, .ref (md 100)), (1, .int x1), (2, .ref (md x2)), (3, .int x3), (4, .int x4)] → W p l e ({ frames := 0, cells := 0, slots := 0, locals := 0 }) s m args below meth c H locs 0 0 Q (F0 m 0 ls []) := by
  intro H locs ls hP hD hS hl
  obtain ⟨hx, hb, hr, hml, hown, hts, hK, hA⟩ := id hC
  unfold m_rsameKey_J0 at Heq
  refine lv_aload_n hx hb d_rsameKey_0 rfl (lv_at hl 0 rfl) ?_
  refine va_get (D := D) (ci := 12) (v := .ref (md 15)) (C := R_MM) (T := F_MM) (N := 77) hx hb hts i_MM hown hK hP 0 rfl rfl 15 (by decide) (hts _ kw_1397) (fun _ h9 => h9) rfl d_rsameKey_1 ?_
  refine lv_iload_n hx hb d_rsameKey_4 rfl (lv_at hl 1 rfl) ?_
  obtain ⟨hi_1, Heq⟩ := gd_some Heq
  refine va_iald hx hb hK hP 11 0 rfl rfl (i := x1) hi_1 d_rsameKey_5 ?_
  refine w_i (y := S.a 15 x1.toNatClampNeg) rfl ?_
  refine lv_iload hx hb d_rsameKey_6 (lv_at hl 4 rfl) ?_
  refine lv_icmp_eq (tgt := 13) hx hb d_rsameKey_8 (by decide) (fun c_2 => ?_) (fun c_2 => ?_)
  · replace Heq := (if_pos c_2).symm.trans Heq
    refine lv_iconst (v := 0) hx hb d_rsameKey_13 (by decide) ?_
    refine lv_istore (lv' := [(5, .int 0), (0, .ref (md 100)), (1, .int x1), (2, .ref (md x2)), (3, .int x3), (4, .int x4)]) hx hb d_rsameKey_14 hl (by decide) rfl (fun ls hl => ?_)
    rcases oe_some Heq with ⟨b_3, h_4, Heq⟩ | ⟨r_5, h_4, Heq⟩
    · refine w_rsameKey_L16 hC h_4 (fun b h => ?_) (fun r h => by cases h) _ _ _ hP hD hS (lv_sub hl [1, 2, 3, 4, 5, 0] rfl)
      cases h
      intro H locs ls hP hD hS hl
      refine lv_iconst (v := 1) hx hb d_rsameKey_54 (by decide) ?_
      exact Kr _ (Option.some.inj Heq).symm 55 _ _ _ d_rsameKey_55 (Or.inr rfl) hP hD hS
    · refine w_rsameKey_L16 hC h_4 (fun b h => by cases h) (fun r h => ?_) _ _ _ hP hD hS (lv_sub hl [1, 2, 3, 4, 5, 0] rfl)
      cases h
      exact Kr _ (Option.some.inj Heq).symm
  · replace Heq := (if_neg c_2).symm.trans Heq
    refine lv_iconst (v := 0) hx hb d_rsameKey_11 (by decide) ?_
    exact Kr _ (Option.some.inj Heq).symm 12 _ _ _ d_rsameKey_12 (Or.inl rfl) hP hD hS
def m_rsameKey (S : MS) (x1 : Int32) (x2 : Nat) (x3 : Int32) (x4 : Int32) : Option (MS × Int32) := m_rsameKey_J0 S x1 x2 x3 x4
theorem g_rsameKey (l : Launch) (D : va_G) (sz : Nat) {md : Nat → Nat} {mc : Nat → ClassId} {S : MS} {x1 : Int32} {x2 : Nat} {x3 : Int32} {x4 : Int32} {o : MS × Int32} (Heq : m_rsameKey S x1 x2 x3 x4 = some o) : Met l ⟨"JoinedTreesModel", "sameKey", "(I[BII)Z"⟩ (Cond.code ⟨"JoinedTreesModel", "sameKey", "(I[BII)Z"⟩ prog_14_method_14_code 6 (some .boolean) :: gb) ({ frames := 0, cells := 0, slots := 0, locals := 0 }) (gPc D (mw md mc S) (mty mc) sz [.ref (md 100), .int x1, .ref (md x2), .int x3, .int x4]) (va_Qi (fun (r : Int32) (_ : Unit) => r = o.2) (fun _ t => gO D (mw md mc o.1) (mty mc) (va_A (mw md mc S) sz) t) (va_A (mw md mc S) sz)) 0 0 (va_A (mw md mc S) sz) := by
  refine Met.ofW (cc := prog_14_method_14_code) (maxL := 6) (ret := (some .boolean)) (by decide) rfl ?_
  intro p e s m args below meth c s₁ B hml hv
  obtain ⟨rfl, hsz, hP, hK, hD0⟩ := hv
  have hx := B.exec
  have hb := B.bytes
  have hr := B.returns
  have hts : ∀ w9 ∈ gb, w9.before [.ref (md 100), .int x1, .ref (md x2), .int x3, .int x4].toArray s = true := fun w9 h => atoms_spec (ws := Cond.code ⟨"JoinedTreesModel", "sameKey", "(I[BII)Z"⟩ prog_14_method_14_code 6 (some .boolean) :: gb) B.pre w9 (List.mem_cons_of_mem _ h)
  have hown : s.vm.findClass "JoinedTreesModel" = some m.cls := findClass_of_methodNamed B.named
  have hlocks := B.notSynchronized
  subst hsz
  have hD := hD0.self (sz := s.heap.size)
  generalize hAe : va_A (mw md mc S) s.heap.size = A at hD ⊢
  have hA : ∀ q : Nat, s.heap.size ≤ q → A q := fun q h => by rw [← hAe]; exact Or.inr h
  have hS : va_S A s.heap s.heap [] := va_S.rf
  have hl := lv_entry ([.ref (md 100), .int x1, .ref (md x2), .int x3, .int x4]) (n := 6) (Nat.le_of_ble_eq_true rfl)
  rw [lg_entry_eq]
  generalize (lg_sl ([.ref (md 100), .int x1, .ref (md x2), .int x3, .int x4]) ++ List.replicate (6 - (lg_sl ([.ref (md 100), .int x1, .ref (md x2), .int x3, .int x4])).length) Slot.unset).toArray = ls at hl ⊢
  have hl : lv_has ls 6 [(0, .ref (md 100)), (1, .int x1), (2, .ref (md x2)), (3, .int x3), (4, .int x4)] := hl
  refine w_rsameKey_J0 ⟨hx, hb, hr, hml, hown, hts, hK, hA⟩ Heq (fun r h pc H locs ls hd hz hP hD hS => ?_) _ _ _ hP hD hS (lv_sub hl [0, 1, 2, 3, 4] rfl)
  subst h
  exact W.zret (ty := .boolean) hx hb hr (by rcases hz with hz | hz <;> rw [hz] <;> rfl) (fun t ht hW => ⟨⟨_, (), rfl, rfl, by rw [ht]; exact hP, va_K.moved hW.alike hK, hD⟩, hS.F ht⟩) hS.2.2 hd
def m_rkeyCandidates_J108 (S : MS) (x1 : Int32) (x2 : Int32) (x3 : Nat) (x4 : Int32) (x5 : Int32) (x6 : Int32) : Option ((MS × Int32 × Int32 × Nat × Int32 × Int32 × Int32) ⊕ MS) := some (.inl (S, x1, x2, x3, x4, x5, (x6 + (-1))))
theorem d_rkeyCandidates_0 : decode prog_14_method_15_code 0 = .ok (.aload_n 0, 1) := by decide +kernel
theorem d_rkeyCandidates_1 : decode prog_14_method_15_code 1 = .ok (.iload_n 1, 1) := by decide +kernel
theorem d_rkeyCandidates_2 : decode prog_14_method_15_code 2 = .ok (.invokevirtual 206, 3) := by decide +kernel
theorem d_rkeyCandidates_5 : decode prog_14_method_15_code 5 = .ok (.aload_n 0, 1) := by decide +kernel
theorem d_rkeyCandidates_6 : decode prog_14_method_15_code 6 = .ok (.iconst 0, 1) := by decide +kernel
theorem d_rkeyCandidates_7 : decode prog_14_method_15_code 7 = .ok (.putfield 210, 3) := by decide +kernel
theorem d_rkeyCandidates_10 : decode prog_14_method_15_code 10 = .ok (.aload_n 0, 1) := by decide +kernel
theorem d_rkeyCandidates_11 : decode prog_14_method_15_code 11 = .ok (.getfield 195, 3) := by decide +kernel
theorem d_rkeyCandidates_14 : decode prog_14_method_15_code 14 = .ok (.iconst 1, 1) := by decide +kernel
theorem d_rkeyCandidates_15 : decode prog_14_method_15_code 15 = .ok (.isub, 1) := by decide +kernel
theorem d_rkeyCandidates_16 : decode prog_14_method_15_code 16 = .ok (.istore 6, 2) := by decide +kernel
theorem d_rkeyCandidates_18 : decode prog_14_method_15_code 18 = .ok (.iload 6, 2) := by decide +kernel
theorem d_rkeyCandidates_20 : decode prog_14_method_15_code 20 = .ok (.ifCond .lt 94, 3) := by decide +kernel
theorem d_rkeyCandidates_23 : decode prog_14_method_15_code 23 = .ok (.aload_n 0, 1) := by decide +kernel
theorem d_rkeyCandidates_24 : decode prog_14_method_15_code 24 = .ok (.getfield 75, 3) := by decide +kernel
theorem d_rkeyCandidates_27 : decode prog_14_method_15_code 27 = .ok (.iload 6, 2) := by decide +kernel
theorem d_rkeyCandidates_29 : decode prog_14_method_15_code 29 = .ok (.iaload, 1) := by decide +kernel
theorem d_rkeyCandidates_30 : decode prog_14_method_15_code 30 = .ok (.istore 7, 2) := by decide +kernel
theorem d_rkeyCandidates_32 : decode prog_14_method_15_code 32 = .ok (.aload_n 0, 1) := by decide +kernel
theorem d_rkeyCandidates_33 : decode prog_14_method_15_code 33 = .ok (.iload_n 1, 1) := by decide +kernel
theorem d_rkeyCandidates_34 : decode prog_14_method_15_code 34 = .ok (.iload 7, 2) := by decide +kernel
theorem d_rkeyCandidates_36 : decode prog_14_method_15_code 36 = .ok (.invokevirtual 213, 3) := by decide +kernel
theorem d_rkeyCandidates_39 : decode prog_14_method_15_code 39 = .ok (.ifCond .eq 69, 3) := by decide +kernel
theorem d_rkeyCandidates_108 : decode prog_14_method_15_code 108 = .ok (.iinc 6 (-1), 3) := by decide +kernel
theorem d_rkeyCandidates_111 : decode prog_14_method_15_code 111 = .ok (.goto (-93), 3) := by decide +kernel
set_option maxHeartbeats 4000000 in
set_option maxRecDepth 100000 in
theorem w_rkeyCandidates_J108 {p : Program} {l : Launch} {e : Env} {s : State} {m : MethodId} {args : Array Value} {below : List Frame} {meth : Method} {c : Code} {A : Nat → Prop} {D : va_G} {md : Nat → Nat} {mc : Nat → ClassId} {Q : State → Prop} (hC : MCx "JoinedTreesModel" prog_14_method_15_code 8 none p s m args meth c A D mc) {S : MS} {x1 : Int32} {x2 : Int32} {x3 : Nat} {x4 : Int32} {x5 : Int32} {x6 : Int32} {o : ((MS × Int32 × Int32 × Nat × Int32 × Int32 × Int32) ⊕ MS)} (Heq : m_rkeyCandidates_J108 S x1 x2 x3 x4 x5 x6 = some o) (Ka : ∀ b : MS × Int32 × Int32 × Nat × Int32 × Int32 × Int32, o = .inl b → ∀ (H : Heap) (locs : List Loc) (ls : Array Slot), va_P D cls (mw md mc b.1) H → va_D A (mw md mc b.1) → va_S A s.heap H locs → lv_has ls 8 [(0, .ref (md 100)), (1, .int b.2.1), (2, .int b.2.2.1), (3, .ref (md b.2.2.2.1)), (4, .int b.2.2.2.2.1), (5, .int b.2.2.2.2.2.1), (6, .int b.2.2.2.2.2.2)] → W p l e ({ frames := 2, cells := 0, slots := 0, locals := 45 }) s m args below meth c H locs 0 0 Q (F0 m 18 ls [])) (K0 : ∀ b : MS, o = .inr b → ∀ (H : Heap) (locs : List Loc) (ls : Array Slot), va_P D cls (mw md mc b) H → va_D A (mw md mc b) → va_S A s.heap H locs → lv_has ls 8 [(0, .ref (md 100))] → W p l e ({ frames := 2, cells := 0, slots := 0, locals := 45 }) s m args below meth c H locs 0 0 Q (F0 m 114 ls [])) : ∀ (H : Heap) (locs : List Loc) (ls : Array Slot), va_P D cls (mw md mc S) H → va_D A (mw md mc S) → va_S A s.heap H locs → lv_has ls 8 [(0, .ref (md 100)), (1, .int x1), (2, .int x2), (3, .ref (md x3)), (4, .int x4), (5, .int x5), (6, .int x6)] → W p l e ({ frames := 2, cells := 0, slots := 0, locals := 45 }) s m args below meth c H locs 0 0 Q (F0 m 108 ls []) := by
  intro H locs ls hP hD hS hl
  obtain ⟨hx, hb, hr, hml, hown, hts, hK, hA⟩ := id hC
  unfold m_rkeyCandidates_J108 at Heq
  refine lv_iinc (v := x6 + (-1)) (lv' := [(6, .int (x6 + (-1))), (0, .ref (md 100)), (1, .int x1), (2, .int x2), (3, .ref (md x3)), (4, .int x4), (5, .int x5)]) hx hb d_rkeyCandidates_108 hl (k := 6) rfl rfl (by decide) rfl (fun ls hl => ?_)
  refine lv_goto (tgt := 18) hx hb d_rkeyCandidates_111 (by decide) ?_
  exact Ka _ (Option.some.inj Heq).symm _ _ _ hP hD hS (lv_sub hl [1, 2, 3, 4, 5, 6, 0] rfl)
def m_rkeyCandidates_B18 (S : MS) (x1 : Int32) (x2 : Int32) (x3 : Nat) (x4 : Int32) (x5 : Int32) (x6 : Int32) : Option ((MS × Int32 × Int32 × Nat × Int32 × Int32 × Int32) ⊕ MS) := (if x6 < 0 then some (.inr (S)) else gd x6 4000 (ob (m_rvisible S x1 (S.a 28 x6.toNatClampNeg)) (fun o_3 => (if o_3.2 = 0 then m_rkeyCandidates_J108 o_3.1 x1 x2 x3 x4 x5 x6 else gd (S.a 28 x6.toNatClampNeg) 4000 ((if o_3.1.a 9 ((S.a 28 x6.toNatClampNeg).toNatClampNeg) = x2 then gd (S.a 28 x6.toNatClampNeg) 4000 ((if o_3.1.a 20 ((S.a 28 x6.toNatClampNeg).toNatClampNeg) = 0 then gd (S.a 28 x6.toNatClampNeg) 4000 ((if o_3.1.a 15 ((S.a 28 x6.toNatClampNeg).toNatClampNeg) ≤ 0 then m_rkeyCandidates_J108 o_3.1 x1 x2 x3 x4 x5 x6 else ob (m_rsameKey o_3.1 (S.a 28 x6.toNatClampNeg) x3 x4 x5) (fun o_12 => (if o_12.2 = 0 then m_rkeyCandidates_J108 o_12.1 x1 x2 x3 x4 x5 x6 else gd (o_12.1.i 47) 4000 (m_rkeyCandidates_J108 ((o_12.1.setA 46 (upd (o_12.1.a 46) ((o_12.1.i 47).toNatClampNeg) (S.a 28 x6.toNatClampNeg))).setI 47 ((o_12.1.i 47) + 1)) x1 x2 x3 x4 x5 x6))))) else m_rkeyCandidates_J108 o_3.1 x1 x2 x3 x4 x5 x6)) else m_rkeyCandidates_J108 o_3.1 x1 x2 x3 x4 x5 x6))))))
theorem d_rkeyCandidates_42 : decode prog_14_method_15_code 42 = .ok (.aload_n 0, 1) := by decide +kernel
theorem d_rkeyCandidates_43 : decode prog_14_method_15_code 43 = .ok (.getfield 23, 3) := by decide +kernel
theorem d_rkeyCandidates_46 : decode prog_14_method_15_code 46 = .ok (.iload 7, 2) := by decide +kernel
theorem d_rkeyCandidates_48 : decode prog_14_method_15_code 48 = .ok (.iaload, 1) := by decide +kernel
theorem d_rkeyCandidates_49 : decode prog_14_method_15_code 49 = .ok (.iload_n 2, 1) := by decide +kernel
theorem d_rkeyCandidates_50 : decode prog_14_method_15_code 50 = .ok (.if_icmp .ne 58, 3) := by decide +kernel
theorem d_rkeyCandidates_53 : decode prog_14_method_15_code 53 = .ok (.aload_n 0, 1) := by decide +kernel
theorem d_rkeyCandidates_54 : decode prog_14_method_15_code 54 = .ok (.getfield 56, 3) := by decide +kernel
theorem d_rkeyCandidates_57 : decode prog_14_method_15_code 57 = .ok (.iload 7, 2) := by decide +kernel
theorem d_rkeyCandidates_59 : decode prog_14_method_15_code 59 = .ok (.baload, 1) := by decide +kernel
theorem d_rkeyCandidates_60 : decode prog_14_method_15_code 60 = .ok (.ifCond .ne 48, 3) := by decide +kernel
theorem d_rkeyCandidates_63 : decode prog_14_method_15_code 63 = .ok (.aload_n 0, 1) := by decide +kernel
theorem d_rkeyCandidates_64 : decode prog_14_method_15_code 64 = .ok (.getfield 41, 3) := by decide +kernel
theorem d_rkeyCandidates_67 : decode prog_14_method_15_code 67 = .ok (.iload 7, 2) := by decide +kernel
theorem d_rkeyCandidates_69 : decode prog_14_method_15_code 69 = .ok (.iaload, 1) := by decide +kernel
theorem d_rkeyCandidates_70 : decode prog_14_method_15_code 70 = .ok (.ifCond .le 38, 3) := by decide +kernel
theorem d_rkeyCandidates_73 : decode prog_14_method_15_code 73 = .ok (.aload_n 0, 1) := by decide +kernel
theorem d_rkeyCandidates_74 : decode prog_14_method_15_code 74 = .ok (.iload 7, 2) := by decide +kernel
theorem d_rkeyCandidates_76 : decode prog_14_method_15_code 76 = .ok (.aload_n 3, 1) := by decide +kernel
theorem d_rkeyCandidates_77 : decode prog_14_method_15_code 77 = .ok (.iload 4, 2) := by decide +kernel
theorem d_rkeyCandidates_79 : decode prog_14_method_15_code 79 = .ok (.iload 5, 2) := by decide +kernel
theorem d_rkeyCandidates_81 : decode prog_14_method_15_code 81 = .ok (.invokevirtual 216, 3) := by decide +kernel
theorem d_rkeyCandidates_84 : decode prog_14_method_15_code 84 = .ok (.ifCond .eq 24, 3) := by decide +kernel
theorem d_rkeyCandidates_87 : decode prog_14_method_15_code 87 = .ok (.aload_n 0, 1) := by decide +kernel
theorem d_rkeyCandidates_88 : decode prog_14_method_15_code 88 = .ok (.getfield 121, 3) := by decide +kernel
theorem d_rkeyCandidates_91 : decode prog_14_method_15_code 91 = .ok (.aload_n 0, 1) := by decide +kernel
theorem d_rkeyCandidates_92 : decode prog_14_method_15_code 92 = .ok (.getfield 210, 3) := by decide +kernel
theorem d_rkeyCandidates_95 : decode prog_14_method_15_code 95 = .ok (.iload 7, 2) := by decide +kernel
theorem d_rkeyCandidates_97 : decode prog_14_method_15_code 97 = .ok (.iastore, 1) := by decide +kernel
theorem d_rkeyCandidates_98 : decode prog_14_method_15_code 98 = .ok (.aload_n 0, 1) := by decide +kernel
theorem d_rkeyCandidates_99 : decode prog_14_method_15_code 99 = .ok (.dup, 1) := by decide +kernel
theorem d_rkeyCandidates_100 : decode prog_14_method_15_code 100 = .ok (.getfield 210, 3) := by decide +kernel
theorem d_rkeyCandidates_103 : decode prog_14_method_15_code 103 = .ok (.iconst 1, 1) := by decide +kernel
theorem d_rkeyCandidates_104 : decode prog_14_method_15_code 104 = .ok (.iadd, 1) := by decide +kernel
theorem d_rkeyCandidates_105 : decode prog_14_method_15_code 105 = .ok (.putfield 210, 3) := by decide +kernel
set_option maxHeartbeats 4000000 in
set_option maxRecDepth 100000 in
theorem w_rkeyCandidates_B18 {p : Program} {l : Launch} {e : Env} {s : State} {m : MethodId} {args : Array Value} {below : List Frame} {meth : Method} {c : Code} {A : Nat → Prop} {D : va_G} {md : Nat → Nat} {mc : Nat → ClassId} {Q : State → Prop} (hC : MCx "JoinedTreesModel" prog_14_method_15_code 8 none p s m args meth c A D mc) {S : MS} {x1 : Int32} {x2 : Int32} {x3 : Nat} {x4 : Int32} {x5 : Int32} {x6 : Int32} {o : ((MS × Int32 × Int32 × Nat × Int32 × Int32 × Int32) ⊕ MS)} (Heq : m_rkeyCandidates_B18 S x1 x2 x3 x4 x5 x6 = some o) (Ka : ∀ b : MS × Int32 × Int32 × Nat × Int32 × Int32 × Int32, o = .inl b → ∀ (H : Heap) (locs : List Loc) (ls : Array Slot), va_P D cls (mw md mc b.1) H → va_D A (mw md mc b.1) → va_S A s.heap H locs → lv_has ls 8 [(0, .ref (md 100)), (1, .int b.2.1), (2, .int b.2.2.1), (3, .ref (md b.2.2.2.1)), (4, .int b.2.2.2.2.1), (5, .int b.2.2.2.2.2.1), (6, .int b.2.2.2.2.2.2)] → W p l e ({ frames := 2, cells := 0, slots := 0, locals := 45 }) s m args below meth c H locs 0 0 Q (F0 m 18 ls [])) (K0 : ∀ b : MS, o = .inr b → ∀ (H : Heap) (locs : List Loc) (ls : Array Slot), va_P D cls (mw md mc b) H → va_D A (mw md mc b) → va_S A s.heap H locs → lv_has ls 8 [(0, .ref (md 100))] → W p l e ({ frames := 2, cells := 0, slots := 0, locals := 45 }) s m args below meth c H locs 0 0 Q (F0 m 114 ls [])) : ∀ (H : Heap) (locs : List Loc) (ls : Array Slot), va_P D cls (mw md mc S) H → va_D A (mw md mc S) → va_S A s.heap H locs → lv_has ls 8 [(0, .ref (md 100)), (1, .int x1), (2, .int x2), (3, .ref (md x3)), (4, .int x4), (5, .int x5), (6, .int x6)] → W p l e ({ frames := 2, cells := 0, slots := 0, locals := 45 }) s m args below meth c H locs 0 0 Q (F0 m 18 ls []) := by
  intro H locs ls hP hD hS hl
  obtain ⟨hx, hb, hr, hml, hown, hts, hK, hA⟩ := id hC
  unfold m_rkeyCandidates_B18 at Heq
  refine lv_iload hx hb d_rkeyCandidates_18 (lv_at hl 6 rfl) ?_
  refine lv_if_lt (tgt := 114) hx hb d_rkeyCandidates_20 (by decide) (fun c_1 => ?_) (fun c_1 => ?_)
  · replace Heq := (if_pos c_1).symm.trans Heq
    exact K0 _ (Option.some.inj Heq).symm _ _ _ hP hD hS (lv_sub hl [0] rfl)
  · replace Heq := (if_neg c_1).symm.trans Heq
    refine lv_aload_n hx hb d_rkeyCandidates_23 rfl (lv_at hl 0 rfl) ?_
    refine va_get (D := D) (ci := 12) (v := .ref (md 28)) (C := R_MM) (T := F_MM) (N := 77) hx hb hts i_MM hown hK hP 0 rfl rfl 28 (by decide) (hts _ kw_1410) (fun _ h9 => h9) rfl d_rkeyCandidates_24 ?_
    refine lv_iload hx hb d_rkeyCandidates_27 (lv_at hl 6 rfl) ?_
    obtain ⟨hi_2, Heq⟩ := gd_some Heq
    refine va_iald hx hb hK hP 21 0 rfl rfl (i := x6) hi_2 d_rkeyCandidates_29 ?_
    refine w_i (y := S.a 28 x6.toNatClampNeg) rfl ?_
    refine lv_istore (lv' := [(7, .int (S.a 28 x6.toNatClampNeg)), (0, .ref (md 100)), (1, .int x1), (2, .int x2), (3, .ref (md x3)), (4, .int x4), (5, .int x5), (6, .int x6)]) hx hb d_rkeyCandidates_30 hl (by decide) rfl (fun ls hl => ?_)
    refine lv_aload_n hx hb d_rkeyCandidates_32 rfl (lv_at hl 1 rfl) ?_
    refine lv_iload_n hx hb d_rkeyCandidates_33 rfl (lv_at hl 2 rfl) ?_
    refine lv_iload hx hb d_rkeyCandidates_34 (lv_at hl 0 rfl) ?_
    obtain ⟨o_3, h_4, Heq⟩ := ob_some Heq
    have hFc := fr_all hD hS hA
    refine va_calli (va_runV (As := [.int x1, .int (S.a 28 x6.toNatClampNeg)]) (rest := []) ⟨hx, hb, hml, hown, hts⟩ (g_rvisible l D H.size h_4) (cw_v 2 hts kw_1676 kw_1673 kw_1675 kp_38 kw_11 rfl rfl (by decide +kernel) ⟨Nat.le_of_ble_eq_true rfl, Nat.le_of_ble_eq_true rfl⟩) ⟨g_blind, va_recv hK hP (ci := 12) (q0 := 0) rfl rfl, fun U hU hW => g_pre hU hW hP hK hD⟩ rfl rfl hl.1 rfl (lv_room (Nat.le_of_ble_eq_true rfl)) d_rkeyCandidates_36 ⟨Nat.le_of_ble_eq_true rfl, Nat.le_of_ble_eq_true rfl⟩) hS (fun q _ h => hFc q h) hFc (fun rz u t H1 locs ht hvm hw hB hz1 hk1 hS => ?_)
    obtain ⟨hP, -, hD1⟩ := hB
    rw [ht] at hP
    have hD := hD1.weaken (fun _ q _ h => hFc q.1 h)
    generalize H1 = H at hP hS ⊢
    refine W.cs (cells' := 0) (slots' := 0) rfl rfl ?_
    subst hw
    refine lv_if_eq (tgt := 108) hx hb d_rkeyCandidates_39 (by decide) (fun c_5 => ?_) (fun c_5 => ?_)
    · replace Heq := (if_pos c_5).symm.trans Heq
      exact w_rkeyCandidates_J108 hC Heq Ka K0 _ _ _ hP hD hS (lv_sub hl [1, 2, 3, 4, 5, 6, 7] rfl)
    · replace Heq := (if_neg c_5).symm.trans Heq
      refine lv_aload_n hx hb d_rkeyCandidates_42 rfl (lv_at hl 1 rfl) ?_
      refine va_get (D := D) (ci := 12) (v := .ref (md 9)) (C := R_MM) (T := F_MM) (N := 77) hx hb hts i_MM hown hK hP 0 rfl rfl 9 (by decide) (hts _ kw_1391) (fun _ h9 => h9) rfl d_rkeyCandidates_43 ?_
      refine lv_iload hx hb d_rkeyCandidates_46 (lv_at hl 0 rfl) ?_
      obtain ⟨hi_6, Heq⟩ := gd_some Heq
      refine va_iald hx hb hK hP 5 0 rfl rfl (i := S.a 28 x6.toNatClampNeg) hi_6 d_rkeyCandidates_48 ?_
      refine w_i (y := o_3.1.a 9 ((S.a 28 x6.toNatClampNeg).toNatClampNeg)) rfl ?_
      refine lv_iload_n hx hb d_rkeyCandidates_49 rfl (lv_at hl 3 rfl) ?_
      refine lv_icmp_ne (tgt := 108) hx hb d_rkeyCandidates_50 (by decide) (fun c_7 => ?_) (fun c_7 => ?_)
      · replace Heq := (if_neg c_7).symm.trans Heq
        exact w_rkeyCandidates_J108 hC Heq Ka K0 _ _ _ hP hD hS (lv_sub hl [1, 2, 3, 4, 5, 6, 7] rfl)
      · replace Heq := (if_pos c_7).symm.trans Heq
        refine lv_aload_n hx hb d_rkeyCandidates_53 rfl (lv_at hl 1 rfl) ?_
        refine va_get (D := D) (ci := 12) (v := .ref (md 20)) (C := R_MM) (T := F_MM) (N := 77) hx hb hts i_MM hown hK hP 0 rfl rfl 20 (by decide) (hts _ kw_1402) (fun _ h9 => h9) rfl d_rkeyCandidates_54 ?_
        refine lv_iload hx hb d_rkeyCandidates_57 (lv_at hl 0 rfl) ?_
        obtain ⟨hi_8, Heq⟩ := gd_some Heq
        refine va_zald hx hb hK hP 16 2 rfl rfl (i := S.a 28 x6.toNatClampNeg) hi_8 d_rkeyCandidates_59 ?_
        refine w_i (y := o_3.1.a 20 ((S.a 28 x6.toNatClampNeg).toNatClampNeg)) rfl ?_
        refine lv_if_ne (tgt := 108) hx hb d_rkeyCandidates_60 (by decide) (fun c_9 => ?_) (fun c_9 => ?_)
        · replace Heq := (if_neg c_9).symm.trans Heq
          exact w_rkeyCandidates_J108 hC Heq Ka K0 _ _ _ hP hD hS (lv_sub hl [1, 2, 3, 4, 5, 6, 7] rfl)
        · replace Heq := (if_pos c_9).symm.trans Heq
          refine lv_aload_n hx hb d_rkeyCandidates_63 rfl (lv_at hl 1 rfl) ?_
          refine va_get (D := D) (ci := 12) (v := .ref (md 15)) (C := R_MM) (T := F_MM) (N := 77) hx hb hts i_MM hown hK hP 0 rfl rfl 15 (by decide) (hts _ kw_1397) (fun _ h9 => h9) rfl d_rkeyCandidates_64 ?_
          refine lv_iload hx hb d_rkeyCandidates_67 (lv_at hl 0 rfl) ?_
          obtain ⟨hi_10, Heq⟩ := gd_some Heq
          refine va_iald hx hb hK hP 11 0 rfl rfl (i := S.a 28 x6.toNatClampNeg) hi_10 d_rkeyCandidates_69 ?_
          refine w_i (y := o_3.1.a 15 ((S.a 28 x6.toNatClampNeg).toNatClampNeg)) rfl ?_
          refine lv_if_le (tgt := 108) hx hb d_rkeyCandidates_70 (by decide) (fun c_11 => ?_) (fun c_11 => ?_)
          · replace Heq := (if_pos c_11).symm.trans Heq
            exact w_rkeyCandidates_J108 hC Heq Ka K0 _ _ _ hP hD hS (lv_sub hl [1, 2, 3, 4, 5, 6, 7] rfl)
          · replace Heq := (if_neg c_11).symm.trans Heq
            refine lv_aload_n hx hb d_rkeyCandidates_73 rfl (lv_at hl 1 rfl) ?_
            refine lv_iload hx hb d_rkeyCandidates_74 (lv_at hl 0 rfl) ?_
            refine lv_aload_n hx hb d_rkeyCandidates_76 rfl (lv_at hl 4 rfl) ?_
            refine lv_iload hx hb d_rkeyCandidates_77 (lv_at hl 5 rfl) ?_
            refine lv_iload hx hb d_rkeyCandidates_79 (lv_at hl 6 rfl) ?_
            obtain ⟨o_12, h_13, Heq⟩ := ob_some Heq
            have hFc := fr_all hD hS hA
            refine va_calli (va_runV (As := [.int (S.a 28 x6.toNatClampNeg), .ref (md x3), .int x4, .int x5]) (rest := []) ⟨hx, hb, hml, hown, hts⟩ (g_rsameKey l D H.size h_13) (cw_v 4 hts kw_1680 kw_1677 kw_1679 kp_39 kw_11 rfl rfl (by decide +kernel) ⟨Nat.le_of_ble_eq_true rfl, Nat.le_of_ble_eq_true rfl⟩) ⟨g_blind, va_recv hK hP (ci := 12) (q0 := 0) rfl rfl, fun U hU hW => g_pre hU hW hP hK hD⟩ rfl rfl hl.1 rfl (lv_room (Nat.le_of_ble_eq_true rfl)) d_rkeyCandidates_81 ⟨Nat.le_of_ble_eq_true rfl, Nat.le_of_ble_eq_true rfl⟩) hS (fun q _ h => hFc q h) hFc (fun rz u t H1 locs ht hvm hw hB hz1 hk1 hS => ?_)
            obtain ⟨hP, -, hD1⟩ := hB
            rw [ht] at hP
            have hD := hD1.weaken (fun _ q _ h => hFc q.1 h)
            generalize H1 = H at hP hS ⊢
            refine W.cs (cells' := 0) (slots' := 0) rfl rfl ?_
            subst hw
            refine lv_if_eq (tgt := 108) hx hb d_rkeyCandidates_84 (by decide) (fun c_14 => ?_) (fun c_14 => ?_)
            · replace Heq := (if_pos c_14).symm.trans Heq
              exact w_rkeyCandidates_J108 hC Heq Ka K0 _ _ _ hP hD hS (lv_sub hl [1, 2, 3, 4, 5, 6, 7] rfl)
            · replace Heq := (if_neg c_14).symm.trans Heq
              refine lv_aload_n hx hb d_rkeyCandidates_87 rfl (lv_at hl 1 rfl) ?_
              refine va_get (D := D) (ci := 12) (v := .ref (md 46)) (C := R_MM) (T := F_MM) (N := 77) hx hb hts i_MM hown hK hP 0 rfl rfl 46 (by decide) (hts _ kw_1428) (fun _ h9 => h9) rfl d_rkeyCandidates_88 ?_
              refine lv_aload_n hx hb d_rkeyCandidates_91 rfl (lv_at hl 1 rfl) ?_
              refine va_get (D := D) (ci := 12) (v := .int (o_12.1.i 47)) (C := R_MM) (T := F_MM) (N := 77) hx hb hts i_MM hown hK hP 0 rfl rfl 47 (by decide) (hts _ kw_1429) (fun _ h9 => h9) rfl d_rkeyCandidates_92 ?_
              refine lv_iload hx hb d_rkeyCandidates_95 (lv_at hl 0 rfl) ?_
              obtain ⟨hi_15, Heq⟩ := gd_some Heq
              refine va_iast hx hb hK hP hD hS 31 0 rfl rfl (i := o_12.1.i 47) (x := S.a 28 x6.toNatClampNeg) hi_15 d_rkeyCandidates_97 (fun H locs hP hD hS => ?_)
              rw [mw_A46] at hP hD
              refine lv_aload_n hx hb d_rkeyCandidates_98 rfl (lv_at hl 1 rfl) ?_
              refine lv_dup hx hb d_rkeyCandidates_99 rfl ?_
              refine va_get (D := D) (ci := 12) (v := .int (o_12.1.i 47)) (C := R_MM) (T := F_MM) (N := 77) hx hb hts i_MM hown hK hP 0 rfl rfl 47 (by decide) (hts _ kw_1429) (fun _ h9 => h9) rfl d_rkeyCandidates_100 ?_
              refine lv_iconst (v := 1) hx hb d_rkeyCandidates_103 (by decide) ?_
              refine lv_iadd hx hb d_rkeyCandidates_104 ?_
              refine w_i (y := (o_12.1.i 47) + 1) rfl ?_
              refine va_put (D := D) (ci := 12) (v := .int ((o_12.1.i 47) + 1)) (ty := .int) (C := R_MM) (T := F_MM) (N := 77) hx hb hts i_MM t_MM t_MM_ok n_MM hown hK hP hD hS 0 rfl rfl 47 (by decide) (hts _ kw_1429) (fun _ h9 => h9) rfl (by decide +kernel) rfl rfl (Nat.le_of_ble_eq_true rfl) d_rkeyCandidates_105 (fun H locs hP hD hS => ?_)
              rw [mw_I47] at hP hD
              exact w_rkeyCandidates_J108 hC Heq Ka K0 _ _ _ hP hD hS (lv_sub hl [1, 2, 3, 4, 5, 6, 7] rfl)
def m_rkeyCandidates_L18 (S : MS) (x1 : Int32) (x2 : Int32) (x3 : Nat) (x4 : Int32) (x5 : Int32) (x6 : Int32) : Option MS := lp (fun a : MS × Int32 × Int32 × Nat × Int32 × Int32 × Int32 => m_rkeyCandidates_B18 a.1 a.2.1 a.2.2.1 a.2.2.2.1 a.2.2.2.2.1 a.2.2.2.2.2.1 a.2.2.2.2.2.2) FU (S, x1, x2, x3, x4, x5, x6)
theorem w_rkeyCandidates_L18 {p : Program} {l : Launch} {e : Env} {s : State} {m : MethodId} {args : Array Value} {below : List Frame} {meth : Method} {c : Code} {A : Nat → Prop} {D : va_G} {md : Nat → Nat} {mc : Nat → ClassId} {Q : State → Prop} (hC : MCx "JoinedTreesModel" prog_14_method_15_code 8 none p s m args meth c A D mc) {S : MS} {x1 : Int32} {x2 : Int32} {x3 : Nat} {x4 : Int32} {x5 : Int32} {x6 : Int32} {o : MS} (Heq : m_rkeyCandidates_L18 S x1 x2 x3 x4 x5 x6 = some o) (K0 : ∀ b : MS, o = b → ∀ (H : Heap) (locs : List Loc) (ls : Array Slot), va_P D cls (mw md mc b) H → va_D A (mw md mc b) → va_S A s.heap H locs → lv_has ls 8 [(0, .ref (md 100))] → W p l e ({ frames := 2, cells := 0, slots := 0, locals := 45 }) s m args below meth c H locs 0 0 Q (F0 m 114 ls [])) : ∀ (H : Heap) (locs : List Loc) (ls : Array Slot), va_P D cls (mw md mc S) H → va_D A (mw md mc S) → va_S A s.heap H locs → lv_has ls 8 [(0, .ref (md 100)), (1, .int x1), (2, .int x2), (3, .ref (md x3)), (4, .int x4), (5, .int x5), (6, .int x6)] → W p l e ({ frames := 2, cells := 0, slots := 0, locals := 45 }) s m args below meth c H locs 0 0 Q (F0 m 18 ls []) := by
  refine lp_w (G := fun a : MS × Int32 × Int32 × Nat × Int32 × Int32 × Int32 => ∀ (H : Heap) (locs : List Loc) (ls : Array Slot), va_P D cls (mw md mc a.1) H → va_D A (mw md mc a.1) → va_S A s.heap H locs → lv_has ls 8 [(0, .ref (md 100)), (1, .int a.2.1), (2, .int a.2.2.1), (3, .ref (md a.2.2.2.1)), (4, .int a.2.2.2.2.1), (5, .int a.2.2.2.2.2.1), (6, .int a.2.2.2.2.2.2)] → W p l e ({ frames := 2, cells := 0, slots := 0, locals := 45 }) s m args below meth c H locs 0 0 Q (F0 m 18 ls [])) ?_ FU (S, x1, x2, x3, x4, x5, x6) Heq
  intro a o1 ho Ka Ke
  exact w_rkeyCandidates_B18 hC ho (fun b h => Ka b h) (fun b h => K0 b (Ke _ h).symm)
def m_rkeyCandidates_J0 (S : MS) (x1 : Int32) (x2 : Int32) (x3 : Nat) (x4 : Int32) (x5 : Int32) : Option MS := ob (m_rhide S x1) (fun o_1 => ob (m_rkeyCandidates_L18 (o_1.setI 47 0) x1 x2 x3 x4 x5 ((o_1.i 23) - 1)) (fun b_3 => some b_3))
theorem d_rkeyCandidates_114 : decode prog_14_method_15_code 114 = .ok (.return_, 1) := by decide +kernel
set_option maxHeartbeats 4000000 in
set_option maxRecDepth 100000 in
theorem w_rkeyCandidates_J0 {p : Program} {l : Launch} {e : Env} {s : State} {m : MethodId} {args : Array Value} {below : List Frame} {meth : Method} {c : Code} {A : Nat → Prop} {D : va_G} {md : Nat → Nat} {mc : Nat → ClassId} {Q : State → Prop} (hC : MCx "JoinedTreesModel" prog_14_method_15_code 8 none p s m args meth c A D mc) {S : MS} {x1 : Int32} {x2 : Int32} {x3 : Nat} {x4 : Int32} {x5 : Int32} {o : MS} (Heq : m_rkeyCandidates_J0 S x1 x2 x3 x4 x5 = some o) (Kr : ∀ r : MS, o = r → ∀ (pc : Nat) (H : Heap) (locs : List Loc) (ls : Array Slot), decode prog_14_method_15_code pc = .ok (.return_, 1) → va_P D cls (mw md mc r) H → va_D A (mw md mc r) → va_S A s.heap H locs → W p l e ({ frames := 2, cells := 0, slots := 0, locals := 45 }) s m args below meth c H locs 0 0 Q (F0 m pc ls [])) : ∀ (H : Heap) (locs : List Loc) (ls : Array Slot), va_P D cls (mw md mc S) H → va_D A (mw md mc S) → va_S A s.heap H locs → lv_has ls 8 [(0, .ref (md 100)), (1, .int x1), (2, .int x2), (3, .ref (md x3)), (4, .int x4), (5, .int x5)] → W p l e ({ frames := 2, cells := 0, slots := 0, locals := 45 }) s m args below meth c H locs 0 0 Q (F0 m 0 ls []) := by
  intro H locs ls hP hD hS hl
  obtain ⟨hx, hb, hr, hml, hown, hts, hK, hA⟩ := id hC
  unfold m_rkeyCandidates_J0 at Heq
  refine lv_aload_n hx hb d_rkeyCandidates_0 rfl (lv_at hl 0 rfl) ?_
  refine lv_iload_n hx hb d_rkeyCandidates_1 rfl (lv_at hl 1 rfl) ?_
  obtain ⟨o_1, h_2, Heq⟩ := ob_some Heq
  have hFc := fr_all hD hS hA
  refine va_callv (va_runV (As := [.int x1]) (rest := []) ⟨hx, hb, hml, hown, hts⟩ (g_rhide l D H.size h_2) (cw_v 1 hts kw_1672 kw_1669 kw_1671 kp_37 kw_11 rfl rfl (by decide +kernel) ⟨Nat.le_of_ble_eq_true rfl, Nat.le_of_ble_eq_true rfl⟩) ⟨g_blind, va_recv hK hP (ci := 12) (q0 := 0) rfl rfl, fun U hU hW => g_pre hU hW hP hK hD⟩ rfl rfl hl.1 rfl (lv_room (Nat.le_of_ble_eq_true rfl)) d_rkeyCandidates_2 ⟨Nat.le_of_ble_eq_true rfl, Nat.le_of_ble_eq_true rfl⟩) hS (fun q _ h => hFc q h) hFc (fun u t H1 locs ht hvm hw hB hz1 hk1 hS => ?_)
  obtain ⟨hP, -, hD1⟩ := hB
  rw [ht] at hP
  have hD := hD1.weaken (fun _ q _ h => hFc q.1 h)
  generalize H1 = H at hP hS ⊢
  refine W.cs (cells' := 0) (slots' := 0) rfl rfl ?_
  refine lv_aload_n hx hb d_rkeyCandidates_5 rfl (lv_at hl 0 rfl) ?_
  refine lv_iconst (v := 0) hx hb d_rkeyCandidates_6 (by decide) ?_
  refine va_put (D := D) (ci := 12) (v := .int 0) (ty := .int) (C := R_MM) (T := F_MM) (N := 77) hx hb hts i_MM t_MM t_MM_ok n_MM hown hK hP hD hS 0 rfl rfl 47 (by decide) (hts _ kw_1429) (fun _ h9 => h9) rfl (by decide +kernel) rfl rfl (Nat.le_of_ble_eq_true rfl) d_rkeyCandidates_7 (fun H locs hP hD hS => ?_)
  rw [mw_I47] at hP hD
  refine lv_aload_n hx hb d_rkeyCandidates_10 rfl (lv_at hl 0 rfl) ?_
  refine va_get (D := D) (ci := 12) (v := .int (o_1.i 23)) (C := R_MM) (T := F_MM) (N := 77) hx hb hts i_MM hown hK hP 0 rfl rfl 23 (by decide) (hts _ kw_1405) (fun _ h9 => h9) rfl d_rkeyCandidates_11 ?_
  refine lv_iconst (v := 1) hx hb d_rkeyCandidates_14 (by decide) ?_
  refine lv_isub hx hb d_rkeyCandidates_15 ?_
  refine w_i (y := (o_1.i 23) - 1) rfl ?_
  refine lv_istore (lv' := [(6, .int ((o_1.i 23) - 1)), (0, .ref (md 100)), (1, .int x1), (2, .int x2), (3, .ref (md x3)), (4, .int x4), (5, .int x5)]) hx hb d_rkeyCandidates_16 hl (by decide) rfl (fun ls hl => ?_)
  obtain ⟨b_3, h_4, Heq⟩ := ob_some Heq
  refine w_rkeyCandidates_L18 hC h_4 (fun b h => ?_) _ _ _ hP hD hS (lv_sub hl [1, 2, 3, 4, 5, 6, 0] rfl)
  subst h
  intro H locs ls hP hD hS hl
  exact Kr _ (Option.some.inj Heq).symm 114 _ _ _ d_rkeyCandidates_114 hP hD hS
def m_rkeyCandidates (S : MS) (x1 : Int32) (x2 : Int32) (x3 : Nat) (x4 : Int32) (x5 : Int32) : Option MS := m_rkeyCandidates_J0 S x1 x2 x3 x4 x5
theorem g_rkeyCandidates (l : Launch) (D : va_G) (sz : Nat) {md : Nat → Nat} {mc : Nat → ClassId} {S : MS} {x1 : Int32} {x2 : Int32} {x3 : Nat} {x4 : Int32} {x5 : Int32} {o : MS} (Heq : m_rkeyCandidates S x1 x2 x3 x4 x5 = some o) : Met l ⟨"JoinedTreesModel", "keyCandidates", "(II[BII)V"⟩ (Cond.code ⟨"JoinedTreesModel", "keyCandidates", "(II[BII)V"⟩ prog_14_method_15_code 8 none :: gb) ({ frames := 2, cells := 0, slots := 0, locals := 45 }) (gPc D (mw md mc S) (mty mc) sz [.ref (md 100), .int x1, .int x2, .ref (md x3), .int x4, .int x5]) (va_Qv (fun _ : Unit => True) (fun _ t => gO D (mw md mc o) (mty mc) (va_A (mw md mc S) sz) t) (va_A (mw md mc S) sz)) 0 0 (va_A (mw md mc S) sz) := by
  refine Met.ofW (cc := prog_14_method_15_code) (maxL := 8) (ret := none) (by decide) rfl ?_
  intro p e s m args below meth c s₁ B hml hv
  obtain ⟨rfl, hsz, hP, hK, hD0⟩ := hv
  have hx := B.exec
  have hb := B.bytes
  have hr := B.returns
  have hts : ∀ w9 ∈ gb, w9.before [.ref (md 100), .int x1, .int x2, .ref (md x3), .int x4, .int x5].toArray s = true := fun w9 h => atoms_spec (ws := Cond.code ⟨"JoinedTreesModel", "keyCandidates", "(II[BII)V"⟩ prog_14_method_15_code 8 none :: gb) B.pre w9 (List.mem_cons_of_mem _ h)
  have hown : s.vm.findClass "JoinedTreesModel" = some m.cls := findClass_of_methodNamed B.named
  have hlocks := B.notSynchronized
  subst hsz
  have hD := hD0.self (sz := s.heap.size)
  generalize hAe : va_A (mw md mc S) s.heap.size = A at hD ⊢
  have hA : ∀ q : Nat, s.heap.size ≤ q → A q := fun q h => by rw [← hAe]; exact Or.inr h
  have hS : va_S A s.heap s.heap [] := va_S.rf
  have hl := lv_entry ([.ref (md 100), .int x1, .int x2, .ref (md x3), .int x4, .int x5]) (n := 8) (Nat.le_of_ble_eq_true rfl)
  rw [lg_entry_eq]
  generalize (lg_sl ([.ref (md 100), .int x1, .int x2, .ref (md x3), .int x4, .int x5]) ++ List.replicate (8 - (lg_sl ([.ref (md 100), .int x1, .int x2, .ref (md x3), .int x4, .int x5])).length) Slot.unset).toArray = ls at hl ⊢
  have hl : lv_has ls 8 [(0, .ref (md 100)), (1, .int x1), (2, .int x2), (3, .ref (md x3)), (4, .int x4), (5, .int x5)] := hl
  refine w_rkeyCandidates_J0 ⟨hx, hb, hr, hml, hown, hts, hK, hA⟩ Heq (fun r h pc H locs ls hd hP hD hS => ?_) _ _ _ hP hD hS (lv_sub hl [0, 1, 2, 3, 4, 5] rfl)
  subst h
  exact W.vret hx hb hr (fun t ht hW => ⟨⟨(), rfl, trivial, by rw [ht]; exact hP, va_K.moved hW.alike hK, hD⟩, hS.F ht⟩) hS.2.2 hd
def m_relementCandidates_J110 (S : MS) (x1 : Int32) (x2 : Int32) (x3 : Int32) (x4 : Int32) : Option ((MS × Int32 × Int32 × Int32 × Int32) ⊕ MS) := some (.inl (S, x1, x2, x3, (x4 + (-1))))
theorem d_relementCandidates_0 : decode prog_14_method_16_code 0 = .ok (.aload_n 0, 1) := by decide +kernel
theorem d_relementCandidates_1 : decode prog_14_method_16_code 1 = .ok (.iconst 0, 1) := by decide +kernel
theorem d_relementCandidates_2 : decode prog_14_method_16_code 2 = .ok (.putfield 210, 3) := by decide +kernel
theorem d_relementCandidates_5 : decode prog_14_method_16_code 5 = .ok (.aload_n 0, 1) := by decide +kernel
theorem d_relementCandidates_6 : decode prog_14_method_16_code 6 = .ok (.getfield 195, 3) := by decide +kernel
theorem d_relementCandidates_9 : decode prog_14_method_16_code 9 = .ok (.iconst 1, 1) := by decide +kernel
theorem d_relementCandidates_10 : decode prog_14_method_16_code 10 = .ok (.isub, 1) := by decide +kernel
theorem d_relementCandidates_11 : decode prog_14_method_16_code 11 = .ok (.istore 4, 2) := by decide +kernel
theorem d_relementCandidates_13 : decode prog_14_method_16_code 13 = .ok (.iload 4, 2) := by decide +kernel
theorem d_relementCandidates_15 : decode prog_14_method_16_code 15 = .ok (.ifCond .lt 101, 3) := by decide +kernel
theorem d_relementCandidates_18 : decode prog_14_method_16_code 18 = .ok (.aload_n 0, 1) := by decide +kernel
theorem d_relementCandidates_19 : decode prog_14_method_16_code 19 = .ok (.getfield 75, 3) := by decide +kernel
theorem d_relementCandidates_22 : decode prog_14_method_16_code 22 = .ok (.iload 4, 2) := by decide +kernel
theorem d_relementCandidates_24 : decode prog_14_method_16_code 24 = .ok (.iaload, 1) := by decide +kernel
theorem d_relementCandidates_25 : decode prog_14_method_16_code 25 = .ok (.istore 5, 2) := by decide +kernel
theorem d_relementCandidates_27 : decode prog_14_method_16_code 27 = .ok (.aload_n 0, 1) := by decide +kernel
theorem d_relementCandidates_28 : decode prog_14_method_16_code 28 = .ok (.iload_n 1, 1) := by decide +kernel
theorem d_relementCandidates_29 : decode prog_14_method_16_code 29 = .ok (.iload 5, 2) := by decide +kernel
theorem d_relementCandidates_31 : decode prog_14_method_16_code 31 = .ok (.invokevirtual 213, 3) := by decide +kernel
theorem d_relementCandidates_34 : decode prog_14_method_16_code 34 = .ok (.ifCond .eq 76, 3) := by decide +kernel
theorem d_relementCandidates_110 : decode prog_14_method_16_code 110 = .ok (.iinc 4 (-1), 3) := by decide +kernel
theorem d_relementCandidates_113 : decode prog_14_method_16_code 113 = .ok (.goto (-100), 3) := by decide +kernel
set_option maxHeartbeats 4000000 in
set_option maxRecDepth 100000 in
theorem w_relementCandidates_J110 {p : Program} {l : Launch} {e : Env} {s : State} {m : MethodId} {args : Array Value} {below : List Frame} {meth : Method} {c : Code} {A : Nat → Prop} {D : va_G} {md : Nat → Nat} {mc : Nat → ClassId} {Q : State → Prop} (hC : MCx "JoinedTreesModel" prog_14_method_16_code 6 none p s m args meth c A D mc) {S : MS} {x1 : Int32} {x2 : Int32} {x3 : Int32} {x4 : Int32} {o : ((MS × Int32 × Int32 × Int32 × Int32) ⊕ MS)} (Heq : m_relementCandidates_J110 S x1 x2 x3 x4 = some o) (Ka : ∀ b : MS × Int32 × Int32 × Int32 × Int32, o = .inl b → ∀ (H : Heap) (locs : List Loc) (ls : Array Slot), va_P D cls (mw md mc b.1) H → va_D A (mw md mc b.1) → va_S A s.heap H locs → lv_has ls 6 [(0, .ref (md 100)), (1, .int b.2.1), (2, .int b.2.2.1), (3, .int b.2.2.2.1), (4, .int b.2.2.2.2)] → W p l e ({ frames := 2, cells := 0, slots := 0, locals := 44 }) s m args below meth c H locs 0 0 Q (F0 m 13 ls [])) (K0 : ∀ b : MS, o = .inr b → ∀ (H : Heap) (locs : List Loc) (ls : Array Slot), va_P D cls (mw md mc b) H → va_D A (mw md mc b) → va_S A s.heap H locs → lv_has ls 6 [(0, .ref (md 100))] → W p l e ({ frames := 2, cells := 0, slots := 0, locals := 44 }) s m args below meth c H locs 0 0 Q (F0 m 116 ls [])) : ∀ (H : Heap) (locs : List Loc) (ls : Array Slot), va_P D cls (mw md mc S) H → va_D A (mw md mc S) → va_S A s.heap H locs → lv_has ls 6 [(0, .ref (md 100)), (1, .int x1), (2, .int x2), (3, .int x3), (4, .int x4)] → W p l e ({ frames := 2, cells := 0, slots := 0, locals := 44 }) s m args below meth c H locs 0 0 Q (F0 m 110 ls []) := by
  intro H locs ls hP hD hS hl
  obtain ⟨hx, hb, hr, hml, hown, hts, hK, hA⟩ := id hC
  unfold m_relementCandidates_J110 at Heq
  refine lv_iinc (v := x4 + (-1)) (lv' := [(4, .int (x4 + (-1))), (0, .ref (md 100)), (1, .int x1), (2, .int x2), (3, .int x3)]) hx hb d_relementCandidates_110 hl (k := 4) rfl rfl (by decide) rfl (fun ls hl => ?_)
  refine lv_goto (tgt := 13) hx hb d_relementCandidates_113 (by decide) ?_
  exact Ka _ (Option.some.inj Heq).symm _ _ _ hP hD hS (lv_sub hl [1, 2, 3, 4, 0] rfl)
def m_relementCandidates_J85 (S : MS) (x1 : Int32) (x2 : Int32) (x3 : Int32) (x4 : Int32) (x5 : Int32) (t0 : Int32) : Option ((MS × Int32 × Int32 × Int32 × Int32) ⊕ MS) := (if t0 = x3 then gd (S.i 47) 4000 (m_relementCandidates_J110 ((S.setA 46 (upd (S.a 46) ((S.i 47).toNatClampNeg) x5)).setI 47 ((S.i 47) + 1)) x1 x2 x3 x4) else m_relementCandidates_J110 S x1 x2 x3 x4)
theorem d_relementCandidates_37 : decode prog_14_method_16_code 37 = .ok (.aload_n 0, 1) := by decide +kernel
theorem d_relementCandidates_38 : decode prog_14_method_16_code 38 = .ok (.getfield 23, 3) := by decide +kernel
theorem d_relementCandidates_41 : decode prog_14_method_16_code 41 = .ok (.iload 5, 2) := by decide +kernel
theorem d_relementCandidates_43 : decode prog_14_method_16_code 43 = .ok (.iaload, 1) := by decide +kernel
theorem d_relementCandidates_44 : decode prog_14_method_16_code 44 = .ok (.iload_n 2, 1) := by decide +kernel
theorem d_relementCandidates_45 : decode prog_14_method_16_code 45 = .ok (.if_icmp .ne 65, 3) := by decide +kernel
theorem d_relementCandidates_48 : decode prog_14_method_16_code 48 = .ok (.aload_n 0, 1) := by decide +kernel
theorem d_relementCandidates_49 : decode prog_14_method_16_code 49 = .ok (.getfield 41, 3) := by decide +kernel
theorem d_relementCandidates_52 : decode prog_14_method_16_code 52 = .ok (.iload 5, 2) := by decide +kernel
theorem d_relementCandidates_54 : decode prog_14_method_16_code 54 = .ok (.iaload, 1) := by decide +kernel
theorem d_relementCandidates_55 : decode prog_14_method_16_code 55 = .ok (.ifCond .ne 55, 3) := by decide +kernel
theorem d_relementCandidates_58 : decode prog_14_method_16_code 58 = .ok (.aload_n 0, 1) := by decide +kernel
theorem d_relementCandidates_59 : decode prog_14_method_16_code 59 = .ok (.getfield 56, 3) := by decide +kernel
theorem d_relementCandidates_62 : decode prog_14_method_16_code 62 = .ok (.iload 5, 2) := by decide +kernel
theorem d_relementCandidates_64 : decode prog_14_method_16_code 64 = .ok (.baload, 1) := by decide +kernel
theorem d_relementCandidates_65 : decode prog_14_method_16_code 65 = .ok (.ifCond .eq 13, 3) := by decide +kernel
theorem d_relementCandidates_78 : decode prog_14_method_16_code 78 = .ok (.aload_n 0, 1) := by decide +kernel
theorem d_relementCandidates_79 : decode prog_14_method_16_code 79 = .ok (.getfield 26, 3) := by decide +kernel
theorem d_relementCandidates_82 : decode prog_14_method_16_code 82 = .ok (.iload 5, 2) := by decide +kernel
theorem d_relementCandidates_84 : decode prog_14_method_16_code 84 = .ok (.iaload, 1) := by decide +kernel
theorem d_relementCandidates_85 : decode prog_14_method_16_code 85 = .ok (.iload_n 3, 1) := by decide +kernel
theorem d_relementCandidates_86 : decode prog_14_method_16_code 86 = .ok (.if_icmp .ne 24, 3) := by decide +kernel
theorem d_relementCandidates_89 : decode prog_14_method_16_code 89 = .ok (.aload_n 0, 1) := by decide +kernel
theorem d_relementCandidates_90 : decode prog_14_method_16_code 90 = .ok (.getfield 121, 3) := by decide +kernel
theorem d_relementCandidates_93 : decode prog_14_method_16_code 93 = .ok (.aload_n 0, 1) := by decide +kernel
theorem d_relementCandidates_94 : decode prog_14_method_16_code 94 = .ok (.getfield 210, 3) := by decide +kernel
theorem d_relementCandidates_97 : decode prog_14_method_16_code 97 = .ok (.iload 5, 2) := by decide +kernel
theorem d_relementCandidates_99 : decode prog_14_method_16_code 99 = .ok (.iastore, 1) := by decide +kernel
theorem d_relementCandidates_100 : decode prog_14_method_16_code 100 = .ok (.aload_n 0, 1) := by decide +kernel
theorem d_relementCandidates_101 : decode prog_14_method_16_code 101 = .ok (.dup, 1) := by decide +kernel
theorem d_relementCandidates_102 : decode prog_14_method_16_code 102 = .ok (.getfield 210, 3) := by decide +kernel
theorem d_relementCandidates_105 : decode prog_14_method_16_code 105 = .ok (.iconst 1, 1) := by decide +kernel
theorem d_relementCandidates_106 : decode prog_14_method_16_code 106 = .ok (.iadd, 1) := by decide +kernel
theorem d_relementCandidates_107 : decode prog_14_method_16_code 107 = .ok (.putfield 210, 3) := by decide +kernel
set_option maxHeartbeats 4000000 in
set_option maxRecDepth 100000 in
theorem w_relementCandidates_J85 {p : Program} {l : Launch} {e : Env} {s : State} {m : MethodId} {args : Array Value} {below : List Frame} {meth : Method} {c : Code} {A : Nat → Prop} {D : va_G} {md : Nat → Nat} {mc : Nat → ClassId} {Q : State → Prop} (hC : MCx "JoinedTreesModel" prog_14_method_16_code 6 none p s m args meth c A D mc) {S : MS} {x1 : Int32} {x2 : Int32} {x3 : Int32} {x4 : Int32} {x5 : Int32} {t0 : Int32} {o : ((MS × Int32 × Int32 × Int32 × Int32) ⊕ MS)} (Heq : m_relementCandidates_J85 S x1 x2 x3 x4 x5 t0 = some o) (Ka : ∀ b : MS × Int32 × Int32 × Int32 × Int32, o = .inl b → ∀ (H : Heap) (locs : List Loc) (ls : Array Slot), va_P D cls (mw md mc b.1) H → va_D A (mw md mc b.1) → va_S A s.heap H locs → lv_has ls 6 [(0, .ref (md 100)), (1, .int b.2.1), (2, .int b.2.2.1), (3, .int b.2.2.2.1), (4, .int b.2.2.2.2)] → W p l e ({ frames := 2, cells := 0, slots := 0, locals := 44 }) s m args below meth c H locs 0 0 Q (F0 m 13 ls [])) (K0 : ∀ b : MS, o = .inr b → ∀ (H : Heap) (locs : List Loc) (ls : Array Slot), va_P D cls (mw md mc b) H → va_D A (mw md mc b) → va_S A s.heap H locs → lv_has ls 6 [(0, .ref (md 100))] → W p l e ({ frames := 2, cells := 0, slots := 0, locals := 44 }) s m args below meth c H locs 0 0 Q (F0 m 116 ls [])) : ∀ (H : Heap) (locs : List Loc) (ls : Array Slot), va_P D cls (mw md mc S) H → va_D A (mw md mc S) → va_S A s.heap H locs → lv_has ls 6 [(0, .ref (md 100)), (1, .int x1), (2, .int x2), (3, .int x3), (4, .int x4), (5, .int x5)] → W p l e ({ frames := 2, cells := 0, slots := 0, locals := 44 }) s m args below meth c H locs 0 0 Q (F0 m 85 ls [.int t0]) := by
  intro H locs ls hP hD hS hl
  obtain ⟨hx, hb, hr, hml, hown, hts, hK, hA⟩ := id hC
  unfold m_relementCandidates_J85 at Heq
  refine lv_iload_n hx hb d_relementCandidates_85 rfl (lv_at hl 3 rfl) ?_
  refine lv_icmp_ne (tgt := 110) hx hb d_relementCandidates_86 (by decide) (fun c_1 => ?_) (fun c_1 => ?_)
  · replace Heq := (if_neg c_1).symm.trans Heq
    exact w_relementCandidates_J110 hC Heq Ka K0 _ _ _ hP hD hS (lv_sub hl [0, 1, 2, 3, 4] rfl)
  · replace Heq := (if_pos c_1).symm.trans Heq
    refine lv_aload_n hx hb d_relementCandidates_89 rfl (lv_at hl 0 rfl) ?_
    refine va_get (D := D) (ci := 12) (v := .ref (md 46)) (C := R_MM) (T := F_MM) (N := 77) hx hb hts i_MM hown hK hP 0 rfl rfl 46 (by decide) (hts _ kw_1428) (fun _ h9 => h9) rfl d_relementCandidates_90 ?_
    refine lv_aload_n hx hb d_relementCandidates_93 rfl (lv_at hl 0 rfl) ?_
    refine va_get (D := D) (ci := 12) (v := .int (S.i 47)) (C := R_MM) (T := F_MM) (N := 77) hx hb hts i_MM hown hK hP 0 rfl rfl 47 (by decide) (hts _ kw_1429) (fun _ h9 => h9) rfl d_relementCandidates_94 ?_
    refine lv_iload hx hb d_relementCandidates_97 (lv_at hl 5 rfl) ?_
    obtain ⟨hi_2, Heq⟩ := gd_some Heq
    refine va_iast hx hb hK hP hD hS 31 0 rfl rfl (i := S.i 47) (x := x5) hi_2 d_relementCandidates_99 (fun H locs hP hD hS => ?_)
    rw [mw_A46] at hP hD
    refine lv_aload_n hx hb d_relementCandidates_100 rfl (lv_at hl 0 rfl) ?_
    refine lv_dup hx hb d_relementCandidates_101 rfl ?_
    refine va_get (D := D) (ci := 12) (v := .int (S.i 47)) (C := R_MM) (T := F_MM) (N := 77) hx hb hts i_MM hown hK hP 0 rfl rfl 47 (by decide) (hts _ kw_1429) (fun _ h9 => h9) rfl d_relementCandidates_102 ?_
    refine lv_iconst (v := 1) hx hb d_relementCandidates_105 (by decide) ?_
    refine lv_iadd hx hb d_relementCandidates_106 ?_
    refine w_i (y := (S.i 47) + 1) rfl ?_
    refine va_put (D := D) (ci := 12) (v := .int ((S.i 47) + 1)) (ty := .int) (C := R_MM) (T := F_MM) (N := 77) hx hb hts i_MM t_MM t_MM_ok n_MM hown hK hP hD hS 0 rfl rfl 47 (by decide) (hts _ kw_1429) (fun _ h9 => h9) rfl (by decide +kernel) rfl rfl (Nat.le_of_ble_eq_true rfl) d_relementCandidates_107 (fun H locs hP hD hS => ?_)
    rw [mw_I47] at hP hD
    exact w_relementCandidates_J110 hC Heq Ka K0 _ _ _ hP hD hS (lv_sub hl [0, 1, 2, 3, 4] rfl)
def m_relementCandidates_B13 (S : MS) (x1 : Int32) (x2 : Int32) (x3 : Int32) (x4 : Int32) : Option ((MS × Int32 × Int32 × Int32 × Int32) ⊕ MS) := (if x4 < 0 then some (.inr (S)) else gd x4 4000 (ob (m_rvisible S x1 (S.a 28 x4.toNatClampNeg)) (fun o_3 => (if o_3.2 = 0 then m_relementCandidates_J110 o_3.1 x1 x2 x3 x4 else gd (S.a 28 x4.toNatClampNeg) 4000 ((if o_3.1.a 9 ((S.a 28 x4.toNatClampNeg).toNatClampNeg) = x2 then gd (S.a 28 x4.toNatClampNeg) 4000 ((if o_3.1.a 15 ((S.a 28 x4.toNatClampNeg).toNatClampNeg) = 0 then gd (S.a 28 x4.toNatClampNeg) 4000 ((if o_3.1.a 20 ((S.a 28 x4.toNatClampNeg).toNatClampNeg) = 0 then gd (S.a 28 x4.toNatClampNeg) 4000 (m_relementCandidates_J85 o_3.1 x1 x2 x3 x4 (S.a 28 x4.toNatClampNeg) (o_3.1.a 10 ((S.a 28 x4.toNatClampNeg).toNatClampNeg))) else gd (S.a 28 x4.toNatClampNeg) 4000 (m_relementCandidates_J85 o_3.1 x1 x2 x3 x4 (S.a 28 x4.toNatClampNeg) (o_3.1.a 8 ((S.a 28 x4.toNatClampNeg).toNatClampNeg))))) else m_relementCandidates_J110 o_3.1 x1 x2 x3 x4)) else m_relementCandidates_J110 o_3.1 x1 x2 x3 x4))))))
theorem d_relementCandidates_68 : decode prog_14_method_16_code 68 = .ok (.aload_n 0, 1) := by decide +kernel
theorem d_relementCandidates_69 : decode prog_14_method_16_code 69 = .ok (.getfield 19, 3) := by decide +kernel
theorem d_relementCandidates_72 : decode prog_14_method_16_code 72 = .ok (.iload 5, 2) := by decide +kernel
theorem d_relementCandidates_74 : decode prog_14_method_16_code 74 = .ok (.iaload, 1) := by decide +kernel
theorem d_relementCandidates_75 : decode prog_14_method_16_code 75 = .ok (.goto 10, 3) := by decide +kernel
set_option maxHeartbeats 4000000 in
set_option maxRecDepth 100000 in
theorem w_relementCandidates_B13 {p : Program} {l : Launch} {e : Env} {s : State} {m : MethodId} {args : Array Value} {below : List Frame} {meth : Method} {c : Code} {A : Nat → Prop} {D : va_G} {md : Nat → Nat} {mc : Nat → ClassId} {Q : State → Prop} (hC : MCx "JoinedTreesModel" prog_14_method_16_code 6 none p s m args meth c A D mc) {S : MS} {x1 : Int32} {x2 : Int32} {x3 : Int32} {x4 : Int32} {o : ((MS × Int32 × Int32 × Int32 × Int32) ⊕ MS)} (Heq : m_relementCandidates_B13 S x1 x2 x3 x4 = some o) (Ka : ∀ b : MS × Int32 × Int32 × Int32 × Int32, o = .inl b → ∀ (H : Heap) (locs : List Loc) (ls : Array Slot), va_P D cls (mw md mc b.1) H → va_D A (mw md mc b.1) → va_S A s.heap H locs → lv_has ls 6 [(0, .ref (md 100)), (1, .int b.2.1), (2, .int b.2.2.1), (3, .int b.2.2.2.1), (4, .int b.2.2.2.2)] → W p l e ({ frames := 2, cells := 0, slots := 0, locals := 44 }) s m args below meth c H locs 0 0 Q (F0 m 13 ls [])) (K0 : ∀ b : MS, o = .inr b → ∀ (H : Heap) (locs : List Loc) (ls : Array Slot), va_P D cls (mw md mc b) H → va_D A (mw md mc b) → va_S A s.heap H locs → lv_has ls 6 [(0, .ref (md 100))] → W p l e ({ frames := 2, cells := 0, slots := 0, locals := 44 }) s m args below meth c H locs 0 0 Q (F0 m 116 ls [])) : ∀ (H : Heap) (locs : List Loc) (ls : Array Slot), va_P D cls (mw md mc S) H → va_D A (mw md mc S) → va_S A s.heap H locs → lv_has ls 6 [(0, .ref (md 100)), (1, .int x1), (2, .int x2), (3, .int x3), (4, .int x4)] → W p l e ({ frames := 2, cells := 0, slots := 0, locals := 44 }) s m args below meth c H locs 0 0 Q (F0 m 13 ls []) := by
  intro H locs ls hP hD hS hl
  obtain ⟨hx, hb, hr, hml, hown, hts, hK, hA⟩ := id hC
  unfold m_relementCandidates_B13 at Heq
  refine lv_iload hx hb d_relementCandidates_13 (lv_at hl 4 rfl) ?_
  refine lv_if_lt (tgt := 116) hx hb d_relementCandidates_15 (by decide) (fun c_1 => ?_) (fun c_1 => ?_)
  · replace Heq := (if_pos c_1).symm.trans Heq
    exact K0 _ (Option.some.inj Heq).symm _ _ _ hP hD hS (lv_sub hl [0] rfl)
  · replace Heq := (if_neg c_1).symm.trans Heq
    refine lv_aload_n hx hb d_relementCandidates_18 rfl (lv_at hl 0 rfl) ?_
    refine va_get (D := D) (ci := 12) (v := .ref (md 28)) (C := R_MM) (T := F_MM) (N := 77) hx hb hts i_MM hown hK hP 0 rfl rfl 28 (by decide) (hts _ kw_1410) (fun _ h9 => h9) rfl d_relementCandidates_19 ?_
    refine lv_iload hx hb d_relementCandidates_22 (lv_at hl 4 rfl) ?_
    obtain ⟨hi_2, Heq⟩ := gd_some Heq
    refine va_iald hx hb hK hP 21 0 rfl rfl (i := x4) hi_2 d_relementCandidates_24 ?_
    refine w_i (y := S.a 28 x4.toNatClampNeg) rfl ?_
    refine lv_istore (lv' := [(5, .int (S.a 28 x4.toNatClampNeg)), (0, .ref (md 100)), (1, .int x1), (2, .int x2), (3, .int x3), (4, .int x4)]) hx hb d_relementCandidates_25 hl (by decide) rfl (fun ls hl => ?_)
    refine lv_aload_n hx hb d_relementCandidates_27 rfl (lv_at hl 1 rfl) ?_
    refine lv_iload_n hx hb d_relementCandidates_28 rfl (lv_at hl 2 rfl) ?_
    refine lv_iload hx hb d_relementCandidates_29 (lv_at hl 0 rfl) ?_
    obtain ⟨o_3, h_4, Heq⟩ := ob_some Heq
    have hFc := fr_all hD hS hA
    refine va_calli (va_runV (As := [.int x1, .int (S.a 28 x4.toNatClampNeg)]) (rest := []) ⟨hx, hb, hml, hown, hts⟩ (g_rvisible l D H.size h_4) (cw_v 2 hts kw_1676 kw_1673 kw_1675 kp_38 kw_11 rfl rfl (by decide +kernel) ⟨Nat.le_of_ble_eq_true rfl, Nat.le_of_ble_eq_true rfl⟩) ⟨g_blind, va_recv hK hP (ci := 12) (q0 := 0) rfl rfl, fun U hU hW => g_pre hU hW hP hK hD⟩ rfl rfl hl.1 rfl (lv_room (Nat.le_of_ble_eq_true rfl)) d_relementCandidates_31 ⟨Nat.le_of_ble_eq_true rfl, Nat.le_of_ble_eq_true rfl⟩) hS (fun q _ h => hFc q h) hFc (fun rz u t H1 locs ht hvm hw hB hz1 hk1 hS => ?_)
    obtain ⟨hP, -, hD1⟩ := hB
    rw [ht] at hP
    have hD := hD1.weaken (fun _ q _ h => hFc q.1 h)
    generalize H1 = H at hP hS ⊢
    refine W.cs (cells' := 0) (slots' := 0) rfl rfl ?_
    subst hw
    refine lv_if_eq (tgt := 110) hx hb d_relementCandidates_34 (by decide) (fun c_5 => ?_) (fun c_5 => ?_)
    · replace Heq := (if_pos c_5).symm.trans Heq
      exact w_relementCandidates_J110 hC Heq Ka K0 _ _ _ hP hD hS (lv_sub hl [1, 2, 3, 4, 5] rfl)
    · replace Heq := (if_neg c_5).symm.trans Heq
      refine lv_aload_n hx hb d_relementCandidates_37 rfl (lv_at hl 1 rfl) ?_
      refine va_get (D := D) (ci := 12) (v := .ref (md 9)) (C := R_MM) (T := F_MM) (N := 77) hx hb hts i_MM hown hK hP 0 rfl rfl 9 (by decide) (hts _ kw_1391) (fun _ h9 => h9) rfl d_relementCandidates_38 ?_
      refine lv_iload hx hb d_relementCandidates_41 (lv_at hl 0 rfl) ?_
      obtain ⟨hi_6, Heq⟩ := gd_some Heq
      refine va_iald hx hb hK hP 5 0 rfl rfl (i := S.a 28 x4.toNatClampNeg) hi_6 d_relementCandidates_43 ?_
      refine w_i (y := o_3.1.a 9 ((S.a 28 x4.toNatClampNeg).toNatClampNeg)) rfl ?_
      refine lv_iload_n hx hb d_relementCandidates_44 rfl (lv_at hl 3 rfl) ?_
      refine lv_icmp_ne (tgt := 110) hx hb d_relementCandidates_45 (by decide) (fun c_7 => ?_) (fun c_7 => ?_)
      · replace Heq := (if_neg c_7).symm.trans Heq
        exact w_relementCandidates_J110 hC Heq Ka K0 _ _ _ hP hD hS (lv_sub hl [1, 2, 3, 4, 5] rfl)
      · replace Heq := (if_pos c_7).symm.trans Heq
        refine lv_aload_n hx hb d_relementCandidates_48 rfl (lv_at hl 1 rfl) ?_
        refine va_get (D := D) (ci := 12) (v := .ref (md 15)) (C := R_MM) (T := F_MM) (N := 77) hx hb hts i_MM hown hK hP 0 rfl rfl 15 (by decide) (hts _ kw_1397) (fun _ h9 => h9) rfl d_relementCandidates_49 ?_
        refine lv_iload hx hb d_relementCandidates_52 (lv_at hl 0 rfl) ?_
        obtain ⟨hi_8, Heq⟩ := gd_some Heq
        refine va_iald hx hb hK hP 11 0 rfl rfl (i := S.a 28 x4.toNatClampNeg) hi_8 d_relementCandidates_54 ?_
        refine w_i (y := o_3.1.a 15 ((S.a 28 x4.toNatClampNeg).toNatClampNeg)) rfl ?_
        refine lv_if_ne (tgt := 110) hx hb d_relementCandidates_55 (by decide) (fun c_9 => ?_) (fun c_9 => ?_)
        · replace Heq := (if_neg c_9).symm.trans Heq
          exact w_relementCandidates_J110 hC Heq Ka K0 _ _ _ hP hD hS (lv_sub hl [1, 2, 3, 4, 5] rfl)
        · replace Heq := (if_pos c_9).symm.trans Heq
          refine lv_aload_n hx hb d_relementCandidates_58 rfl (lv_at hl 1 rfl) ?_
          refine va_get (D := D) (ci := 12) (v := .ref (md 20)) (C := R_MM) (T := F_MM) (N := 77) hx hb hts i_MM hown hK hP 0 rfl rfl 20 (by decide) (hts _ kw_1402) (fun _ h9 => h9) rfl d_relementCandidates_59 ?_
          refine lv_iload hx hb d_relementCandidates_62 (lv_at hl 0 rfl) ?_
          obtain ⟨hi_10, Heq⟩ := gd_some Heq
          refine va_zald hx hb hK hP 16 2 rfl rfl (i := S.a 28 x4.toNatClampNeg) hi_10 d_relementCandidates_64 ?_
          refine w_i (y := o_3.1.a 20 ((S.a 28 x4.toNatClampNeg).toNatClampNeg)) rfl ?_
          refine lv_if_eq (tgt := 78) hx hb d_relementCandidates_65 (by decide) (fun c_11 => ?_) (fun c_11 => ?_)
          · replace Heq := (if_pos c_11).symm.trans Heq
            refine lv_aload_n hx hb d_relementCandidates_78 rfl (lv_at hl 1 rfl) ?_
            refine va_get (D := D) (ci := 12) (v := .ref (md 10)) (C := R_MM) (T := F_MM) (N := 77) hx hb hts i_MM hown hK hP 0 rfl rfl 10 (by decide) (hts _ kw_1392) (fun _ h9 => h9) rfl d_relementCandidates_79 ?_
            refine lv_iload hx hb d_relementCandidates_82 (lv_at hl 0 rfl) ?_
            obtain ⟨hi_12, Heq⟩ := gd_some Heq
            refine va_iald hx hb hK hP 6 0 rfl rfl (i := S.a 28 x4.toNatClampNeg) hi_12 d_relementCandidates_84 ?_
            refine w_i (y := o_3.1.a 10 ((S.a 28 x4.toNatClampNeg).toNatClampNeg)) rfl ?_
            exact w_relementCandidates_J85 hC Heq Ka K0 _ _ _ hP hD hS (lv_sub hl [1, 2, 3, 4, 5, 0] rfl)
          · replace Heq := (if_neg c_11).symm.trans Heq
            refine lv_aload_n hx hb d_relementCandidates_68 rfl (lv_at hl 1 rfl) ?_
            refine va_get (D := D) (ci := 12) (v := .ref (md 8)) (C := R_MM) (T := F_MM) (N := 77) hx hb hts i_MM hown hK hP 0 rfl rfl 8 (by decide) (hts _ kw_1390) (fun _ h9 => h9) rfl d_relementCandidates_69 ?_
            refine lv_iload hx hb d_relementCandidates_72 (lv_at hl 0 rfl) ?_
            obtain ⟨hi_13, Heq⟩ := gd_some Heq
            refine va_iald hx hb hK hP 4 0 rfl rfl (i := S.a 28 x4.toNatClampNeg) hi_13 d_relementCandidates_74 ?_
            refine w_i (y := o_3.1.a 8 ((S.a 28 x4.toNatClampNeg).toNatClampNeg)) rfl ?_
            refine lv_goto (tgt := 85) hx hb d_relementCandidates_75 (by decide) ?_
            exact w_relementCandidates_J85 hC Heq Ka K0 _ _ _ hP hD hS (lv_sub hl [1, 2, 3, 4, 5, 0] rfl)
def m_relementCandidates_L13 (S : MS) (x1 : Int32) (x2 : Int32) (x3 : Int32) (x4 : Int32) : Option MS := lp (fun a : MS × Int32 × Int32 × Int32 × Int32 => m_relementCandidates_B13 a.1 a.2.1 a.2.2.1 a.2.2.2.1 a.2.2.2.2) FU (S, x1, x2, x3, x4)
theorem w_relementCandidates_L13 {p : Program} {l : Launch} {e : Env} {s : State} {m : MethodId} {args : Array Value} {below : List Frame} {meth : Method} {c : Code} {A : Nat → Prop} {D : va_G} {md : Nat → Nat} {mc : Nat → ClassId} {Q : State → Prop} (hC : MCx "JoinedTreesModel" prog_14_method_16_code 6 none p s m args meth c A D mc) {S : MS} {x1 : Int32} {x2 : Int32} {x3 : Int32} {x4 : Int32} {o : MS} (Heq : m_relementCandidates_L13 S x1 x2 x3 x4 = some o) (K0 : ∀ b : MS, o = b → ∀ (H : Heap) (locs : List Loc) (ls : Array Slot), va_P D cls (mw md mc b) H → va_D A (mw md mc b) → va_S A s.heap H locs → lv_has ls 6 [(0, .ref (md 100))] → W p l e ({ frames := 2, cells := 0, slots := 0, locals := 44 }) s m args below meth c H locs 0 0 Q (F0 m 116 ls [])) : ∀ (H : Heap) (locs : List Loc) (ls : Array Slot), va_P D cls (mw md mc S) H → va_D A (mw md mc S) → va_S A s.heap H locs → lv_has ls 6 [(0, .ref (md 100)), (1, .int x1), (2, .int x2), (3, .int x3), (4, .int x4)] → W p l e ({ frames := 2, cells := 0, slots := 0, locals := 44 }) s m args below meth c H locs 0 0 Q (F0 m 13 ls []) := by
  refine lp_w (G := fun a : MS × Int32 × Int32 × Int32 × Int32 => ∀ (H : Heap) (locs : List Loc) (ls : Array Slot), va_P D cls (mw md mc a.1) H → va_D A (mw md mc a.1) → va_S A s.heap H locs → lv_has ls 6 [(0, .ref (md 100)), (1, .int a.2.1), (2, .int a.2.2.1), (3, .int a.2.2.2.1), (4, .int a.2.2.2.2)] → W p l e ({ frames := 2, cells := 0, slots := 0, locals := 44 }) s m args below meth c H locs 0 0 Q (F0 m 13 ls [])) ?_ FU (S, x1, x2, x3, x4) Heq
  intro a o1 ho Ka Ke
  exact w_relementCandidates_B13 hC ho (fun b h => Ka b h) (fun b h => K0 b (Ke _ h).symm)
def m_relementCandidates_J0 (S : MS) (x1 : Int32) (x2 : Int32) (x3 : Int32) : Option MS := ob (m_relementCandidates_L13 (S.setI 47 0) x1 x2 x3 ((S.i 23) - 1)) (fun b_1 => some b_1)
theorem d_relementCandidates_116 : decode prog_14_method_16_code 116 = .ok (.return_, 1) := by decide +kernel
set_option maxHeartbeats 4000000 in
set_option maxRecDepth 100000 in
theorem w_relementCandidates_J0 {p : Program} {l : Launch} {e : Env} {s : State} {m : MethodId} {args : Array Value} {below : List Frame} {meth : Method} {c : Code} {A : Nat → Prop} {D : va_G} {md : Nat → Nat} {mc : Nat → ClassId} {Q : State → Prop} (hC : MCx "JoinedTreesModel" prog_14_method_16_code 6 none p s m args meth c A D mc) {S : MS} {x1 : Int32} {x2 : Int32} {x3 : Int32} {o : MS} (Heq : m_relementCandidates_J0 S x1 x2 x3 = some o) (Kr : ∀ r : MS, o = r → ∀ (pc : Nat) (H : Heap) (locs : List Loc) (ls : Array Slot), decode prog_14_method_16_code pc = .ok (.return_, 1) → va_P D cls (mw md mc r) H → va_D A (mw md mc r) → va_S A s.heap H locs → W p l e ({ frames := 2, cells := 0, slots := 0, locals := 44 }) s m args below meth c H locs 0 0 Q (F0 m pc ls [])) : ∀ (H : Heap) (locs : List Loc) (ls : Array Slot), va_P D cls (mw md mc S) H → va_D A (mw md mc S) → va_S A s.heap H locs → lv_has ls 6 [(0, .ref (md 100)), (1, .int x1), (2, .int x2), (3, .int x3)] → W p l e ({ frames := 2, cells := 0, slots := 0, locals := 44 }) s m args below meth c H locs 0 0 Q (F0 m 0 ls []) := by
  intro H locs ls hP hD hS hl
  obtain ⟨hx, hb, hr, hml, hown, hts, hK, hA⟩ := id hC
  unfold m_relementCandidates_J0 at Heq
  refine lv_aload_n hx hb d_relementCandidates_0 rfl (lv_at hl 0 rfl) ?_
  refine lv_iconst (v := 0) hx hb d_relementCandidates_1 (by decide) ?_
  refine va_put (D := D) (ci := 12) (v := .int 0) (ty := .int) (C := R_MM) (T := F_MM) (N := 77) hx hb hts i_MM t_MM t_MM_ok n_MM hown hK hP hD hS 0 rfl rfl 47 (by decide) (hts _ kw_1429) (fun _ h9 => h9) rfl (by decide +kernel) rfl rfl (Nat.le_of_ble_eq_true rfl) d_relementCandidates_2 (fun H locs hP hD hS => ?_)
  rw [mw_I47] at hP hD
  refine lv_aload_n hx hb d_relementCandidates_5 rfl (lv_at hl 0 rfl) ?_
  refine va_get (D := D) (ci := 12) (v := .int (S.i 23)) (C := R_MM) (T := F_MM) (N := 77) hx hb hts i_MM hown hK hP 0 rfl rfl 23 (by decide) (hts _ kw_1405) (fun _ h9 => h9) rfl d_relementCandidates_6 ?_
  refine lv_iconst (v := 1) hx hb d_relementCandidates_9 (by decide) ?_
  refine lv_isub hx hb d_relementCandidates_10 ?_
  refine w_i (y := (S.i 23) - 1) rfl ?_
  refine lv_istore (lv' := [(4, .int ((S.i 23) - 1)), (0, .ref (md 100)), (1, .int x1), (2, .int x2), (3, .int x3)]) hx hb d_relementCandidates_11 hl (by decide) rfl (fun ls hl => ?_)
  obtain ⟨b_1, h_2, Heq⟩ := ob_some Heq
  refine w_relementCandidates_L13 hC h_2 (fun b h => ?_) _ _ _ hP hD hS (lv_sub hl [1, 2, 3, 4, 0] rfl)
  subst h
  intro H locs ls hP hD hS hl
  exact Kr _ (Option.some.inj Heq).symm 116 _ _ _ d_relementCandidates_116 hP hD hS
def m_relementCandidates (S : MS) (x1 : Int32) (x2 : Int32) (x3 : Int32) : Option MS := m_relementCandidates_J0 S x1 x2 x3
theorem g_relementCandidates (l : Launch) (D : va_G) (sz : Nat) {md : Nat → Nat} {mc : Nat → ClassId} {S : MS} {x1 : Int32} {x2 : Int32} {x3 : Int32} {o : MS} (Heq : m_relementCandidates S x1 x2 x3 = some o) : Met l ⟨"JoinedTreesModel", "elementCandidates", "(III)V"⟩ (Cond.code ⟨"JoinedTreesModel", "elementCandidates", "(III)V"⟩ prog_14_method_16_code 6 none :: gb) ({ frames := 2, cells := 0, slots := 0, locals := 44 }) (gPc D (mw md mc S) (mty mc) sz [.ref (md 100), .int x1, .int x2, .int x3]) (va_Qv (fun _ : Unit => True) (fun _ t => gO D (mw md mc o) (mty mc) (va_A (mw md mc S) sz) t) (va_A (mw md mc S) sz)) 0 0 (va_A (mw md mc S) sz) := by
  refine Met.ofW (cc := prog_14_method_16_code) (maxL := 6) (ret := none) (by decide) rfl ?_
  intro p e s m args below meth c s₁ B hml hv
  obtain ⟨rfl, hsz, hP, hK, hD0⟩ := hv
  have hx := B.exec
  have hb := B.bytes
  have hr := B.returns
  have hts : ∀ w9 ∈ gb, w9.before [.ref (md 100), .int x1, .int x2, .int x3].toArray s = true := fun w9 h => atoms_spec (ws := Cond.code ⟨"JoinedTreesModel", "elementCandidates", "(III)V"⟩ prog_14_method_16_code 6 none :: gb) B.pre w9 (List.mem_cons_of_mem _ h)
  have hown : s.vm.findClass "JoinedTreesModel" = some m.cls := findClass_of_methodNamed B.named
  have hlocks := B.notSynchronized
  subst hsz
  have hD := hD0.self (sz := s.heap.size)
  generalize hAe : va_A (mw md mc S) s.heap.size = A at hD ⊢
  have hA : ∀ q : Nat, s.heap.size ≤ q → A q := fun q h => by rw [← hAe]; exact Or.inr h
  have hS : va_S A s.heap s.heap [] := va_S.rf
  have hl := lv_entry ([.ref (md 100), .int x1, .int x2, .int x3]) (n := 6) (Nat.le_of_ble_eq_true rfl)
  rw [lg_entry_eq]
  generalize (lg_sl ([.ref (md 100), .int x1, .int x2, .int x3]) ++ List.replicate (6 - (lg_sl ([.ref (md 100), .int x1, .int x2, .int x3])).length) Slot.unset).toArray = ls at hl ⊢
  have hl : lv_has ls 6 [(0, .ref (md 100)), (1, .int x1), (2, .int x2), (3, .int x3)] := hl
  refine w_relementCandidates_J0 ⟨hx, hb, hr, hml, hown, hts, hK, hA⟩ Heq (fun r h pc H locs ls hd hP hD hS => ?_) _ _ _ hP hD hS (lv_sub hl [0, 1, 2, 3] rfl)
  subst h
  exact W.vret hx hb hr (fun t ht hW => ⟨⟨(), rfl, trivial, by rw [ht]; exact hP, va_K.moved hW.alike hK, hD⟩, hS.F ht⟩) hS.2.2 hd
