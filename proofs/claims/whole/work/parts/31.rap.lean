def m_rcrc_J51 (S : MS) (x1 : Int32) (x3 : Int32) (x4 : Int32) (t0 : Int32) : Option ((MS × Int32 × Int32 × Int32 × Int32) ⊕ (MS × Int32 × Int32 × Int32)) := some (.inl (S, x1, t0, x3, (x4 + 1)))
theorem d_rcrc_0 : decode prog_14_method_87_code 0 = .ok (.iconst (-1), 1) := by decide +kernel
theorem d_rcrc_1 : decode prog_14_method_87_code 1 = .ok (.istore_n 2, 1) := by decide +kernel
theorem d_rcrc_2 : decode prog_14_method_87_code 2 = .ok (.iconst 0, 1) := by decide +kernel
theorem d_rcrc_3 : decode prog_14_method_87_code 3 = .ok (.istore_n 3, 1) := by decide +kernel
theorem d_rcrc_4 : decode prog_14_method_87_code 4 = .ok (.iload_n 3, 1) := by decide +kernel
theorem d_rcrc_5 : decode prog_14_method_87_code 5 = .ok (.iload_n 1, 1) := by decide +kernel
theorem d_rcrc_6 : decode prog_14_method_87_code 6 = .ok (.if_icmp .ge 58, 3) := by decide +kernel
theorem d_rcrc_9 : decode prog_14_method_87_code 9 = .ok (.iload_n 2, 1) := by decide +kernel
theorem d_rcrc_10 : decode prog_14_method_87_code 10 = .ok (.aload_n 0, 1) := by decide +kernel
theorem d_rcrc_11 : decode prog_14_method_87_code 11 = .ok (.getfield 108, 3) := by decide +kernel
theorem d_rcrc_14 : decode prog_14_method_87_code 14 = .ok (.iload_n 3, 1) := by decide +kernel
theorem d_rcrc_15 : decode prog_14_method_87_code 15 = .ok (.baload, 1) := by decide +kernel
theorem d_rcrc_16 : decode prog_14_method_87_code 16 = .ok (.sipush 255, 3) := by decide +kernel
theorem d_rcrc_19 : decode prog_14_method_87_code 19 = .ok (.iand, 1) := by decide +kernel
theorem d_rcrc_20 : decode prog_14_method_87_code 20 = .ok (.ixor, 1) := by decide +kernel
theorem d_rcrc_21 : decode prog_14_method_87_code 21 = .ok (.istore_n 2, 1) := by decide +kernel
theorem d_rcrc_22 : decode prog_14_method_87_code 22 = .ok (.iconst 0, 1) := by decide +kernel
theorem d_rcrc_23 : decode prog_14_method_87_code 23 = .ok (.istore 4, 2) := by decide +kernel
theorem d_rcrc_25 : decode prog_14_method_87_code 25 = .ok (.iload 4, 2) := by decide +kernel
theorem d_rcrc_27 : decode prog_14_method_87_code 27 = .ok (.bipush 8, 2) := by decide +kernel
theorem d_rcrc_29 : decode prog_14_method_87_code 29 = .ok (.if_icmp .ge 29, 3) := by decide +kernel
theorem d_rcrc_32 : decode prog_14_method_87_code 32 = .ok (.iload_n 2, 1) := by decide +kernel
theorem d_rcrc_33 : decode prog_14_method_87_code 33 = .ok (.iconst 1, 1) := by decide +kernel
theorem d_rcrc_34 : decode prog_14_method_87_code 34 = .ok (.iand, 1) := by decide +kernel
theorem d_rcrc_35 : decode prog_14_method_87_code 35 = .ok (.ifCond .eq 13, 3) := by decide +kernel
theorem d_rcrc_48 : decode prog_14_method_87_code 48 = .ok (.iload_n 2, 1) := by decide +kernel
theorem d_rcrc_49 : decode prog_14_method_87_code 49 = .ok (.iconst 1, 1) := by decide +kernel
theorem d_rcrc_50 : decode prog_14_method_87_code 50 = .ok (.iushr, 1) := by decide +kernel
theorem d_rcrc_51 : decode prog_14_method_87_code 51 = .ok (.istore_n 2, 1) := by decide +kernel
theorem d_rcrc_52 : decode prog_14_method_87_code 52 = .ok (.iinc 4 1, 3) := by decide +kernel
theorem d_rcrc_55 : decode prog_14_method_87_code 55 = .ok (.goto (-30), 3) := by decide +kernel
set_option maxHeartbeats 4000000 in
set_option maxRecDepth 100000 in
theorem w_rcrc_J51 {p : Program} {l : Launch} {e : Env} {s : State} {m : MethodId} {args : Array Value} {below : List Frame} {meth : Method} {c : Code} {A : Nat → Prop} {D : va_G} {md : Nat → Nat} {mc : Nat → ClassId} {Q : State → Prop} (hC : MCx "JoinedTreesModel" prog_14_method_87_code 5 (some .int) p s m args meth c A D mc) {S : MS} {x1 : Int32} {x3 : Int32} {x4 : Int32} {t0 : Int32} {o : ((MS × Int32 × Int32 × Int32 × Int32) ⊕ (MS × Int32 × Int32 × Int32))} (Heq : m_rcrc_J51 S x1 x3 x4 t0 = some o) (Ka : ∀ b : MS × Int32 × Int32 × Int32 × Int32, o = .inl b → ∀ (H : Heap) (locs : List Loc) (ls : Array Slot), va_P D cls (mw md mc b.1) H → va_D A (mw md mc b.1) → va_S A s.heap H locs → lv_has ls 5 [(0, .ref (md 100)), (1, .int b.2.1), (2, .int b.2.2.1), (3, .int b.2.2.2.1), (4, .int b.2.2.2.2)] → W p l e ({ frames := 0, cells := 0, slots := 0, locals := 0 }) s m args below meth c H locs 0 0 Q (F0 m 25 ls [])) (K0 : ∀ b : MS × Int32 × Int32 × Int32, o = .inr b → ∀ (H : Heap) (locs : List Loc) (ls : Array Slot), va_P D cls (mw md mc b.1) H → va_D A (mw md mc b.1) → va_S A s.heap H locs → lv_has ls 5 [(0, .ref (md 100)), (1, .int b.2.1), (2, .int b.2.2.1), (3, .int b.2.2.2)] → W p l e ({ frames := 0, cells := 0, slots := 0, locals := 0 }) s m args below meth c H locs 0 0 Q (F0 m 58 ls [])) : ∀ (H : Heap) (locs : List Loc) (ls : Array Slot), va_P D cls (mw md mc S) H → va_D A (mw md mc S) → va_S A s.heap H locs → lv_has ls 5 [(0, .ref (md 100)), (1, .int x1), (3, .int x3), (4, .int x4)] → W p l e ({ frames := 0, cells := 0, slots := 0, locals := 0 }) s m args below meth c H locs 0 0 Q (F0 m 51 ls [.int t0]) := by
  intro H locs ls hP hD hS hl
  obtain ⟨hx, hb, hr, hml, hown, hts, hK, hA⟩ := id hC
  unfold m_rcrc_J51 at Heq
  refine lv_istore_n (lv' := [(2, .int t0), (0, .ref (md 100)), (1, .int x1), (3, .int x3), (4, .int x4)]) hx hb d_rcrc_51 rfl hl (by decide) rfl (fun ls hl => ?_)
  refine lv_iinc (v := x4 + 1) (lv' := [(4, .int (x4 + 1)), (2, .int t0), (0, .ref (md 100)), (1, .int x1), (3, .int x3)]) hx hb d_rcrc_52 hl (k := 4) rfl rfl (by decide) rfl (fun ls hl => ?_)
  refine lv_goto (tgt := 25) hx hb d_rcrc_55 (by decide) ?_
  exact Ka _ (Option.some.inj Heq).symm _ _ _ hP hD hS (lv_sub hl [2, 3, 1, 4, 0] rfl)
def m_rcrc_B25 (S : MS) (x1 : Int32) (x2 : Int32) (x3 : Int32) (x4 : Int32) : Option ((MS × Int32 × Int32 × Int32 × Int32) ⊕ (MS × Int32 × Int32 × Int32)) := (if 8 ≤ x4 then some (.inr (S, x1, x2, x3)) else (if x2 &&& 1 = 0 then m_rcrc_J51 S x1 x3 x4 (ushr32 x2 1) else m_rcrc_J51 S x1 x3 x4 ((ushr32 x2 1) ^^^ (-306674912))))
theorem d_rcrc_38 : decode prog_14_method_87_code 38 = .ok (.iload_n 2, 1) := by decide +kernel
theorem d_rcrc_39 : decode prog_14_method_87_code 39 = .ok (.iconst 1, 1) := by decide +kernel
theorem d_rcrc_40 : decode prog_14_method_87_code 40 = .ok (.iushr, 1) := by decide +kernel
theorem d_rcrc_41 : decode prog_14_method_87_code 41 = .ok (.ldc_w 489, 3) := by decide +kernel
theorem d_rcrc_44 : decode prog_14_method_87_code 44 = .ok (.ixor, 1) := by decide +kernel
theorem d_rcrc_45 : decode prog_14_method_87_code 45 = .ok (.goto 6, 3) := by decide +kernel
set_option maxHeartbeats 4000000 in
set_option maxRecDepth 100000 in
theorem w_rcrc_B25 {p : Program} {l : Launch} {e : Env} {s : State} {m : MethodId} {args : Array Value} {below : List Frame} {meth : Method} {c : Code} {A : Nat → Prop} {D : va_G} {md : Nat → Nat} {mc : Nat → ClassId} {Q : State → Prop} (hC : MCx "JoinedTreesModel" prog_14_method_87_code 5 (some .int) p s m args meth c A D mc) {S : MS} {x1 : Int32} {x2 : Int32} {x3 : Int32} {x4 : Int32} {o : ((MS × Int32 × Int32 × Int32 × Int32) ⊕ (MS × Int32 × Int32 × Int32))} (Heq : m_rcrc_B25 S x1 x2 x3 x4 = some o) (Ka : ∀ b : MS × Int32 × Int32 × Int32 × Int32, o = .inl b → ∀ (H : Heap) (locs : List Loc) (ls : Array Slot), va_P D cls (mw md mc b.1) H → va_D A (mw md mc b.1) → va_S A s.heap H locs → lv_has ls 5 [(0, .ref (md 100)), (1, .int b.2.1), (2, .int b.2.2.1), (3, .int b.2.2.2.1), (4, .int b.2.2.2.2)] → W p l e ({ frames := 0, cells := 0, slots := 0, locals := 0 }) s m args below meth c H locs 0 0 Q (F0 m 25 ls [])) (K0 : ∀ b : MS × Int32 × Int32 × Int32, o = .inr b → ∀ (H : Heap) (locs : List Loc) (ls : Array Slot), va_P D cls (mw md mc b.1) H → va_D A (mw md mc b.1) → va_S A s.heap H locs → lv_has ls 5 [(0, .ref (md 100)), (1, .int b.2.1), (2, .int b.2.2.1), (3, .int b.2.2.2)] → W p l e ({ frames := 0, cells := 0, slots := 0, locals := 0 }) s m args below meth c H locs 0 0 Q (F0 m 58 ls [])) : ∀ (H : Heap) (locs : List Loc) (ls : Array Slot), va_P D cls (mw md mc S) H → va_D A (mw md mc S) → va_S A s.heap H locs → lv_has ls 5 [(0, .ref (md 100)), (1, .int x1), (2, .int x2), (3, .int x3), (4, .int x4)] → W p l e ({ frames := 0, cells := 0, slots := 0, locals := 0 }) s m args below meth c H locs 0 0 Q (F0 m 25 ls []) := by
  intro H locs ls hP hD hS hl
  obtain ⟨hx, hb, hr, hml, hown, hts, hK, hA⟩ := id hC
  unfold m_rcrc_B25 at Heq
  refine lv_iload hx hb d_rcrc_25 (lv_at hl 4 rfl) ?_
  refine lv_bipush (v := 8) hx hb d_rcrc_27 (by decide) ?_
  refine lv_icmp_ge (tgt := 58) hx hb d_rcrc_29 (by decide) (fun c_1 => ?_) (fun c_1 => ?_)
  · replace Heq := (if_pos c_1).symm.trans Heq
    exact K0 _ (Option.some.inj Heq).symm _ _ _ hP hD hS (lv_sub hl [0, 1, 2, 3] rfl)
  · replace Heq := (if_neg c_1).symm.trans Heq
    refine lv_iload_n hx hb d_rcrc_32 rfl (lv_at hl 2 rfl) ?_
    refine lv_iconst (v := 1) hx hb d_rcrc_33 (by decide) ?_
    refine lv_iand hx hb d_rcrc_34 ?_
    refine w_i (y := x2 &&& 1) rfl ?_
    refine lv_if_eq (tgt := 48) hx hb d_rcrc_35 (by decide) (fun c_2 => ?_) (fun c_2 => ?_)
    · replace Heq := (if_pos c_2).symm.trans Heq
      refine lv_iload_n hx hb d_rcrc_48 rfl (lv_at hl 2 rfl) ?_
      refine lv_iconst (v := 1) hx hb d_rcrc_49 (by decide) ?_
      refine lv_iushr hx hb d_rcrc_50 rfl ?_
      refine w_i (y := ushr32 x2 1) rfl ?_
      exact w_rcrc_J51 hC Heq Ka K0 _ _ _ hP hD hS (lv_sub hl [0, 1, 3, 4] rfl)
    · replace Heq := (if_neg c_2).symm.trans Heq
      refine lv_iload_n hx hb d_rcrc_38 rfl (lv_at hl 2 rfl) ?_
      refine lv_iconst (v := 1) hx hb d_rcrc_39 (by decide) ?_
      refine lv_iushr hx hb d_rcrc_40 rfl ?_
      refine w_i (y := ushr32 x2 1) rfl ?_
      refine lv_ldcw (v := (-306674912)) hx hb hown (hts _ kw_1974) d_rcrc_41 ?_
      refine lv_ixor hx hb d_rcrc_44 ?_
      refine w_i (y := (ushr32 x2 1) ^^^ (-306674912)) rfl ?_
      refine lv_goto (tgt := 51) hx hb d_rcrc_45 (by decide) ?_
      exact w_rcrc_J51 hC Heq Ka K0 _ _ _ hP hD hS (lv_sub hl [0, 1, 3, 4] rfl)
def m_rcrc_L25 (S : MS) (x1 : Int32) (x2 : Int32) (x3 : Int32) (x4 : Int32) : Option (MS × Int32 × Int32 × Int32) := lp (fun a : MS × Int32 × Int32 × Int32 × Int32 => m_rcrc_B25 a.1 a.2.1 a.2.2.1 a.2.2.2.1 a.2.2.2.2) FU (S, x1, x2, x3, x4)
theorem w_rcrc_L25 {p : Program} {l : Launch} {e : Env} {s : State} {m : MethodId} {args : Array Value} {below : List Frame} {meth : Method} {c : Code} {A : Nat → Prop} {D : va_G} {md : Nat → Nat} {mc : Nat → ClassId} {Q : State → Prop} (hC : MCx "JoinedTreesModel" prog_14_method_87_code 5 (some .int) p s m args meth c A D mc) {S : MS} {x1 : Int32} {x2 : Int32} {x3 : Int32} {x4 : Int32} {o : MS × Int32 × Int32 × Int32} (Heq : m_rcrc_L25 S x1 x2 x3 x4 = some o) (K0 : ∀ b : MS × Int32 × Int32 × Int32, o = b → ∀ (H : Heap) (locs : List Loc) (ls : Array Slot), va_P D cls (mw md mc b.1) H → va_D A (mw md mc b.1) → va_S A s.heap H locs → lv_has ls 5 [(0, .ref (md 100)), (1, .int b.2.1), (2, .int b.2.2.1), (3, .int b.2.2.2)] → W p l e ({ frames := 0, cells := 0, slots := 0, locals := 0 }) s m args below meth c H locs 0 0 Q (F0 m 58 ls [])) : ∀ (H : Heap) (locs : List Loc) (ls : Array Slot), va_P D cls (mw md mc S) H → va_D A (mw md mc S) → va_S A s.heap H locs → lv_has ls 5 [(0, .ref (md 100)), (1, .int x1), (2, .int x2), (3, .int x3), (4, .int x4)] → W p l e ({ frames := 0, cells := 0, slots := 0, locals := 0 }) s m args below meth c H locs 0 0 Q (F0 m 25 ls []) := by
  refine lp_w (G := fun a : MS × Int32 × Int32 × Int32 × Int32 => ∀ (H : Heap) (locs : List Loc) (ls : Array Slot), va_P D cls (mw md mc a.1) H → va_D A (mw md mc a.1) → va_S A s.heap H locs → lv_has ls 5 [(0, .ref (md 100)), (1, .int a.2.1), (2, .int a.2.2.1), (3, .int a.2.2.2.1), (4, .int a.2.2.2.2)] → W p l e ({ frames := 0, cells := 0, slots := 0, locals := 0 }) s m args below meth c H locs 0 0 Q (F0 m 25 ls [])) ?_ FU (S, x1, x2, x3, x4) Heq
  intro a o1 ho Ka Ke
  exact w_rcrc_B25 hC ho (fun b h => Ka b h) (fun b h => K0 b (Ke _ h).symm)
def m_rcrc_B4 (S : MS) (x1 : Int32) (x2 : Int32) (x3 : Int32) : Option ((MS × Int32 × Int32 × Int32) ⊕ (MS × Int32)) := (if x1 ≤ x3 then some (.inr (S, x2)) else gd x3 800000 (ob (m_rcrc_L25 S x1 (x2 ^^^ ((S.a 40 x3.toNatClampNeg) &&& 255)) x3 0) (fun b_3 => some (.inl (b_3.1, b_3.2.1, b_3.2.2.1, (b_3.2.2.2 + 1))))))
theorem d_rcrc_58 : decode prog_14_method_87_code 58 = .ok (.iinc 3 1, 3) := by decide +kernel
theorem d_rcrc_61 : decode prog_14_method_87_code 61 = .ok (.goto (-57), 3) := by decide +kernel
set_option maxHeartbeats 4000000 in
set_option maxRecDepth 100000 in
theorem w_rcrc_B4 {p : Program} {l : Launch} {e : Env} {s : State} {m : MethodId} {args : Array Value} {below : List Frame} {meth : Method} {c : Code} {A : Nat → Prop} {D : va_G} {md : Nat → Nat} {mc : Nat → ClassId} {Q : State → Prop} (hC : MCx "JoinedTreesModel" prog_14_method_87_code 5 (some .int) p s m args meth c A D mc) {S : MS} {x1 : Int32} {x2 : Int32} {x3 : Int32} {o : ((MS × Int32 × Int32 × Int32) ⊕ (MS × Int32))} (Heq : m_rcrc_B4 S x1 x2 x3 = some o) (Ka : ∀ b : MS × Int32 × Int32 × Int32, o = .inl b → ∀ (H : Heap) (locs : List Loc) (ls : Array Slot), va_P D cls (mw md mc b.1) H → va_D A (mw md mc b.1) → va_S A s.heap H locs → lv_has ls 5 [(0, .ref (md 100)), (1, .int b.2.1), (2, .int b.2.2.1), (3, .int b.2.2.2)] → W p l e ({ frames := 0, cells := 0, slots := 0, locals := 0 }) s m args below meth c H locs 0 0 Q (F0 m 4 ls [])) (K0 : ∀ b : MS × Int32, o = .inr b → ∀ (H : Heap) (locs : List Loc) (ls : Array Slot), va_P D cls (mw md mc b.1) H → va_D A (mw md mc b.1) → va_S A s.heap H locs → lv_has ls 5 [(0, .ref (md 100)), (2, .int b.2)] → W p l e ({ frames := 0, cells := 0, slots := 0, locals := 0 }) s m args below meth c H locs 0 0 Q (F0 m 64 ls [])) : ∀ (H : Heap) (locs : List Loc) (ls : Array Slot), va_P D cls (mw md mc S) H → va_D A (mw md mc S) → va_S A s.heap H locs → lv_has ls 5 [(0, .ref (md 100)), (1, .int x1), (2, .int x2), (3, .int x3)] → W p l e ({ frames := 0, cells := 0, slots := 0, locals := 0 }) s m args below meth c H locs 0 0 Q (F0 m 4 ls []) := by
  intro H locs ls hP hD hS hl
  obtain ⟨hx, hb, hr, hml, hown, hts, hK, hA⟩ := id hC
  unfold m_rcrc_B4 at Heq
  refine lv_iload_n hx hb d_rcrc_4 rfl (lv_at hl 3 rfl) ?_
  refine lv_iload_n hx hb d_rcrc_5 rfl (lv_at hl 1 rfl) ?_
  refine lv_icmp_ge (tgt := 64) hx hb d_rcrc_6 (by decide) (fun c_1 => ?_) (fun c_1 => ?_)
  · replace Heq := (if_pos c_1).symm.trans Heq
    exact K0 _ (Option.some.inj Heq).symm _ _ _ hP hD hS (lv_sub hl [0, 2] rfl)
  · replace Heq := (if_neg c_1).symm.trans Heq
    refine lv_iload_n hx hb d_rcrc_9 rfl (lv_at hl 2 rfl) ?_
    refine lv_aload_n hx hb d_rcrc_10 rfl (lv_at hl 0 rfl) ?_
    refine va_get (D := D) (ci := 12) (v := .ref (md 40)) (C := R_MM) (T := F_MM) (N := 77) hx hb hts i_MM hown hK hP 0 rfl rfl 40 (by decide) (hts _ kw_1422) (fun _ h9 => h9) rfl d_rcrc_11 ?_
    refine lv_iload_n hx hb d_rcrc_14 rfl (lv_at hl 3 rfl) ?_
    obtain ⟨hi_2, Heq⟩ := gd_some Heq
    refine va_bald hx hb hK hP 28 1 rfl rfl (i := x3) hi_2 d_rcrc_15 ?_
    refine w_i (y := S.a 40 x3.toNatClampNeg) rfl ?_
    refine lv_sipush (v := 255) hx hb d_rcrc_16 (by decide) ?_
    refine lv_iand hx hb d_rcrc_19 ?_
    refine w_i (y := (S.a 40 x3.toNatClampNeg) &&& 255) rfl ?_
    refine lv_ixor hx hb d_rcrc_20 ?_
    refine w_i (y := x2 ^^^ ((S.a 40 x3.toNatClampNeg) &&& 255)) rfl ?_
    refine lv_istore_n (lv' := [(2, .int (x2 ^^^ ((S.a 40 x3.toNatClampNeg) &&& 255))), (0, .ref (md 100)), (1, .int x1), (3, .int x3)]) hx hb d_rcrc_21 rfl hl (by decide) rfl (fun ls hl => ?_)
    refine lv_iconst (v := 0) hx hb d_rcrc_22 (by decide) ?_
    refine lv_istore (lv' := [(4, .int 0), (2, .int (x2 ^^^ ((S.a 40 x3.toNatClampNeg) &&& 255))), (0, .ref (md 100)), (1, .int x1), (3, .int x3)]) hx hb d_rcrc_23 hl (by decide) rfl (fun ls hl => ?_)
    obtain ⟨b_3, h_4, Heq⟩ := ob_some Heq
    refine w_rcrc_L25 hC h_4 (fun b h => ?_) _ _ _ hP hD hS (lv_sub hl [2, 3, 1, 4, 0] rfl)
    subst h
    intro H locs ls hP hD hS hl
    refine lv_iinc (v := b_3.2.2.2 + 1) (lv' := [(3, .int (b_3.2.2.2 + 1)), (0, .ref (md 100)), (1, .int b_3.2.1), (2, .int b_3.2.2.1)]) hx hb d_rcrc_58 hl (k := 3) rfl rfl (by decide) rfl (fun ls hl => ?_)
    refine lv_goto (tgt := 4) hx hb d_rcrc_61 (by decide) ?_
    exact Ka _ (Option.some.inj Heq).symm _ _ _ hP hD hS (lv_sub hl [1, 2, 3, 0] rfl)
def m_rcrc_L4 (S : MS) (x1 : Int32) (x2 : Int32) (x3 : Int32) : Option (MS × Int32) := lp (fun a : MS × Int32 × Int32 × Int32 => m_rcrc_B4 a.1 a.2.1 a.2.2.1 a.2.2.2) FU (S, x1, x2, x3)
theorem w_rcrc_L4 {p : Program} {l : Launch} {e : Env} {s : State} {m : MethodId} {args : Array Value} {below : List Frame} {meth : Method} {c : Code} {A : Nat → Prop} {D : va_G} {md : Nat → Nat} {mc : Nat → ClassId} {Q : State → Prop} (hC : MCx "JoinedTreesModel" prog_14_method_87_code 5 (some .int) p s m args meth c A D mc) {S : MS} {x1 : Int32} {x2 : Int32} {x3 : Int32} {o : MS × Int32} (Heq : m_rcrc_L4 S x1 x2 x3 = some o) (K0 : ∀ b : MS × Int32, o = b → ∀ (H : Heap) (locs : List Loc) (ls : Array Slot), va_P D cls (mw md mc b.1) H → va_D A (mw md mc b.1) → va_S A s.heap H locs → lv_has ls 5 [(0, .ref (md 100)), (2, .int b.2)] → W p l e ({ frames := 0, cells := 0, slots := 0, locals := 0 }) s m args below meth c H locs 0 0 Q (F0 m 64 ls [])) : ∀ (H : Heap) (locs : List Loc) (ls : Array Slot), va_P D cls (mw md mc S) H → va_D A (mw md mc S) → va_S A s.heap H locs → lv_has ls 5 [(0, .ref (md 100)), (1, .int x1), (2, .int x2), (3, .int x3)] → W p l e ({ frames := 0, cells := 0, slots := 0, locals := 0 }) s m args below meth c H locs 0 0 Q (F0 m 4 ls []) := by
  refine lp_w (G := fun a : MS × Int32 × Int32 × Int32 => ∀ (H : Heap) (locs : List Loc) (ls : Array Slot), va_P D cls (mw md mc a.1) H → va_D A (mw md mc a.1) → va_S A s.heap H locs → lv_has ls 5 [(0, .ref (md 100)), (1, .int a.2.1), (2, .int a.2.2.1), (3, .int a.2.2.2)] → W p l e ({ frames := 0, cells := 0, slots := 0, locals := 0 }) s m args below meth c H locs 0 0 Q (F0 m 4 ls [])) ?_ FU (S, x1, x2, x3) Heq
  intro a o1 ho Ka Ke
  exact w_rcrc_B4 hC ho (fun b h => Ka b h) (fun b h => K0 b (Ke _ h).symm)
def m_rcrc_J0 (S : MS) (x1 : Int32) : Option (MS × Int32) := ob (m_rcrc_L4 S x1 (-1) 0) (fun b_1 => some (b_1.1, b_1.2 ^^^ (-1)))
theorem d_rcrc_64 : decode prog_14_method_87_code 64 = .ok (.iload_n 2, 1) := by decide +kernel
theorem d_rcrc_65 : decode prog_14_method_87_code 65 = .ok (.iconst (-1), 1) := by decide +kernel
theorem d_rcrc_66 : decode prog_14_method_87_code 66 = .ok (.ixor, 1) := by decide +kernel
theorem d_rcrc_67 : decode prog_14_method_87_code 67 = .ok (.ireturn, 1) := by decide +kernel
set_option maxHeartbeats 4000000 in
set_option maxRecDepth 100000 in
theorem w_rcrc_J0 {p : Program} {l : Launch} {e : Env} {s : State} {m : MethodId} {args : Array Value} {below : List Frame} {meth : Method} {c : Code} {A : Nat → Prop} {D : va_G} {md : Nat → Nat} {mc : Nat → ClassId} {Q : State → Prop} (hC : MCx "JoinedTreesModel" prog_14_method_87_code 5 (some .int) p s m args meth c A D mc) {S : MS} {x1 : Int32} {o : MS × Int32} (Heq : m_rcrc_J0 S x1 = some o) (Kr : ∀ r : MS × Int32, o = r → ∀ (pc : Nat) (H : Heap) (locs : List Loc) (ls : Array Slot), decode prog_14_method_87_code pc = .ok (.ireturn, 1) → va_P D cls (mw md mc r.1) H → va_D A (mw md mc r.1) → va_S A s.heap H locs → W p l e ({ frames := 0, cells := 0, slots := 0, locals := 0 }) s m args below meth c H locs 0 0 Q (F0 m pc ls [.int r.2])) : ∀ (H : Heap) (locs : List Loc) (ls : Array Slot), va_P D cls (mw md mc S) H → va_D A (mw md mc S) → va_S A s.heap H locs → lv_has ls 5 [(0, .ref (md 100)), (1, .int x1)] → W p l e ({ frames := 0, cells := 0, slots := 0, locals := 0 }) s m args below meth c H locs 0 0 Q (F0 m 0 ls []) := by
  intro H locs ls hP hD hS hl
  obtain ⟨hx, hb, hr, hml, hown, hts, hK, hA⟩ := id hC
  unfold m_rcrc_J0 at Heq
  refine lv_iconst (v := (-1)) hx hb d_rcrc_0 (by decide) ?_
  refine lv_istore_n (lv' := [(2, .int (-1)), (0, .ref (md 100)), (1, .int x1)]) hx hb d_rcrc_1 rfl hl (by decide) rfl (fun ls hl => ?_)
  refine lv_iconst (v := 0) hx hb d_rcrc_2 (by decide) ?_
  refine lv_istore_n (lv' := [(3, .int 0), (2, .int (-1)), (0, .ref (md 100)), (1, .int x1)]) hx hb d_rcrc_3 rfl hl (by decide) rfl (fun ls hl => ?_)
  obtain ⟨b_1, h_2, Heq⟩ := ob_some Heq
  refine w_rcrc_L4 hC h_2 (fun b h => ?_) _ _ _ hP hD hS (lv_sub hl [2, 3, 1, 0] rfl)
  subst h
  intro H locs ls hP hD hS hl
  refine lv_iload_n hx hb d_rcrc_64 rfl (lv_at hl 1 rfl) ?_
  refine lv_iconst (v := (-1)) hx hb d_rcrc_65 (by decide) ?_
  refine lv_ixor hx hb d_rcrc_66 ?_
  refine w_i (y := b_1.2 ^^^ (-1)) rfl ?_
  exact Kr _ (Option.some.inj Heq).symm 67 _ _ _ d_rcrc_67 hP hD hS
def m_rcrc (S : MS) (x1 : Int32) : Option (MS × Int32) := m_rcrc_J0 S x1
theorem g_rcrc (l : Launch) (D : va_G) (sz : Nat) {md : Nat → Nat} {mc : Nat → ClassId} {S : MS} {x1 : Int32} {o : MS × Int32} (Heq : m_rcrc S x1 = some o) : Met l ⟨"JoinedTreesModel", "crc", "(I)I"⟩ (Cond.code ⟨"JoinedTreesModel", "crc", "(I)I"⟩ prog_14_method_87_code 5 (some .int) :: gb) ({ frames := 0, cells := 0, slots := 0, locals := 0 }) (gPc D (mw md mc S) (mty mc) sz [.ref (md 100), .int x1]) (va_Qi (fun (r : Int32) (_ : Unit) => r = o.2) (fun _ t => gO D (mw md mc o.1) (mty mc) (va_A (mw md mc S) sz) t) (va_A (mw md mc S) sz)) 0 0 (va_A (mw md mc S) sz) := by
  refine Met.ofW (cc := prog_14_method_87_code) (maxL := 5) (ret := (some .int)) (by decide) rfl ?_
  intro p e s m args below meth c s₁ B hml hv
  obtain ⟨rfl, hsz, hP, hK, hD0⟩ := hv
  have hx := B.exec
  have hb := B.bytes
  have hr := B.returns
  have hts : ∀ w9 ∈ gb, w9.before [.ref (md 100), .int x1].toArray s = true := fun w9 h => atoms_spec (ws := Cond.code ⟨"JoinedTreesModel", "crc", "(I)I"⟩ prog_14_method_87_code 5 (some .int) :: gb) B.pre w9 (List.mem_cons_of_mem _ h)
  have hown : s.vm.findClass "JoinedTreesModel" = some m.cls := findClass_of_methodNamed B.named
  have hlocks := B.notSynchronized
  subst hsz
  have hD := hD0.self (sz := s.heap.size)
  generalize hAe : va_A (mw md mc S) s.heap.size = A at hD ⊢
  have hA : ∀ q : Nat, s.heap.size ≤ q → A q := fun q h => by rw [← hAe]; exact Or.inr h
  have hS : va_S A s.heap s.heap [] := va_S.rf
  have hl := lv_entry ([.ref (md 100), .int x1]) (n := 5) (Nat.le_of_ble_eq_true rfl)
  rw [lg_entry_eq]
  generalize (lg_sl ([.ref (md 100), .int x1]) ++ List.replicate (5 - (lg_sl ([.ref (md 100), .int x1])).length) Slot.unset).toArray = ls at hl ⊢
  have hl : lv_has ls 5 [(0, .ref (md 100)), (1, .int x1)] := hl
  refine w_rcrc_J0 ⟨hx, hb, hr, hml, hown, hts, hK, hA⟩ Heq (fun r h pc H locs ls hd hP hD hS => ?_) _ _ _ hP hD hS (lv_sub hl [0, 1] rfl)
  subst h
  exact W.iret hx hb hr (fun t ht hW => ⟨⟨_, (), rfl, rfl, by rw [ht]; exact hP, va_K.moved hW.alike hK, hD⟩, hS.F ht⟩) hS.2.2 hd
def m_rsave_J63 (S : MS) (x1 : Int32) (x2 : Int32) (x3 : Int32) : Option ((MS × Int32 × Int32 × Int32) ⊕ (MS × Int32 × Int32)) := some (.inl (S, x1, x2, (x3 + 1)))
theorem d_rsave_0 : decode prog_14_method_88_code 0 = .ok (.iload_n 1, 1) := by decide +kernel
theorem d_rsave_1 : decode prog_14_method_88_code 1 = .ok (.invokestatic 251, 3) := by decide +kernel
theorem d_rsave_4 : decode prog_14_method_88_code 4 = .ok (.ifCond .ne 9, 3) := by decide +kernel
theorem d_rsave_13 : decode prog_14_method_88_code 13 = .ok (.aload_n 0, 1) := by decide +kernel
theorem d_rsave_14 : decode prog_14_method_88_code 14 = .ok (.iload_n 1, 1) := by decide +kernel
theorem d_rsave_15 : decode prog_14_method_88_code 15 = .ok (.invokevirtual 387, 3) := by decide +kernel
theorem d_rsave_18 : decode prog_14_method_88_code 18 = .ok (.ifCond .le 9, 3) := by decide +kernel
theorem d_rsave_27 : decode prog_14_method_88_code 27 = .ok (.aload_n 0, 1) := by decide +kernel
theorem d_rsave_28 : decode prog_14_method_88_code 28 = .ok (.iconst 0, 1) := by decide +kernel
theorem d_rsave_29 : decode prog_14_method_88_code 29 = .ok (.putfield 176, 3) := by decide +kernel
theorem d_rsave_32 : decode prog_14_method_88_code 32 = .ok (.aload_n 0, 1) := by decide +kernel
theorem d_rsave_33 : decode prog_14_method_88_code 33 = .ok (.iconst 0, 1) := by decide +kernel
theorem d_rsave_34 : decode prog_14_method_88_code 34 = .ok (.putfield 433, 3) := by decide +kernel
theorem d_rsave_37 : decode prog_14_method_88_code 37 = .ok (.iconst 0, 1) := by decide +kernel
theorem d_rsave_38 : decode prog_14_method_88_code 38 = .ok (.istore_n 2, 1) := by decide +kernel
theorem d_rsave_39 : decode prog_14_method_88_code 39 = .ok (.iconst 0, 1) := by decide +kernel
theorem d_rsave_40 : decode prog_14_method_88_code 40 = .ok (.istore_n 3, 1) := by decide +kernel
theorem d_rsave_41 : decode prog_14_method_88_code 41 = .ok (.iload_n 3, 1) := by decide +kernel
theorem d_rsave_42 : decode prog_14_method_88_code 42 = .ok (.aload_n 0, 1) := by decide +kernel
theorem d_rsave_43 : decode prog_14_method_88_code 43 = .ok (.getfield 384, 3) := by decide +kernel
theorem d_rsave_46 : decode prog_14_method_88_code 46 = .ok (.if_icmp .ge 23, 3) := by decide +kernel
theorem d_rsave_49 : decode prog_14_method_88_code 49 = .ok (.aload_n 0, 1) := by decide +kernel
theorem d_rsave_50 : decode prog_14_method_88_code 50 = .ok (.getfield 95, 3) := by decide +kernel
theorem d_rsave_53 : decode prog_14_method_88_code 53 = .ok (.iload_n 1, 1) := by decide +kernel
theorem d_rsave_54 : decode prog_14_method_88_code 54 = .ok (.aaload, 1) := by decide +kernel
theorem d_rsave_55 : decode prog_14_method_88_code 55 = .ok (.iload_n 3, 1) := by decide +kernel
theorem d_rsave_56 : decode prog_14_method_88_code 56 = .ok (.baload, 1) := by decide +kernel
theorem d_rsave_57 : decode prog_14_method_88_code 57 = .ok (.ifCond .eq 6, 3) := by decide +kernel
theorem d_rsave_63 : decode prog_14_method_88_code 63 = .ok (.iinc 3 1, 3) := by decide +kernel
theorem d_rsave_66 : decode prog_14_method_88_code 66 = .ok (.goto (-25), 3) := by decide +kernel
set_option maxHeartbeats 4000000 in
set_option maxRecDepth 100000 in
theorem w_rsave_J63 {p : Program} {l : Launch} {e : Env} {s : State} {m : MethodId} {args : Array Value} {below : List Frame} {meth : Method} {c : Code} {A : Nat → Prop} {D : va_G} {md : Nat → Nat} {mc : Nat → ClassId} {Q : State → Prop} (hC : MCx "JoinedTreesModel" prog_14_method_88_code 6 (some .int) p s m args meth c A D mc) {S : MS} {x1 : Int32} {x2 : Int32} {x3 : Int32} {o : ((MS × Int32 × Int32 × Int32) ⊕ (MS × Int32 × Int32))} (Heq : m_rsave_J63 S x1 x2 x3 = some o) (Ka : ∀ b : MS × Int32 × Int32 × Int32, o = .inl b → ∀ (H : Heap) (locs : List Loc) (ls : Array Slot), va_P D cls (mw md mc b.1) H → va_D A (mw md mc b.1) → va_S A s.heap H locs → lv_has ls 6 [(0, .ref (md 100)), (1, .int b.2.1), (2, .int b.2.2.1), (3, .int b.2.2.2)] → W p l e ({ frames := 5, cells := 0, slots := 0, locals := 118 }) s m args below meth c H locs 0 0 Q (F0 m 41 ls [])) (K0 : ∀ b : MS × Int32 × Int32, o = .inr b → ∀ (H : Heap) (locs : List Loc) (ls : Array Slot), va_P D cls (mw md mc b.1) H → va_D A (mw md mc b.1) → va_S A s.heap H locs → lv_has ls 6 [(0, .ref (md 100)), (1, .int b.2.1), (2, .int b.2.2)] → W p l e ({ frames := 5, cells := 0, slots := 0, locals := 118 }) s m args below meth c H locs 0 0 Q (F0 m 69 ls [])) : ∀ (H : Heap) (locs : List Loc) (ls : Array Slot), va_P D cls (mw md mc S) H → va_D A (mw md mc S) → va_S A s.heap H locs → lv_has ls 6 [(0, .ref (md 100)), (1, .int x1), (2, .int x2), (3, .int x3)] → W p l e ({ frames := 5, cells := 0, slots := 0, locals := 118 }) s m args below meth c H locs 0 0 Q (F0 m 63 ls []) := by
  intro H locs ls hP hD hS hl
  obtain ⟨hx, hb, hr, hml, hown, hts, hK, hA⟩ := id hC
  unfold m_rsave_J63 at Heq
  refine lv_iinc (v := x3 + 1) (lv' := [(3, .int (x3 + 1)), (0, .ref (md 100)), (1, .int x1), (2, .int x2)]) hx hb d_rsave_63 hl (k := 3) rfl rfl (by decide) rfl (fun ls hl => ?_)
  refine lv_goto (tgt := 41) hx hb d_rsave_66 (by decide) ?_
  exact Ka _ (Option.some.inj Heq).symm _ _ _ hP hD hS (lv_sub hl [1, 2, 3, 0] rfl)
def m_rsave_B41 (S : MS) (x1 : Int32) (x2 : Int32) (x3 : Int32) : Option ((MS × Int32 × Int32 × Int32) ⊕ (MS × Int32 × Int32)) := (if S.i 34 ≤ x3 then some (.inr (S, x1, x2)) else gd x1 8 (gd x3 1000 ((if S.a (101 + x1.toNatClampNeg) x3.toNatClampNeg = 0 then m_rsave_J63 S x1 x2 x3 else m_rsave_J63 S x1 (x2 + 1) x3))))
theorem d_rsave_60 : decode prog_14_method_88_code 60 = .ok (.iinc 2 1, 3) := by decide +kernel
set_option maxHeartbeats 4000000 in
set_option maxRecDepth 100000 in
theorem w_rsave_B41 {p : Program} {l : Launch} {e : Env} {s : State} {m : MethodId} {args : Array Value} {below : List Frame} {meth : Method} {c : Code} {A : Nat → Prop} {D : va_G} {md : Nat → Nat} {mc : Nat → ClassId} {Q : State → Prop} (hC : MCx "JoinedTreesModel" prog_14_method_88_code 6 (some .int) p s m args meth c A D mc) {S : MS} {x1 : Int32} {x2 : Int32} {x3 : Int32} {o : ((MS × Int32 × Int32 × Int32) ⊕ (MS × Int32 × Int32))} (Heq : m_rsave_B41 S x1 x2 x3 = some o) (Ka : ∀ b : MS × Int32 × Int32 × Int32, o = .inl b → ∀ (H : Heap) (locs : List Loc) (ls : Array Slot), va_P D cls (mw md mc b.1) H → va_D A (mw md mc b.1) → va_S A s.heap H locs → lv_has ls 6 [(0, .ref (md 100)), (1, .int b.2.1), (2, .int b.2.2.1), (3, .int b.2.2.2)] → W p l e ({ frames := 5, cells := 0, slots := 0, locals := 118 }) s m args below meth c H locs 0 0 Q (F0 m 41 ls [])) (K0 : ∀ b : MS × Int32 × Int32, o = .inr b → ∀ (H : Heap) (locs : List Loc) (ls : Array Slot), va_P D cls (mw md mc b.1) H → va_D A (mw md mc b.1) → va_S A s.heap H locs → lv_has ls 6 [(0, .ref (md 100)), (1, .int b.2.1), (2, .int b.2.2)] → W p l e ({ frames := 5, cells := 0, slots := 0, locals := 118 }) s m args below meth c H locs 0 0 Q (F0 m 69 ls [])) : ∀ (H : Heap) (locs : List Loc) (ls : Array Slot), va_P D cls (mw md mc S) H → va_D A (mw md mc S) → va_S A s.heap H locs → lv_has ls 6 [(0, .ref (md 100)), (1, .int x1), (2, .int x2), (3, .int x3)] → W p l e ({ frames := 5, cells := 0, slots := 0, locals := 118 }) s m args below meth c H locs 0 0 Q (F0 m 41 ls []) := by
  intro H locs ls hP hD hS hl
  obtain ⟨hx, hb, hr, hml, hown, hts, hK, hA⟩ := id hC
  unfold m_rsave_B41 at Heq
  refine lv_iload_n hx hb d_rsave_41 rfl (lv_at hl 3 rfl) ?_
  refine lv_aload_n hx hb d_rsave_42 rfl (lv_at hl 0 rfl) ?_
  refine va_get (D := D) (ci := 12) (v := .int (S.i 34)) (C := R_MM) (T := F_MM) (N := 77) hx hb hts i_MM hown hK hP 0 rfl rfl 34 (by decide) (hts _ kw_1416) (fun _ h9 => h9) rfl d_rsave_43 ?_
  refine lv_icmp_ge (tgt := 69) hx hb d_rsave_46 (by decide) (fun c_1 => ?_) (fun c_1 => ?_)
  · replace Heq := (if_pos c_1).symm.trans Heq
    exact K0 _ (Option.some.inj Heq).symm _ _ _ hP hD hS (lv_sub hl [0, 1, 2] rfl)
  · replace Heq := (if_neg c_1).symm.trans Heq
    refine lv_aload_n hx hb d_rsave_49 rfl (lv_at hl 0 rfl) ?_
    refine va_get (D := D) (ci := 12) (v := .ref (md 36)) (C := R_MM) (T := F_MM) (N := 77) hx hb hts i_MM hown hK hP 0 rfl rfl 36 (by decide) (hts _ kw_1418) (fun _ h9 => h9) rfl d_rsave_50 ?_
    refine lv_iload_n hx hb d_rsave_53 rfl (lv_at hl 1 rfl) ?_
    obtain ⟨hi_2, Heq⟩ := gd_some Heq
    refine tx_ald2 hx hb hK hP 48 4 rfl rfl (i := x1) hi_2 d_rsave_54 ?_
    refine w_v (y := .ref (md (101 + x1.toNatClampNeg))) rfl ?_
    refine lv_iload_n hx hb d_rsave_55 rfl (lv_at hl 3 rfl) ?_
    obtain ⟨hi_3, Heq⟩ := gd_some Heq
    refine va_zald hx hb hK hP (51 + x1.toNatClampNeg) 2 (mp_R101 (vp_in.lt hi_2)) rfl (i := x3) hi_3 d_rsave_56 ?_
    refine w_i (y := S.a (101 + x1.toNatClampNeg) x3.toNatClampNeg) rfl ?_
    refine lv_if_eq (tgt := 63) hx hb d_rsave_57 (by decide) (fun c_4 => ?_) (fun c_4 => ?_)
    · replace Heq := (if_pos c_4).symm.trans Heq
      exact w_rsave_J63 hC Heq Ka K0 _ _ _ hP hD hS (lv_sub hl [0, 1, 2, 3] rfl)
    · replace Heq := (if_neg c_4).symm.trans Heq
      refine lv_iinc (v := x2 + 1) (lv' := [(2, .int (x2 + 1)), (0, .ref (md 100)), (1, .int x1), (3, .int x3)]) hx hb d_rsave_60 hl (k := 2) rfl rfl (by decide) rfl (fun ls hl => ?_)
      exact w_rsave_J63 hC Heq Ka K0 _ _ _ hP hD hS (lv_sub hl [1, 2, 0, 3] rfl)
def m_rsave_L41 (S : MS) (x1 : Int32) (x2 : Int32) (x3 : Int32) : Option (MS × Int32 × Int32) := lp (fun a : MS × Int32 × Int32 × Int32 => m_rsave_B41 a.1 a.2.1 a.2.2.1 a.2.2.2) FU (S, x1, x2, x3)
theorem w_rsave_L41 {p : Program} {l : Launch} {e : Env} {s : State} {m : MethodId} {args : Array Value} {below : List Frame} {meth : Method} {c : Code} {A : Nat → Prop} {D : va_G} {md : Nat → Nat} {mc : Nat → ClassId} {Q : State → Prop} (hC : MCx "JoinedTreesModel" prog_14_method_88_code 6 (some .int) p s m args meth c A D mc) {S : MS} {x1 : Int32} {x2 : Int32} {x3 : Int32} {o : MS × Int32 × Int32} (Heq : m_rsave_L41 S x1 x2 x3 = some o) (K0 : ∀ b : MS × Int32 × Int32, o = b → ∀ (H : Heap) (locs : List Loc) (ls : Array Slot), va_P D cls (mw md mc b.1) H → va_D A (mw md mc b.1) → va_S A s.heap H locs → lv_has ls 6 [(0, .ref (md 100)), (1, .int b.2.1), (2, .int b.2.2)] → W p l e ({ frames := 5, cells := 0, slots := 0, locals := 118 }) s m args below meth c H locs 0 0 Q (F0 m 69 ls [])) : ∀ (H : Heap) (locs : List Loc) (ls : Array Slot), va_P D cls (mw md mc S) H → va_D A (mw md mc S) → va_S A s.heap H locs → lv_has ls 6 [(0, .ref (md 100)), (1, .int x1), (2, .int x2), (3, .int x3)] → W p l e ({ frames := 5, cells := 0, slots := 0, locals := 118 }) s m args below meth c H locs 0 0 Q (F0 m 41 ls []) := by
  refine lp_w (G := fun a : MS × Int32 × Int32 × Int32 => ∀ (H : Heap) (locs : List Loc) (ls : Array Slot), va_P D cls (mw md mc a.1) H → va_D A (mw md mc a.1) → va_S A s.heap H locs → lv_has ls 6 [(0, .ref (md 100)), (1, .int a.2.1), (2, .int a.2.2.1), (3, .int a.2.2.2)] → W p l e ({ frames := 5, cells := 0, slots := 0, locals := 118 }) s m args below meth c H locs 0 0 Q (F0 m 41 ls [])) ?_ FU (S, x1, x2, x3) Heq
  intro a o1 ho Ka Ke
  exact w_rsave_B41 hC ho (fun b h => Ka b h) (fun b h => K0 b (Ke _ h).symm)
def m_rsave_J129 (S : MS) (x1 : Int32) (x3 : Int32) (x4 : Int32) : Option ((MS × Int32 × Int32 × Int32) ⊕ (MS × Int32 × Int32)) := some (.inl (S, x1, x3, (x4 + 1)))
theorem d_rsave_69 : decode prog_14_method_88_code 69 = .ok (.aload_n 0, 1) := by decide +kernel
theorem d_rsave_70 : decode prog_14_method_88_code 70 = .ok (.iload_n 2, 1) := by decide +kernel
theorem d_rsave_71 : decode prog_14_method_88_code 71 = .ok (.i2l, 1) := by decide +kernel
theorem d_rsave_72 : decode prog_14_method_88_code 72 = .ok (.invokevirtual 474, 3) := by decide +kernel
theorem d_rsave_75 : decode prog_14_method_88_code 75 = .ok (.iconst 0, 1) := by decide +kernel
theorem d_rsave_76 : decode prog_14_method_88_code 76 = .ok (.istore_n 3, 1) := by decide +kernel
theorem d_rsave_77 : decode prog_14_method_88_code 77 = .ok (.iload_n 3, 1) := by decide +kernel
theorem d_rsave_78 : decode prog_14_method_88_code 78 = .ok (.bipush 8, 2) := by decide +kernel
theorem d_rsave_80 : decode prog_14_method_88_code 80 = .ok (.if_icmp .ge 61, 3) := by decide +kernel
theorem d_rsave_83 : decode prog_14_method_88_code 83 = .ok (.iconst 1, 1) := by decide +kernel
theorem d_rsave_84 : decode prog_14_method_88_code 84 = .ok (.istore 4, 2) := by decide +kernel
theorem d_rsave_86 : decode prog_14_method_88_code 86 = .ok (.iload 4, 2) := by decide +kernel
theorem d_rsave_88 : decode prog_14_method_88_code 88 = .ok (.sipush 1000, 3) := by decide +kernel
theorem d_rsave_91 : decode prog_14_method_88_code 91 = .ok (.if_icmp .gt 44, 3) := by decide +kernel
theorem d_rsave_94 : decode prog_14_method_88_code 94 = .ok (.aload_n 0, 1) := by decide +kernel
theorem d_rsave_95 : decode prog_14_method_88_code 95 = .ok (.iload_n 3, 1) := by decide +kernel
theorem d_rsave_96 : decode prog_14_method_88_code 96 = .ok (.iload 4, 2) := by decide +kernel
theorem d_rsave_98 : decode prog_14_method_88_code 98 = .ok (.invokevirtual 399, 3) := by decide +kernel
theorem d_rsave_101 : decode prog_14_method_88_code 101 = .ok (.istore 5, 2) := by decide +kernel
theorem d_rsave_103 : decode prog_14_method_88_code 103 = .ok (.iload 5, 2) := by decide +kernel
theorem d_rsave_105 : decode prog_14_method_88_code 105 = .ok (.ifCond .ge 6, 3) := by decide +kernel
theorem d_rsave_111 : decode prog_14_method_88_code 111 = .ok (.aload_n 0, 1) := by decide +kernel
theorem d_rsave_112 : decode prog_14_method_88_code 112 = .ok (.getfield 95, 3) := by decide +kernel
theorem d_rsave_115 : decode prog_14_method_88_code 115 = .ok (.iload_n 1, 1) := by decide +kernel
theorem d_rsave_116 : decode prog_14_method_88_code 116 = .ok (.aaload, 1) := by decide +kernel
theorem d_rsave_117 : decode prog_14_method_88_code 117 = .ok (.iload 5, 2) := by decide +kernel
theorem d_rsave_119 : decode prog_14_method_88_code 119 = .ok (.baload, 1) := by decide +kernel
theorem d_rsave_120 : decode prog_14_method_88_code 120 = .ok (.ifCond .eq 9, 3) := by decide +kernel
theorem d_rsave_129 : decode prog_14_method_88_code 129 = .ok (.iinc 4 1, 3) := by decide +kernel
theorem d_rsave_132 : decode prog_14_method_88_code 132 = .ok (.goto (-46), 3) := by decide +kernel
set_option maxHeartbeats 4000000 in
set_option maxRecDepth 100000 in
theorem w_rsave_J129 {p : Program} {l : Launch} {e : Env} {s : State} {m : MethodId} {args : Array Value} {below : List Frame} {meth : Method} {c : Code} {A : Nat → Prop} {D : va_G} {md : Nat → Nat} {mc : Nat → ClassId} {Q : State → Prop} (hC : MCx "JoinedTreesModel" prog_14_method_88_code 6 (some .int) p s m args meth c A D mc) {S : MS} {x1 : Int32} {x3 : Int32} {x4 : Int32} {o : ((MS × Int32 × Int32 × Int32) ⊕ (MS × Int32 × Int32))} (Heq : m_rsave_J129 S x1 x3 x4 = some o) (Ka : ∀ b : MS × Int32 × Int32 × Int32, o = .inl b → ∀ (H : Heap) (locs : List Loc) (ls : Array Slot), va_P D cls (mw md mc b.1) H → va_D A (mw md mc b.1) → va_S A s.heap H locs → lv_has ls 6 [(0, .ref (md 100)), (1, .int b.2.1), (3, .int b.2.2.1), (4, .int b.2.2.2)] → W p l e ({ frames := 5, cells := 0, slots := 0, locals := 118 }) s m args below meth c H locs 0 0 Q (F0 m 86 ls [])) (K0 : ∀ b : MS × Int32 × Int32, o = .inr b → ∀ (H : Heap) (locs : List Loc) (ls : Array Slot), va_P D cls (mw md mc b.1) H → va_D A (mw md mc b.1) → va_S A s.heap H locs → lv_has ls 6 [(0, .ref (md 100)), (1, .int b.2.1), (3, .int b.2.2)] → W p l e ({ frames := 5, cells := 0, slots := 0, locals := 118 }) s m args below meth c H locs 0 0 Q (F0 m 135 ls [])) : ∀ (H : Heap) (locs : List Loc) (ls : Array Slot), va_P D cls (mw md mc S) H → va_D A (mw md mc S) → va_S A s.heap H locs → lv_has ls 6 [(0, .ref (md 100)), (1, .int x1), (3, .int x3), (4, .int x4)] → W p l e ({ frames := 5, cells := 0, slots := 0, locals := 118 }) s m args below meth c H locs 0 0 Q (F0 m 129 ls []) := by
  intro H locs ls hP hD hS hl
  obtain ⟨hx, hb, hr, hml, hown, hts, hK, hA⟩ := id hC
  unfold m_rsave_J129 at Heq
  refine lv_iinc (v := x4 + 1) (lv' := [(4, .int (x4 + 1)), (0, .ref (md 100)), (1, .int x1), (3, .int x3)]) hx hb d_rsave_129 hl (k := 3) rfl rfl (by decide) rfl (fun ls hl => ?_)
  refine lv_goto (tgt := 86) hx hb d_rsave_132 (by decide) ?_
  exact Ka _ (Option.some.inj Heq).symm _ _ _ hP hD hS (lv_sub hl [1, 2, 3, 0] rfl)
def m_rsave_B86 (S : MS) (x1 : Int32) (x3 : Int32) (x4 : Int32) : Option ((MS × Int32 × Int32 × Int32) ⊕ (MS × Int32 × Int32)) := (if 1000 < x4 then some (.inr (S, x1, x3)) else ob (m_rfind S x3 x4) (fun o_2 => (if 0 ≤ o_2.2 then gd x1 8 (gd o_2.2 1000 ((if o_2.1.a (101 + x1.toNatClampNeg) o_2.2.toNatClampNeg = 0 then m_rsave_J129 o_2.1 x1 x3 x4 else ob (m_rsaveChange o_2.1 o_2.2) (fun o_8 => m_rsave_J129 o_8 x1 x3 x4)))) else some (.inr (o_2.1, x1, x3)))))
theorem d_rsave_123 : decode prog_14_method_88_code 123 = .ok (.aload_n 0, 1) := by decide +kernel
theorem d_rsave_124 : decode prog_14_method_88_code 124 = .ok (.iload 5, 2) := by decide +kernel
theorem d_rsave_126 : decode prog_14_method_88_code 126 = .ok (.invokevirtual 490, 3) := by decide +kernel
theorem d_rsave_108 : decode prog_14_method_88_code 108 = .ok (.goto 27, 3) := by decide +kernel
set_option maxHeartbeats 4000000 in
set_option maxRecDepth 100000 in
theorem w_rsave_B86 {p : Program} {l : Launch} {e : Env} {s : State} {m : MethodId} {args : Array Value} {below : List Frame} {meth : Method} {c : Code} {A : Nat → Prop} {D : va_G} {md : Nat → Nat} {mc : Nat → ClassId} {Q : State → Prop} (hC : MCx "JoinedTreesModel" prog_14_method_88_code 6 (some .int) p s m args meth c A D mc) {S : MS} {x1 : Int32} {x3 : Int32} {x4 : Int32} {o : ((MS × Int32 × Int32 × Int32) ⊕ (MS × Int32 × Int32))} (Heq : m_rsave_B86 S x1 x3 x4 = some o) (Ka : ∀ b : MS × Int32 × Int32 × Int32, o = .inl b → ∀ (H : Heap) (locs : List Loc) (ls : Array Slot), va_P D cls (mw md mc b.1) H → va_D A (mw md mc b.1) → va_S A s.heap H locs → lv_has ls 6 [(0, .ref (md 100)), (1, .int b.2.1), (3, .int b.2.2.1), (4, .int b.2.2.2)] → W p l e ({ frames := 5, cells := 0, slots := 0, locals := 118 }) s m args below meth c H locs 0 0 Q (F0 m 86 ls [])) (K0 : ∀ b : MS × Int32 × Int32, o = .inr b → ∀ (H : Heap) (locs : List Loc) (ls : Array Slot), va_P D cls (mw md mc b.1) H → va_D A (mw md mc b.1) → va_S A s.heap H locs → lv_has ls 6 [(0, .ref (md 100)), (1, .int b.2.1), (3, .int b.2.2)] → W p l e ({ frames := 5, cells := 0, slots := 0, locals := 118 }) s m args below meth c H locs 0 0 Q (F0 m 135 ls [])) : ∀ (H : Heap) (locs : List Loc) (ls : Array Slot), va_P D cls (mw md mc S) H → va_D A (mw md mc S) → va_S A s.heap H locs → lv_has ls 6 [(0, .ref (md 100)), (1, .int x1), (3, .int x3), (4, .int x4)] → W p l e ({ frames := 5, cells := 0, slots := 0, locals := 118 }) s m args below meth c H locs 0 0 Q (F0 m 86 ls []) := by
  intro H locs ls hP hD hS hl
  obtain ⟨hx, hb, hr, hml, hown, hts, hK, hA⟩ := id hC
  unfold m_rsave_B86 at Heq
  refine lv_iload hx hb d_rsave_86 (lv_at hl 3 rfl) ?_
  refine lv_sipush (v := 1000) hx hb d_rsave_88 (by decide) ?_
  refine lv_icmp_gt (tgt := 135) hx hb d_rsave_91 (by decide) (fun c_1 => ?_) (fun c_1 => ?_)
  · replace Heq := (if_pos c_1).symm.trans Heq
    exact K0 _ (Option.some.inj Heq).symm _ _ _ hP hD hS (lv_sub hl [0, 1, 2] rfl)
  · replace Heq := (if_neg c_1).symm.trans Heq
    refine lv_aload_n hx hb d_rsave_94 rfl (lv_at hl 0 rfl) ?_
    refine lv_iload_n hx hb d_rsave_95 rfl (lv_at hl 2 rfl) ?_
    refine lv_iload hx hb d_rsave_96 (lv_at hl 3 rfl) ?_
    obtain ⟨o_2, h_3, Heq⟩ := ob_some Heq
    have hFc := fr_all hD hS hA
    refine va_calli (va_runV (As := [.int x3, .int x4]) (rest := []) ⟨hx, hb, hml, hown, hts⟩ (g_rfind l D H.size h_3) (cw_v 2 hts kw_1835 kw_1832 kw_1834 kp_66 kw_11 rfl rfl (by decide +kernel) ⟨Nat.le_of_ble_eq_true rfl, Nat.le_of_ble_eq_true rfl⟩) ⟨g_blind, va_recv hK hP (ci := 12) (q0 := 0) rfl rfl, fun U hU hW => g_pre hU hW hP hK hD⟩ rfl rfl hl.1 rfl (lv_room (Nat.le_of_ble_eq_true rfl)) d_rsave_98 ⟨Nat.le_of_ble_eq_true rfl, Nat.le_of_ble_eq_true rfl⟩) hS (fun q _ h => hFc q h) hFc (fun rz u t H1 locs ht hvm hw hB hz1 hk1 hS => ?_)
    obtain ⟨hP, -, hD1⟩ := hB
    rw [ht] at hP
    have hD := hD1.weaken (fun _ q _ h => hFc q.1 h)
    generalize H1 = H at hP hS ⊢
    refine W.cs (cells' := 0) (slots' := 0) rfl rfl ?_
    subst hw
    refine lv_istore (lv' := [(5, .int o_2.2), (0, .ref (md 100)), (1, .int x1), (3, .int x3), (4, .int x4)]) hx hb d_rsave_101 hl (by decide) rfl (fun ls hl => ?_)
    refine lv_iload hx hb d_rsave_103 (lv_at hl 0 rfl) ?_
    refine lv_if_ge (tgt := 111) hx hb d_rsave_105 (by decide) (fun c_4 => ?_) (fun c_4 => ?_)
    · replace Heq := (if_pos c_4).symm.trans Heq
      refine lv_aload_n hx hb d_rsave_111 rfl (lv_at hl 1 rfl) ?_
      refine va_get (D := D) (ci := 12) (v := .ref (md 36)) (C := R_MM) (T := F_MM) (N := 77) hx hb hts i_MM hown hK hP 0 rfl rfl 36 (by decide) (hts _ kw_1418) (fun _ h9 => h9) rfl d_rsave_112 ?_
      refine lv_iload_n hx hb d_rsave_115 rfl (lv_at hl 2 rfl) ?_
      obtain ⟨hi_5, Heq⟩ := gd_some Heq
      refine tx_ald2 hx hb hK hP 48 4 rfl rfl (i := x1) hi_5 d_rsave_116 ?_
      refine w_v (y := .ref (md (101 + x1.toNatClampNeg))) rfl ?_
      refine lv_iload hx hb d_rsave_117 (lv_at hl 0 rfl) ?_
      obtain ⟨hi_6, Heq⟩ := gd_some Heq
      refine va_zald hx hb hK hP (51 + x1.toNatClampNeg) 2 (mp_R101 (vp_in.lt hi_5)) rfl (i := o_2.2) hi_6 d_rsave_119 ?_
      refine w_i (y := o_2.1.a (101 + x1.toNatClampNeg) o_2.2.toNatClampNeg) rfl ?_
      refine lv_if_eq (tgt := 129) hx hb d_rsave_120 (by decide) (fun c_7 => ?_) (fun c_7 => ?_)
      · replace Heq := (if_pos c_7).symm.trans Heq
        exact w_rsave_J129 hC Heq Ka K0 _ _ _ hP hD hS (lv_sub hl [1, 2, 3, 4] rfl)
      · replace Heq := (if_neg c_7).symm.trans Heq
        refine lv_aload_n hx hb d_rsave_123 rfl (lv_at hl 1 rfl) ?_
        refine lv_iload hx hb d_rsave_124 (lv_at hl 0 rfl) ?_
        obtain ⟨o_8, h_9, Heq⟩ := ob_some Heq
        have hFc := fr_all hD hS hA
        refine va_callv (va_runV (As := [.int o_2.2]) (rest := []) ⟨hx, hb, hml, hown, hts⟩ (g_rsaveChange l D H.size h_9) (cw_v 1 hts kw_1955 kw_1952 kw_1954 kp_83 kw_11 rfl rfl (by decide +kernel) ⟨Nat.le_of_ble_eq_true rfl, Nat.le_of_ble_eq_true rfl⟩) ⟨g_blind, va_recv hK hP (ci := 12) (q0 := 0) rfl rfl, fun U hU hW => g_pre hU hW hP hK hD⟩ rfl rfl hl.1 rfl (lv_room (Nat.le_of_ble_eq_true rfl)) d_rsave_126 ⟨Nat.le_of_ble_eq_true rfl, Nat.le_of_ble_eq_true rfl⟩) hS (fun q _ h => hFc q h) hFc (fun u t H1 locs ht hvm hw hB hz1 hk1 hS => ?_)
        obtain ⟨hP, -, hD1⟩ := hB
        rw [ht] at hP
        have hD := hD1.weaken (fun _ q _ h => hFc q.1 h)
        generalize H1 = H at hP hS ⊢
        refine W.cs (cells' := 0) (slots' := 0) rfl rfl ?_
        exact w_rsave_J129 hC Heq Ka K0 _ _ _ hP hD hS (lv_sub hl [1, 2, 3, 4] rfl)
    · replace Heq := (if_neg c_4).symm.trans Heq
      refine lv_goto (tgt := 135) hx hb d_rsave_108 (by decide) ?_
      exact K0 _ (Option.some.inj Heq).symm _ _ _ hP hD hS (lv_sub hl [1, 2, 3] rfl)
def m_rsave_L86 (S : MS) (x1 : Int32) (x3 : Int32) (x4 : Int32) : Option (MS × Int32 × Int32) := lp (fun a : MS × Int32 × Int32 × Int32 => m_rsave_B86 a.1 a.2.1 a.2.2.1 a.2.2.2) FU (S, x1, x3, x4)
theorem w_rsave_L86 {p : Program} {l : Launch} {e : Env} {s : State} {m : MethodId} {args : Array Value} {below : List Frame} {meth : Method} {c : Code} {A : Nat → Prop} {D : va_G} {md : Nat → Nat} {mc : Nat → ClassId} {Q : State → Prop} (hC : MCx "JoinedTreesModel" prog_14_method_88_code 6 (some .int) p s m args meth c A D mc) {S : MS} {x1 : Int32} {x3 : Int32} {x4 : Int32} {o : MS × Int32 × Int32} (Heq : m_rsave_L86 S x1 x3 x4 = some o) (K0 : ∀ b : MS × Int32 × Int32, o = b → ∀ (H : Heap) (locs : List Loc) (ls : Array Slot), va_P D cls (mw md mc b.1) H → va_D A (mw md mc b.1) → va_S A s.heap H locs → lv_has ls 6 [(0, .ref (md 100)), (1, .int b.2.1), (3, .int b.2.2)] → W p l e ({ frames := 5, cells := 0, slots := 0, locals := 118 }) s m args below meth c H locs 0 0 Q (F0 m 135 ls [])) : ∀ (H : Heap) (locs : List Loc) (ls : Array Slot), va_P D cls (mw md mc S) H → va_D A (mw md mc S) → va_S A s.heap H locs → lv_has ls 6 [(0, .ref (md 100)), (1, .int x1), (3, .int x3), (4, .int x4)] → W p l e ({ frames := 5, cells := 0, slots := 0, locals := 118 }) s m args below meth c H locs 0 0 Q (F0 m 86 ls []) := by
  refine lp_w (G := fun a : MS × Int32 × Int32 × Int32 => ∀ (H : Heap) (locs : List Loc) (ls : Array Slot), va_P D cls (mw md mc a.1) H → va_D A (mw md mc a.1) → va_S A s.heap H locs → lv_has ls 6 [(0, .ref (md 100)), (1, .int a.2.1), (3, .int a.2.2.1), (4, .int a.2.2.2)] → W p l e ({ frames := 5, cells := 0, slots := 0, locals := 118 }) s m args below meth c H locs 0 0 Q (F0 m 86 ls [])) ?_ FU (S, x1, x3, x4) Heq
  intro a o1 ho Ka Ke
  exact w_rsave_B86 hC ho (fun b h => Ka b h) (fun b h => K0 b (Ke _ h).symm)
def m_rsave_J135 (S : MS) (x1 : Int32) (x3 : Int32) : Option ((MS × Int32 × Int32) ⊕ MS) := some (.inl (S, x1, (x3 + 1)))
theorem d_rsave_135 : decode prog_14_method_88_code 135 = .ok (.iinc 3 1, 3) := by decide +kernel
theorem d_rsave_138 : decode prog_14_method_88_code 138 = .ok (.goto (-61), 3) := by decide +kernel
set_option maxHeartbeats 4000000 in
set_option maxRecDepth 100000 in
theorem w_rsave_J135 {p : Program} {l : Launch} {e : Env} {s : State} {m : MethodId} {args : Array Value} {below : List Frame} {meth : Method} {c : Code} {A : Nat → Prop} {D : va_G} {md : Nat → Nat} {mc : Nat → ClassId} {Q : State → Prop} (hC : MCx "JoinedTreesModel" prog_14_method_88_code 6 (some .int) p s m args meth c A D mc) {S : MS} {x1 : Int32} {x3 : Int32} {o : ((MS × Int32 × Int32) ⊕ MS)} (Heq : m_rsave_J135 S x1 x3 = some o) (Ka : ∀ b : MS × Int32 × Int32, o = .inl b → ∀ (H : Heap) (locs : List Loc) (ls : Array Slot), va_P D cls (mw md mc b.1) H → va_D A (mw md mc b.1) → va_S A s.heap H locs → lv_has ls 6 [(0, .ref (md 100)), (1, .int b.2.1), (3, .int b.2.2)] → W p l e ({ frames := 5, cells := 0, slots := 0, locals := 118 }) s m args below meth c H locs 0 0 Q (F0 m 77 ls [])) (K0 : ∀ b : MS, o = .inr b → ∀ (H : Heap) (locs : List Loc) (ls : Array Slot), va_P D cls (mw md mc b) H → va_D A (mw md mc b) → va_S A s.heap H locs → lv_has ls 6 [(0, .ref (md 100))] → W p l e ({ frames := 5, cells := 0, slots := 0, locals := 118 }) s m args below meth c H locs 0 0 Q (F0 m 141 ls [])) : ∀ (H : Heap) (locs : List Loc) (ls : Array Slot), va_P D cls (mw md mc S) H → va_D A (mw md mc S) → va_S A s.heap H locs → lv_has ls 6 [(0, .ref (md 100)), (1, .int x1), (3, .int x3)] → W p l e ({ frames := 5, cells := 0, slots := 0, locals := 118 }) s m args below meth c H locs 0 0 Q (F0 m 135 ls []) := by
  intro H locs ls hP hD hS hl
  obtain ⟨hx, hb, hr, hml, hown, hts, hK, hA⟩ := id hC
  unfold m_rsave_J135 at Heq
  refine lv_iinc (v := x3 + 1) (lv' := [(3, .int (x3 + 1)), (0, .ref (md 100)), (1, .int x1)]) hx hb d_rsave_135 hl (k := 2) rfl rfl (by decide) rfl (fun ls hl => ?_)
  refine lv_goto (tgt := 77) hx hb d_rsave_138 (by decide) ?_
  exact Ka _ (Option.some.inj Heq).symm _ _ _ hP hD hS (lv_sub hl [1, 2, 0] rfl)
def m_rsave_B77 (S : MS) (x1 : Int32) (x3 : Int32) : Option ((MS × Int32 × Int32) ⊕ MS) := (if 8 ≤ x3 then some (.inr (S)) else ob (m_rsave_L86 S x1 x3 1) (fun b_2 => m_rsave_J135 b_2.1 b_2.2.1 b_2.2.2))
set_option maxHeartbeats 4000000 in
set_option maxRecDepth 100000 in
theorem w_rsave_B77 {p : Program} {l : Launch} {e : Env} {s : State} {m : MethodId} {args : Array Value} {below : List Frame} {meth : Method} {c : Code} {A : Nat → Prop} {D : va_G} {md : Nat → Nat} {mc : Nat → ClassId} {Q : State → Prop} (hC : MCx "JoinedTreesModel" prog_14_method_88_code 6 (some .int) p s m args meth c A D mc) {S : MS} {x1 : Int32} {x3 : Int32} {o : ((MS × Int32 × Int32) ⊕ MS)} (Heq : m_rsave_B77 S x1 x3 = some o) (Ka : ∀ b : MS × Int32 × Int32, o = .inl b → ∀ (H : Heap) (locs : List Loc) (ls : Array Slot), va_P D cls (mw md mc b.1) H → va_D A (mw md mc b.1) → va_S A s.heap H locs → lv_has ls 6 [(0, .ref (md 100)), (1, .int b.2.1), (3, .int b.2.2)] → W p l e ({ frames := 5, cells := 0, slots := 0, locals := 118 }) s m args below meth c H locs 0 0 Q (F0 m 77 ls [])) (K0 : ∀ b : MS, o = .inr b → ∀ (H : Heap) (locs : List Loc) (ls : Array Slot), va_P D cls (mw md mc b) H → va_D A (mw md mc b) → va_S A s.heap H locs → lv_has ls 6 [(0, .ref (md 100))] → W p l e ({ frames := 5, cells := 0, slots := 0, locals := 118 }) s m args below meth c H locs 0 0 Q (F0 m 141 ls [])) : ∀ (H : Heap) (locs : List Loc) (ls : Array Slot), va_P D cls (mw md mc S) H → va_D A (mw md mc S) → va_S A s.heap H locs → lv_has ls 6 [(0, .ref (md 100)), (1, .int x1), (3, .int x3)] → W p l e ({ frames := 5, cells := 0, slots := 0, locals := 118 }) s m args below meth c H locs 0 0 Q (F0 m 77 ls []) := by
  intro H locs ls hP hD hS hl
  obtain ⟨hx, hb, hr, hml, hown, hts, hK, hA⟩ := id hC
  unfold m_rsave_B77 at Heq
  refine lv_iload_n hx hb d_rsave_77 rfl (lv_at hl 2 rfl) ?_
  refine lv_bipush (v := 8) hx hb d_rsave_78 (by decide) ?_
  refine lv_icmp_ge (tgt := 141) hx hb d_rsave_80 (by decide) (fun c_1 => ?_) (fun c_1 => ?_)
  · replace Heq := (if_pos c_1).symm.trans Heq
    exact K0 _ (Option.some.inj Heq).symm _ _ _ hP hD hS (lv_sub hl [0] rfl)
  · replace Heq := (if_neg c_1).symm.trans Heq
    refine lv_iconst (v := 1) hx hb d_rsave_83 (by decide) ?_
    refine lv_istore (lv' := [(4, .int 1), (0, .ref (md 100)), (1, .int x1), (3, .int x3)]) hx hb d_rsave_84 hl (by decide) rfl (fun ls hl => ?_)
    obtain ⟨b_2, h_3, Heq⟩ := ob_some Heq
    refine w_rsave_L86 hC h_3 (fun b h => ?_) _ _ _ hP hD hS (lv_sub hl [1, 2, 3, 0] rfl)
    subst h
    intro H locs ls hP hD hS hl
    exact w_rsave_J135 hC Heq Ka K0 _ _ _ hP hD hS (lv_sub hl [0, 1, 2] rfl)
def m_rsave_L77 (S : MS) (x1 : Int32) (x3 : Int32) : Option MS := lp (fun a : MS × Int32 × Int32 => m_rsave_B77 a.1 a.2.1 a.2.2) FU (S, x1, x3)
theorem w_rsave_L77 {p : Program} {l : Launch} {e : Env} {s : State} {m : MethodId} {args : Array Value} {below : List Frame} {meth : Method} {c : Code} {A : Nat → Prop} {D : va_G} {md : Nat → Nat} {mc : Nat → ClassId} {Q : State → Prop} (hC : MCx "JoinedTreesModel" prog_14_method_88_code 6 (some .int) p s m args meth c A D mc) {S : MS} {x1 : Int32} {x3 : Int32} {o : MS} (Heq : m_rsave_L77 S x1 x3 = some o) (K0 : ∀ b : MS, o = b → ∀ (H : Heap) (locs : List Loc) (ls : Array Slot), va_P D cls (mw md mc b) H → va_D A (mw md mc b) → va_S A s.heap H locs → lv_has ls 6 [(0, .ref (md 100))] → W p l e ({ frames := 5, cells := 0, slots := 0, locals := 118 }) s m args below meth c H locs 0 0 Q (F0 m 141 ls [])) : ∀ (H : Heap) (locs : List Loc) (ls : Array Slot), va_P D cls (mw md mc S) H → va_D A (mw md mc S) → va_S A s.heap H locs → lv_has ls 6 [(0, .ref (md 100)), (1, .int x1), (3, .int x3)] → W p l e ({ frames := 5, cells := 0, slots := 0, locals := 118 }) s m args below meth c H locs 0 0 Q (F0 m 77 ls []) := by
  refine lp_w (G := fun a : MS × Int32 × Int32 => ∀ (H : Heap) (locs : List Loc) (ls : Array Slot), va_P D cls (mw md mc a.1) H → va_D A (mw md mc a.1) → va_S A s.heap H locs → lv_has ls 6 [(0, .ref (md 100)), (1, .int a.2.1), (3, .int a.2.2)] → W p l e ({ frames := 5, cells := 0, slots := 0, locals := 118 }) s m args below meth c H locs 0 0 Q (F0 m 77 ls [])) ?_ FU (S, x1, x3) Heq
  intro a o1 ho Ka Ke
  exact w_rsave_B77 hC ho (fun b h => Ka b h) (fun b h => K0 b (Ke _ h).symm)
def m_rsave_B154 (S : MS) (x3 : Int32) (x4 : Int32) : Option ((MS × Int32 × Int32) ⊕ MS) := (if x4 < 0 then some (.inr (S)) else ob (m_rwrite S (ushr32 x3 x4)) (fun o_2 => some (.inl (o_2, x3, (x4 + (-8))))))
theorem d_rsave_141 : decode prog_14_method_88_code 141 = .ok (.aload_n 0, 1) := by decide +kernel
theorem d_rsave_142 : decode prog_14_method_88_code 142 = .ok (.aload_n 0, 1) := by decide +kernel
theorem d_rsave_143 : decode prog_14_method_88_code 143 = .ok (.getfield 433, 3) := by decide +kernel
theorem d_rsave_146 : decode prog_14_method_88_code 146 = .ok (.invokevirtual 493, 3) := by decide +kernel
theorem d_rsave_149 : decode prog_14_method_88_code 149 = .ok (.istore_n 3, 1) := by decide +kernel
theorem d_rsave_150 : decode prog_14_method_88_code 150 = .ok (.bipush 24, 2) := by decide +kernel
theorem d_rsave_152 : decode prog_14_method_88_code 152 = .ok (.istore 4, 2) := by decide +kernel
theorem d_rsave_154 : decode prog_14_method_88_code 154 = .ok (.iload 4, 2) := by decide +kernel
theorem d_rsave_156 : decode prog_14_method_88_code 156 = .ok (.ifCond .lt 17, 3) := by decide +kernel
theorem d_rsave_159 : decode prog_14_method_88_code 159 = .ok (.aload_n 0, 1) := by decide +kernel
theorem d_rsave_160 : decode prog_14_method_88_code 160 = .ok (.iload_n 3, 1) := by decide +kernel
theorem d_rsave_161 : decode prog_14_method_88_code 161 = .ok (.iload 4, 2) := by decide +kernel
theorem d_rsave_163 : decode prog_14_method_88_code 163 = .ok (.iushr, 1) := by decide +kernel
theorem d_rsave_164 : decode prog_14_method_88_code 164 = .ok (.invokevirtual 436, 3) := by decide +kernel
theorem d_rsave_167 : decode prog_14_method_88_code 167 = .ok (.iinc 4 (-8), 3) := by decide +kernel
theorem d_rsave_170 : decode prog_14_method_88_code 170 = .ok (.goto (-16), 3) := by decide +kernel
set_option maxHeartbeats 4000000 in
set_option maxRecDepth 100000 in
theorem w_rsave_B154 {p : Program} {l : Launch} {e : Env} {s : State} {m : MethodId} {args : Array Value} {below : List Frame} {meth : Method} {c : Code} {A : Nat → Prop} {D : va_G} {md : Nat → Nat} {mc : Nat → ClassId} {Q : State → Prop} (hC : MCx "JoinedTreesModel" prog_14_method_88_code 6 (some .int) p s m args meth c A D mc) {S : MS} {x3 : Int32} {x4 : Int32} {o : ((MS × Int32 × Int32) ⊕ MS)} (Heq : m_rsave_B154 S x3 x4 = some o) (Ka : ∀ b : MS × Int32 × Int32, o = .inl b → ∀ (H : Heap) (locs : List Loc) (ls : Array Slot), va_P D cls (mw md mc b.1) H → va_D A (mw md mc b.1) → va_S A s.heap H locs → lv_has ls 6 [(0, .ref (md 100)), (3, .int b.2.1), (4, .int b.2.2)] → W p l e ({ frames := 5, cells := 0, slots := 0, locals := 118 }) s m args below meth c H locs 0 0 Q (F0 m 154 ls [])) (K0 : ∀ b : MS, o = .inr b → ∀ (H : Heap) (locs : List Loc) (ls : Array Slot), va_P D cls (mw md mc b) H → va_D A (mw md mc b) → va_S A s.heap H locs → lv_has ls 6 [(0, .ref (md 100))] → W p l e ({ frames := 5, cells := 0, slots := 0, locals := 118 }) s m args below meth c H locs 0 0 Q (F0 m 173 ls [])) : ∀ (H : Heap) (locs : List Loc) (ls : Array Slot), va_P D cls (mw md mc S) H → va_D A (mw md mc S) → va_S A s.heap H locs → lv_has ls 6 [(0, .ref (md 100)), (3, .int x3), (4, .int x4)] → W p l e ({ frames := 5, cells := 0, slots := 0, locals := 118 }) s m args below meth c H locs 0 0 Q (F0 m 154 ls []) := by
  intro H locs ls hP hD hS hl
  obtain ⟨hx, hb, hr, hml, hown, hts, hK, hA⟩ := id hC
  unfold m_rsave_B154 at Heq
  refine lv_iload hx hb d_rsave_154 (lv_at hl 2 rfl) ?_
  refine lv_if_lt (tgt := 173) hx hb d_rsave_156 (by decide) (fun c_1 => ?_) (fun c_1 => ?_)
  · replace Heq := (if_pos c_1).symm.trans Heq
    exact K0 _ (Option.some.inj Heq).symm _ _ _ hP hD hS (lv_sub hl [0] rfl)
  · replace Heq := (if_neg c_1).symm.trans Heq
    refine lv_aload_n hx hb d_rsave_159 rfl (lv_at hl 0 rfl) ?_
    refine lv_iload_n hx hb d_rsave_160 rfl (lv_at hl 1 rfl) ?_
    refine lv_iload hx hb d_rsave_161 (lv_at hl 2 rfl) ?_
    refine lv_iushr hx hb d_rsave_163 rfl ?_
    refine w_i (y := ushr32 x3 x4) rfl ?_
    obtain ⟨o_2, h_3, Heq⟩ := ob_some Heq
    have hFc := fr_all hD hS hA
    refine va_callv (va_runV (As := [.int (ushr32 x3 x4)]) (rest := []) ⟨hx, hb, hml, hown, hts⟩ (g_rwrite l D H.size h_3) (cw_v 1 hts kw_1918 kw_1915 kw_1917 kp_76 kw_11 rfl rfl (by decide +kernel) ⟨Nat.le_of_ble_eq_true rfl, Nat.le_of_ble_eq_true rfl⟩) ⟨g_blind, va_recv hK hP (ci := 12) (q0 := 0) rfl rfl, fun U hU hW => g_pre hU hW hP hK hD⟩ rfl rfl hl.1 rfl (lv_room (Nat.le_of_ble_eq_true rfl)) d_rsave_164 ⟨Nat.le_of_ble_eq_true rfl, Nat.le_of_ble_eq_true rfl⟩) hS (fun q _ h => hFc q h) hFc (fun u t H1 locs ht hvm hw hB hz1 hk1 hS => ?_)
    obtain ⟨hP, -, hD1⟩ := hB
    rw [ht] at hP
    have hD := hD1.weaken (fun _ q _ h => hFc q.1 h)
    generalize H1 = H at hP hS ⊢
    refine W.cs (cells' := 0) (slots' := 0) rfl rfl ?_
    refine lv_iinc (v := x4 + (-8)) (lv' := [(4, .int (x4 + (-8))), (0, .ref (md 100)), (3, .int x3)]) hx hb d_rsave_167 hl (k := 2) rfl rfl (by decide) rfl (fun ls hl => ?_)
    refine lv_goto (tgt := 154) hx hb d_rsave_170 (by decide) ?_
    exact Ka _ (Option.some.inj Heq).symm _ _ _ hP hD hS (lv_sub hl [1, 2, 0] rfl)
def m_rsave_L154 (S : MS) (x3 : Int32) (x4 : Int32) : Option MS := lp (fun a : MS × Int32 × Int32 => m_rsave_B154 a.1 a.2.1 a.2.2) FU (S, x3, x4)
theorem w_rsave_L154 {p : Program} {l : Launch} {e : Env} {s : State} {m : MethodId} {args : Array Value} {below : List Frame} {meth : Method} {c : Code} {A : Nat → Prop} {D : va_G} {md : Nat → Nat} {mc : Nat → ClassId} {Q : State → Prop} (hC : MCx "JoinedTreesModel" prog_14_method_88_code 6 (some .int) p s m args meth c A D mc) {S : MS} {x3 : Int32} {x4 : Int32} {o : MS} (Heq : m_rsave_L154 S x3 x4 = some o) (K0 : ∀ b : MS, o = b → ∀ (H : Heap) (locs : List Loc) (ls : Array Slot), va_P D cls (mw md mc b) H → va_D A (mw md mc b) → va_S A s.heap H locs → lv_has ls 6 [(0, .ref (md 100))] → W p l e ({ frames := 5, cells := 0, slots := 0, locals := 118 }) s m args below meth c H locs 0 0 Q (F0 m 173 ls [])) : ∀ (H : Heap) (locs : List Loc) (ls : Array Slot), va_P D cls (mw md mc S) H → va_D A (mw md mc S) → va_S A s.heap H locs → lv_has ls 6 [(0, .ref (md 100)), (3, .int x3), (4, .int x4)] → W p l e ({ frames := 5, cells := 0, slots := 0, locals := 118 }) s m args below meth c H locs 0 0 Q (F0 m 154 ls []) := by
  refine lp_w (G := fun a : MS × Int32 × Int32 => ∀ (H : Heap) (locs : List Loc) (ls : Array Slot), va_P D cls (mw md mc a.1) H → va_D A (mw md mc a.1) → va_S A s.heap H locs → lv_has ls 6 [(0, .ref (md 100)), (3, .int a.2.1), (4, .int a.2.2)] → W p l e ({ frames := 5, cells := 0, slots := 0, locals := 118 }) s m args below meth c H locs 0 0 Q (F0 m 154 ls [])) ?_ FU (S, x3, x4) Heq
  intro a o1 ho Ka Ke
  exact w_rsave_B154 hC ho (fun b h => Ka b h) (fun b h => K0 b (Ke _ h).symm)
def m_rsave_J0 (S : MS) (x1 : Int32) : Option (MS × Int32) := ob (m_risReplica S x1) (fun o_1 => (if o_1.2 = 0 then ob (m_rno o_1.1 1) (fun o_19 => some (o_19.1, o_19.2)) else ob (m_ropen o_1.1 x1) (fun o_4 => (if o_4.2 ≤ 0 then ob (m_rsave_L41 ((o_4.1.setI 0 0).setI 41 0) x1 0 0) (fun b_7 => ob (m_rgroup b_7.1 b_7.2.2.toInt64) (fun o_9 => ob (m_rsave_L77 o_9 b_7.2.1 0) (fun b_11 => ob (m_rcrc b_11 (b_11.i 41)) (fun o_13 => ob (m_rsave_L154 o_13.1 o_13.2 24) (fun b_15 => some ((b_15.setI 43 1), b_15.i 41)))))) else ob (m_rno o_4.1 2) (fun o_17 => some (o_17.1, o_17.2))))))
theorem d_rsave_173 : decode prog_14_method_88_code 173 = .ok (.aload_n 0, 1) := by decide +kernel
theorem d_rsave_174 : decode prog_14_method_88_code 174 = .ok (.iconst 1, 1) := by decide +kernel
theorem d_rsave_175 : decode prog_14_method_88_code 175 = .ok (.putfield 465, 3) := by decide +kernel
theorem d_rsave_178 : decode prog_14_method_88_code 178 = .ok (.aload_n 0, 1) := by decide +kernel
theorem d_rsave_179 : decode prog_14_method_88_code 179 = .ok (.getfield 433, 3) := by decide +kernel
theorem d_rsave_182 : decode prog_14_method_88_code 182 = .ok (.ireturn, 1) := by decide +kernel
theorem d_rsave_21 : decode prog_14_method_88_code 21 = .ok (.aload_n 0, 1) := by decide +kernel
theorem d_rsave_22 : decode prog_14_method_88_code 22 = .ok (.iconst 2, 1) := by decide +kernel
theorem d_rsave_23 : decode prog_14_method_88_code 23 = .ok (.invokevirtual 191, 3) := by decide +kernel
theorem d_rsave_26 : decode prog_14_method_88_code 26 = .ok (.ireturn, 1) := by decide +kernel
theorem d_rsave_7 : decode prog_14_method_88_code 7 = .ok (.aload_n 0, 1) := by decide +kernel
theorem d_rsave_8 : decode prog_14_method_88_code 8 = .ok (.iconst 1, 1) := by decide +kernel
theorem d_rsave_9 : decode prog_14_method_88_code 9 = .ok (.invokevirtual 191, 3) := by decide +kernel
theorem d_rsave_12 : decode prog_14_method_88_code 12 = .ok (.ireturn, 1) := by decide +kernel
set_option maxHeartbeats 4000000 in
set_option maxRecDepth 100000 in
theorem w_rsave_J0 {p : Program} {l : Launch} {e : Env} {s : State} {m : MethodId} {args : Array Value} {below : List Frame} {meth : Method} {c : Code} {A : Nat → Prop} {D : va_G} {md : Nat → Nat} {mc : Nat → ClassId} {Q : State → Prop} (hC : MCx "JoinedTreesModel" prog_14_method_88_code 6 (some .int) p s m args meth c A D mc) {S : MS} {x1 : Int32} {o : MS × Int32} (Heq : m_rsave_J0 S x1 = some o) (Kr : ∀ r : MS × Int32, o = r → ∀ (pc : Nat) (H : Heap) (locs : List Loc) (ls : Array Slot), decode prog_14_method_88_code pc = .ok (.ireturn, 1) → va_P D cls (mw md mc r.1) H → va_D A (mw md mc r.1) → va_S A s.heap H locs → W p l e ({ frames := 5, cells := 0, slots := 0, locals := 118 }) s m args below meth c H locs 0 0 Q (F0 m pc ls [.int r.2])) : ∀ (H : Heap) (locs : List Loc) (ls : Array Slot), va_P D cls (mw md mc S) H → va_D A (mw md mc S) → va_S A s.heap H locs → lv_has ls 6 [(0, .ref (md 100)), (1, .int x1)] → W p l e ({ frames := 5, cells := 0, slots := 0, locals := 118 }) s m args below meth c H locs 0 0 Q (F0 m 0 ls []) := by
  intro H locs ls hP hD hS hl
  obtain ⟨hx, hb, hr, hml, hown, hts, hK, hA⟩ := id hC
  unfold m_rsave_J0 at Heq
  refine lv_iload_n hx hb d_rsave_0 rfl (lv_at hl 1 rfl) ?_
  obtain ⟨o_1, h_2, Heq⟩ := ob_some Heq
  have hFc := fr_all hD hS hA
  refine va_calli (va_runS (As := [.int x1]) (rest := []) ⟨hx, hb, hml, hown, hts⟩ (g_risReplica l D H.size h_2) (cw_s 1 hts kw_1641 kw_1639 kw_1640 kw_11 rfl rfl (by decide +kernel) ⟨Nat.le_of_ble_eq_true rfl, Nat.le_of_ble_eq_true rfl⟩) ⟨g_blind, fun U hU hW => g_pre hU hW hP hK hD⟩ rfl rfl hl.1 rfl (lv_room (Nat.le_of_ble_eq_true rfl)) d_rsave_1 ⟨Nat.le_of_ble_eq_true rfl, Nat.le_of_ble_eq_true rfl⟩) hS (fun q _ h => hFc q h) hFc (fun rz u t H1 locs ht hvm hw hB hz1 hk1 hS => ?_)
  obtain ⟨hP, -, hD1⟩ := hB
  rw [ht] at hP
  have hD := hD1.weaken (fun _ q _ h => hFc q.1 h)
  generalize H1 = H at hP hS ⊢
  refine W.cs (cells' := 0) (slots' := 0) rfl rfl ?_
  subst hw
  refine lv_if_ne (tgt := 13) hx hb d_rsave_4 (by decide) (fun c_3 => ?_) (fun c_3 => ?_)
  · replace Heq := (if_neg c_3).symm.trans Heq
    refine lv_aload_n hx hb d_rsave_13 rfl (lv_at hl 0 rfl) ?_
    refine lv_iload_n hx hb d_rsave_14 rfl (lv_at hl 1 rfl) ?_
    obtain ⟨o_4, h_5, Heq⟩ := ob_some Heq
    have hFc := fr_all hD hS hA
    refine va_calli (va_runV (As := [.int x1]) (rest := []) ⟨hx, hb, hml, hown, hts⟩ (g_ropen l D H.size h_5) (cw_v 1 hts kw_1815 kw_1812 kw_1814 kp_63 kw_11 rfl rfl (by decide +kernel) ⟨Nat.le_of_ble_eq_true rfl, Nat.le_of_ble_eq_true rfl⟩) ⟨g_blind, va_recv hK hP (ci := 12) (q0 := 0) rfl rfl, fun U hU hW => g_pre hU hW hP hK hD⟩ rfl rfl hl.1 rfl (lv_room (Nat.le_of_ble_eq_true rfl)) d_rsave_15 ⟨Nat.le_of_ble_eq_true rfl, Nat.le_of_ble_eq_true rfl⟩) hS (fun q _ h => hFc q h) hFc (fun rz u t H1 locs ht hvm hw hB hz1 hk1 hS => ?_)
    obtain ⟨hP, -, hD1⟩ := hB
    rw [ht] at hP
    have hD := hD1.weaken (fun _ q _ h => hFc q.1 h)
    generalize H1 = H at hP hS ⊢
    refine W.cs (cells' := 0) (slots' := 0) rfl rfl ?_
    subst hw
    refine lv_if_le (tgt := 27) hx hb d_rsave_18 (by decide) (fun c_6 => ?_) (fun c_6 => ?_)
    · replace Heq := (if_pos c_6).symm.trans Heq
      refine lv_aload_n hx hb d_rsave_27 rfl (lv_at hl 0 rfl) ?_
      refine lv_iconst (v := 0) hx hb d_rsave_28 (by decide) ?_
      refine va_put (D := D) (ci := 12) (v := .int 0) (ty := .int) (C := R_MM) (T := F_MM) (N := 77) hx hb hts i_MM t_MM t_MM_ok n_MM hown hK hP hD hS 0 rfl rfl 0 (by decide) (hts _ kw_1382) (fun _ h9 => h9) rfl (by decide +kernel) rfl rfl (Nat.le_of_ble_eq_true rfl) d_rsave_29 (fun H locs hP hD hS => ?_)
      rw [mw_I0] at hP hD
      refine lv_aload_n hx hb d_rsave_32 rfl (lv_at hl 0 rfl) ?_
      refine lv_iconst (v := 0) hx hb d_rsave_33 (by decide) ?_
      refine va_put (D := D) (ci := 12) (v := .int 0) (ty := .int) (C := R_MM) (T := F_MM) (N := 77) hx hb hts i_MM t_MM t_MM_ok n_MM hown hK hP hD hS 0 rfl rfl 41 (by decide) (hts _ kw_1423) (fun _ h9 => h9) rfl (by decide +kernel) rfl rfl (Nat.le_of_ble_eq_true rfl) d_rsave_34 (fun H locs hP hD hS => ?_)
      rw [mw_I41] at hP hD
      refine lv_iconst (v := 0) hx hb d_rsave_37 (by decide) ?_
      refine lv_istore_n (lv' := [(2, .int 0), (0, .ref (md 100)), (1, .int x1)]) hx hb d_rsave_38 rfl hl (by decide) rfl (fun ls hl => ?_)
      refine lv_iconst (v := 0) hx hb d_rsave_39 (by decide) ?_
      refine lv_istore_n (lv' := [(3, .int 0), (2, .int 0), (0, .ref (md 100)), (1, .int x1)]) hx hb d_rsave_40 rfl hl (by decide) rfl (fun ls hl => ?_)
      obtain ⟨b_7, h_8, Heq⟩ := ob_some Heq
      refine w_rsave_L41 hC h_8 (fun b h => ?_) _ _ _ hP hD hS (lv_sub hl [2, 3, 1, 0] rfl)
      subst h
      intro H locs ls hP hD hS hl
      refine lv_aload_n hx hb d_rsave_69 rfl (lv_at hl 0 rfl) ?_
      refine lv_iload_n hx hb d_rsave_70 rfl (lv_at hl 2 rfl) ?_
      refine lv_i2l hx hb d_rsave_71 rfl ?_
      refine w_l (y := b_7.2.2.toInt64) rfl ?_
      obtain ⟨o_9, h_10, Heq⟩ := ob_some Heq
      have hFc := fr_all hD hS hA
      refine va_callv (va_runV (As := [.long b_7.2.2.toInt64]) (rest := []) ⟨hx, hb, hml, hown, hts⟩ (g_rgroup l D H.size h_10) (cw_v 1 hts kw_1950 kw_1947 kw_1949 kp_82 kw_11 rfl rfl (by decide +kernel) ⟨Nat.le_of_ble_eq_true rfl, Nat.le_of_ble_eq_true rfl⟩) ⟨g_blind, va_recv hK hP (ci := 12) (q0 := 0) rfl rfl, fun U hU hW => g_pre hU hW hP hK hD⟩ rfl rfl hl.1 rfl (lv_room (Nat.le_of_ble_eq_true rfl)) d_rsave_72 ⟨Nat.le_of_ble_eq_true rfl, Nat.le_of_ble_eq_true rfl⟩) hS (fun q _ h => hFc q h) hFc (fun u t H1 locs ht hvm hw hB hz1 hk1 hS => ?_)
      obtain ⟨hP, -, hD1⟩ := hB
      rw [ht] at hP
      have hD := hD1.weaken (fun _ q _ h => hFc q.1 h)
      generalize H1 = H at hP hS ⊢
      refine W.cs (cells' := 0) (slots' := 0) rfl rfl ?_
      refine lv_iconst (v := 0) hx hb d_rsave_75 (by decide) ?_
      refine lv_istore_n (lv' := [(3, .int 0), (0, .ref (md 100)), (1, .int b_7.2.1), (2, .int b_7.2.2)]) hx hb d_rsave_76 rfl hl (by decide) rfl (fun ls hl => ?_)
      obtain ⟨b_11, h_12, Heq⟩ := ob_some Heq
      refine w_rsave_L77 hC h_12 (fun b h => ?_) _ _ _ hP hD hS (lv_sub hl [1, 2, 0] rfl)
      subst h
      intro H locs ls hP hD hS hl
      refine lv_aload_n hx hb d_rsave_141 rfl (lv_at hl 0 rfl) ?_
      refine lv_aload_n hx hb d_rsave_142 rfl (lv_at hl 0 rfl) ?_
      refine va_get (D := D) (ci := 12) (v := .int (b_11.i 41)) (C := R_MM) (T := F_MM) (N := 77) hx hb hts i_MM hown hK hP 0 rfl rfl 41 (by decide) (hts _ kw_1423) (fun _ h9 => h9) rfl d_rsave_143 ?_
      obtain ⟨o_13, h_14, Heq⟩ := ob_some Heq
      have hFc := fr_all hD hS hA
      refine va_calli (va_runV (As := [.int (b_11.i 41)]) (rest := []) ⟨hx, hb, hml, hown, hts⟩ (g_rcrc l D H.size h_14) (cw_v 1 hts kw_1973 kw_1970 kw_1972 kp_86 kw_11 rfl rfl (by decide +kernel) ⟨Nat.le_of_ble_eq_true rfl, Nat.le_of_ble_eq_true rfl⟩) ⟨g_blind, va_recv hK hP (ci := 12) (q0 := 0) rfl rfl, fun U hU hW => g_pre hU hW hP hK hD⟩ rfl rfl hl.1 rfl (lv_room (Nat.le_of_ble_eq_true rfl)) d_rsave_146 ⟨Nat.le_of_ble_eq_true rfl, Nat.le_of_ble_eq_true rfl⟩) hS (fun q _ h => hFc q h) hFc (fun rz u t H1 locs ht hvm hw hB hz1 hk1 hS => ?_)
      obtain ⟨hP, -, hD1⟩ := hB
      rw [ht] at hP
      have hD := hD1.weaken (fun _ q _ h => hFc q.1 h)
      generalize H1 = H at hP hS ⊢
      refine W.cs (cells' := 0) (slots' := 0) rfl rfl ?_
      subst hw
      refine lv_istore_n (lv' := [(3, .int o_13.2), (0, .ref (md 100))]) hx hb d_rsave_149 rfl hl (by decide) rfl (fun ls hl => ?_)
      refine lv_bipush (v := 24) hx hb d_rsave_150 (by decide) ?_
      refine lv_istore (lv' := [(4, .int 24), (3, .int o_13.2), (0, .ref (md 100))]) hx hb d_rsave_152 hl (by decide) rfl (fun ls hl => ?_)
      obtain ⟨b_15, h_16, Heq⟩ := ob_some Heq
      refine w_rsave_L154 hC h_16 (fun b h => ?_) _ _ _ hP hD hS (lv_sub hl [2, 1, 0] rfl)
      subst h
      intro H locs ls hP hD hS hl
      refine lv_aload_n hx hb d_rsave_173 rfl (lv_at hl 0 rfl) ?_
      refine lv_iconst (v := 1) hx hb d_rsave_174 (by decide) ?_
      refine va_put (D := D) (ci := 12) (v := .int 1) (ty := .boolean) (C := R_MM) (T := F_MM) (N := 77) hx hb hts i_MM t_MM t_MM_ok n_MM hown hK hP hD hS 0 rfl rfl 43 (by decide) (hts _ kw_1425) (fun _ h9 => h9) rfl (by decide +kernel) (by decide) (by decide) (Nat.le_of_ble_eq_true rfl) d_rsave_175 (fun H locs hP hD hS => ?_)
      rw [mw_I43] at hP hD
      refine lv_aload_n hx hb d_rsave_178 rfl (lv_at hl 0 rfl) ?_
      refine va_get (D := D) (ci := 12) (v := .int (b_15.i 41)) (C := R_MM) (T := F_MM) (N := 77) hx hb hts i_MM hown hK hP 0 rfl rfl 41 (by decide) (hts _ kw_1423) (fun _ h9 => h9) rfl d_rsave_179 ?_
      exact Kr _ (Option.some.inj Heq).symm 182 _ _ _ d_rsave_182 hP hD hS
    · replace Heq := (if_neg c_6).symm.trans Heq
      refine lv_aload_n hx hb d_rsave_21 rfl (lv_at hl 0 rfl) ?_
      refine lv_iconst (v := 2) hx hb d_rsave_22 (by decide) ?_
      obtain ⟨o_17, h_18, Heq⟩ := ob_some Heq
      have hFc := fr_all hD hS hA
      refine va_calli (va_runV (As := [.int 2]) (rest := []) ⟨hx, hb, hml, hown, hts⟩ (g_rno l D H.size h_18) (cw_v 1 hts kw_1626 kw_1623 kw_1625 kp_29 kw_11 rfl rfl (by decide +kernel) ⟨Nat.le_of_ble_eq_true rfl, Nat.le_of_ble_eq_true rfl⟩) ⟨g_blind, va_recv hK hP (ci := 12) (q0 := 0) rfl rfl, fun U hU hW => g_pre hU hW hP hK hD⟩ rfl rfl hl.1 rfl (lv_room (Nat.le_of_ble_eq_true rfl)) d_rsave_23 ⟨Nat.le_of_ble_eq_true rfl, Nat.le_of_ble_eq_true rfl⟩) hS (fun q _ h => hFc q h) hFc (fun rz u t H1 locs ht hvm hw hB hz1 hk1 hS => ?_)
      obtain ⟨hP, -, hD1⟩ := hB
      rw [ht] at hP
      have hD := hD1.weaken (fun _ q _ h => hFc q.1 h)
      generalize H1 = H at hP hS ⊢
      refine W.cs (cells' := 0) (slots' := 0) rfl rfl ?_
      subst hw
      exact Kr _ (Option.some.inj Heq).symm 26 _ _ _ d_rsave_26 hP hD hS
  · replace Heq := (if_pos c_3).symm.trans Heq
    refine lv_aload_n hx hb d_rsave_7 rfl (lv_at hl 0 rfl) ?_
    refine lv_iconst (v := 1) hx hb d_rsave_8 (by decide) ?_
    obtain ⟨o_19, h_20, Heq⟩ := ob_some Heq
    have hFc := fr_all hD hS hA
    refine va_calli (va_runV (As := [.int 1]) (rest := []) ⟨hx, hb, hml, hown, hts⟩ (g_rno l D H.size h_20) (cw_v 1 hts kw_1626 kw_1623 kw_1625 kp_29 kw_11 rfl rfl (by decide +kernel) ⟨Nat.le_of_ble_eq_true rfl, Nat.le_of_ble_eq_true rfl⟩) ⟨g_blind, va_recv hK hP (ci := 12) (q0 := 0) rfl rfl, fun U hU hW => g_pre hU hW hP hK hD⟩ rfl rfl hl.1 rfl (lv_room (Nat.le_of_ble_eq_true rfl)) d_rsave_9 ⟨Nat.le_of_ble_eq_true rfl, Nat.le_of_ble_eq_true rfl⟩) hS (fun q _ h => hFc q h) hFc (fun rz u t H1 locs ht hvm hw hB hz1 hk1 hS => ?_)
    obtain ⟨hP, -, hD1⟩ := hB
    rw [ht] at hP
    have hD := hD1.weaken (fun _ q _ h => hFc q.1 h)
    generalize H1 = H at hP hS ⊢
    refine W.cs (cells' := 0) (slots' := 0) rfl rfl ?_
    subst hw
    exact Kr _ (Option.some.inj Heq).symm 12 _ _ _ d_rsave_12 hP hD hS
def m_rsave (S : MS) (x1 : Int32) : Option (MS × Int32) := m_rsave_J0 S x1
theorem g_rsave (l : Launch) (D : va_G) (sz : Nat) {md : Nat → Nat} {mc : Nat → ClassId} {S : MS} {x1 : Int32} {o : MS × Int32} (Heq : m_rsave S x1 = some o) : Met l ⟨"JoinedTreesModel", "save", "(I)I"⟩ (Cond.code ⟨"JoinedTreesModel", "save", "(I)I"⟩ prog_14_method_88_code 6 (some .int) :: gb) ({ frames := 5, cells := 0, slots := 0, locals := 118 }) (gPc D (mw md mc S) (mty mc) sz [.ref (md 100), .int x1]) (va_Qi (fun (r : Int32) (_ : Unit) => r = o.2) (fun _ t => gO D (mw md mc o.1) (mty mc) (va_A (mw md mc S) sz) t) (va_A (mw md mc S) sz)) 0 0 (va_A (mw md mc S) sz) := by
  refine Met.ofW (cc := prog_14_method_88_code) (maxL := 6) (ret := (some .int)) (by decide) rfl ?_
  intro p e s m args below meth c s₁ B hml hv
  obtain ⟨rfl, hsz, hP, hK, hD0⟩ := hv
  have hx := B.exec
  have hb := B.bytes
  have hr := B.returns
  have hts : ∀ w9 ∈ gb, w9.before [.ref (md 100), .int x1].toArray s = true := fun w9 h => atoms_spec (ws := Cond.code ⟨"JoinedTreesModel", "save", "(I)I"⟩ prog_14_method_88_code 6 (some .int) :: gb) B.pre w9 (List.mem_cons_of_mem _ h)
  have hown : s.vm.findClass "JoinedTreesModel" = some m.cls := findClass_of_methodNamed B.named
  have hlocks := B.notSynchronized
  subst hsz
  have hD := hD0.self (sz := s.heap.size)
  generalize hAe : va_A (mw md mc S) s.heap.size = A at hD ⊢
  have hA : ∀ q : Nat, s.heap.size ≤ q → A q := fun q h => by rw [← hAe]; exact Or.inr h
  have hS : va_S A s.heap s.heap [] := va_S.rf
  have hl := lv_entry ([.ref (md 100), .int x1]) (n := 6) (Nat.le_of_ble_eq_true rfl)
  rw [lg_entry_eq]
  generalize (lg_sl ([.ref (md 100), .int x1]) ++ List.replicate (6 - (lg_sl ([.ref (md 100), .int x1])).length) Slot.unset).toArray = ls at hl ⊢
  have hl : lv_has ls 6 [(0, .ref (md 100)), (1, .int x1)] := hl
  refine w_rsave_J0 ⟨hx, hb, hr, hml, hown, hts, hK, hA⟩ Heq (fun r h pc H locs ls hd hP hD hS => ?_) _ _ _ hP hD hS (lv_sub hl [0, 1] rfl)
  subst h
  exact W.iret hx hb hr (fun t ht hW => ⟨⟨_, (), rfl, rfl, by rw [ht]; exact hP, va_K.moved hW.alike hK, hD⟩, hS.F ht⟩) hS.2.2 hd
def m_rgrouped_B4 (S : MS) (x1 : Int32) (x2 : Int32) : Option ((MS × Int32 × Int32) ⊕ (MS ⊕ (MS × Int32))) := (if 4 ≤ x2 then some (.inr (.inl (S))) else (if S.i 75 < S.i 76 then gd (S.i 75) 800000 ((if 128 ≤ (S.a 40 ((S.i 75).toNatClampNeg)) &&& 255 then some (.inl ((S.setI 75 ((S.i 75) + 1)), (x1 ||| ((((S.a 40 ((S.i 75).toNatClampNeg)) &&& 255) &&& 127) <<< ((7 * x2) &&& 31))), (x2 + 1))) else some (.inr (.inr ((S.setI 75 ((S.i 75) + 1)), x1 ||| ((((S.a 40 ((S.i 75).toNatClampNeg)) &&& 255) &&& 127) <<< ((7 * x2) &&& 31))))))) else some (.inr (.inr (S, (-1))))))
theorem d_rgrouped_0 : decode prog_14_method_89_code 0 = .ok (.iconst 0, 1) := by decide +kernel
theorem d_rgrouped_1 : decode prog_14_method_89_code 1 = .ok (.istore_n 1, 1) := by decide +kernel
theorem d_rgrouped_2 : decode prog_14_method_89_code 2 = .ok (.iconst 0, 1) := by decide +kernel
theorem d_rgrouped_3 : decode prog_14_method_89_code 3 = .ok (.istore_n 2, 1) := by decide +kernel
theorem d_rgrouped_4 : decode prog_14_method_89_code 4 = .ok (.iload_n 2, 1) := by decide +kernel
theorem d_rgrouped_5 : decode prog_14_method_89_code 5 = .ok (.iconst 4, 1) := by decide +kernel
theorem d_rgrouped_6 : decode prog_14_method_89_code 6 = .ok (.if_icmp .ge 67, 3) := by decide +kernel
theorem d_rgrouped_9 : decode prog_14_method_89_code 9 = .ok (.aload_n 0, 1) := by decide +kernel
theorem d_rgrouped_10 : decode prog_14_method_89_code 10 = .ok (.getfield 496, 3) := by decide +kernel
theorem d_rgrouped_13 : decode prog_14_method_89_code 13 = .ok (.aload_n 0, 1) := by decide +kernel
theorem d_rgrouped_14 : decode prog_14_method_89_code 14 = .ok (.getfield 499, 3) := by decide +kernel
theorem d_rgrouped_17 : decode prog_14_method_89_code 17 = .ok (.if_icmp .lt 5, 3) := by decide +kernel
theorem d_rgrouped_22 : decode prog_14_method_89_code 22 = .ok (.aload_n 0, 1) := by decide +kernel
theorem d_rgrouped_23 : decode prog_14_method_89_code 23 = .ok (.getfield 108, 3) := by decide +kernel
theorem d_rgrouped_26 : decode prog_14_method_89_code 26 = .ok (.aload_n 0, 1) := by decide +kernel
theorem d_rgrouped_27 : decode prog_14_method_89_code 27 = .ok (.getfield 496, 3) := by decide +kernel
theorem d_rgrouped_30 : decode prog_14_method_89_code 30 = .ok (.baload, 1) := by decide +kernel
theorem d_rgrouped_31 : decode prog_14_method_89_code 31 = .ok (.sipush 255, 3) := by decide +kernel
theorem d_rgrouped_34 : decode prog_14_method_89_code 34 = .ok (.iand, 1) := by decide +kernel
theorem d_rgrouped_35 : decode prog_14_method_89_code 35 = .ok (.istore_n 3, 1) := by decide +kernel
theorem d_rgrouped_36 : decode prog_14_method_89_code 36 = .ok (.aload_n 0, 1) := by decide +kernel
theorem d_rgrouped_37 : decode prog_14_method_89_code 37 = .ok (.dup, 1) := by decide +kernel
theorem d_rgrouped_38 : decode prog_14_method_89_code 38 = .ok (.getfield 496, 3) := by decide +kernel
theorem d_rgrouped_41 : decode prog_14_method_89_code 41 = .ok (.iconst 1, 1) := by decide +kernel
theorem d_rgrouped_42 : decode prog_14_method_89_code 42 = .ok (.iadd, 1) := by decide +kernel
theorem d_rgrouped_43 : decode prog_14_method_89_code 43 = .ok (.putfield 496, 3) := by decide +kernel
theorem d_rgrouped_46 : decode prog_14_method_89_code 46 = .ok (.iload_n 1, 1) := by decide +kernel
theorem d_rgrouped_47 : decode prog_14_method_89_code 47 = .ok (.iload_n 3, 1) := by decide +kernel
theorem d_rgrouped_48 : decode prog_14_method_89_code 48 = .ok (.bipush 127, 2) := by decide +kernel
theorem d_rgrouped_50 : decode prog_14_method_89_code 50 = .ok (.iand, 1) := by decide +kernel
theorem d_rgrouped_51 : decode prog_14_method_89_code 51 = .ok (.bipush 7, 2) := by decide +kernel
theorem d_rgrouped_53 : decode prog_14_method_89_code 53 = .ok (.iload_n 2, 1) := by decide +kernel
theorem d_rgrouped_54 : decode prog_14_method_89_code 54 = .ok (.imul, 1) := by decide +kernel
theorem d_rgrouped_55 : decode prog_14_method_89_code 55 = .ok (.ishl, 1) := by decide +kernel
theorem d_rgrouped_56 : decode prog_14_method_89_code 56 = .ok (.ior, 1) := by decide +kernel
theorem d_rgrouped_57 : decode prog_14_method_89_code 57 = .ok (.istore_n 1, 1) := by decide +kernel
theorem d_rgrouped_58 : decode prog_14_method_89_code 58 = .ok (.iload_n 3, 1) := by decide +kernel
theorem d_rgrouped_59 : decode prog_14_method_89_code 59 = .ok (.sipush 128, 3) := by decide +kernel
theorem d_rgrouped_62 : decode prog_14_method_89_code 62 = .ok (.if_icmp .ge 5, 3) := by decide +kernel
theorem d_rgrouped_67 : decode prog_14_method_89_code 67 = .ok (.iinc 2 1, 3) := by decide +kernel
theorem d_rgrouped_70 : decode prog_14_method_89_code 70 = .ok (.goto (-66), 3) := by decide +kernel
theorem d_rgrouped_65 : decode prog_14_method_89_code 65 = .ok (.iload_n 1, 1) := by decide +kernel
theorem d_rgrouped_66 : decode prog_14_method_89_code 66 = .ok (.ireturn, 1) := by decide +kernel
theorem d_rgrouped_20 : decode prog_14_method_89_code 20 = .ok (.iconst (-1), 1) := by decide +kernel
theorem d_rgrouped_21 : decode prog_14_method_89_code 21 = .ok (.ireturn, 1) := by decide +kernel
set_option maxHeartbeats 4000000 in
set_option maxRecDepth 100000 in
theorem w_rgrouped_B4 {p : Program} {l : Launch} {e : Env} {s : State} {m : MethodId} {args : Array Value} {below : List Frame} {meth : Method} {c : Code} {A : Nat → Prop} {D : va_G} {md : Nat → Nat} {mc : Nat → ClassId} {Q : State → Prop} (hC : MCx "JoinedTreesModel" prog_14_method_89_code 4 (some .int) p s m args meth c A D mc) {S : MS} {x1 : Int32} {x2 : Int32} {o : ((MS × Int32 × Int32) ⊕ (MS ⊕ (MS × Int32)))} (Heq : m_rgrouped_B4 S x1 x2 = some o) (Ka : ∀ b : MS × Int32 × Int32, o = .inl b → ∀ (H : Heap) (locs : List Loc) (ls : Array Slot), va_P D cls (mw md mc b.1) H → va_D A (mw md mc b.1) → va_S A s.heap H locs → lv_has ls 4 [(0, .ref (md 100)), (1, .int b.2.1), (2, .int b.2.2)] → W p l e ({ frames := 0, cells := 0, slots := 0, locals := 0 }) s m args below meth c H locs 0 0 Q (F0 m 4 ls [])) (K0 : ∀ b : MS, o = .inr (.inl b) → ∀ (H : Heap) (locs : List Loc) (ls : Array Slot), va_P D cls (mw md mc b) H → va_D A (mw md mc b) → va_S A s.heap H locs → lv_has ls 4 [(0, .ref (md 100))] → W p l e ({ frames := 0, cells := 0, slots := 0, locals := 0 }) s m args below meth c H locs 0 0 Q (F0 m 73 ls [])) (Kr : ∀ r : MS × Int32, o = .inr (.inr r) → ∀ (pc : Nat) (H : Heap) (locs : List Loc) (ls : Array Slot), decode prog_14_method_89_code pc = .ok (.ireturn, 1) → va_P D cls (mw md mc r.1) H → va_D A (mw md mc r.1) → va_S A s.heap H locs → W p l e ({ frames := 0, cells := 0, slots := 0, locals := 0 }) s m args below meth c H locs 0 0 Q (F0 m pc ls [.int r.2])) : ∀ (H : Heap) (locs : List Loc) (ls : Array Slot), va_P D cls (mw md mc S) H → va_D A (mw md mc S) → va_S A s.heap H locs → lv_has ls 4 [(0, .ref (md 100)), (1, .int x1), (2, .int x2)] → W p l e ({ frames := 0, cells := 0, slots := 0, locals := 0 }) s m args below meth c H locs 0 0 Q (F0 m 4 ls []) := by
  intro H locs ls hP hD hS hl
  obtain ⟨hx, hb, hr, hml, hown, hts, hK, hA⟩ := id hC
  unfold m_rgrouped_B4 at Heq
  refine lv_iload_n hx hb d_rgrouped_4 rfl (lv_at hl 2 rfl) ?_
  refine lv_iconst (v := 4) hx hb d_rgrouped_5 (by decide) ?_
  refine lv_icmp_ge (tgt := 73) hx hb d_rgrouped_6 (by decide) (fun c_1 => ?_) (fun c_1 => ?_)
  · replace Heq := (if_pos c_1).symm.trans Heq
    exact K0 _ (Option.some.inj Heq).symm _ _ _ hP hD hS (lv_sub hl [0] rfl)
  · replace Heq := (if_neg c_1).symm.trans Heq
    refine lv_aload_n hx hb d_rgrouped_9 rfl (lv_at hl 0 rfl) ?_
    refine va_get (D := D) (ci := 12) (v := .int (S.i 75)) (C := R_MM) (T := F_MM) (N := 77) hx hb hts i_MM hown hK hP 0 rfl rfl 75 (by decide) (hts _ kw_1457) (fun _ h9 => h9) rfl d_rgrouped_10 ?_
    refine lv_aload_n hx hb d_rgrouped_13 rfl (lv_at hl 0 rfl) ?_
    refine va_get (D := D) (ci := 12) (v := .int (S.i 76)) (C := R_MM) (T := F_MM) (N := 77) hx hb hts i_MM hown hK hP 0 rfl rfl 76 (by decide) (hts _ kw_1458) (fun _ h9 => h9) rfl d_rgrouped_14 ?_
    refine lv_icmp_lt (tgt := 22) hx hb d_rgrouped_17 (by decide) (fun c_2 => ?_) (fun c_2 => ?_)
    · replace Heq := (if_pos c_2).symm.trans Heq
      refine lv_aload_n hx hb d_rgrouped_22 rfl (lv_at hl 0 rfl) ?_
      refine va_get (D := D) (ci := 12) (v := .ref (md 40)) (C := R_MM) (T := F_MM) (N := 77) hx hb hts i_MM hown hK hP 0 rfl rfl 40 (by decide) (hts _ kw_1422) (fun _ h9 => h9) rfl d_rgrouped_23 ?_
      refine lv_aload_n hx hb d_rgrouped_26 rfl (lv_at hl 0 rfl) ?_
      refine va_get (D := D) (ci := 12) (v := .int (S.i 75)) (C := R_MM) (T := F_MM) (N := 77) hx hb hts i_MM hown hK hP 0 rfl rfl 75 (by decide) (hts _ kw_1457) (fun _ h9 => h9) rfl d_rgrouped_27 ?_
      obtain ⟨hi_3, Heq⟩ := gd_some Heq
      refine va_bald hx hb hK hP 28 1 rfl rfl (i := S.i 75) hi_3 d_rgrouped_30 ?_
      refine w_i (y := S.a 40 ((S.i 75).toNatClampNeg)) rfl ?_
      refine lv_sipush (v := 255) hx hb d_rgrouped_31 (by decide) ?_
      refine lv_iand hx hb d_rgrouped_34 ?_
      refine w_i (y := (S.a 40 ((S.i 75).toNatClampNeg)) &&& 255) rfl ?_
      refine lv_istore_n (lv' := [(3, .int ((S.a 40 ((S.i 75).toNatClampNeg)) &&& 255)), (0, .ref (md 100)), (1, .int x1), (2, .int x2)]) hx hb d_rgrouped_35 rfl hl (by decide) rfl (fun ls hl => ?_)
      refine lv_aload_n hx hb d_rgrouped_36 rfl (lv_at hl 1 rfl) ?_
      refine lv_dup hx hb d_rgrouped_37 rfl ?_
      refine va_get (D := D) (ci := 12) (v := .int (S.i 75)) (C := R_MM) (T := F_MM) (N := 77) hx hb hts i_MM hown hK hP 0 rfl rfl 75 (by decide) (hts _ kw_1457) (fun _ h9 => h9) rfl d_rgrouped_38 ?_
      refine lv_iconst (v := 1) hx hb d_rgrouped_41 (by decide) ?_
      refine lv_iadd hx hb d_rgrouped_42 ?_
      refine w_i (y := (S.i 75) + 1) rfl ?_
      refine va_put (D := D) (ci := 12) (v := .int ((S.i 75) + 1)) (ty := .int) (C := R_MM) (T := F_MM) (N := 77) hx hb hts i_MM t_MM t_MM_ok n_MM hown hK hP hD hS 0 rfl rfl 75 (by decide) (hts _ kw_1457) (fun _ h9 => h9) rfl (by decide +kernel) rfl rfl (Nat.le_of_ble_eq_true rfl) d_rgrouped_43 (fun H locs hP hD hS => ?_)
      rw [mw_I75] at hP hD
      refine lv_iload_n hx hb d_rgrouped_46 rfl (lv_at hl 2 rfl) ?_
      refine lv_iload_n hx hb d_rgrouped_47 rfl (lv_at hl 0 rfl) ?_
      refine lv_bipush (v := 127) hx hb d_rgrouped_48 (by decide) ?_
      refine lv_iand hx hb d_rgrouped_50 ?_
      refine w_i (y := ((S.a 40 ((S.i 75).toNatClampNeg)) &&& 255) &&& 127) rfl ?_
      refine lv_bipush (v := 7) hx hb d_rgrouped_51 (by decide) ?_
      refine lv_iload_n hx hb d_rgrouped_53 rfl (lv_at hl 3 rfl) ?_
      refine lv_imul hx hb d_rgrouped_54 ?_
      refine w_i (y := 7 * x2) rfl ?_
      refine lv_ishl hx hb d_rgrouped_55 ?_
      refine w_i (y := (((S.a 40 ((S.i 75).toNatClampNeg)) &&& 255) &&& 127) <<< ((7 * x2) &&& 31)) rfl ?_
      refine lv_ior hx hb d_rgrouped_56 ?_
      refine w_i (y := x1 ||| ((((S.a 40 ((S.i 75).toNatClampNeg)) &&& 255) &&& 127) <<< ((7 * x2) &&& 31))) rfl ?_
      refine lv_istore_n (lv' := [(1, .int (x1 ||| ((((S.a 40 ((S.i 75).toNatClampNeg)) &&& 255) &&& 127) <<< ((7 * x2) &&& 31)))), (3, .int ((S.a 40 ((S.i 75).toNatClampNeg)) &&& 255)), (0, .ref (md 100)), (2, .int x2)]) hx hb d_rgrouped_57 rfl hl (by decide) rfl (fun ls hl => ?_)
      refine lv_iload_n hx hb d_rgrouped_58 rfl (lv_at hl 1 rfl) ?_
      refine lv_sipush (v := 128) hx hb d_rgrouped_59 (by decide) ?_
      refine lv_icmp_ge (tgt := 67) hx hb d_rgrouped_62 (by decide) (fun c_4 => ?_) (fun c_4 => ?_)
      · replace Heq := (if_pos c_4).symm.trans Heq
        refine lv_iinc (v := x2 + 1) (lv' := [(2, .int (x2 + 1)), (1, .int (x1 ||| ((((S.a 40 ((S.i 75).toNatClampNeg)) &&& 255) &&& 127) <<< ((7 * x2) &&& 31)))), (3, .int ((S.a 40 ((S.i 75).toNatClampNeg)) &&& 255)), (0, .ref (md 100))]) hx hb d_rgrouped_67 hl (k := 3) rfl rfl (by decide) rfl (fun ls hl => ?_)
        refine lv_goto (tgt := 4) hx hb d_rgrouped_70 (by decide) ?_
        exact Ka _ (Option.some.inj Heq).symm _ _ _ hP hD hS (lv_sub hl [3, 1, 0] rfl)
      · replace Heq := (if_neg c_4).symm.trans Heq
        refine lv_iload_n hx hb d_rgrouped_65 rfl (lv_at hl 0 rfl) ?_
        exact Kr _ (Option.some.inj Heq).symm 66 _ _ _ d_rgrouped_66 hP hD hS
    · replace Heq := (if_neg c_2).symm.trans Heq
      refine lv_iconst (v := (-1)) hx hb d_rgrouped_20 (by decide) ?_
      exact Kr _ (Option.some.inj Heq).symm 21 _ _ _ d_rgrouped_21 hP hD hS
def m_rgrouped_L4 (S : MS) (x1 : Int32) (x2 : Int32) : Option (MS ⊕ (MS × Int32)) := lp (fun a : MS × Int32 × Int32 => m_rgrouped_B4 a.1 a.2.1 a.2.2) FU (S, x1, x2)
theorem w_rgrouped_L4 {p : Program} {l : Launch} {e : Env} {s : State} {m : MethodId} {args : Array Value} {below : List Frame} {meth : Method} {c : Code} {A : Nat → Prop} {D : va_G} {md : Nat → Nat} {mc : Nat → ClassId} {Q : State → Prop} (hC : MCx "JoinedTreesModel" prog_14_method_89_code 4 (some .int) p s m args meth c A D mc) {S : MS} {x1 : Int32} {x2 : Int32} {o : (MS ⊕ (MS × Int32))} (Heq : m_rgrouped_L4 S x1 x2 = some o) (K0 : ∀ b : MS, o = (.inl b) → ∀ (H : Heap) (locs : List Loc) (ls : Array Slot), va_P D cls (mw md mc b) H → va_D A (mw md mc b) → va_S A s.heap H locs → lv_has ls 4 [(0, .ref (md 100))] → W p l e ({ frames := 0, cells := 0, slots := 0, locals := 0 }) s m args below meth c H locs 0 0 Q (F0 m 73 ls [])) (Kr : ∀ r : MS × Int32, o = (.inr r) → ∀ (pc : Nat) (H : Heap) (locs : List Loc) (ls : Array Slot), decode prog_14_method_89_code pc = .ok (.ireturn, 1) → va_P D cls (mw md mc r.1) H → va_D A (mw md mc r.1) → va_S A s.heap H locs → W p l e ({ frames := 0, cells := 0, slots := 0, locals := 0 }) s m args below meth c H locs 0 0 Q (F0 m pc ls [.int r.2])) : ∀ (H : Heap) (locs : List Loc) (ls : Array Slot), va_P D cls (mw md mc S) H → va_D A (mw md mc S) → va_S A s.heap H locs → lv_has ls 4 [(0, .ref (md 100)), (1, .int x1), (2, .int x2)] → W p l e ({ frames := 0, cells := 0, slots := 0, locals := 0 }) s m args below meth c H locs 0 0 Q (F0 m 4 ls []) := by
  refine lp_w (G := fun a : MS × Int32 × Int32 => ∀ (H : Heap) (locs : List Loc) (ls : Array Slot), va_P D cls (mw md mc a.1) H → va_D A (mw md mc a.1) → va_S A s.heap H locs → lv_has ls 4 [(0, .ref (md 100)), (1, .int a.2.1), (2, .int a.2.2)] → W p l e ({ frames := 0, cells := 0, slots := 0, locals := 0 }) s m args below meth c H locs 0 0 Q (F0 m 4 ls [])) ?_ FU (S, x1, x2) Heq
  intro a o1 ho Ka Ke
  exact w_rgrouped_B4 hC ho (fun b h => Ka b h) (fun b h => K0 b (Ke _ h).symm) (fun r h => Kr r (Ke _ h).symm)
def m_rgrouped_J0 (S : MS) : Option (MS × Int32) := oe (m_rgrouped_L4 S 0 0) (fun b_1 => some (b_1, (-1))) (fun r_3 => some r_3)
theorem d_rgrouped_73 : decode prog_14_method_89_code 73 = .ok (.iconst (-1), 1) := by decide +kernel
theorem d_rgrouped_74 : decode prog_14_method_89_code 74 = .ok (.ireturn, 1) := by decide +kernel
set_option maxHeartbeats 4000000 in
set_option maxRecDepth 100000 in
theorem w_rgrouped_J0 {p : Program} {l : Launch} {e : Env} {s : State} {m : MethodId} {args : Array Value} {below : List Frame} {meth : Method} {c : Code} {A : Nat → Prop} {D : va_G} {md : Nat → Nat} {mc : Nat → ClassId} {Q : State → Prop} (hC : MCx "JoinedTreesModel" prog_14_method_89_code 4 (some .int) p s m args meth c A D mc) {S : MS} {o : MS × Int32} (Heq : m_rgrouped_J0 S = some o) (Kr : ∀ r : MS × Int32, o = r → ∀ (pc : Nat) (H : Heap) (locs : List Loc) (ls : Array Slot), decode prog_14_method_89_code pc = .ok (.ireturn, 1) → va_P D cls (mw md mc r.1) H → va_D A (mw md mc r.1) → va_S A s.heap H locs → W p l e ({ frames := 0, cells := 0, slots := 0, locals := 0 }) s m args below meth c H locs 0 0 Q (F0 m pc ls [.int r.2])) : ∀ (H : Heap) (locs : List Loc) (ls : Array Slot), va_P D cls (mw md mc S) H → va_D A (mw md mc S) → va_S A s.heap H locs → lv_has ls 4 [(0, .ref (md 100))] → W p l e ({ frames := 0, cells := 0, slots := 0, locals := 0 }) s m args below meth c H locs 0 0 Q (F0 m 0 ls []) := by
  intro H locs ls hP hD hS hl
  obtain ⟨hx, hb, hr, hml, hown, hts, hK, hA⟩ := id hC
  unfold m_rgrouped_J0 at Heq
  refine lv_iconst (v := 0) hx hb d_rgrouped_0 (by decide) ?_
  refine lv_istore_n (lv' := [(1, .int 0), (0, .ref (md 100))]) hx hb d_rgrouped_1 rfl hl (by decide) rfl (fun ls hl => ?_)
  refine lv_iconst (v := 0) hx hb d_rgrouped_2 (by decide) ?_
  refine lv_istore_n (lv' := [(2, .int 0), (1, .int 0), (0, .ref (md 100))]) hx hb d_rgrouped_3 rfl hl (by decide) rfl (fun ls hl => ?_)
  rcases oe_some Heq with ⟨b_1, h_2, Heq⟩ | ⟨r_3, h_2, Heq⟩
  · refine w_rgrouped_L4 hC h_2 (fun b h => ?_) (fun r h => by cases h) _ _ _ hP hD hS (lv_sub hl [2, 1, 0] rfl)
    cases h
    intro H locs ls hP hD hS hl
    refine lv_iconst (v := (-1)) hx hb d_rgrouped_73 (by decide) ?_
    exact Kr _ (Option.some.inj Heq).symm 74 _ _ _ d_rgrouped_74 hP hD hS
  · refine w_rgrouped_L4 hC h_2 (fun b h => by cases h) (fun r h => ?_) _ _ _ hP hD hS (lv_sub hl [2, 1, 0] rfl)
    cases h
    exact Kr _ (Option.some.inj Heq).symm
def m_rgrouped (S : MS) : Option (MS × Int32) := m_rgrouped_J0 S
theorem g_rgrouped (l : Launch) (D : va_G) (sz : Nat) {md : Nat → Nat} {mc : Nat → ClassId} {S : MS} {o : MS × Int32} (Heq : m_rgrouped S = some o) : Met l ⟨"JoinedTreesModel", "grouped", "()I"⟩ (Cond.code ⟨"JoinedTreesModel", "grouped", "()I"⟩ prog_14_method_89_code 4 (some .int) :: gb) ({ frames := 0, cells := 0, slots := 0, locals := 0 }) (gPc D (mw md mc S) (mty mc) sz [.ref (md 100)]) (va_Qi (fun (r : Int32) (_ : Unit) => r = o.2) (fun _ t => gO D (mw md mc o.1) (mty mc) (va_A (mw md mc S) sz) t) (va_A (mw md mc S) sz)) 0 0 (va_A (mw md mc S) sz) := by
  refine Met.ofW (cc := prog_14_method_89_code) (maxL := 4) (ret := (some .int)) (by decide) rfl ?_
  intro p e s m args below meth c s₁ B hml hv
  obtain ⟨rfl, hsz, hP, hK, hD0⟩ := hv
  have hx := B.exec
  have hb := B.bytes
  have hr := B.returns
  have hts : ∀ w9 ∈ gb, w9.before [.ref (md 100)].toArray s = true := fun w9 h => atoms_spec (ws := Cond.code ⟨"JoinedTreesModel", "grouped", "()I"⟩ prog_14_method_89_code 4 (some .int) :: gb) B.pre w9 (List.mem_cons_of_mem _ h)
  have hown : s.vm.findClass "JoinedTreesModel" = some m.cls := findClass_of_methodNamed B.named
  have hlocks := B.notSynchronized
  subst hsz
  have hD := hD0.self (sz := s.heap.size)
  generalize hAe : va_A (mw md mc S) s.heap.size = A at hD ⊢
  have hA : ∀ q : Nat, s.heap.size ≤ q → A q := fun q h => by rw [← hAe]; exact Or.inr h
  have hS : va_S A s.heap s.heap [] := va_S.rf
  have hl := lv_entry ([.ref (md 100)]) (n := 4) (Nat.le_of_ble_eq_true rfl)
  rw [lg_entry_eq]
  generalize (lg_sl ([.ref (md 100)]) ++ List.replicate (4 - (lg_sl ([.ref (md 100)])).length) Slot.unset).toArray = ls at hl ⊢
  have hl : lv_has ls 4 [(0, .ref (md 100))] := hl
  refine w_rgrouped_J0 ⟨hx, hb, hr, hml, hown, hts, hK, hA⟩ Heq (fun r h pc H locs ls hd hP hD hS => ?_) _ _ _ hP hD hS (lv_sub hl [0] rfl)
  subst h
  exact W.iret hx hb hr (fun t ht hW => ⟨⟨_, (), rfl, rfl, by rw [ht]; exact hP, va_K.moved hW.alike hK, hD⟩, hS.F ht⟩) hS.2.2 hd
def m_rstands_B14 (S : MS) (x1 : Int32) (x2 : Int32) (x3 : Int32) : Option ((MS × Int32 × Int32 × Int32) ⊕ (MS ⊕ (MS × Int32))) := (if x2 ≤ x3 then some (.inr (.inl (S))) else gd (x1 + x3) 800000 (gd (400000 + x3) 800000 ((if S.a 40 ((x1 + x3).toNatClampNeg) = S.a 40 ((400000 + x3).toNatClampNeg) then some (.inl (S, x1, x2, (x3 + 1))) else some (.inr (.inr (S, 0)))))))
theorem d_rstands_0 : decode prog_14_method_90_code 0 = .ok (.iload_n 1, 1) := by decide +kernel
theorem d_rstands_1 : decode prog_14_method_90_code 1 = .ok (.iload_n 2, 1) := by decide +kernel
theorem d_rstands_2 : decode prog_14_method_90_code 2 = .ok (.iadd, 1) := by decide +kernel
theorem d_rstands_3 : decode prog_14_method_90_code 3 = .ok (.aload_n 0, 1) := by decide +kernel
theorem d_rstands_4 : decode prog_14_method_90_code 4 = .ok (.getfield 499, 3) := by decide +kernel
theorem d_rstands_7 : decode prog_14_method_90_code 7 = .ok (.if_icmp .le 5, 3) := by decide +kernel
theorem d_rstands_12 : decode prog_14_method_90_code 12 = .ok (.iconst 0, 1) := by decide +kernel
theorem d_rstands_13 : decode prog_14_method_90_code 13 = .ok (.istore_n 3, 1) := by decide +kernel
theorem d_rstands_14 : decode prog_14_method_90_code 14 = .ok (.iload_n 3, 1) := by decide +kernel
theorem d_rstands_15 : decode prog_14_method_90_code 15 = .ok (.iload_n 2, 1) := by decide +kernel
theorem d_rstands_16 : decode prog_14_method_90_code 16 = .ok (.if_icmp .ge 31, 3) := by decide +kernel
theorem d_rstands_19 : decode prog_14_method_90_code 19 = .ok (.aload_n 0, 1) := by decide +kernel
theorem d_rstands_20 : decode prog_14_method_90_code 20 = .ok (.getfield 108, 3) := by decide +kernel
theorem d_rstands_23 : decode prog_14_method_90_code 23 = .ok (.iload_n 1, 1) := by decide +kernel
theorem d_rstands_24 : decode prog_14_method_90_code 24 = .ok (.iload_n 3, 1) := by decide +kernel
theorem d_rstands_25 : decode prog_14_method_90_code 25 = .ok (.iadd, 1) := by decide +kernel
theorem d_rstands_26 : decode prog_14_method_90_code 26 = .ok (.baload, 1) := by decide +kernel
theorem d_rstands_27 : decode prog_14_method_90_code 27 = .ok (.aload_n 0, 1) := by decide +kernel
theorem d_rstands_28 : decode prog_14_method_90_code 28 = .ok (.getfield 108, 3) := by decide +kernel
theorem d_rstands_31 : decode prog_14_method_90_code 31 = .ok (.ldc 172, 2) := by decide +kernel
theorem d_rstands_33 : decode prog_14_method_90_code 33 = .ok (.iload_n 3, 1) := by decide +kernel
theorem d_rstands_34 : decode prog_14_method_90_code 34 = .ok (.iadd, 1) := by decide +kernel
theorem d_rstands_35 : decode prog_14_method_90_code 35 = .ok (.baload, 1) := by decide +kernel
theorem d_rstands_36 : decode prog_14_method_90_code 36 = .ok (.if_icmp .eq 5, 3) := by decide +kernel
theorem d_rstands_41 : decode prog_14_method_90_code 41 = .ok (.iinc 3 1, 3) := by decide +kernel
theorem d_rstands_44 : decode prog_14_method_90_code 44 = .ok (.goto (-30), 3) := by decide +kernel
theorem d_rstands_39 : decode prog_14_method_90_code 39 = .ok (.iconst 0, 1) := by decide +kernel
theorem d_rstands_40 : decode prog_14_method_90_code 40 = .ok (.ireturn, 1) := by decide +kernel
set_option maxHeartbeats 4000000 in
set_option maxRecDepth 100000 in
theorem w_rstands_B14 {p : Program} {l : Launch} {e : Env} {s : State} {m : MethodId} {args : Array Value} {below : List Frame} {meth : Method} {c : Code} {A : Nat → Prop} {D : va_G} {md : Nat → Nat} {mc : Nat → ClassId} {Q : State → Prop} (hC : MCx "JoinedTreesModel" prog_14_method_90_code 4 (some .boolean) p s m args meth c A D mc) {S : MS} {x1 : Int32} {x2 : Int32} {x3 : Int32} {o : ((MS × Int32 × Int32 × Int32) ⊕ (MS ⊕ (MS × Int32)))} (Heq : m_rstands_B14 S x1 x2 x3 = some o) (Ka : ∀ b : MS × Int32 × Int32 × Int32, o = .inl b → ∀ (H : Heap) (locs : List Loc) (ls : Array Slot), va_P D cls (mw md mc b.1) H → va_D A (mw md mc b.1) → va_S A s.heap H locs → lv_has ls 4 [(0, .ref (md 100)), (1, .int b.2.1), (2, .int b.2.2.1), (3, .int b.2.2.2)] → W p l e ({ frames := 0, cells := 0, slots := 0, locals := 0 }) s m args below meth c H locs 0 0 Q (F0 m 14 ls [])) (K0 : ∀ b : MS, o = .inr (.inl b) → ∀ (H : Heap) (locs : List Loc) (ls : Array Slot), va_P D cls (mw md mc b) H → va_D A (mw md mc b) → va_S A s.heap H locs → lv_has ls 4 [(0, .ref (md 100))] → W p l e ({ frames := 0, cells := 0, slots := 0, locals := 0 }) s m args below meth c H locs 0 0 Q (F0 m 47 ls [])) (Kr : ∀ r : MS × Int32, o = .inr (.inr r) → ∀ (pc : Nat) (H : Heap) (locs : List Loc) (ls : Array Slot), decode prog_14_method_90_code pc = .ok (.ireturn, 1) → (r.2 = 0 ∨ r.2 = 1) → va_P D cls (mw md mc r.1) H → va_D A (mw md mc r.1) → va_S A s.heap H locs → W p l e ({ frames := 0, cells := 0, slots := 0, locals := 0 }) s m args below meth c H locs 0 0 Q (F0 m pc ls [.int r.2])) : ∀ (H : Heap) (locs : List Loc) (ls : Array Slot), va_P D cls (mw md mc S) H → va_D A (mw md mc S) → va_S A s.heap H locs → lv_has ls 4 [(0, .ref (md 100)), (1, .int x1), (2, .int x2), (3, .int x3)] → W p l e ({ frames := 0, cells := 0, slots := 0, locals := 0 }) s m args below meth c H locs 0 0 Q (F0 m 14 ls []) := by
  intro H locs ls hP hD hS hl
  obtain ⟨hx, hb, hr, hml, hown, hts, hK, hA⟩ := id hC
  unfold m_rstands_B14 at Heq
  refine lv_iload_n hx hb d_rstands_14 rfl (lv_at hl 3 rfl) ?_
  refine lv_iload_n hx hb d_rstands_15 rfl (lv_at hl 2 rfl) ?_
  refine lv_icmp_ge (tgt := 47) hx hb d_rstands_16 (by decide) (fun c_1 => ?_) (fun c_1 => ?_)
  · replace Heq := (if_pos c_1).symm.trans Heq
    exact K0 _ (Option.some.inj Heq).symm _ _ _ hP hD hS (lv_sub hl [0] rfl)
  · replace Heq := (if_neg c_1).symm.trans Heq
    refine lv_aload_n hx hb d_rstands_19 rfl (lv_at hl 0 rfl) ?_
    refine va_get (D := D) (ci := 12) (v := .ref (md 40)) (C := R_MM) (T := F_MM) (N := 77) hx hb hts i_MM hown hK hP 0 rfl rfl 40 (by decide) (hts _ kw_1422) (fun _ h9 => h9) rfl d_rstands_20 ?_
    refine lv_iload_n hx hb d_rstands_23 rfl (lv_at hl 1 rfl) ?_
    refine lv_iload_n hx hb d_rstands_24 rfl (lv_at hl 3 rfl) ?_
    refine lv_iadd hx hb d_rstands_25 ?_
    refine w_i (y := x1 + x3) rfl ?_
    obtain ⟨hi_2, Heq⟩ := gd_some Heq
    refine va_bald hx hb hK hP 28 1 rfl rfl (i := x1 + x3) hi_2 d_rstands_26 ?_
    refine w_i (y := S.a 40 ((x1 + x3).toNatClampNeg)) rfl ?_
    refine lv_aload_n hx hb d_rstands_27 rfl (lv_at hl 0 rfl) ?_
    refine va_get (D := D) (ci := 12) (v := .ref (md 40)) (C := R_MM) (T := F_MM) (N := 77) hx hb hts i_MM hown hK hP 0 rfl rfl 40 (by decide) (hts _ kw_1422) (fun _ h9 => h9) rfl d_rstands_28 ?_
    refine lv_ldc (v := 400000) hx hb hown (hts _ kw_1381) d_rstands_31 ?_
    refine lv_iload_n hx hb d_rstands_33 rfl (lv_at hl 3 rfl) ?_
    refine lv_iadd hx hb d_rstands_34 ?_
    refine w_i (y := 400000 + x3) rfl ?_
    obtain ⟨hi_3, Heq⟩ := gd_some Heq
    refine va_bald hx hb hK hP 28 1 rfl rfl (i := 400000 + x3) hi_3 d_rstands_35 ?_
    refine w_i (y := S.a 40 ((400000 + x3).toNatClampNeg)) rfl ?_
    refine lv_icmp_eq (tgt := 41) hx hb d_rstands_36 (by decide) (fun c_4 => ?_) (fun c_4 => ?_)
    · replace Heq := (if_pos c_4).symm.trans Heq
      refine lv_iinc (v := x3 + 1) (lv' := [(3, .int (x3 + 1)), (0, .ref (md 100)), (1, .int x1), (2, .int x2)]) hx hb d_rstands_41 hl (k := 3) rfl rfl (by decide) rfl (fun ls hl => ?_)
      refine lv_goto (tgt := 14) hx hb d_rstands_44 (by decide) ?_
      exact Ka _ (Option.some.inj Heq).symm _ _ _ hP hD hS (lv_sub hl [1, 2, 3, 0] rfl)
    · replace Heq := (if_neg c_4).symm.trans Heq
      refine lv_iconst (v := 0) hx hb d_rstands_39 (by decide) ?_
      exact Kr _ (Option.some.inj Heq).symm 40 _ _ _ d_rstands_40 (Or.inl rfl) hP hD hS
def m_rstands_L14 (S : MS) (x1 : Int32) (x2 : Int32) (x3 : Int32) : Option (MS ⊕ (MS × Int32)) := lp (fun a : MS × Int32 × Int32 × Int32 => m_rstands_B14 a.1 a.2.1 a.2.2.1 a.2.2.2) FU (S, x1, x2, x3)
theorem w_rstands_L14 {p : Program} {l : Launch} {e : Env} {s : State} {m : MethodId} {args : Array Value} {below : List Frame} {meth : Method} {c : Code} {A : Nat → Prop} {D : va_G} {md : Nat → Nat} {mc : Nat → ClassId} {Q : State → Prop} (hC : MCx "JoinedTreesModel" prog_14_method_90_code 4 (some .boolean) p s m args meth c A D mc) {S : MS} {x1 : Int32} {x2 : Int32} {x3 : Int32} {o : (MS ⊕ (MS × Int32))} (Heq : m_rstands_L14 S x1 x2 x3 = some o) (K0 : ∀ b : MS, o = (.inl b) → ∀ (H : Heap) (locs : List Loc) (ls : Array Slot), va_P D cls (mw md mc b) H → va_D A (mw md mc b) → va_S A s.heap H locs → lv_has ls 4 [(0, .ref (md 100))] → W p l e ({ frames := 0, cells := 0, slots := 0, locals := 0 }) s m args below meth c H locs 0 0 Q (F0 m 47 ls [])) (Kr : ∀ r : MS × Int32, o = (.inr r) → ∀ (pc : Nat) (H : Heap) (locs : List Loc) (ls : Array Slot), decode prog_14_method_90_code pc = .ok (.ireturn, 1) → (r.2 = 0 ∨ r.2 = 1) → va_P D cls (mw md mc r.1) H → va_D A (mw md mc r.1) → va_S A s.heap H locs → W p l e ({ frames := 0, cells := 0, slots := 0, locals := 0 }) s m args below meth c H locs 0 0 Q (F0 m pc ls [.int r.2])) : ∀ (H : Heap) (locs : List Loc) (ls : Array Slot), va_P D cls (mw md mc S) H → va_D A (mw md mc S) → va_S A s.heap H locs → lv_has ls 4 [(0, .ref (md 100)), (1, .int x1), (2, .int x2), (3, .int x3)] → W p l e ({ frames := 0, cells := 0, slots := 0, locals := 0 }) s m args below meth c H locs 0 0 Q (F0 m 14 ls []) := by
  refine lp_w (G := fun a : MS × Int32 × Int32 × Int32 => ∀ (H : Heap) (locs : List Loc) (ls : Array Slot), va_P D cls (mw md mc a.1) H → va_D A (mw md mc a.1) → va_S A s.heap H locs → lv_has ls 4 [(0, .ref (md 100)), (1, .int a.2.1), (2, .int a.2.2.1), (3, .int a.2.2.2)] → W p l e ({ frames := 0, cells := 0, slots := 0, locals := 0 }) s m args below meth c H locs 0 0 Q (F0 m 14 ls [])) ?_ FU (S, x1, x2, x3) Heq
  intro a o1 ho Ka Ke
  exact w_rstands_B14 hC ho (fun b h => Ka b h) (fun b h => K0 b (Ke _ h).symm) (fun r h => Kr r (Ke _ h).symm)
def m_rstands_J0 (S : MS) (x1 : Int32) (x2 : Int32) : Option (MS × Int32) := (if x1 + x2 ≤ S.i 76 then oe (m_rstands_L14 S x1 x2 0) (fun b_2 => some (b_2, 1)) (fun r_4 => some r_4) else some (S, 0))
theorem d_rstands_47 : decode prog_14_method_90_code 47 = .ok (.iconst 1, 1) := by decide +kernel
theorem d_rstands_48 : decode prog_14_method_90_code 48 = .ok (.ireturn, 1) := by decide +kernel
theorem d_rstands_10 : decode prog_14_method_90_code 10 = .ok (.iconst 0, 1) := by decide +kernel
theorem d_rstands_11 : decode prog_14_method_90_code 11 = .ok (.ireturn, 1) := by decide +kernel
set_option maxHeartbeats 4000000 in
set_option maxRecDepth 100000 in
theorem w_rstands_J0 {p : Program} {l : Launch} {e : Env} {s : State} {m : MethodId} {args : Array Value} {below : List Frame} {meth : Method} {c : Code} {A : Nat → Prop} {D : va_G} {md : Nat → Nat} {mc : Nat → ClassId} {Q : State → Prop} (hC : MCx "JoinedTreesModel" prog_14_method_90_code 4 (some .boolean) p s m args meth c A D mc) {S : MS} {x1 : Int32} {x2 : Int32} {o : MS × Int32} (Heq : m_rstands_J0 S x1 x2 = some o) (Kr : ∀ r : MS × Int32, o = r → ∀ (pc : Nat) (H : Heap) (locs : List Loc) (ls : Array Slot), decode prog_14_method_90_code pc = .ok (.ireturn, 1) → (r.2 = 0 ∨ r.2 = 1) → va_P D cls (mw md mc r.1) H → va_D A (mw md mc r.1) → va_S A s.heap H locs → W p l e ({ frames := 0, cells := 0, slots := 0, locals := 0 }) s m args below meth c H locs 0 0 Q (F0 m pc ls [.int r.2])) : ∀ (H : Heap) (locs : List Loc) (ls : Array Slot), va_P D cls (mw md mc S) H → va_D A (mw md mc S) → va_S A s.heap H locs → lv_has ls 4 [(0, .ref (md 100)), (1, .int x1), (2, .int x2)] → W p l e ({ frames := 0, cells := 0, slots := 0, locals := 0 }) s m args below meth c H locs 0 0 Q (F0 m 0 ls []) := by
  intro H locs ls hP hD hS hl
  obtain ⟨hx, hb, hr, hml, hown, hts, hK, hA⟩ := id hC
  unfold m_rstands_J0 at Heq
  refine lv_iload_n hx hb d_rstands_0 rfl (lv_at hl 1 rfl) ?_
  refine lv_iload_n hx hb d_rstands_1 rfl (lv_at hl 2 rfl) ?_
  refine lv_iadd hx hb d_rstands_2 ?_
  refine w_i (y := x1 + x2) rfl ?_
  refine lv_aload_n hx hb d_rstands_3 rfl (lv_at hl 0 rfl) ?_
  refine va_get (D := D) (ci := 12) (v := .int (S.i 76)) (C := R_MM) (T := F_MM) (N := 77) hx hb hts i_MM hown hK hP 0 rfl rfl 76 (by decide) (hts _ kw_1458) (fun _ h9 => h9) rfl d_rstands_4 ?_
  refine lv_icmp_le (tgt := 12) hx hb d_rstands_7 (by decide) (fun c_1 => ?_) (fun c_1 => ?_)
  · replace Heq := (if_pos c_1).symm.trans Heq
    refine lv_iconst (v := 0) hx hb d_rstands_12 (by decide) ?_
    refine lv_istore_n (lv' := [(3, .int 0), (0, .ref (md 100)), (1, .int x1), (2, .int x2)]) hx hb d_rstands_13 rfl hl (by decide) rfl (fun ls hl => ?_)
    rcases oe_some Heq with ⟨b_2, h_3, Heq⟩ | ⟨r_4, h_3, Heq⟩
    · refine w_rstands_L14 hC h_3 (fun b h => ?_) (fun r h => by cases h) _ _ _ hP hD hS (lv_sub hl [1, 2, 3, 0] rfl)
      cases h
      intro H locs ls hP hD hS hl
      refine lv_iconst (v := 1) hx hb d_rstands_47 (by decide) ?_
      exact Kr _ (Option.some.inj Heq).symm 48 _ _ _ d_rstands_48 (Or.inr rfl) hP hD hS
    · refine w_rstands_L14 hC h_3 (fun b h => by cases h) (fun r h => ?_) _ _ _ hP hD hS (lv_sub hl [1, 2, 3, 0] rfl)
      cases h
      exact Kr _ (Option.some.inj Heq).symm
  · replace Heq := (if_neg c_1).symm.trans Heq
    refine lv_iconst (v := 0) hx hb d_rstands_10 (by decide) ?_
    exact Kr _ (Option.some.inj Heq).symm 11 _ _ _ d_rstands_11 (Or.inl rfl) hP hD hS
def m_rstands (S : MS) (x1 : Int32) (x2 : Int32) : Option (MS × Int32) := m_rstands_J0 S x1 x2
theorem g_rstands (l : Launch) (D : va_G) (sz : Nat) {md : Nat → Nat} {mc : Nat → ClassId} {S : MS} {x1 : Int32} {x2 : Int32} {o : MS × Int32} (Heq : m_rstands S x1 x2 = some o) : Met l ⟨"JoinedTreesModel", "stands", "(II)Z"⟩ (Cond.code ⟨"JoinedTreesModel", "stands", "(II)Z"⟩ prog_14_method_90_code 4 (some .boolean) :: gb) ({ frames := 0, cells := 0, slots := 0, locals := 0 }) (gPc D (mw md mc S) (mty mc) sz [.ref (md 100), .int x1, .int x2]) (va_Qi (fun (r : Int32) (_ : Unit) => r = o.2) (fun _ t => gO D (mw md mc o.1) (mty mc) (va_A (mw md mc S) sz) t) (va_A (mw md mc S) sz)) 0 0 (va_A (mw md mc S) sz) := by
  refine Met.ofW (cc := prog_14_method_90_code) (maxL := 4) (ret := (some .boolean)) (by decide) rfl ?_
  intro p e s m args below meth c s₁ B hml hv
  obtain ⟨rfl, hsz, hP, hK, hD0⟩ := hv
  have hx := B.exec
  have hb := B.bytes
  have hr := B.returns
  have hts : ∀ w9 ∈ gb, w9.before [.ref (md 100), .int x1, .int x2].toArray s = true := fun w9 h => atoms_spec (ws := Cond.code ⟨"JoinedTreesModel", "stands", "(II)Z"⟩ prog_14_method_90_code 4 (some .boolean) :: gb) B.pre w9 (List.mem_cons_of_mem _ h)
  have hown : s.vm.findClass "JoinedTreesModel" = some m.cls := findClass_of_methodNamed B.named
  have hlocks := B.notSynchronized
  subst hsz
  have hD := hD0.self (sz := s.heap.size)
  generalize hAe : va_A (mw md mc S) s.heap.size = A at hD ⊢
  have hA : ∀ q : Nat, s.heap.size ≤ q → A q := fun q h => by rw [← hAe]; exact Or.inr h
  have hS : va_S A s.heap s.heap [] := va_S.rf
  have hl := lv_entry ([.ref (md 100), .int x1, .int x2]) (n := 4) (Nat.le_of_ble_eq_true rfl)
  rw [lg_entry_eq]
  generalize (lg_sl ([.ref (md 100), .int x1, .int x2]) ++ List.replicate (4 - (lg_sl ([.ref (md 100), .int x1, .int x2])).length) Slot.unset).toArray = ls at hl ⊢
  have hl : lv_has ls 4 [(0, .ref (md 100)), (1, .int x1), (2, .int x2)] := hl
  refine w_rstands_J0 ⟨hx, hb, hr, hml, hown, hts, hK, hA⟩ Heq (fun r h pc H locs ls hd hz hP hD hS => ?_) _ _ _ hP hD hS (lv_sub hl [0, 1, 2] rfl)
  subst h
  exact W.zret (ty := .boolean) hx hb hr (by rcases hz with hz | hz <;> rw [hz] <;> rfl) (fun t ht hW => ⟨⟨_, (), rfl, rfl, by rw [ht]; exact hP, va_K.moved hW.alike hK, hD⟩, hS.F ht⟩) hS.2.2 hd
def m_risSaved_B2 (S : MS) (x1 : Int32) : Option ((MS × Int32) ⊕ MS) := (if 1000 ≤ x1 then some (.inr (S)) else gd x1 1000 (some (.inl ((S.setA 44 (upd (S.a 44) x1.toNatClampNeg (vp_nar .boolean 0))), (x1 + 1)))))
theorem d_risSaved_0 : decode prog_14_method_91_code 0 = .ok (.iconst 0, 1) := by decide +kernel
theorem d_risSaved_1 : decode prog_14_method_91_code 1 = .ok (.istore_n 1, 1) := by decide +kernel
theorem d_risSaved_2 : decode prog_14_method_91_code 2 = .ok (.iload_n 1, 1) := by decide +kernel
theorem d_risSaved_3 : decode prog_14_method_91_code 3 = .ok (.sipush 1000, 3) := by decide +kernel
theorem d_risSaved_6 : decode prog_14_method_91_code 6 = .ok (.if_icmp .ge 16, 3) := by decide +kernel
theorem d_risSaved_9 : decode prog_14_method_91_code 9 = .ok (.aload_n 0, 1) := by decide +kernel
theorem d_risSaved_10 : decode prog_14_method_91_code 10 = .ok (.getfield 115, 3) := by decide +kernel
theorem d_risSaved_13 : decode prog_14_method_91_code 13 = .ok (.iload_n 1, 1) := by decide +kernel
theorem d_risSaved_14 : decode prog_14_method_91_code 14 = .ok (.iconst 0, 1) := by decide +kernel
theorem d_risSaved_15 : decode prog_14_method_91_code 15 = .ok (.bastore, 1) := by decide +kernel
theorem d_risSaved_16 : decode prog_14_method_91_code 16 = .ok (.iinc 1 1, 3) := by decide +kernel
theorem d_risSaved_19 : decode prog_14_method_91_code 19 = .ok (.goto (-17), 3) := by decide +kernel
set_option maxHeartbeats 4000000 in
set_option maxRecDepth 100000 in
theorem w_risSaved_B2 {p : Program} {l : Launch} {e : Env} {s : State} {m : MethodId} {args : Array Value} {below : List Frame} {meth : Method} {c : Code} {A : Nat → Prop} {D : va_G} {md : Nat → Nat} {mc : Nat → ClassId} {Q : State → Prop} (hC : MCx "JoinedTreesModel" prog_14_method_91_code 9 (some .boolean) p s m args meth c A D mc) {S : MS} {x1 : Int32} {o : ((MS × Int32) ⊕ MS)} (Heq : m_risSaved_B2 S x1 = some o) (Ka : ∀ b : MS × Int32, o = .inl b → ∀ (H : Heap) (locs : List Loc) (ls : Array Slot), va_P D cls (mw md mc b.1) H → va_D A (mw md mc b.1) → va_S A s.heap H locs → lv_has ls 9 [(0, .ref (md 100)), (1, .int b.2)] → W p l e ({ frames := 5, cells := 0, slots := 0, locals := 118 }) s m args below meth c H locs 0 0 Q (F0 m 2 ls [])) (K0 : ∀ b : MS, o = .inr b → ∀ (H : Heap) (locs : List Loc) (ls : Array Slot), va_P D cls (mw md mc b) H → va_D A (mw md mc b) → va_S A s.heap H locs → lv_has ls 9 [(0, .ref (md 100))] → W p l e ({ frames := 5, cells := 0, slots := 0, locals := 118 }) s m args below meth c H locs 0 0 Q (F0 m 22 ls [])) : ∀ (H : Heap) (locs : List Loc) (ls : Array Slot), va_P D cls (mw md mc S) H → va_D A (mw md mc S) → va_S A s.heap H locs → lv_has ls 9 [(0, .ref (md 100)), (1, .int x1)] → W p l e ({ frames := 5, cells := 0, slots := 0, locals := 118 }) s m args below meth c H locs 0 0 Q (F0 m 2 ls []) := by
  intro H locs ls hP hD hS hl
  obtain ⟨hx, hb, hr, hml, hown, hts, hK, hA⟩ := id hC
  unfold m_risSaved_B2 at Heq
  refine lv_iload_n hx hb d_risSaved_2 rfl (lv_at hl 1 rfl) ?_
  refine lv_sipush (v := 1000) hx hb d_risSaved_3 (by decide) ?_
  refine lv_icmp_ge (tgt := 22) hx hb d_risSaved_6 (by decide) (fun c_1 => ?_) (fun c_1 => ?_)
  · replace Heq := (if_pos c_1).symm.trans Heq
    exact K0 _ (Option.some.inj Heq).symm _ _ _ hP hD hS (lv_sub hl [0] rfl)
  · replace Heq := (if_neg c_1).symm.trans Heq
    refine lv_aload_n hx hb d_risSaved_9 rfl (lv_at hl 0 rfl) ?_
    refine va_get (D := D) (ci := 12) (v := .ref (md 44)) (C := R_MM) (T := F_MM) (N := 77) hx hb hts i_MM hown hK hP 0 rfl rfl 44 (by decide) (hts _ kw_1426) (fun _ h9 => h9) rfl d_risSaved_10 ?_
    refine lv_iload_n hx hb d_risSaved_13 rfl (lv_at hl 1 rfl) ?_
    refine lv_iconst (v := 0) hx hb d_risSaved_14 (by decide) ?_
    obtain ⟨hi_2, Heq⟩ := gd_some Heq
    refine va_zast hx hb hK hP hD hS 29 2 rfl rfl (i := x1) (x := 0) hi_2 d_risSaved_15 (fun H locs hP hD hS => ?_)
    rw [mw_A44] at hP hD
    refine lv_iinc (v := x1 + 1) (lv' := [(1, .int (x1 + 1)), (0, .ref (md 100))]) hx hb d_risSaved_16 hl (k := 1) rfl rfl (by decide) rfl (fun ls hl => ?_)
    refine lv_goto (tgt := 2) hx hb d_risSaved_19 (by decide) ?_
    exact Ka _ (Option.some.inj Heq).symm _ _ _ hP hD hS (lv_sub hl [1, 0] rfl)
def m_risSaved_L2 (S : MS) (x1 : Int32) : Option MS := lp (fun a : MS × Int32 => m_risSaved_B2 a.1 a.2) FU (S, x1)
theorem w_risSaved_L2 {p : Program} {l : Launch} {e : Env} {s : State} {m : MethodId} {args : Array Value} {below : List Frame} {meth : Method} {c : Code} {A : Nat → Prop} {D : va_G} {md : Nat → Nat} {mc : Nat → ClassId} {Q : State → Prop} (hC : MCx "JoinedTreesModel" prog_14_method_91_code 9 (some .boolean) p s m args meth c A D mc) {S : MS} {x1 : Int32} {o : MS} (Heq : m_risSaved_L2 S x1 = some o) (K0 : ∀ b : MS, o = b → ∀ (H : Heap) (locs : List Loc) (ls : Array Slot), va_P D cls (mw md mc b) H → va_D A (mw md mc b) → va_S A s.heap H locs → lv_has ls 9 [(0, .ref (md 100))] → W p l e ({ frames := 5, cells := 0, slots := 0, locals := 118 }) s m args below meth c H locs 0 0 Q (F0 m 22 ls [])) : ∀ (H : Heap) (locs : List Loc) (ls : Array Slot), va_P D cls (mw md mc S) H → va_D A (mw md mc S) → va_S A s.heap H locs → lv_has ls 9 [(0, .ref (md 100)), (1, .int x1)] → W p l e ({ frames := 5, cells := 0, slots := 0, locals := 118 }) s m args below meth c H locs 0 0 Q (F0 m 2 ls []) := by
  refine lp_w (G := fun a : MS × Int32 => ∀ (H : Heap) (locs : List Loc) (ls : Array Slot), va_P D cls (mw md mc a.1) H → va_D A (mw md mc a.1) → va_S A s.heap H locs → lv_has ls 9 [(0, .ref (md 100)), (1, .int a.2)] → W p l e ({ frames := 5, cells := 0, slots := 0, locals := 118 }) s m args below meth c H locs 0 0 Q (F0 m 2 ls [])) ?_ FU (S, x1) Heq
  intro a o1 ho Ka Ke
  exact w_risSaved_B2 hC ho (fun b h => Ka b h) (fun b h => K0 b (Ke _ h).symm)
def m_risSaved_J44 (S : MS) : Option (MS × Int32) := some (S, 0)
theorem d_risSaved_22 : decode prog_14_method_91_code 22 = .ok (.aload_n 0, 1) := by decide +kernel
theorem d_risSaved_23 : decode prog_14_method_91_code 23 = .ok (.iconst 0, 1) := by decide +kernel
theorem d_risSaved_24 : decode prog_14_method_91_code 24 = .ok (.putfield 496, 3) := by decide +kernel
theorem d_risSaved_27 : decode prog_14_method_91_code 27 = .ok (.aload_n 0, 1) := by decide +kernel
theorem d_risSaved_28 : decode prog_14_method_91_code 28 = .ok (.invokevirtual 502, 3) := by decide +kernel
theorem d_risSaved_31 : decode prog_14_method_91_code 31 = .ok (.istore_n 1, 1) := by decide +kernel
theorem d_risSaved_32 : decode prog_14_method_91_code 32 = .ok (.iload_n 1, 1) := by decide +kernel
theorem d_risSaved_33 : decode prog_14_method_91_code 33 = .ok (.ifCond .lt 11, 3) := by decide +kernel
theorem d_risSaved_44 : decode prog_14_method_91_code 44 = .ok (.iconst 0, 1) := by decide +kernel
theorem d_risSaved_45 : decode prog_14_method_91_code 45 = .ok (.ireturn, 1) := by decide +kernel
set_option maxHeartbeats 4000000 in
set_option maxRecDepth 100000 in
theorem w_risSaved_J44 {p : Program} {l : Launch} {e : Env} {s : State} {m : MethodId} {args : Array Value} {below : List Frame} {meth : Method} {c : Code} {A : Nat → Prop} {D : va_G} {md : Nat → Nat} {mc : Nat → ClassId} {Q : State → Prop} (hC : MCx "JoinedTreesModel" prog_14_method_91_code 9 (some .boolean) p s m args meth c A D mc) {S : MS} {o : MS × Int32} (Heq : m_risSaved_J44 S = some o) (Kr : ∀ r : MS × Int32, o = r → ∀ (pc : Nat) (H : Heap) (locs : List Loc) (ls : Array Slot), decode prog_14_method_91_code pc = .ok (.ireturn, 1) → (r.2 = 0 ∨ r.2 = 1) → va_P D cls (mw md mc r.1) H → va_D A (mw md mc r.1) → va_S A s.heap H locs → W p l e ({ frames := 5, cells := 0, slots := 0, locals := 118 }) s m args below meth c H locs 0 0 Q (F0 m pc ls [.int r.2])) : ∀ (H : Heap) (locs : List Loc) (ls : Array Slot), va_P D cls (mw md mc S) H → va_D A (mw md mc S) → va_S A s.heap H locs → lv_has ls 9 [(0, .ref (md 100))] → W p l e ({ frames := 5, cells := 0, slots := 0, locals := 118 }) s m args below meth c H locs 0 0 Q (F0 m 44 ls []) := by
  intro H locs ls hP hD hS hl
  obtain ⟨hx, hb, hr, hml, hown, hts, hK, hA⟩ := id hC
  unfold m_risSaved_J44 at Heq
  refine lv_iconst (v := 0) hx hb d_risSaved_44 (by decide) ?_
  exact Kr _ (Option.some.inj Heq).symm 45 _ _ _ d_risSaved_45 (Or.inl rfl) hP hD hS
def m_risSaved_J135 (S : MS) : Option ((MS × Int32 × Int32 × Int32 × Int32) ⊕ (MS ⊕ (MS × Int32))) := some (.inr (.inr (S, 0)))
theorem d_risSaved_36 : decode prog_14_method_91_code 36 = .ok (.iload_n 1, 1) := by decide +kernel
theorem d_risSaved_37 : decode prog_14_method_91_code 37 = .ok (.aload_n 0, 1) := by decide +kernel
theorem d_risSaved_38 : decode prog_14_method_91_code 38 = .ok (.getfield 384, 3) := by decide +kernel
theorem d_risSaved_41 : decode prog_14_method_91_code 41 = .ok (.if_icmp .le 5, 3) := by decide +kernel
theorem d_risSaved_46 : decode prog_14_method_91_code 46 = .ok (.aload_n 0, 1) := by decide +kernel
theorem d_risSaved_47 : decode prog_14_method_91_code 47 = .ok (.ldc 172, 2) := by decide +kernel
theorem d_risSaved_49 : decode prog_14_method_91_code 49 = .ok (.putfield 433, 3) := by decide +kernel
theorem d_risSaved_52 : decode prog_14_method_91_code 52 = .ok (.aload_n 0, 1) := by decide +kernel
theorem d_risSaved_53 : decode prog_14_method_91_code 53 = .ok (.iload_n 1, 1) := by decide +kernel
theorem d_risSaved_54 : decode prog_14_method_91_code 54 = .ok (.i2l, 1) := by decide +kernel
theorem d_risSaved_55 : decode prog_14_method_91_code 55 = .ok (.invokevirtual 474, 3) := by decide +kernel
theorem d_risSaved_58 : decode prog_14_method_91_code 58 = .ok (.aload_n 0, 1) := by decide +kernel
theorem d_risSaved_59 : decode prog_14_method_91_code 59 = .ok (.iconst 0, 1) := by decide +kernel
theorem d_risSaved_60 : decode prog_14_method_91_code 60 = .ok (.aload_n 0, 1) := by decide +kernel
theorem d_risSaved_61 : decode prog_14_method_91_code 61 = .ok (.getfield 433, 3) := by decide +kernel
theorem d_risSaved_64 : decode prog_14_method_91_code 64 = .ok (.ldc 172, 2) := by decide +kernel
theorem d_risSaved_66 : decode prog_14_method_91_code 66 = .ok (.isub, 1) := by decide +kernel
theorem d_risSaved_67 : decode prog_14_method_91_code 67 = .ok (.invokevirtual 505, 3) := by decide +kernel
theorem d_risSaved_70 : decode prog_14_method_91_code 70 = .ok (.ifCond .ne 5, 3) := by decide +kernel
theorem d_risSaved_75 : decode prog_14_method_91_code 75 = .ok (.aload_n 0, 1) := by decide +kernel
theorem d_risSaved_76 : decode prog_14_method_91_code 76 = .ok (.aload_n 0, 1) := by decide +kernel
theorem d_risSaved_77 : decode prog_14_method_91_code 77 = .ok (.getfield 433, 3) := by decide +kernel
theorem d_risSaved_80 : decode prog_14_method_91_code 80 = .ok (.ldc 172, 2) := by decide +kernel
theorem d_risSaved_82 : decode prog_14_method_91_code 82 = .ok (.isub, 1) := by decide +kernel
theorem d_risSaved_83 : decode prog_14_method_91_code 83 = .ok (.putfield 496, 3) := by decide +kernel
theorem d_risSaved_86 : decode prog_14_method_91_code 86 = .ok (.iconst (-1), 1) := by decide +kernel
theorem d_risSaved_87 : decode prog_14_method_91_code 87 = .ok (.istore_n 2, 1) := by decide +kernel
theorem d_risSaved_88 : decode prog_14_method_91_code 88 = .ok (.iconst 0, 1) := by decide +kernel
theorem d_risSaved_89 : decode prog_14_method_91_code 89 = .ok (.istore_n 3, 1) := by decide +kernel
theorem d_risSaved_90 : decode prog_14_method_91_code 90 = .ok (.iconst 0, 1) := by decide +kernel
theorem d_risSaved_91 : decode prog_14_method_91_code 91 = .ok (.istore 4, 2) := by decide +kernel
theorem d_risSaved_93 : decode prog_14_method_91_code 93 = .ok (.iload 4, 2) := by decide +kernel
theorem d_risSaved_95 : decode prog_14_method_91_code 95 = .ok (.iload_n 1, 1) := by decide +kernel
theorem d_risSaved_96 : decode prog_14_method_91_code 96 = .ok (.if_icmp .ge 153, 3) := by decide +kernel
theorem d_risSaved_99 : decode prog_14_method_91_code 99 = .ok (.aload_n 0, 1) := by decide +kernel
theorem d_risSaved_100 : decode prog_14_method_91_code 100 = .ok (.getfield 496, 3) := by decide +kernel
theorem d_risSaved_103 : decode prog_14_method_91_code 103 = .ok (.istore 5, 2) := by decide +kernel
theorem d_risSaved_105 : decode prog_14_method_91_code 105 = .ok (.aload_n 0, 1) := by decide +kernel
theorem d_risSaved_106 : decode prog_14_method_91_code 106 = .ok (.invokevirtual 502, 3) := by decide +kernel
theorem d_risSaved_109 : decode prog_14_method_91_code 109 = .ok (.istore 6, 2) := by decide +kernel
theorem d_risSaved_111 : decode prog_14_method_91_code 111 = .ok (.aload_n 0, 1) := by decide +kernel
theorem d_risSaved_112 : decode prog_14_method_91_code 112 = .ok (.invokevirtual 502, 3) := by decide +kernel
theorem d_risSaved_115 : decode prog_14_method_91_code 115 = .ok (.istore 7, 2) := by decide +kernel
theorem d_risSaved_117 : decode prog_14_method_91_code 117 = .ok (.iload 6, 2) := by decide +kernel
theorem d_risSaved_119 : decode prog_14_method_91_code 119 = .ok (.ifCond .lt 16, 3) := by decide +kernel
theorem d_risSaved_135 : decode prog_14_method_91_code 135 = .ok (.iconst 0, 1) := by decide +kernel
theorem d_risSaved_136 : decode prog_14_method_91_code 136 = .ok (.ireturn, 1) := by decide +kernel
set_option maxHeartbeats 4000000 in
set_option maxRecDepth 100000 in
theorem w_risSaved_J135 {p : Program} {l : Launch} {e : Env} {s : State} {m : MethodId} {args : Array Value} {below : List Frame} {meth : Method} {c : Code} {A : Nat → Prop} {D : va_G} {md : Nat → Nat} {mc : Nat → ClassId} {Q : State → Prop} (hC : MCx "JoinedTreesModel" prog_14_method_91_code 9 (some .boolean) p s m args meth c A D mc) {S : MS} {o : ((MS × Int32 × Int32 × Int32 × Int32) ⊕ (MS ⊕ (MS × Int32)))} (Heq : m_risSaved_J135 S = some o) (Ka : ∀ b : MS × Int32 × Int32 × Int32 × Int32, o = .inl b → ∀ (H : Heap) (locs : List Loc) (ls : Array Slot), va_P D cls (mw md mc b.1) H → va_D A (mw md mc b.1) → va_S A s.heap H locs → lv_has ls 9 [(0, .ref (md 100)), (1, .int b.2.1), (2, .int b.2.2.1), (3, .int b.2.2.2.1), (4, .int b.2.2.2.2)] → W p l e ({ frames := 5, cells := 0, slots := 0, locals := 118 }) s m args below meth c H locs 0 0 Q (F0 m 93 ls [])) (K0 : ∀ b : MS, o = .inr (.inl b) → ∀ (H : Heap) (locs : List Loc) (ls : Array Slot), va_P D cls (mw md mc b) H → va_D A (mw md mc b) → va_S A s.heap H locs → lv_has ls 9 [(0, .ref (md 100))] → W p l e ({ frames := 5, cells := 0, slots := 0, locals := 118 }) s m args below meth c H locs 0 0 Q (F0 m 249 ls [])) (Kr : ∀ r : MS × Int32, o = .inr (.inr r) → ∀ (pc : Nat) (H : Heap) (locs : List Loc) (ls : Array Slot), decode prog_14_method_91_code pc = .ok (.ireturn, 1) → (r.2 = 0 ∨ r.2 = 1) → va_P D cls (mw md mc r.1) H → va_D A (mw md mc r.1) → va_S A s.heap H locs → W p l e ({ frames := 5, cells := 0, slots := 0, locals := 118 }) s m args below meth c H locs 0 0 Q (F0 m pc ls [.int r.2])) : ∀ (H : Heap) (locs : List Loc) (ls : Array Slot), va_P D cls (mw md mc S) H → va_D A (mw md mc S) → va_S A s.heap H locs → lv_has ls 9 [(0, .ref (md 100))] → W p l e ({ frames := 5, cells := 0, slots := 0, locals := 118 }) s m args below meth c H locs 0 0 Q (F0 m 135 ls []) := by
  intro H locs ls hP hD hS hl
  obtain ⟨hx, hb, hr, hml, hown, hts, hK, hA⟩ := id hC
  unfold m_risSaved_J135 at Heq
  refine lv_iconst (v := 0) hx hb d_risSaved_135 (by decide) ?_
  exact Kr _ (Option.some.inj Heq).symm 136 _ _ _ d_risSaved_136 (Or.inl rfl) hP hD hS
def m_risSaved_J166 (S : MS) : Option ((MS × Int32 × Int32 × Int32 × Int32) ⊕ (MS ⊕ (MS × Int32))) := some (.inr (.inr (S, 0)))
theorem d_risSaved_122 : decode prog_14_method_91_code 122 = .ok (.iload 6, 2) := by decide +kernel
theorem d_risSaved_124 : decode prog_14_method_91_code 124 = .ok (.bipush 7, 2) := by decide +kernel
theorem d_risSaved_126 : decode prog_14_method_91_code 126 = .ok (.if_icmp .gt 9, 3) := by decide +kernel
theorem d_risSaved_129 : decode prog_14_method_91_code 129 = .ok (.iload 7, 2) := by decide +kernel
theorem d_risSaved_131 : decode prog_14_method_91_code 131 = .ok (.iconst 1, 1) := by decide +kernel
theorem d_risSaved_132 : decode prog_14_method_91_code 132 = .ok (.if_icmp .ge 5, 3) := by decide +kernel
theorem d_risSaved_137 : decode prog_14_method_91_code 137 = .ok (.iload 6, 2) := by decide +kernel
theorem d_risSaved_139 : decode prog_14_method_91_code 139 = .ok (.iload_n 2, 1) := by decide +kernel
theorem d_risSaved_140 : decode prog_14_method_91_code 140 = .ok (.if_icmp .ne 14, 3) := by decide +kernel
theorem d_risSaved_154 : decode prog_14_method_91_code 154 = .ok (.iload 6, 2) := by decide +kernel
theorem d_risSaved_156 : decode prog_14_method_91_code 156 = .ok (.iload_n 2, 1) := by decide +kernel
theorem d_risSaved_157 : decode prog_14_method_91_code 157 = .ok (.if_icmp .lt 9, 3) := by decide +kernel
theorem d_risSaved_166 : decode prog_14_method_91_code 166 = .ok (.iconst 0, 1) := by decide +kernel
theorem d_risSaved_167 : decode prog_14_method_91_code 167 = .ok (.ireturn, 1) := by decide +kernel
set_option maxHeartbeats 4000000 in
set_option maxRecDepth 100000 in
theorem w_risSaved_J166 {p : Program} {l : Launch} {e : Env} {s : State} {m : MethodId} {args : Array Value} {below : List Frame} {meth : Method} {c : Code} {A : Nat → Prop} {D : va_G} {md : Nat → Nat} {mc : Nat → ClassId} {Q : State → Prop} (hC : MCx "JoinedTreesModel" prog_14_method_91_code 9 (some .boolean) p s m args meth c A D mc) {S : MS} {o : ((MS × Int32 × Int32 × Int32 × Int32) ⊕ (MS ⊕ (MS × Int32)))} (Heq : m_risSaved_J166 S = some o) (Ka : ∀ b : MS × Int32 × Int32 × Int32 × Int32, o = .inl b → ∀ (H : Heap) (locs : List Loc) (ls : Array Slot), va_P D cls (mw md mc b.1) H → va_D A (mw md mc b.1) → va_S A s.heap H locs → lv_has ls 9 [(0, .ref (md 100)), (1, .int b.2.1), (2, .int b.2.2.1), (3, .int b.2.2.2.1), (4, .int b.2.2.2.2)] → W p l e ({ frames := 5, cells := 0, slots := 0, locals := 118 }) s m args below meth c H locs 0 0 Q (F0 m 93 ls [])) (K0 : ∀ b : MS, o = .inr (.inl b) → ∀ (H : Heap) (locs : List Loc) (ls : Array Slot), va_P D cls (mw md mc b) H → va_D A (mw md mc b) → va_S A s.heap H locs → lv_has ls 9 [(0, .ref (md 100))] → W p l e ({ frames := 5, cells := 0, slots := 0, locals := 118 }) s m args below meth c H locs 0 0 Q (F0 m 249 ls [])) (Kr : ∀ r : MS × Int32, o = .inr (.inr r) → ∀ (pc : Nat) (H : Heap) (locs : List Loc) (ls : Array Slot), decode prog_14_method_91_code pc = .ok (.ireturn, 1) → (r.2 = 0 ∨ r.2 = 1) → va_P D cls (mw md mc r.1) H → va_D A (mw md mc r.1) → va_S A s.heap H locs → W p l e ({ frames := 5, cells := 0, slots := 0, locals := 118 }) s m args below meth c H locs 0 0 Q (F0 m pc ls [.int r.2])) : ∀ (H : Heap) (locs : List Loc) (ls : Array Slot), va_P D cls (mw md mc S) H → va_D A (mw md mc S) → va_S A s.heap H locs → lv_has ls 9 [(0, .ref (md 100))] → W p l e ({ frames := 5, cells := 0, slots := 0, locals := 118 }) s m args below meth c H locs 0 0 Q (F0 m 166 ls []) := by
  intro H locs ls hP hD hS hl
  obtain ⟨hx, hb, hr, hml, hown, hts, hK, hA⟩ := id hC
  unfold m_risSaved_J166 at Heq
  refine lv_iconst (v := 0) hx hb d_risSaved_166 (by decide) ?_
  exact Kr _ (Option.some.inj Heq).symm 167 _ _ _ d_risSaved_167 (Or.inl rfl) hP hD hS
def m_risSaved_J168 (S : MS) (x1 : Int32) (x4 : Int32) (x5 : Int32) (x6 : Int32) (x7 : Int32) : Option ((MS × Int32 × Int32 × Int32 × Int32) ⊕ (MS ⊕ (MS × Int32))) := ob (m_rfind S x6 x7) (fun o_1 => (if 0 ≤ o_1.2 then ob (m_rsaveChange (o_1.1.setI 41 400000) o_1.2) (fun o_4 => ob (m_rstands o_4 x5 ((o_4.i 41) - 400000)) (fun o_6 => (if o_6.2 = 0 then some (.inr (.inr (o_6.1, 0))) else gd o_1.2 1000 (some (.inl (((o_6.1.setI 75 ((x5 + (o_6.1.i 41)) - 400000)).setA 44 (upd (o_6.1.a 44) o_1.2.toNatClampNeg (vp_nar .boolean 1))), x1, x6, x7, (x4 + 1))))))) else some (.inr (.inr (o_1.1, 0)))))
theorem d_risSaved_160 : decode prog_14_method_91_code 160 = .ok (.iload 7, 2) := by decide +kernel
theorem d_risSaved_162 : decode prog_14_method_91_code 162 = .ok (.iconst 1, 1) := by decide +kernel
theorem d_risSaved_163 : decode prog_14_method_91_code 163 = .ok (.if_icmp .eq 5, 3) := by decide +kernel
theorem d_risSaved_168 : decode prog_14_method_91_code 168 = .ok (.aload_n 0, 1) := by decide +kernel
theorem d_risSaved_169 : decode prog_14_method_91_code 169 = .ok (.iload 6, 2) := by decide +kernel
theorem d_risSaved_171 : decode prog_14_method_91_code 171 = .ok (.iload 7, 2) := by decide +kernel
theorem d_risSaved_173 : decode prog_14_method_91_code 173 = .ok (.invokevirtual 399, 3) := by decide +kernel
theorem d_risSaved_176 : decode prog_14_method_91_code 176 = .ok (.istore 8, 2) := by decide +kernel
theorem d_risSaved_178 : decode prog_14_method_91_code 178 = .ok (.iload 8, 2) := by decide +kernel
theorem d_risSaved_180 : decode prog_14_method_91_code 180 = .ok (.ifCond .ge 5, 3) := by decide +kernel
theorem d_risSaved_185 : decode prog_14_method_91_code 185 = .ok (.aload_n 0, 1) := by decide +kernel
theorem d_risSaved_186 : decode prog_14_method_91_code 186 = .ok (.ldc 172, 2) := by decide +kernel
theorem d_risSaved_188 : decode prog_14_method_91_code 188 = .ok (.putfield 433, 3) := by decide +kernel
theorem d_risSaved_191 : decode prog_14_method_91_code 191 = .ok (.aload_n 0, 1) := by decide +kernel
theorem d_risSaved_192 : decode prog_14_method_91_code 192 = .ok (.iload 8, 2) := by decide +kernel
theorem d_risSaved_194 : decode prog_14_method_91_code 194 = .ok (.invokevirtual 490, 3) := by decide +kernel
theorem d_risSaved_197 : decode prog_14_method_91_code 197 = .ok (.aload_n 0, 1) := by decide +kernel
theorem d_risSaved_198 : decode prog_14_method_91_code 198 = .ok (.iload 5, 2) := by decide +kernel
theorem d_risSaved_200 : decode prog_14_method_91_code 200 = .ok (.aload_n 0, 1) := by decide +kernel
theorem d_risSaved_201 : decode prog_14_method_91_code 201 = .ok (.getfield 433, 3) := by decide +kernel
theorem d_risSaved_204 : decode prog_14_method_91_code 204 = .ok (.ldc 172, 2) := by decide +kernel
theorem d_risSaved_206 : decode prog_14_method_91_code 206 = .ok (.isub, 1) := by decide +kernel
theorem d_risSaved_207 : decode prog_14_method_91_code 207 = .ok (.invokevirtual 505, 3) := by decide +kernel
theorem d_risSaved_210 : decode prog_14_method_91_code 210 = .ok (.ifCond .ne 5, 3) := by decide +kernel
theorem d_risSaved_215 : decode prog_14_method_91_code 215 = .ok (.aload_n 0, 1) := by decide +kernel
theorem d_risSaved_216 : decode prog_14_method_91_code 216 = .ok (.iload 5, 2) := by decide +kernel
theorem d_risSaved_218 : decode prog_14_method_91_code 218 = .ok (.aload_n 0, 1) := by decide +kernel
theorem d_risSaved_219 : decode prog_14_method_91_code 219 = .ok (.getfield 433, 3) := by decide +kernel
theorem d_risSaved_222 : decode prog_14_method_91_code 222 = .ok (.iadd, 1) := by decide +kernel
theorem d_risSaved_223 : decode prog_14_method_91_code 223 = .ok (.ldc 172, 2) := by decide +kernel
theorem d_risSaved_225 : decode prog_14_method_91_code 225 = .ok (.isub, 1) := by decide +kernel
theorem d_risSaved_226 : decode prog_14_method_91_code 226 = .ok (.putfield 496, 3) := by decide +kernel
theorem d_risSaved_229 : decode prog_14_method_91_code 229 = .ok (.aload_n 0, 1) := by decide +kernel
theorem d_risSaved_230 : decode prog_14_method_91_code 230 = .ok (.getfield 115, 3) := by decide +kernel
theorem d_risSaved_233 : decode prog_14_method_91_code 233 = .ok (.iload 8, 2) := by decide +kernel
theorem d_risSaved_235 : decode prog_14_method_91_code 235 = .ok (.iconst 1, 1) := by decide +kernel
theorem d_risSaved_236 : decode prog_14_method_91_code 236 = .ok (.bastore, 1) := by decide +kernel
theorem d_risSaved_237 : decode prog_14_method_91_code 237 = .ok (.iload 6, 2) := by decide +kernel
theorem d_risSaved_239 : decode prog_14_method_91_code 239 = .ok (.istore_n 2, 1) := by decide +kernel
theorem d_risSaved_240 : decode prog_14_method_91_code 240 = .ok (.iload 7, 2) := by decide +kernel
theorem d_risSaved_242 : decode prog_14_method_91_code 242 = .ok (.istore_n 3, 1) := by decide +kernel
theorem d_risSaved_243 : decode prog_14_method_91_code 243 = .ok (.iinc 4 1, 3) := by decide +kernel
theorem d_risSaved_246 : decode prog_14_method_91_code 246 = .ok (.goto (-153), 3) := by decide +kernel
theorem d_risSaved_213 : decode prog_14_method_91_code 213 = .ok (.iconst 0, 1) := by decide +kernel
theorem d_risSaved_214 : decode prog_14_method_91_code 214 = .ok (.ireturn, 1) := by decide +kernel
theorem d_risSaved_183 : decode prog_14_method_91_code 183 = .ok (.iconst 0, 1) := by decide +kernel
theorem d_risSaved_184 : decode prog_14_method_91_code 184 = .ok (.ireturn, 1) := by decide +kernel
set_option maxHeartbeats 4000000 in
set_option maxRecDepth 100000 in
theorem w_risSaved_J168 {p : Program} {l : Launch} {e : Env} {s : State} {m : MethodId} {args : Array Value} {below : List Frame} {meth : Method} {c : Code} {A : Nat → Prop} {D : va_G} {md : Nat → Nat} {mc : Nat → ClassId} {Q : State → Prop} (hC : MCx "JoinedTreesModel" prog_14_method_91_code 9 (some .boolean) p s m args meth c A D mc) {S : MS} {x1 : Int32} {x4 : Int32} {x5 : Int32} {x6 : Int32} {x7 : Int32} {o : ((MS × Int32 × Int32 × Int32 × Int32) ⊕ (MS ⊕ (MS × Int32)))} (Heq : m_risSaved_J168 S x1 x4 x5 x6 x7 = some o) (Ka : ∀ b : MS × Int32 × Int32 × Int32 × Int32, o = .inl b → ∀ (H : Heap) (locs : List Loc) (ls : Array Slot), va_P D cls (mw md mc b.1) H → va_D A (mw md mc b.1) → va_S A s.heap H locs → lv_has ls 9 [(0, .ref (md 100)), (1, .int b.2.1), (2, .int b.2.2.1), (3, .int b.2.2.2.1), (4, .int b.2.2.2.2)] → W p l e ({ frames := 5, cells := 0, slots := 0, locals := 118 }) s m args below meth c H locs 0 0 Q (F0 m 93 ls [])) (K0 : ∀ b : MS, o = .inr (.inl b) → ∀ (H : Heap) (locs : List Loc) (ls : Array Slot), va_P D cls (mw md mc b) H → va_D A (mw md mc b) → va_S A s.heap H locs → lv_has ls 9 [(0, .ref (md 100))] → W p l e ({ frames := 5, cells := 0, slots := 0, locals := 118 }) s m args below meth c H locs 0 0 Q (F0 m 249 ls [])) (Kr : ∀ r : MS × Int32, o = .inr (.inr r) → ∀ (pc : Nat) (H : Heap) (locs : List Loc) (ls : Array Slot), decode prog_14_method_91_code pc = .ok (.ireturn, 1) → (r.2 = 0 ∨ r.2 = 1) → va_P D cls (mw md mc r.1) H → va_D A (mw md mc r.1) → va_S A s.heap H locs → W p l e ({ frames := 5, cells := 0, slots := 0, locals := 118 }) s m args below meth c H locs 0 0 Q (F0 m pc ls [.int r.2])) : ∀ (H : Heap) (locs : List Loc) (ls : Array Slot), va_P D cls (mw md mc S) H → va_D A (mw md mc S) → va_S A s.heap H locs → lv_has ls 9 [(0, .ref (md 100)), (1, .int x1), (4, .int x4), (5, .int x5), (6, .int x6), (7, .int x7)] → W p l e ({ frames := 5, cells := 0, slots := 0, locals := 118 }) s m args below meth c H locs 0 0 Q (F0 m 168 ls []) := by
  intro H locs ls hP hD hS hl
  obtain ⟨hx, hb, hr, hml, hown, hts, hK, hA⟩ := id hC
  unfold m_risSaved_J168 at Heq
  refine lv_aload_n hx hb d_risSaved_168 rfl (lv_at hl 0 rfl) ?_
  refine lv_iload hx hb d_risSaved_169 (lv_at hl 4 rfl) ?_
  refine lv_iload hx hb d_risSaved_171 (lv_at hl 5 rfl) ?_
  obtain ⟨o_1, h_2, Heq⟩ := ob_some Heq
  have hFc := fr_all hD hS hA
  refine va_calli (va_runV (As := [.int x6, .int x7]) (rest := []) ⟨hx, hb, hml, hown, hts⟩ (g_rfind l D H.size h_2) (cw_v 2 hts kw_1835 kw_1832 kw_1834 kp_66 kw_11 rfl rfl (by decide +kernel) ⟨Nat.le_of_ble_eq_true rfl, Nat.le_of_ble_eq_true rfl⟩) ⟨g_blind, va_recv hK hP (ci := 12) (q0 := 0) rfl rfl, fun U hU hW => g_pre hU hW hP hK hD⟩ rfl rfl hl.1 rfl (lv_room (Nat.le_of_ble_eq_true rfl)) d_risSaved_173 ⟨Nat.le_of_ble_eq_true rfl, Nat.le_of_ble_eq_true rfl⟩) hS (fun q _ h => hFc q h) hFc (fun rz u t H1 locs ht hvm hw hB hz1 hk1 hS => ?_)
  obtain ⟨hP, -, hD1⟩ := hB
  rw [ht] at hP
  have hD := hD1.weaken (fun _ q _ h => hFc q.1 h)
  generalize H1 = H at hP hS ⊢
  refine W.cs (cells' := 0) (slots' := 0) rfl rfl ?_
  subst hw
  refine lv_istore (lv' := [(8, .int o_1.2), (0, .ref (md 100)), (1, .int x1), (4, .int x4), (5, .int x5), (6, .int x6), (7, .int x7)]) hx hb d_risSaved_176 hl (by decide) rfl (fun ls hl => ?_)
  refine lv_iload hx hb d_risSaved_178 (lv_at hl 0 rfl) ?_
  refine lv_if_ge (tgt := 185) hx hb d_risSaved_180 (by decide) (fun c_3 => ?_) (fun c_3 => ?_)
  · replace Heq := (if_pos c_3).symm.trans Heq
    refine lv_aload_n hx hb d_risSaved_185 rfl (lv_at hl 1 rfl) ?_
    refine lv_ldc (v := 400000) hx hb hown (hts _ kw_1381) d_risSaved_186 ?_
    refine va_put (D := D) (ci := 12) (v := .int 400000) (ty := .int) (C := R_MM) (T := F_MM) (N := 77) hx hb hts i_MM t_MM t_MM_ok n_MM hown hK hP hD hS 0 rfl rfl 41 (by decide) (hts _ kw_1423) (fun _ h9 => h9) rfl (by decide +kernel) rfl rfl (Nat.le_of_ble_eq_true rfl) d_risSaved_188 (fun H locs hP hD hS => ?_)
    rw [mw_I41] at hP hD
    refine lv_aload_n hx hb d_risSaved_191 rfl (lv_at hl 1 rfl) ?_
    refine lv_iload hx hb d_risSaved_192 (lv_at hl 0 rfl) ?_
    obtain ⟨o_4, h_5, Heq⟩ := ob_some Heq
    have hFc := fr_all hD hS hA
    refine va_callv (va_runV (As := [.int o_1.2]) (rest := []) ⟨hx, hb, hml, hown, hts⟩ (g_rsaveChange l D H.size h_5) (cw_v 1 hts kw_1955 kw_1952 kw_1954 kp_83 kw_11 rfl rfl (by decide +kernel) ⟨Nat.le_of_ble_eq_true rfl, Nat.le_of_ble_eq_true rfl⟩) ⟨g_blind, va_recv hK hP (ci := 12) (q0 := 0) rfl rfl, fun U hU hW => g_pre hU hW hP hK hD⟩ rfl rfl hl.1 rfl (lv_room (Nat.le_of_ble_eq_true rfl)) d_risSaved_194 ⟨Nat.le_of_ble_eq_true rfl, Nat.le_of_ble_eq_true rfl⟩) hS (fun q _ h => hFc q h) hFc (fun u t H1 locs ht hvm hw hB hz1 hk1 hS => ?_)
    obtain ⟨hP, -, hD1⟩ := hB
    rw [ht] at hP
    have hD := hD1.weaken (fun _ q _ h => hFc q.1 h)
    generalize H1 = H at hP hS ⊢
    refine W.cs (cells' := 0) (slots' := 0) rfl rfl ?_
    refine lv_aload_n hx hb d_risSaved_197 rfl (lv_at hl 1 rfl) ?_
    refine lv_iload hx hb d_risSaved_198 (lv_at hl 4 rfl) ?_
    refine lv_aload_n hx hb d_risSaved_200 rfl (lv_at hl 1 rfl) ?_
    refine va_get (D := D) (ci := 12) (v := .int (o_4.i 41)) (C := R_MM) (T := F_MM) (N := 77) hx hb hts i_MM hown hK hP 0 rfl rfl 41 (by decide) (hts _ kw_1423) (fun _ h9 => h9) rfl d_risSaved_201 ?_
    refine lv_ldc (v := 400000) hx hb hown (hts _ kw_1381) d_risSaved_204 ?_
    refine lv_isub hx hb d_risSaved_206 ?_
    refine w_i (y := (o_4.i 41) - 400000) rfl ?_
    obtain ⟨o_6, h_7, Heq⟩ := ob_some Heq
    have hFc := fr_all hD hS hA
    refine va_calli (va_runV (As := [.int x5, .int ((o_4.i 41) - 400000)]) (rest := []) ⟨hx, hb, hml, hown, hts⟩ (g_rstands l D H.size h_7) (cw_v 2 hts kw_1990 kw_1987 kw_1989 kp_89 kw_11 rfl rfl (by decide +kernel) ⟨Nat.le_of_ble_eq_true rfl, Nat.le_of_ble_eq_true rfl⟩) ⟨g_blind, va_recv hK hP (ci := 12) (q0 := 0) rfl rfl, fun U hU hW => g_pre hU hW hP hK hD⟩ rfl rfl hl.1 rfl (lv_room (Nat.le_of_ble_eq_true rfl)) d_risSaved_207 ⟨Nat.le_of_ble_eq_true rfl, Nat.le_of_ble_eq_true rfl⟩) hS (fun q _ h => hFc q h) hFc (fun rz u t H1 locs ht hvm hw hB hz1 hk1 hS => ?_)
    obtain ⟨hP, -, hD1⟩ := hB
    rw [ht] at hP
    have hD := hD1.weaken (fun _ q _ h => hFc q.1 h)
    generalize H1 = H at hP hS ⊢
    refine W.cs (cells' := 0) (slots' := 0) rfl rfl ?_
    subst hw
    refine lv_if_ne (tgt := 215) hx hb d_risSaved_210 (by decide) (fun c_8 => ?_) (fun c_8 => ?_)
    · replace Heq := (if_neg c_8).symm.trans Heq
      refine lv_aload_n hx hb d_risSaved_215 rfl (lv_at hl 1 rfl) ?_
      refine lv_iload hx hb d_risSaved_216 (lv_at hl 4 rfl) ?_
      refine lv_aload_n hx hb d_risSaved_218 rfl (lv_at hl 1 rfl) ?_
      refine va_get (D := D) (ci := 12) (v := .int (o_6.1.i 41)) (C := R_MM) (T := F_MM) (N := 77) hx hb hts i_MM hown hK hP 0 rfl rfl 41 (by decide) (hts _ kw_1423) (fun _ h9 => h9) rfl d_risSaved_219 ?_
      refine lv_iadd hx hb d_risSaved_222 ?_
      refine w_i (y := x5 + (o_6.1.i 41)) rfl ?_
      refine lv_ldc (v := 400000) hx hb hown (hts _ kw_1381) d_risSaved_223 ?_
      refine lv_isub hx hb d_risSaved_225 ?_
      refine w_i (y := (x5 + (o_6.1.i 41)) - 400000) rfl ?_
      refine va_put (D := D) (ci := 12) (v := .int ((x5 + (o_6.1.i 41)) - 400000)) (ty := .int) (C := R_MM) (T := F_MM) (N := 77) hx hb hts i_MM t_MM t_MM_ok n_MM hown hK hP hD hS 0 rfl rfl 75 (by decide) (hts _ kw_1457) (fun _ h9 => h9) rfl (by decide +kernel) rfl rfl (Nat.le_of_ble_eq_true rfl) d_risSaved_226 (fun H locs hP hD hS => ?_)
      rw [mw_I75] at hP hD
      refine lv_aload_n hx hb d_risSaved_229 rfl (lv_at hl 1 rfl) ?_
      refine va_get (D := D) (ci := 12) (v := .ref (md 44)) (C := R_MM) (T := F_MM) (N := 77) hx hb hts i_MM hown hK hP 0 rfl rfl 44 (by decide) (hts _ kw_1426) (fun _ h9 => h9) rfl d_risSaved_230 ?_
      refine lv_iload hx hb d_risSaved_233 (lv_at hl 0 rfl) ?_
      refine lv_iconst (v := 1) hx hb d_risSaved_235 (by decide) ?_
      obtain ⟨hi_9, Heq⟩ := gd_some Heq
      refine va_zast hx hb hK hP hD hS 29 2 rfl rfl (i := o_1.2) (x := 1) hi_9 d_risSaved_236 (fun H locs hP hD hS => ?_)
      rw [mw_A44] at hP hD
      refine lv_iload hx hb d_risSaved_237 (lv_at hl 5 rfl) ?_
      refine lv_istore_n (lv' := [(2, .int x6), (8, .int o_1.2), (0, .ref (md 100)), (1, .int x1), (4, .int x4), (5, .int x5), (6, .int x6), (7, .int x7)]) hx hb d_risSaved_239 rfl hl (by decide) rfl (fun ls hl => ?_)
      refine lv_iload hx hb d_risSaved_240 (lv_at hl 7 rfl) ?_
      refine lv_istore_n (lv' := [(3, .int x7), (2, .int x6), (8, .int o_1.2), (0, .ref (md 100)), (1, .int x1), (4, .int x4), (5, .int x5), (6, .int x6), (7, .int x7)]) hx hb d_risSaved_242 rfl hl (by decide) rfl (fun ls hl => ?_)
      refine lv_iinc (v := x4 + 1) (lv' := [(4, .int (x4 + 1)), (3, .int x7), (2, .int x6), (8, .int o_1.2), (0, .ref (md 100)), (1, .int x1), (5, .int x5), (6, .int x6), (7, .int x7)]) hx hb d_risSaved_243 hl (k := 5) rfl rfl (by decide) rfl (fun ls hl => ?_)
      refine lv_goto (tgt := 93) hx hb d_risSaved_246 (by decide) ?_
      exact Ka _ (Option.some.inj Heq).symm _ _ _ hP hD hS (lv_sub hl [4, 5, 2, 1, 0] rfl)
    · replace Heq := (if_pos c_8).symm.trans Heq
      refine lv_iconst (v := 0) hx hb d_risSaved_213 (by decide) ?_
      exact Kr _ (Option.some.inj Heq).symm 214 _ _ _ d_risSaved_214 (Or.inl rfl) hP hD hS
  · replace Heq := (if_neg c_3).symm.trans Heq
    refine lv_iconst (v := 0) hx hb d_risSaved_183 (by decide) ?_
    exact Kr _ (Option.some.inj Heq).symm 184 _ _ _ d_risSaved_184 (Or.inl rfl) hP hD hS
def m_risSaved_B93 (S : MS) (x1 : Int32) (x2 : Int32) (x3 : Int32) (x4 : Int32) : Option ((MS × Int32 × Int32 × Int32 × Int32) ⊕ (MS ⊕ (MS × Int32))) := (if x1 ≤ x4 then some (.inr (.inl (S))) else ob (m_rgrouped S) (fun o_2 => ob (m_rgrouped o_2.1) (fun o_4 => (if o_2.2 < 0 then m_risSaved_J135 o_4.1 else (if 7 < o_2.2 then m_risSaved_J135 o_4.1 else (if 1 ≤ o_4.2 then (if o_2.2 = x2 then (if o_4.2 = x3 + 1 then m_risSaved_J168 o_4.1 x1 x4 (S.i 75) o_2.2 o_4.2 else m_risSaved_J166 o_4.1) else (if o_2.2 < x2 then m_risSaved_J166 o_4.1 else (if o_4.2 = 1 then m_risSaved_J168 o_4.1 x1 x4 (S.i 75) o_2.2 o_4.2 else m_risSaved_J166 o_4.1))) else m_risSaved_J135 o_4.1))))))
theorem d_risSaved_143 : decode prog_14_method_91_code 143 = .ok (.iload 7, 2) := by decide +kernel
theorem d_risSaved_145 : decode prog_14_method_91_code 145 = .ok (.iload_n 3, 1) := by decide +kernel
theorem d_risSaved_146 : decode prog_14_method_91_code 146 = .ok (.iconst 1, 1) := by decide +kernel
theorem d_risSaved_147 : decode prog_14_method_91_code 147 = .ok (.iadd, 1) := by decide +kernel
theorem d_risSaved_148 : decode prog_14_method_91_code 148 = .ok (.if_icmp .eq 20, 3) := by decide +kernel
theorem d_risSaved_151 : decode prog_14_method_91_code 151 = .ok (.goto 15, 3) := by decide +kernel
set_option maxHeartbeats 4000000 in
set_option maxRecDepth 100000 in
theorem w_risSaved_B93 {p : Program} {l : Launch} {e : Env} {s : State} {m : MethodId} {args : Array Value} {below : List Frame} {meth : Method} {c : Code} {A : Nat → Prop} {D : va_G} {md : Nat → Nat} {mc : Nat → ClassId} {Q : State → Prop} (hC : MCx "JoinedTreesModel" prog_14_method_91_code 9 (some .boolean) p s m args meth c A D mc) {S : MS} {x1 : Int32} {x2 : Int32} {x3 : Int32} {x4 : Int32} {o : ((MS × Int32 × Int32 × Int32 × Int32) ⊕ (MS ⊕ (MS × Int32)))} (Heq : m_risSaved_B93 S x1 x2 x3 x4 = some o) (Ka : ∀ b : MS × Int32 × Int32 × Int32 × Int32, o = .inl b → ∀ (H : Heap) (locs : List Loc) (ls : Array Slot), va_P D cls (mw md mc b.1) H → va_D A (mw md mc b.1) → va_S A s.heap H locs → lv_has ls 9 [(0, .ref (md 100)), (1, .int b.2.1), (2, .int b.2.2.1), (3, .int b.2.2.2.1), (4, .int b.2.2.2.2)] → W p l e ({ frames := 5, cells := 0, slots := 0, locals := 118 }) s m args below meth c H locs 0 0 Q (F0 m 93 ls [])) (K0 : ∀ b : MS, o = .inr (.inl b) → ∀ (H : Heap) (locs : List Loc) (ls : Array Slot), va_P D cls (mw md mc b) H → va_D A (mw md mc b) → va_S A s.heap H locs → lv_has ls 9 [(0, .ref (md 100))] → W p l e ({ frames := 5, cells := 0, slots := 0, locals := 118 }) s m args below meth c H locs 0 0 Q (F0 m 249 ls [])) (Kr : ∀ r : MS × Int32, o = .inr (.inr r) → ∀ (pc : Nat) (H : Heap) (locs : List Loc) (ls : Array Slot), decode prog_14_method_91_code pc = .ok (.ireturn, 1) → (r.2 = 0 ∨ r.2 = 1) → va_P D cls (mw md mc r.1) H → va_D A (mw md mc r.1) → va_S A s.heap H locs → W p l e ({ frames := 5, cells := 0, slots := 0, locals := 118 }) s m args below meth c H locs 0 0 Q (F0 m pc ls [.int r.2])) : ∀ (H : Heap) (locs : List Loc) (ls : Array Slot), va_P D cls (mw md mc S) H → va_D A (mw md mc S) → va_S A s.heap H locs → lv_has ls 9 [(0, .ref (md 100)), (1, .int x1), (2, .int x2), (3, .int x3), (4, .int x4)] → W p l e ({ frames := 5, cells := 0, slots := 0, locals := 118 }) s m args below meth c H locs 0 0 Q (F0 m 93 ls []) := by
  intro H locs ls hP hD hS hl
  obtain ⟨hx, hb, hr, hml, hown, hts, hK, hA⟩ := id hC
  unfold m_risSaved_B93 at Heq
  refine lv_iload hx hb d_risSaved_93 (lv_at hl 4 rfl) ?_
  refine lv_iload_n hx hb d_risSaved_95 rfl (lv_at hl 1 rfl) ?_
  refine lv_icmp_ge (tgt := 249) hx hb d_risSaved_96 (by decide) (fun c_1 => ?_) (fun c_1 => ?_)
  · replace Heq := (if_pos c_1).symm.trans Heq
    exact K0 _ (Option.some.inj Heq).symm _ _ _ hP hD hS (lv_sub hl [0] rfl)
  · replace Heq := (if_neg c_1).symm.trans Heq
    refine lv_aload_n hx hb d_risSaved_99 rfl (lv_at hl 0 rfl) ?_
    refine va_get (D := D) (ci := 12) (v := .int (S.i 75)) (C := R_MM) (T := F_MM) (N := 77) hx hb hts i_MM hown hK hP 0 rfl rfl 75 (by decide) (hts _ kw_1457) (fun _ h9 => h9) rfl d_risSaved_100 ?_
    refine lv_istore (lv' := [(5, .int (S.i 75)), (0, .ref (md 100)), (1, .int x1), (2, .int x2), (3, .int x3), (4, .int x4)]) hx hb d_risSaved_103 hl (by decide) rfl (fun ls hl => ?_)
    refine lv_aload_n hx hb d_risSaved_105 rfl (lv_at hl 1 rfl) ?_
    obtain ⟨o_2, h_3, Heq⟩ := ob_some Heq
    have hFc := fr_all hD hS hA
    refine va_calli (va_runV (As := []) (rest := []) ⟨hx, hb, hml, hown, hts⟩ (g_rgrouped l D H.size h_3) (cw_v 0 hts kw_1986 kw_1983 kw_1985 kp_88 kw_11 rfl rfl (by decide +kernel) ⟨Nat.le_of_ble_eq_true rfl, Nat.le_of_ble_eq_true rfl⟩) ⟨g_blind, va_recv hK hP (ci := 12) (q0 := 0) rfl rfl, fun U hU hW => g_pre hU hW hP hK hD⟩ rfl rfl hl.1 rfl (lv_room (Nat.le_of_ble_eq_true rfl)) d_risSaved_106 ⟨Nat.le_of_ble_eq_true rfl, Nat.le_of_ble_eq_true rfl⟩) hS (fun q _ h => hFc q h) hFc (fun rz u t H1 locs ht hvm hw hB hz1 hk1 hS => ?_)
    obtain ⟨hP, -, hD1⟩ := hB
    rw [ht] at hP
    have hD := hD1.weaken (fun _ q _ h => hFc q.1 h)
    generalize H1 = H at hP hS ⊢
    refine W.cs (cells' := 0) (slots' := 0) rfl rfl ?_
    subst hw
    refine lv_istore (lv' := [(6, .int o_2.2), (5, .int (S.i 75)), (0, .ref (md 100)), (1, .int x1), (2, .int x2), (3, .int x3), (4, .int x4)]) hx hb d_risSaved_109 hl (by decide) rfl (fun ls hl => ?_)
    refine lv_aload_n hx hb d_risSaved_111 rfl (lv_at hl 2 rfl) ?_
    obtain ⟨o_4, h_5, Heq⟩ := ob_some Heq
    have hFc := fr_all hD hS hA
    refine va_calli (va_runV (As := []) (rest := []) ⟨hx, hb, hml, hown, hts⟩ (g_rgrouped l D H.size h_5) (cw_v 0 hts kw_1986 kw_1983 kw_1985 kp_88 kw_11 rfl rfl (by decide +kernel) ⟨Nat.le_of_ble_eq_true rfl, Nat.le_of_ble_eq_true rfl⟩) ⟨g_blind, va_recv hK hP (ci := 12) (q0 := 0) rfl rfl, fun U hU hW => g_pre hU hW hP hK hD⟩ rfl rfl hl.1 rfl (lv_room (Nat.le_of_ble_eq_true rfl)) d_risSaved_112 ⟨Nat.le_of_ble_eq_true rfl, Nat.le_of_ble_eq_true rfl⟩) hS (fun q _ h => hFc q h) hFc (fun rz u t H1 locs ht hvm hw hB hz1 hk1 hS => ?_)
    obtain ⟨hP, -, hD1⟩ := hB
    rw [ht] at hP
    have hD := hD1.weaken (fun _ q _ h => hFc q.1 h)
    generalize H1 = H at hP hS ⊢
    refine W.cs (cells' := 0) (slots' := 0) rfl rfl ?_
    subst hw
    refine lv_istore (lv' := [(7, .int o_4.2), (6, .int o_2.2), (5, .int (S.i 75)), (0, .ref (md 100)), (1, .int x1), (2, .int x2), (3, .int x3), (4, .int x4)]) hx hb d_risSaved_115 hl (by decide) rfl (fun ls hl => ?_)
    refine lv_iload hx hb d_risSaved_117 (lv_at hl 1 rfl) ?_
    refine lv_if_lt (tgt := 135) hx hb d_risSaved_119 (by decide) (fun c_6 => ?_) (fun c_6 => ?_)
    · replace Heq := (if_pos c_6).symm.trans Heq
      exact w_risSaved_J135 hC Heq Ka K0 Kr _ _ _ hP hD hS (lv_sub hl [3] rfl)
    · replace Heq := (if_neg c_6).symm.trans Heq
      refine lv_iload hx hb d_risSaved_122 (lv_at hl 1 rfl) ?_
      refine lv_bipush (v := 7) hx hb d_risSaved_124 (by decide) ?_
      refine lv_icmp_gt (tgt := 135) hx hb d_risSaved_126 (by decide) (fun c_7 => ?_) (fun c_7 => ?_)
      · replace Heq := (if_pos c_7).symm.trans Heq
        exact w_risSaved_J135 hC Heq Ka K0 Kr _ _ _ hP hD hS (lv_sub hl [3] rfl)
      · replace Heq := (if_neg c_7).symm.trans Heq
        refine lv_iload hx hb d_risSaved_129 (lv_at hl 0 rfl) ?_
        refine lv_iconst (v := 1) hx hb d_risSaved_131 (by decide) ?_
        refine lv_icmp_ge (tgt := 137) hx hb d_risSaved_132 (by decide) (fun c_8 => ?_) (fun c_8 => ?_)
        · replace Heq := (if_pos c_8).symm.trans Heq
          refine lv_iload hx hb d_risSaved_137 (lv_at hl 1 rfl) ?_
          refine lv_iload_n hx hb d_risSaved_139 rfl (lv_at hl 5 rfl) ?_
          refine lv_icmp_ne (tgt := 154) hx hb d_risSaved_140 (by decide) (fun c_9 => ?_) (fun c_9 => ?_)
          · replace Heq := (if_neg c_9).symm.trans Heq
            refine lv_iload hx hb d_risSaved_154 (lv_at hl 1 rfl) ?_
            refine lv_iload_n hx hb d_risSaved_156 rfl (lv_at hl 5 rfl) ?_
            refine lv_icmp_lt (tgt := 166) hx hb d_risSaved_157 (by decide) (fun c_10 => ?_) (fun c_10 => ?_)
            · replace Heq := (if_pos c_10).symm.trans Heq
              exact w_risSaved_J166 hC Heq Ka K0 Kr _ _ _ hP hD hS (lv_sub hl [3] rfl)
            · replace Heq := (if_neg c_10).symm.trans Heq
              refine lv_iload hx hb d_risSaved_160 (lv_at hl 0 rfl) ?_
              refine lv_iconst (v := 1) hx hb d_risSaved_162 (by decide) ?_
              refine lv_icmp_eq (tgt := 168) hx hb d_risSaved_163 (by decide) (fun c_11 => ?_) (fun c_11 => ?_)
              · replace Heq := (if_pos c_11).symm.trans Heq
                exact w_risSaved_J168 hC Heq Ka K0 Kr _ _ _ hP hD hS (lv_sub hl [3, 4, 7, 2, 1, 0] rfl)
              · replace Heq := (if_neg c_11).symm.trans Heq
                exact w_risSaved_J166 hC Heq Ka K0 Kr _ _ _ hP hD hS (lv_sub hl [3] rfl)
          · replace Heq := (if_pos c_9).symm.trans Heq
            refine lv_iload hx hb d_risSaved_143 (lv_at hl 0 rfl) ?_
            refine lv_iload_n hx hb d_risSaved_145 rfl (lv_at hl 6 rfl) ?_
            refine lv_iconst (v := 1) hx hb d_risSaved_146 (by decide) ?_
            refine lv_iadd hx hb d_risSaved_147 ?_
            refine w_i (y := x3 + 1) rfl ?_
            refine lv_icmp_eq (tgt := 168) hx hb d_risSaved_148 (by decide) (fun c_12 => ?_) (fun c_12 => ?_)
            · replace Heq := (if_pos c_12).symm.trans Heq
              exact w_risSaved_J168 hC Heq Ka K0 Kr _ _ _ hP hD hS (lv_sub hl [3, 4, 7, 2, 1, 0] rfl)
            · replace Heq := (if_neg c_12).symm.trans Heq
              refine lv_goto (tgt := 166) hx hb d_risSaved_151 (by decide) ?_
              exact w_risSaved_J166 hC Heq Ka K0 Kr _ _ _ hP hD hS (lv_sub hl [3] rfl)
        · replace Heq := (if_neg c_8).symm.trans Heq
          exact w_risSaved_J135 hC Heq Ka K0 Kr _ _ _ hP hD hS (lv_sub hl [3] rfl)
def m_risSaved_L93 (S : MS) (x1 : Int32) (x2 : Int32) (x3 : Int32) (x4 : Int32) : Option (MS ⊕ (MS × Int32)) := lp (fun a : MS × Int32 × Int32 × Int32 × Int32 => m_risSaved_B93 a.1 a.2.1 a.2.2.1 a.2.2.2.1 a.2.2.2.2) FU (S, x1, x2, x3, x4)
theorem w_risSaved_L93 {p : Program} {l : Launch} {e : Env} {s : State} {m : MethodId} {args : Array Value} {below : List Frame} {meth : Method} {c : Code} {A : Nat → Prop} {D : va_G} {md : Nat → Nat} {mc : Nat → ClassId} {Q : State → Prop} (hC : MCx "JoinedTreesModel" prog_14_method_91_code 9 (some .boolean) p s m args meth c A D mc) {S : MS} {x1 : Int32} {x2 : Int32} {x3 : Int32} {x4 : Int32} {o : (MS ⊕ (MS × Int32))} (Heq : m_risSaved_L93 S x1 x2 x3 x4 = some o) (K0 : ∀ b : MS, o = (.inl b) → ∀ (H : Heap) (locs : List Loc) (ls : Array Slot), va_P D cls (mw md mc b) H → va_D A (mw md mc b) → va_S A s.heap H locs → lv_has ls 9 [(0, .ref (md 100))] → W p l e ({ frames := 5, cells := 0, slots := 0, locals := 118 }) s m args below meth c H locs 0 0 Q (F0 m 249 ls [])) (Kr : ∀ r : MS × Int32, o = (.inr r) → ∀ (pc : Nat) (H : Heap) (locs : List Loc) (ls : Array Slot), decode prog_14_method_91_code pc = .ok (.ireturn, 1) → (r.2 = 0 ∨ r.2 = 1) → va_P D cls (mw md mc r.1) H → va_D A (mw md mc r.1) → va_S A s.heap H locs → W p l e ({ frames := 5, cells := 0, slots := 0, locals := 118 }) s m args below meth c H locs 0 0 Q (F0 m pc ls [.int r.2])) : ∀ (H : Heap) (locs : List Loc) (ls : Array Slot), va_P D cls (mw md mc S) H → va_D A (mw md mc S) → va_S A s.heap H locs → lv_has ls 9 [(0, .ref (md 100)), (1, .int x1), (2, .int x2), (3, .int x3), (4, .int x4)] → W p l e ({ frames := 5, cells := 0, slots := 0, locals := 118 }) s m args below meth c H locs 0 0 Q (F0 m 93 ls []) := by
  refine lp_w (G := fun a : MS × Int32 × Int32 × Int32 × Int32 => ∀ (H : Heap) (locs : List Loc) (ls : Array Slot), va_P D cls (mw md mc a.1) H → va_D A (mw md mc a.1) → va_S A s.heap H locs → lv_has ls 9 [(0, .ref (md 100)), (1, .int a.2.1), (2, .int a.2.2.1), (3, .int a.2.2.2.1), (4, .int a.2.2.2.2)] → W p l e ({ frames := 5, cells := 0, slots := 0, locals := 118 }) s m args below meth c H locs 0 0 Q (F0 m 93 ls [])) ?_ FU (S, x1, x2, x3, x4) Heq
  intro a o1 ho Ka Ke
  exact w_risSaved_B93 hC ho (fun b h => Ka b h) (fun b h => K0 b (Ke _ h).symm) (fun r h => Kr r (Ke _ h).symm)
def m_risSaved_B277 (S : MS) (x4 : Int32) (x5 : Int32) : Option ((MS × Int32 × Int32) ⊕ (MS ⊕ (MS × Int32))) := (if 4 ≤ x5 then some (.inr (.inl (S))) else gd ((S.i 75) + x5) 800000 ((if (S.a 40 (((S.i 75) + x5).toNatClampNeg)) &&& 255 = (ushr32 x4 (24 - (8 * x5))) &&& 255 then some (.inl (S, x4, (x5 + 1))) else some (.inr (.inr (S, 0))))))
theorem d_risSaved_249 : decode prog_14_method_91_code 249 = .ok (.aload_n 0, 1) := by decide +kernel
theorem d_risSaved_250 : decode prog_14_method_91_code 250 = .ok (.aload_n 0, 1) := by decide +kernel
theorem d_risSaved_251 : decode prog_14_method_91_code 251 = .ok (.getfield 496, 3) := by decide +kernel
theorem d_risSaved_254 : decode prog_14_method_91_code 254 = .ok (.invokevirtual 493, 3) := by decide +kernel
theorem d_risSaved_257 : decode prog_14_method_91_code 257 = .ok (.istore 4, 2) := by decide +kernel
theorem d_risSaved_259 : decode prog_14_method_91_code 259 = .ok (.aload_n 0, 1) := by decide +kernel
theorem d_risSaved_260 : decode prog_14_method_91_code 260 = .ok (.getfield 499, 3) := by decide +kernel
theorem d_risSaved_263 : decode prog_14_method_91_code 263 = .ok (.aload_n 0, 1) := by decide +kernel
theorem d_risSaved_264 : decode prog_14_method_91_code 264 = .ok (.getfield 496, 3) := by decide +kernel
theorem d_risSaved_267 : decode prog_14_method_91_code 267 = .ok (.iconst 4, 1) := by decide +kernel
theorem d_risSaved_268 : decode prog_14_method_91_code 268 = .ok (.iadd, 1) := by decide +kernel
theorem d_risSaved_269 : decode prog_14_method_91_code 269 = .ok (.if_icmp .eq 5, 3) := by decide +kernel
theorem d_risSaved_274 : decode prog_14_method_91_code 274 = .ok (.iconst 0, 1) := by decide +kernel
theorem d_risSaved_275 : decode prog_14_method_91_code 275 = .ok (.istore 5, 2) := by decide +kernel
theorem d_risSaved_277 : decode prog_14_method_91_code 277 = .ok (.iload 5, 2) := by decide +kernel
theorem d_risSaved_279 : decode prog_14_method_91_code 279 = .ok (.iconst 4, 1) := by decide +kernel
theorem d_risSaved_280 : decode prog_14_method_91_code 280 = .ok (.if_icmp .ge 45, 3) := by decide +kernel
theorem d_risSaved_283 : decode prog_14_method_91_code 283 = .ok (.aload_n 0, 1) := by decide +kernel
theorem d_risSaved_284 : decode prog_14_method_91_code 284 = .ok (.getfield 108, 3) := by decide +kernel
theorem d_risSaved_287 : decode prog_14_method_91_code 287 = .ok (.aload_n 0, 1) := by decide +kernel
theorem d_risSaved_288 : decode prog_14_method_91_code 288 = .ok (.getfield 496, 3) := by decide +kernel
theorem d_risSaved_291 : decode prog_14_method_91_code 291 = .ok (.iload 5, 2) := by decide +kernel
theorem d_risSaved_293 : decode prog_14_method_91_code 293 = .ok (.iadd, 1) := by decide +kernel
theorem d_risSaved_294 : decode prog_14_method_91_code 294 = .ok (.baload, 1) := by decide +kernel
theorem d_risSaved_295 : decode prog_14_method_91_code 295 = .ok (.sipush 255, 3) := by decide +kernel
theorem d_risSaved_298 : decode prog_14_method_91_code 298 = .ok (.iand, 1) := by decide +kernel
theorem d_risSaved_299 : decode prog_14_method_91_code 299 = .ok (.iload 4, 2) := by decide +kernel
theorem d_risSaved_301 : decode prog_14_method_91_code 301 = .ok (.bipush 24, 2) := by decide +kernel
theorem d_risSaved_303 : decode prog_14_method_91_code 303 = .ok (.bipush 8, 2) := by decide +kernel
theorem d_risSaved_305 : decode prog_14_method_91_code 305 = .ok (.iload 5, 2) := by decide +kernel
theorem d_risSaved_307 : decode prog_14_method_91_code 307 = .ok (.imul, 1) := by decide +kernel
theorem d_risSaved_308 : decode prog_14_method_91_code 308 = .ok (.isub, 1) := by decide +kernel
theorem d_risSaved_309 : decode prog_14_method_91_code 309 = .ok (.iushr, 1) := by decide +kernel
theorem d_risSaved_310 : decode prog_14_method_91_code 310 = .ok (.sipush 255, 3) := by decide +kernel
theorem d_risSaved_313 : decode prog_14_method_91_code 313 = .ok (.iand, 1) := by decide +kernel
theorem d_risSaved_314 : decode prog_14_method_91_code 314 = .ok (.if_icmp .eq 5, 3) := by decide +kernel
theorem d_risSaved_319 : decode prog_14_method_91_code 319 = .ok (.iinc 5 1, 3) := by decide +kernel
theorem d_risSaved_322 : decode prog_14_method_91_code 322 = .ok (.goto (-45), 3) := by decide +kernel
theorem d_risSaved_317 : decode prog_14_method_91_code 317 = .ok (.iconst 0, 1) := by decide +kernel
theorem d_risSaved_318 : decode prog_14_method_91_code 318 = .ok (.ireturn, 1) := by decide +kernel
set_option maxHeartbeats 4000000 in
set_option maxRecDepth 100000 in
theorem w_risSaved_B277 {p : Program} {l : Launch} {e : Env} {s : State} {m : MethodId} {args : Array Value} {below : List Frame} {meth : Method} {c : Code} {A : Nat → Prop} {D : va_G} {md : Nat → Nat} {mc : Nat → ClassId} {Q : State → Prop} (hC : MCx "JoinedTreesModel" prog_14_method_91_code 9 (some .boolean) p s m args meth c A D mc) {S : MS} {x4 : Int32} {x5 : Int32} {o : ((MS × Int32 × Int32) ⊕ (MS ⊕ (MS × Int32)))} (Heq : m_risSaved_B277 S x4 x5 = some o) (Ka : ∀ b : MS × Int32 × Int32, o = .inl b → ∀ (H : Heap) (locs : List Loc) (ls : Array Slot), va_P D cls (mw md mc b.1) H → va_D A (mw md mc b.1) → va_S A s.heap H locs → lv_has ls 9 [(0, .ref (md 100)), (4, .int b.2.1), (5, .int b.2.2)] → W p l e ({ frames := 5, cells := 0, slots := 0, locals := 118 }) s m args below meth c H locs 0 0 Q (F0 m 277 ls [])) (K0 : ∀ b : MS, o = .inr (.inl b) → ∀ (H : Heap) (locs : List Loc) (ls : Array Slot), va_P D cls (mw md mc b) H → va_D A (mw md mc b) → va_S A s.heap H locs → lv_has ls 9 [(0, .ref (md 100))] → W p l e ({ frames := 5, cells := 0, slots := 0, locals := 118 }) s m args below meth c H locs 0 0 Q (F0 m 325 ls [])) (Kr : ∀ r : MS × Int32, o = .inr (.inr r) → ∀ (pc : Nat) (H : Heap) (locs : List Loc) (ls : Array Slot), decode prog_14_method_91_code pc = .ok (.ireturn, 1) → (r.2 = 0 ∨ r.2 = 1) → va_P D cls (mw md mc r.1) H → va_D A (mw md mc r.1) → va_S A s.heap H locs → W p l e ({ frames := 5, cells := 0, slots := 0, locals := 118 }) s m args below meth c H locs 0 0 Q (F0 m pc ls [.int r.2])) : ∀ (H : Heap) (locs : List Loc) (ls : Array Slot), va_P D cls (mw md mc S) H → va_D A (mw md mc S) → va_S A s.heap H locs → lv_has ls 9 [(0, .ref (md 100)), (4, .int x4), (5, .int x5)] → W p l e ({ frames := 5, cells := 0, slots := 0, locals := 118 }) s m args below meth c H locs 0 0 Q (F0 m 277 ls []) := by
  intro H locs ls hP hD hS hl
  obtain ⟨hx, hb, hr, hml, hown, hts, hK, hA⟩ := id hC
  unfold m_risSaved_B277 at Heq
  refine lv_iload hx hb d_risSaved_277 (lv_at hl 2 rfl) ?_
  refine lv_iconst (v := 4) hx hb d_risSaved_279 (by decide) ?_
  refine lv_icmp_ge (tgt := 325) hx hb d_risSaved_280 (by decide) (fun c_1 => ?_) (fun c_1 => ?_)
  · replace Heq := (if_pos c_1).symm.trans Heq
    exact K0 _ (Option.some.inj Heq).symm _ _ _ hP hD hS (lv_sub hl [0] rfl)
  · replace Heq := (if_neg c_1).symm.trans Heq
    refine lv_aload_n hx hb d_risSaved_283 rfl (lv_at hl 0 rfl) ?_
    refine va_get (D := D) (ci := 12) (v := .ref (md 40)) (C := R_MM) (T := F_MM) (N := 77) hx hb hts i_MM hown hK hP 0 rfl rfl 40 (by decide) (hts _ kw_1422) (fun _ h9 => h9) rfl d_risSaved_284 ?_
    refine lv_aload_n hx hb d_risSaved_287 rfl (lv_at hl 0 rfl) ?_
    refine va_get (D := D) (ci := 12) (v := .int (S.i 75)) (C := R_MM) (T := F_MM) (N := 77) hx hb hts i_MM hown hK hP 0 rfl rfl 75 (by decide) (hts _ kw_1457) (fun _ h9 => h9) rfl d_risSaved_288 ?_
    refine lv_iload hx hb d_risSaved_291 (lv_at hl 2 rfl) ?_
    refine lv_iadd hx hb d_risSaved_293 ?_
    refine w_i (y := (S.i 75) + x5) rfl ?_
    obtain ⟨hi_2, Heq⟩ := gd_some Heq
    refine va_bald hx hb hK hP 28 1 rfl rfl (i := (S.i 75) + x5) hi_2 d_risSaved_294 ?_
    refine w_i (y := S.a 40 (((S.i 75) + x5).toNatClampNeg)) rfl ?_
    refine lv_sipush (v := 255) hx hb d_risSaved_295 (by decide) ?_
    refine lv_iand hx hb d_risSaved_298 ?_
    refine w_i (y := (S.a 40 (((S.i 75) + x5).toNatClampNeg)) &&& 255) rfl ?_
    refine lv_iload hx hb d_risSaved_299 (lv_at hl 1 rfl) ?_
    refine lv_bipush (v := 24) hx hb d_risSaved_301 (by decide) ?_
    refine lv_bipush (v := 8) hx hb d_risSaved_303 (by decide) ?_
    refine lv_iload hx hb d_risSaved_305 (lv_at hl 2 rfl) ?_
    refine lv_imul hx hb d_risSaved_307 ?_
    refine w_i (y := 8 * x5) rfl ?_
    refine lv_isub hx hb d_risSaved_308 ?_
    refine w_i (y := 24 - (8 * x5)) rfl ?_
    refine lv_iushr hx hb d_risSaved_309 rfl ?_
    refine w_i (y := ushr32 x4 (24 - (8 * x5))) rfl ?_
    refine lv_sipush (v := 255) hx hb d_risSaved_310 (by decide) ?_
    refine lv_iand hx hb d_risSaved_313 ?_
    refine w_i (y := (ushr32 x4 (24 - (8 * x5))) &&& 255) rfl ?_
    refine lv_icmp_eq (tgt := 319) hx hb d_risSaved_314 (by decide) (fun c_3 => ?_) (fun c_3 => ?_)
    · replace Heq := (if_pos c_3).symm.trans Heq
      refine lv_iinc (v := x5 + 1) (lv' := [(5, .int (x5 + 1)), (0, .ref (md 100)), (4, .int x4)]) hx hb d_risSaved_319 hl (k := 2) rfl rfl (by decide) rfl (fun ls hl => ?_)
      refine lv_goto (tgt := 277) hx hb d_risSaved_322 (by decide) ?_
      exact Ka _ (Option.some.inj Heq).symm _ _ _ hP hD hS (lv_sub hl [1, 2, 0] rfl)
    · replace Heq := (if_neg c_3).symm.trans Heq
      refine lv_iconst (v := 0) hx hb d_risSaved_317 (by decide) ?_
      exact Kr _ (Option.some.inj Heq).symm 318 _ _ _ d_risSaved_318 (Or.inl rfl) hP hD hS
def m_risSaved_L277 (S : MS) (x4 : Int32) (x5 : Int32) : Option (MS ⊕ (MS × Int32)) := lp (fun a : MS × Int32 × Int32 => m_risSaved_B277 a.1 a.2.1 a.2.2) FU (S, x4, x5)
theorem w_risSaved_L277 {p : Program} {l : Launch} {e : Env} {s : State} {m : MethodId} {args : Array Value} {below : List Frame} {meth : Method} {c : Code} {A : Nat → Prop} {D : va_G} {md : Nat → Nat} {mc : Nat → ClassId} {Q : State → Prop} (hC : MCx "JoinedTreesModel" prog_14_method_91_code 9 (some .boolean) p s m args meth c A D mc) {S : MS} {x4 : Int32} {x5 : Int32} {o : (MS ⊕ (MS × Int32))} (Heq : m_risSaved_L277 S x4 x5 = some o) (K0 : ∀ b : MS, o = (.inl b) → ∀ (H : Heap) (locs : List Loc) (ls : Array Slot), va_P D cls (mw md mc b) H → va_D A (mw md mc b) → va_S A s.heap H locs → lv_has ls 9 [(0, .ref (md 100))] → W p l e ({ frames := 5, cells := 0, slots := 0, locals := 118 }) s m args below meth c H locs 0 0 Q (F0 m 325 ls [])) (Kr : ∀ r : MS × Int32, o = (.inr r) → ∀ (pc : Nat) (H : Heap) (locs : List Loc) (ls : Array Slot), decode prog_14_method_91_code pc = .ok (.ireturn, 1) → (r.2 = 0 ∨ r.2 = 1) → va_P D cls (mw md mc r.1) H → va_D A (mw md mc r.1) → va_S A s.heap H locs → W p l e ({ frames := 5, cells := 0, slots := 0, locals := 118 }) s m args below meth c H locs 0 0 Q (F0 m pc ls [.int r.2])) : ∀ (H : Heap) (locs : List Loc) (ls : Array Slot), va_P D cls (mw md mc S) H → va_D A (mw md mc S) → va_S A s.heap H locs → lv_has ls 9 [(0, .ref (md 100)), (4, .int x4), (5, .int x5)] → W p l e ({ frames := 5, cells := 0, slots := 0, locals := 118 }) s m args below meth c H locs 0 0 Q (F0 m 277 ls []) := by
  refine lp_w (G := fun a : MS × Int32 × Int32 => ∀ (H : Heap) (locs : List Loc) (ls : Array Slot), va_P D cls (mw md mc a.1) H → va_D A (mw md mc a.1) → va_S A s.heap H locs → lv_has ls 9 [(0, .ref (md 100)), (4, .int a.2.1), (5, .int a.2.2)] → W p l e ({ frames := 5, cells := 0, slots := 0, locals := 118 }) s m args below meth c H locs 0 0 Q (F0 m 277 ls [])) ?_ FU (S, x4, x5) Heq
  intro a o1 ho Ka Ke
  exact w_risSaved_B277 hC ho (fun b h => Ka b h) (fun b h => K0 b (Ke _ h).symm) (fun r h => Kr r (Ke _ h).symm)
def m_risSaved_J0 (S : MS) : Option (MS × Int32) := ob (m_risSaved_L2 S 0) (fun b_1 => ob (m_rgrouped (b_1.setI 75 0)) (fun o_3 => (if o_3.2 < 0 then m_risSaved_J44 o_3.1 else (if o_3.2 ≤ o_3.1.i 34 then ob (m_rgroup (o_3.1.setI 41 400000) o_3.2.toInt64) (fun o_7 => ob (m_rstands o_7 0 ((o_7.i 41) - 400000)) (fun o_9 => (if o_9.2 = 0 then some (o_9.1, 0) else oe (m_risSaved_L93 (o_9.1.setI 75 ((o_9.1.i 41) - 400000)) o_3.2 (-1) 0 0) (fun b_12 => ob (m_rcrc b_12 (b_12.i 75)) (fun o_15 => (if o_15.1.i 76 = (o_15.1.i 75) + 4 then oe (m_risSaved_L277 o_15.1 o_15.2 0) (fun b_18 => some (b_18, 1)) (fun r_20 => some r_20) else some (o_15.1, 0)))) (fun r_14 => some r_14)))) else m_risSaved_J44 o_3.1))))
theorem d_risSaved_325 : decode prog_14_method_91_code 325 = .ok (.iconst 1, 1) := by decide +kernel
theorem d_risSaved_326 : decode prog_14_method_91_code 326 = .ok (.ireturn, 1) := by decide +kernel
theorem d_risSaved_272 : decode prog_14_method_91_code 272 = .ok (.iconst 0, 1) := by decide +kernel
theorem d_risSaved_273 : decode prog_14_method_91_code 273 = .ok (.ireturn, 1) := by decide +kernel
theorem d_risSaved_73 : decode prog_14_method_91_code 73 = .ok (.iconst 0, 1) := by decide +kernel
theorem d_risSaved_74 : decode prog_14_method_91_code 74 = .ok (.ireturn, 1) := by decide +kernel
set_option maxHeartbeats 4000000 in
set_option maxRecDepth 100000 in
theorem w_risSaved_J0 {p : Program} {l : Launch} {e : Env} {s : State} {m : MethodId} {args : Array Value} {below : List Frame} {meth : Method} {c : Code} {A : Nat → Prop} {D : va_G} {md : Nat → Nat} {mc : Nat → ClassId} {Q : State → Prop} (hC : MCx "JoinedTreesModel" prog_14_method_91_code 9 (some .boolean) p s m args meth c A D mc) {S : MS} {o : MS × Int32} (Heq : m_risSaved_J0 S = some o) (Kr : ∀ r : MS × Int32, o = r → ∀ (pc : Nat) (H : Heap) (locs : List Loc) (ls : Array Slot), decode prog_14_method_91_code pc = .ok (.ireturn, 1) → (r.2 = 0 ∨ r.2 = 1) → va_P D cls (mw md mc r.1) H → va_D A (mw md mc r.1) → va_S A s.heap H locs → W p l e ({ frames := 5, cells := 0, slots := 0, locals := 118 }) s m args below meth c H locs 0 0 Q (F0 m pc ls [.int r.2])) : ∀ (H : Heap) (locs : List Loc) (ls : Array Slot), va_P D cls (mw md mc S) H → va_D A (mw md mc S) → va_S A s.heap H locs → lv_has ls 9 [(0, .ref (md 100))] → W p l e ({ frames := 5, cells := 0, slots := 0, locals := 118 }) s m args below meth c H locs 0 0 Q (F0 m 0 ls []) := by
  intro H locs ls hP hD hS hl
  obtain ⟨hx, hb, hr, hml, hown, hts, hK, hA⟩ := id hC
  unfold m_risSaved_J0 at Heq
  refine lv_iconst (v := 0) hx hb d_risSaved_0 (by decide) ?_
  refine lv_istore_n (lv' := [(1, .int 0), (0, .ref (md 100))]) hx hb d_risSaved_1 rfl hl (by decide) rfl (fun ls hl => ?_)
  obtain ⟨b_1, h_2, Heq⟩ := ob_some Heq
  refine w_risSaved_L2 hC h_2 (fun b h => ?_) _ _ _ hP hD hS (lv_sub hl [1, 0] rfl)
  subst h
  intro H locs ls hP hD hS hl
  refine lv_aload_n hx hb d_risSaved_22 rfl (lv_at hl 0 rfl) ?_
  refine lv_iconst (v := 0) hx hb d_risSaved_23 (by decide) ?_
  refine va_put (D := D) (ci := 12) (v := .int 0) (ty := .int) (C := R_MM) (T := F_MM) (N := 77) hx hb hts i_MM t_MM t_MM_ok n_MM hown hK hP hD hS 0 rfl rfl 75 (by decide) (hts _ kw_1457) (fun _ h9 => h9) rfl (by decide +kernel) rfl rfl (Nat.le_of_ble_eq_true rfl) d_risSaved_24 (fun H locs hP hD hS => ?_)
  rw [mw_I75] at hP hD
  refine lv_aload_n hx hb d_risSaved_27 rfl (lv_at hl 0 rfl) ?_
  obtain ⟨o_3, h_4, Heq⟩ := ob_some Heq
  have hFc := fr_all hD hS hA
  refine va_calli (va_runV (As := []) (rest := []) ⟨hx, hb, hml, hown, hts⟩ (g_rgrouped l D H.size h_4) (cw_v 0 hts kw_1986 kw_1983 kw_1985 kp_88 kw_11 rfl rfl (by decide +kernel) ⟨Nat.le_of_ble_eq_true rfl, Nat.le_of_ble_eq_true rfl⟩) ⟨g_blind, va_recv hK hP (ci := 12) (q0 := 0) rfl rfl, fun U hU hW => g_pre hU hW hP hK hD⟩ rfl rfl hl.1 rfl (lv_room (Nat.le_of_ble_eq_true rfl)) d_risSaved_28 ⟨Nat.le_of_ble_eq_true rfl, Nat.le_of_ble_eq_true rfl⟩) hS (fun q _ h => hFc q h) hFc (fun rz u t H1 locs ht hvm hw hB hz1 hk1 hS => ?_)
  obtain ⟨hP, -, hD1⟩ := hB
  rw [ht] at hP
  have hD := hD1.weaken (fun _ q _ h => hFc q.1 h)
  generalize H1 = H at hP hS ⊢
  refine W.cs (cells' := 0) (slots' := 0) rfl rfl ?_
  subst hw
  refine lv_istore_n (lv' := [(1, .int o_3.2), (0, .ref (md 100))]) hx hb d_risSaved_31 rfl hl (by decide) rfl (fun ls hl => ?_)
  refine lv_iload_n hx hb d_risSaved_32 rfl (lv_at hl 0 rfl) ?_
  refine lv_if_lt (tgt := 44) hx hb d_risSaved_33 (by decide) (fun c_5 => ?_) (fun c_5 => ?_)
  · replace Heq := (if_pos c_5).symm.trans Heq
    exact w_risSaved_J44 hC Heq Kr _ _ _ hP hD hS (lv_sub hl [1] rfl)
  · replace Heq := (if_neg c_5).symm.trans Heq
    refine lv_iload_n hx hb d_risSaved_36 rfl (lv_at hl 0 rfl) ?_
    refine lv_aload_n hx hb d_risSaved_37 rfl (lv_at hl 1 rfl) ?_
    refine va_get (D := D) (ci := 12) (v := .int (o_3.1.i 34)) (C := R_MM) (T := F_MM) (N := 77) hx hb hts i_MM hown hK hP 0 rfl rfl 34 (by decide) (hts _ kw_1416) (fun _ h9 => h9) rfl d_risSaved_38 ?_
    refine lv_icmp_le (tgt := 46) hx hb d_risSaved_41 (by decide) (fun c_6 => ?_) (fun c_6 => ?_)
    · replace Heq := (if_pos c_6).symm.trans Heq
      refine lv_aload_n hx hb d_risSaved_46 rfl (lv_at hl 1 rfl) ?_
      refine lv_ldc (v := 400000) hx hb hown (hts _ kw_1381) d_risSaved_47 ?_
      refine va_put (D := D) (ci := 12) (v := .int 400000) (ty := .int) (C := R_MM) (T := F_MM) (N := 77) hx hb hts i_MM t_MM t_MM_ok n_MM hown hK hP hD hS 0 rfl rfl 41 (by decide) (hts _ kw_1423) (fun _ h9 => h9) rfl (by decide +kernel) rfl rfl (Nat.le_of_ble_eq_true rfl) d_risSaved_49 (fun H locs hP hD hS => ?_)
      rw [mw_I41] at hP hD
      refine lv_aload_n hx hb d_risSaved_52 rfl (lv_at hl 1 rfl) ?_
      refine lv_iload_n hx hb d_risSaved_53 rfl (lv_at hl 0 rfl) ?_
      refine lv_i2l hx hb d_risSaved_54 rfl ?_
      refine w_l (y := o_3.2.toInt64) rfl ?_
      obtain ⟨o_7, h_8, Heq⟩ := ob_some Heq
      have hFc := fr_all hD hS hA
      refine va_callv (va_runV (As := [.long o_3.2.toInt64]) (rest := []) ⟨hx, hb, hml, hown, hts⟩ (g_rgroup l D H.size h_8) (cw_v 1 hts kw_1950 kw_1947 kw_1949 kp_82 kw_11 rfl rfl (by decide +kernel) ⟨Nat.le_of_ble_eq_true rfl, Nat.le_of_ble_eq_true rfl⟩) ⟨g_blind, va_recv hK hP (ci := 12) (q0 := 0) rfl rfl, fun U hU hW => g_pre hU hW hP hK hD⟩ rfl rfl hl.1 rfl (lv_room (Nat.le_of_ble_eq_true rfl)) d_risSaved_55 ⟨Nat.le_of_ble_eq_true rfl, Nat.le_of_ble_eq_true rfl⟩) hS (fun q _ h => hFc q h) hFc (fun u t H1 locs ht hvm hw hB hz1 hk1 hS => ?_)
      obtain ⟨hP, -, hD1⟩ := hB
      rw [ht] at hP
      have hD := hD1.weaken (fun _ q _ h => hFc q.1 h)
      generalize H1 = H at hP hS ⊢
      refine W.cs (cells' := 0) (slots' := 0) rfl rfl ?_
      refine lv_aload_n hx hb d_risSaved_58 rfl (lv_at hl 1 rfl) ?_
      refine lv_iconst (v := 0) hx hb d_risSaved_59 (by decide) ?_
      refine lv_aload_n hx hb d_risSaved_60 rfl (lv_at hl 1 rfl) ?_
      refine va_get (D := D) (ci := 12) (v := .int (o_7.i 41)) (C := R_MM) (T := F_MM) (N := 77) hx hb hts i_MM hown hK hP 0 rfl rfl 41 (by decide) (hts _ kw_1423) (fun _ h9 => h9) rfl d_risSaved_61 ?_
      refine lv_ldc (v := 400000) hx hb hown (hts _ kw_1381) d_risSaved_64 ?_
      refine lv_isub hx hb d_risSaved_66 ?_
      refine w_i (y := (o_7.i 41) - 400000) rfl ?_
      obtain ⟨o_9, h_10, Heq⟩ := ob_some Heq
      have hFc := fr_all hD hS hA
      refine va_calli (va_runV (As := [.int 0, .int ((o_7.i 41) - 400000)]) (rest := []) ⟨hx, hb, hml, hown, hts⟩ (g_rstands l D H.size h_10) (cw_v 2 hts kw_1990 kw_1987 kw_1989 kp_89 kw_11 rfl rfl (by decide +kernel) ⟨Nat.le_of_ble_eq_true rfl, Nat.le_of_ble_eq_true rfl⟩) ⟨g_blind, va_recv hK hP (ci := 12) (q0 := 0) rfl rfl, fun U hU hW => g_pre hU hW hP hK hD⟩ rfl rfl hl.1 rfl (lv_room (Nat.le_of_ble_eq_true rfl)) d_risSaved_67 ⟨Nat.le_of_ble_eq_true rfl, Nat.le_of_ble_eq_true rfl⟩) hS (fun q _ h => hFc q h) hFc (fun rz u t H1 locs ht hvm hw hB hz1 hk1 hS => ?_)
      obtain ⟨hP, -, hD1⟩ := hB
      rw [ht] at hP
      have hD := hD1.weaken (fun _ q _ h => hFc q.1 h)
      generalize H1 = H at hP hS ⊢
      refine W.cs (cells' := 0) (slots' := 0) rfl rfl ?_
      subst hw
      refine lv_if_ne (tgt := 75) hx hb d_risSaved_70 (by decide) (fun c_11 => ?_) (fun c_11 => ?_)
      · replace Heq := (if_neg c_11).symm.trans Heq
        refine lv_aload_n hx hb d_risSaved_75 rfl (lv_at hl 1 rfl) ?_
        refine lv_aload_n hx hb d_risSaved_76 rfl (lv_at hl 1 rfl) ?_
        refine va_get (D := D) (ci := 12) (v := .int (o_9.1.i 41)) (C := R_MM) (T := F_MM) (N := 77) hx hb hts i_MM hown hK hP 0 rfl rfl 41 (by decide) (hts _ kw_1423) (fun _ h9 => h9) rfl d_risSaved_77 ?_
        refine lv_ldc (v := 400000) hx hb hown (hts _ kw_1381) d_risSaved_80 ?_
        refine lv_isub hx hb d_risSaved_82 ?_
        refine w_i (y := (o_9.1.i 41) - 400000) rfl ?_
        refine va_put (D := D) (ci := 12) (v := .int ((o_9.1.i 41) - 400000)) (ty := .int) (C := R_MM) (T := F_MM) (N := 77) hx hb hts i_MM t_MM t_MM_ok n_MM hown hK hP hD hS 0 rfl rfl 75 (by decide) (hts _ kw_1457) (fun _ h9 => h9) rfl (by decide +kernel) rfl rfl (Nat.le_of_ble_eq_true rfl) d_risSaved_83 (fun H locs hP hD hS => ?_)
        rw [mw_I75] at hP hD
        refine lv_iconst (v := (-1)) hx hb d_risSaved_86 (by decide) ?_
        refine lv_istore_n (lv' := [(2, .int (-1)), (1, .int o_3.2), (0, .ref (md 100))]) hx hb d_risSaved_87 rfl hl (by decide) rfl (fun ls hl => ?_)
        refine lv_iconst (v := 0) hx hb d_risSaved_88 (by decide) ?_
        refine lv_istore_n (lv' := [(3, .int 0), (2, .int (-1)), (1, .int o_3.2), (0, .ref (md 100))]) hx hb d_risSaved_89 rfl hl (by decide) rfl (fun ls hl => ?_)
        refine lv_iconst (v := 0) hx hb d_risSaved_90 (by decide) ?_
        refine lv_istore (lv' := [(4, .int 0), (3, .int 0), (2, .int (-1)), (1, .int o_3.2), (0, .ref (md 100))]) hx hb d_risSaved_91 hl (by decide) rfl (fun ls hl => ?_)
        rcases oe_some Heq with ⟨b_12, h_13, Heq⟩ | ⟨r_14, h_13, Heq⟩
        · refine w_risSaved_L93 hC h_13 (fun b h => ?_) (fun r h => by cases h) _ _ _ hP hD hS (lv_sub hl [4, 3, 2, 1, 0] rfl)
          cases h
          intro H locs ls hP hD hS hl
          refine lv_aload_n hx hb d_risSaved_249 rfl (lv_at hl 0 rfl) ?_
          refine lv_aload_n hx hb d_risSaved_250 rfl (lv_at hl 0 rfl) ?_
          refine va_get (D := D) (ci := 12) (v := .int (b_12.i 75)) (C := R_MM) (T := F_MM) (N := 77) hx hb hts i_MM hown hK hP 0 rfl rfl 75 (by decide) (hts _ kw_1457) (fun _ h9 => h9) rfl d_risSaved_251 ?_
          obtain ⟨o_15, h_16, Heq⟩ := ob_some Heq
          have hFc := fr_all hD hS hA
          refine va_calli (va_runV (As := [.int (b_12.i 75)]) (rest := []) ⟨hx, hb, hml, hown, hts⟩ (g_rcrc l D H.size h_16) (cw_v 1 hts kw_1973 kw_1970 kw_1972 kp_86 kw_11 rfl rfl (by decide +kernel) ⟨Nat.le_of_ble_eq_true rfl, Nat.le_of_ble_eq_true rfl⟩) ⟨g_blind, va_recv hK hP (ci := 12) (q0 := 0) rfl rfl, fun U hU hW => g_pre hU hW hP hK hD⟩ rfl rfl hl.1 rfl (lv_room (Nat.le_of_ble_eq_true rfl)) d_risSaved_254 ⟨Nat.le_of_ble_eq_true rfl, Nat.le_of_ble_eq_true rfl⟩) hS (fun q _ h => hFc q h) hFc (fun rz u t H1 locs ht hvm hw hB hz1 hk1 hS => ?_)
          obtain ⟨hP, -, hD1⟩ := hB
          rw [ht] at hP
          have hD := hD1.weaken (fun _ q _ h => hFc q.1 h)
          generalize H1 = H at hP hS ⊢
          refine W.cs (cells' := 0) (slots' := 0) rfl rfl ?_
          subst hw
          refine lv_istore (lv' := [(4, .int o_15.2), (0, .ref (md 100))]) hx hb d_risSaved_257 hl (by decide) rfl (fun ls hl => ?_)
          refine lv_aload_n hx hb d_risSaved_259 rfl (lv_at hl 1 rfl) ?_
          refine va_get (D := D) (ci := 12) (v := .int (o_15.1.i 76)) (C := R_MM) (T := F_MM) (N := 77) hx hb hts i_MM hown hK hP 0 rfl rfl 76 (by decide) (hts _ kw_1458) (fun _ h9 => h9) rfl d_risSaved_260 ?_
          refine lv_aload_n hx hb d_risSaved_263 rfl (lv_at hl 1 rfl) ?_
          refine va_get (D := D) (ci := 12) (v := .int (o_15.1.i 75)) (C := R_MM) (T := F_MM) (N := 77) hx hb hts i_MM hown hK hP 0 rfl rfl 75 (by decide) (hts _ kw_1457) (fun _ h9 => h9) rfl d_risSaved_264 ?_
          refine lv_iconst (v := 4) hx hb d_risSaved_267 (by decide) ?_
          refine lv_iadd hx hb d_risSaved_268 ?_
          refine w_i (y := (o_15.1.i 75) + 4) rfl ?_
          refine lv_icmp_eq (tgt := 274) hx hb d_risSaved_269 (by decide) (fun c_17 => ?_) (fun c_17 => ?_)
          · replace Heq := (if_pos c_17).symm.trans Heq
            refine lv_iconst (v := 0) hx hb d_risSaved_274 (by decide) ?_
            refine lv_istore (lv' := [(5, .int 0), (4, .int o_15.2), (0, .ref (md 100))]) hx hb d_risSaved_275 hl (by decide) rfl (fun ls hl => ?_)
            rcases oe_some Heq with ⟨b_18, h_19, Heq⟩ | ⟨r_20, h_19, Heq⟩
            · refine w_risSaved_L277 hC h_19 (fun b h => ?_) (fun r h => by cases h) _ _ _ hP hD hS (lv_sub hl [2, 1, 0] rfl)
              cases h
              intro H locs ls hP hD hS hl
              refine lv_iconst (v := 1) hx hb d_risSaved_325 (by decide) ?_
              exact Kr _ (Option.some.inj Heq).symm 326 _ _ _ d_risSaved_326 (Or.inr rfl) hP hD hS
            · refine w_risSaved_L277 hC h_19 (fun b h => by cases h) (fun r h => ?_) _ _ _ hP hD hS (lv_sub hl [2, 1, 0] rfl)
              cases h
              exact Kr _ (Option.some.inj Heq).symm
          · replace Heq := (if_neg c_17).symm.trans Heq
            refine lv_iconst (v := 0) hx hb d_risSaved_272 (by decide) ?_
            exact Kr _ (Option.some.inj Heq).symm 273 _ _ _ d_risSaved_273 (Or.inl rfl) hP hD hS
        · refine w_risSaved_L93 hC h_13 (fun b h => by cases h) (fun r h => ?_) _ _ _ hP hD hS (lv_sub hl [4, 3, 2, 1, 0] rfl)
          cases h
          exact Kr _ (Option.some.inj Heq).symm
      · replace Heq := (if_pos c_11).symm.trans Heq
        refine lv_iconst (v := 0) hx hb d_risSaved_73 (by decide) ?_
        exact Kr _ (Option.some.inj Heq).symm 74 _ _ _ d_risSaved_74 (Or.inl rfl) hP hD hS
    · replace Heq := (if_neg c_6).symm.trans Heq
      exact w_risSaved_J44 hC Heq Kr _ _ _ hP hD hS (lv_sub hl [1] rfl)
def m_risSaved (S : MS) : Option (MS × Int32) := m_risSaved_J0 S
theorem g_risSaved (l : Launch) (D : va_G) (sz : Nat) {md : Nat → Nat} {mc : Nat → ClassId} {S : MS} {o : MS × Int32} (Heq : m_risSaved S = some o) : Met l ⟨"JoinedTreesModel", "isSaved", "()Z"⟩ (Cond.code ⟨"JoinedTreesModel", "isSaved", "()Z"⟩ prog_14_method_91_code 9 (some .boolean) :: gb) ({ frames := 5, cells := 0, slots := 0, locals := 118 }) (gPc D (mw md mc S) (mty mc) sz [.ref (md 100)]) (va_Qi (fun (r : Int32) (_ : Unit) => r = o.2) (fun _ t => gO D (mw md mc o.1) (mty mc) (va_A (mw md mc S) sz) t) (va_A (mw md mc S) sz)) 0 0 (va_A (mw md mc S) sz) := by
  refine Met.ofW (cc := prog_14_method_91_code) (maxL := 9) (ret := (some .boolean)) (by decide) rfl ?_
  intro p e s m args below meth c s₁ B hml hv
  obtain ⟨rfl, hsz, hP, hK, hD0⟩ := hv
  have hx := B.exec
  have hb := B.bytes
  have hr := B.returns
  have hts : ∀ w9 ∈ gb, w9.before [.ref (md 100)].toArray s = true := fun w9 h => atoms_spec (ws := Cond.code ⟨"JoinedTreesModel", "isSaved", "()Z"⟩ prog_14_method_91_code 9 (some .boolean) :: gb) B.pre w9 (List.mem_cons_of_mem _ h)
  have hown : s.vm.findClass "JoinedTreesModel" = some m.cls := findClass_of_methodNamed B.named
  have hlocks := B.notSynchronized
  subst hsz
  have hD := hD0.self (sz := s.heap.size)
  generalize hAe : va_A (mw md mc S) s.heap.size = A at hD ⊢
  have hA : ∀ q : Nat, s.heap.size ≤ q → A q := fun q h => by rw [← hAe]; exact Or.inr h
  have hS : va_S A s.heap s.heap [] := va_S.rf
  have hl := lv_entry ([.ref (md 100)]) (n := 9) (Nat.le_of_ble_eq_true rfl)
  rw [lg_entry_eq]
  generalize (lg_sl ([.ref (md 100)]) ++ List.replicate (9 - (lg_sl ([.ref (md 100)])).length) Slot.unset).toArray = ls at hl ⊢
  have hl : lv_has ls 9 [(0, .ref (md 100))] := hl
  refine w_risSaved_J0 ⟨hx, hb, hr, hml, hown, hts, hK, hA⟩ Heq (fun r h pc H locs ls hd hz hP hD hS => ?_) _ _ _ hP hD hS (lv_sub hl [0] rfl)
  subst h
  exact W.zret (ty := .boolean) hx hb hr (by rcases hz with hz | hz <;> rw [hz] <;> rfl) (fun t ht hW => ⟨⟨_, (), rfl, rfl, by rw [ht]; exact hP, va_K.moved hW.alike hK, hD⟩, hS.F ht⟩) hS.2.2 hd
