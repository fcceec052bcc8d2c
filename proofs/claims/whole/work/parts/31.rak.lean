def m_rview_J49 (S : MS) (x1 : Int32) (x2 : Int32) (x3 : Int32) : Option ((MS × Int32 × Int32 × Int32) ⊕ (MS × Int32)) := some (.inl (S, x1, x2, (x3 + 1)))
theorem d_rview_0 : decode prog_14_method_60_code 0 = .ok (.iconst 0, 1) := by decide +kernel
theorem d_rview_1 : decode prog_14_method_60_code 1 = .ok (.istore_n 2, 1) := by decide +kernel
theorem d_rview_2 : decode prog_14_method_60_code 2 = .ok (.iconst 0, 1) := by decide +kernel
theorem d_rview_3 : decode prog_14_method_60_code 3 = .ok (.istore_n 3, 1) := by decide +kernel
theorem d_rview_4 : decode prog_14_method_60_code 4 = .ok (.iload_n 3, 1) := by decide +kernel
theorem d_rview_5 : decode prog_14_method_60_code 5 = .ok (.aload_n 0, 1) := by decide +kernel
theorem d_rview_6 : decode prog_14_method_60_code 6 = .ok (.getfield 384, 3) := by decide +kernel
theorem d_rview_9 : decode prog_14_method_60_code 9 = .ok (.if_icmp .ge 46, 3) := by decide +kernel
theorem d_rview_12 : decode prog_14_method_60_code 12 = .ok (.aload_n 0, 1) := by decide +kernel
theorem d_rview_13 : decode prog_14_method_60_code 13 = .ok (.getfield 104, 3) := by decide +kernel
theorem d_rview_16 : decode prog_14_method_60_code 16 = .ok (.iload_n 1, 1) := by decide +kernel
theorem d_rview_17 : decode prog_14_method_60_code 17 = .ok (.iaload, 1) := by decide +kernel
theorem d_rview_18 : decode prog_14_method_60_code 18 = .ok (.ifCond .ge 17, 3) := by decide +kernel
theorem d_rview_35 : decode prog_14_method_60_code 35 = .ok (.aload_n 0, 1) := by decide +kernel
theorem d_rview_36 : decode prog_14_method_60_code 36 = .ok (.getfield 101, 3) := by decide +kernel
theorem d_rview_39 : decode prog_14_method_60_code 39 = .ok (.iload_n 1, 1) := by decide +kernel
theorem d_rview_40 : decode prog_14_method_60_code 40 = .ok (.aaload, 1) := by decide +kernel
theorem d_rview_41 : decode prog_14_method_60_code 41 = .ok (.iload_n 3, 1) := by decide +kernel
theorem d_rview_42 : decode prog_14_method_60_code 42 = .ok (.baload, 1) := by decide +kernel
theorem d_rview_43 : decode prog_14_method_60_code 43 = .ok (.ifCond .eq 6, 3) := by decide +kernel
theorem d_rview_49 : decode prog_14_method_60_code 49 = .ok (.iinc 3 1, 3) := by decide +kernel
theorem d_rview_52 : decode prog_14_method_60_code 52 = .ok (.goto (-48), 3) := by decide +kernel
set_option maxHeartbeats 4000000 in
set_option maxRecDepth 100000 in
theorem w_rview_J49 {p : Program} {l : Launch} {e : Env} {s : State} {m : MethodId} {args : Array Value} {below : List Frame} {meth : Method} {c : Code} {A : Nat → Prop} {D : va_G} {md : Nat → Nat} {mc : Nat → ClassId} {Q : State → Prop} (hC : MCx "JoinedTreesModel" prog_14_method_60_code 4 (some .int) p s m args meth c A D mc) {S : MS} {x1 : Int32} {x2 : Int32} {x3 : Int32} {o : ((MS × Int32 × Int32 × Int32) ⊕ (MS × Int32))} (Heq : m_rview_J49 S x1 x2 x3 = some o) (Ka : ∀ b : MS × Int32 × Int32 × Int32, o = .inl b → ∀ (H : Heap) (locs : List Loc) (ls : Array Slot), va_P D cls (mw md mc b.1) H → va_D A (mw md mc b.1) → va_S A s.heap H locs → lv_has ls 4 [(0, .ref (md 100)), (1, .int b.2.1), (2, .int b.2.2.1), (3, .int b.2.2.2)] → W p l e ({ frames := 0, cells := 0, slots := 0, locals := 0 }) s m args below meth c H locs 0 0 Q (F0 m 4 ls [])) (K0 : ∀ b : MS × Int32, o = .inr b → ∀ (H : Heap) (locs : List Loc) (ls : Array Slot), va_P D cls (mw md mc b.1) H → va_D A (mw md mc b.1) → va_S A s.heap H locs → lv_has ls 4 [(0, .ref (md 100)), (2, .int b.2)] → W p l e ({ frames := 0, cells := 0, slots := 0, locals := 0 }) s m args below meth c H locs 0 0 Q (F0 m 55 ls [])) : ∀ (H : Heap) (locs : List Loc) (ls : Array Slot), va_P D cls (mw md mc S) H → va_D A (mw md mc S) → va_S A s.heap H locs → lv_has ls 4 [(0, .ref (md 100)), (1, .int x1), (2, .int x2), (3, .int x3)] → W p l e ({ frames := 0, cells := 0, slots := 0, locals := 0 }) s m args below meth c H locs 0 0 Q (F0 m 49 ls []) := by
  intro H locs ls hP hD hS hl
  obtain ⟨hx, hb, hr, hml, hown, hts, hK, hA⟩ := id hC
  unfold m_rview_J49 at Heq
  refine lv_iinc (v := x3 + 1) (lv' := [(3, .int (x3 + 1)), (0, .ref (md 100)), (1, .int x1), (2, .int x2)]) hx hb d_rview_49 hl (k := 3) rfl rfl (by decide) rfl (fun ls hl => ?_)
  refine lv_goto (tgt := 4) hx hb d_rview_52 (by decide) ?_
  exact Ka _ (Option.some.inj Heq).symm _ _ _ hP hD hS (lv_sub hl [1, 2, 3, 0] rfl)
def m_rview_J46 (S : MS) (x1 : Int32) (x2 : Int32) (x3 : Int32) : Option ((MS × Int32 × Int32 × Int32) ⊕ (MS × Int32)) := m_rview_J49 S x1 (x2 + 1) x3
theorem d_rview_46 : decode prog_14_method_60_code 46 = .ok (.iinc 2 1, 3) := by decide +kernel
set_option maxHeartbeats 4000000 in
set_option maxRecDepth 100000 in
theorem w_rview_J46 {p : Program} {l : Launch} {e : Env} {s : State} {m : MethodId} {args : Array Value} {below : List Frame} {meth : Method} {c : Code} {A : Nat → Prop} {D : va_G} {md : Nat → Nat} {mc : Nat → ClassId} {Q : State → Prop} (hC : MCx "JoinedTreesModel" prog_14_method_60_code 4 (some .int) p s m args meth c A D mc) {S : MS} {x1 : Int32} {x2 : Int32} {x3 : Int32} {o : ((MS × Int32 × Int32 × Int32) ⊕ (MS × Int32))} (Heq : m_rview_J46 S x1 x2 x3 = some o) (Ka : ∀ b : MS × Int32 × Int32 × Int32, o = .inl b → ∀ (H : Heap) (locs : List Loc) (ls : Array Slot), va_P D cls (mw md mc b.1) H → va_D A (mw md mc b.1) → va_S A s.heap H locs → lv_has ls 4 [(0, .ref (md 100)), (1, .int b.2.1), (2, .int b.2.2.1), (3, .int b.2.2.2)] → W p l e ({ frames := 0, cells := 0, slots := 0, locals := 0 }) s m args below meth c H locs 0 0 Q (F0 m 4 ls [])) (K0 : ∀ b : MS × Int32, o = .inr b → ∀ (H : Heap) (locs : List Loc) (ls : Array Slot), va_P D cls (mw md mc b.1) H → va_D A (mw md mc b.1) → va_S A s.heap H locs → lv_has ls 4 [(0, .ref (md 100)), (2, .int b.2)] → W p l e ({ frames := 0, cells := 0, slots := 0, locals := 0 }) s m args below meth c H locs 0 0 Q (F0 m 55 ls [])) : ∀ (H : Heap) (locs : List Loc) (ls : Array Slot), va_P D cls (mw md mc S) H → va_D A (mw md mc S) → va_S A s.heap H locs → lv_has ls 4 [(0, .ref (md 100)), (1, .int x1), (2, .int x2), (3, .int x3)] → W p l e ({ frames := 0, cells := 0, slots := 0, locals := 0 }) s m args below meth c H locs 0 0 Q (F0 m 46 ls []) := by
  intro H locs ls hP hD hS hl
  obtain ⟨hx, hb, hr, hml, hown, hts, hK, hA⟩ := id hC
  unfold m_rview_J46 at Heq
  refine lv_iinc (v := x2 + 1) (lv' := [(2, .int (x2 + 1)), (0, .ref (md 100)), (1, .int x1), (3, .int x3)]) hx hb d_rview_46 hl (k := 2) rfl rfl (by decide) rfl (fun ls hl => ?_)
  exact w_rview_J49 hC Heq Ka K0 _ _ _ hP hD hS (lv_sub hl [1, 2, 0, 3] rfl)
def m_rview_B4 (S : MS) (x1 : Int32) (x2 : Int32) (x3 : Int32) : Option ((MS × Int32 × Int32 × Int32) ⊕ (MS × Int32)) := (if S.i 34 ≤ x3 then some (.inr (S, x2)) else gd x1 8 ((if 0 ≤ S.a 39 x1.toNatClampNeg then gd x1 8 (gd x3 1000 ((if S.a (117 + x1.toNatClampNeg) x3.toNatClampNeg = 0 then m_rview_J49 S x1 x2 x3 else m_rview_J46 S x1 x2 x3))) else gd x1 8 (gd x3 1000 ((if S.a (101 + x1.toNatClampNeg) x3.toNatClampNeg = 0 then m_rview_J49 S x1 x2 x3 else m_rview_J46 S x1 x2 x3))))))
theorem d_rview_21 : decode prog_14_method_60_code 21 = .ok (.aload_n 0, 1) := by decide +kernel
theorem d_rview_22 : decode prog_14_method_60_code 22 = .ok (.getfield 95, 3) := by decide +kernel
theorem d_rview_25 : decode prog_14_method_60_code 25 = .ok (.iload_n 1, 1) := by decide +kernel
theorem d_rview_26 : decode prog_14_method_60_code 26 = .ok (.aaload, 1) := by decide +kernel
theorem d_rview_27 : decode prog_14_method_60_code 27 = .ok (.iload_n 3, 1) := by decide +kernel
theorem d_rview_28 : decode prog_14_method_60_code 28 = .ok (.baload, 1) := by decide +kernel
theorem d_rview_29 : decode prog_14_method_60_code 29 = .ok (.ifCond .eq 20, 3) := by decide +kernel
theorem d_rview_32 : decode prog_14_method_60_code 32 = .ok (.goto 14, 3) := by decide +kernel
set_option maxHeartbeats 4000000 in
set_option maxRecDepth 100000 in
theorem w_rview_B4 {p : Program} {l : Launch} {e : Env} {s : State} {m : MethodId} {args : Array Value} {below : List Frame} {meth : Method} {c : Code} {A : Nat → Prop} {D : va_G} {md : Nat → Nat} {mc : Nat → ClassId} {Q : State → Prop} (hC : MCx "JoinedTreesModel" prog_14_method_60_code 4 (some .int) p s m args meth c A D mc) {S : MS} {x1 : Int32} {x2 : Int32} {x3 : Int32} {o : ((MS × Int32 × Int32 × Int32) ⊕ (MS × Int32))} (Heq : m_rview_B4 S x1 x2 x3 = some o) (Ka : ∀ b : MS × Int32 × Int32 × Int32, o = .inl b → ∀ (H : Heap) (locs : List Loc) (ls : Array Slot), va_P D cls (mw md mc b.1) H → va_D A (mw md mc b.1) → va_S A s.heap H locs → lv_has ls 4 [(0, .ref (md 100)), (1, .int b.2.1), (2, .int b.2.2.1), (3, .int b.2.2.2)] → W p l e ({ frames := 0, cells := 0, slots := 0, locals := 0 }) s m args below meth c H locs 0 0 Q (F0 m 4 ls [])) (K0 : ∀ b : MS × Int32, o = .inr b → ∀ (H : Heap) (locs : List Loc) (ls : Array Slot), va_P D cls (mw md mc b.1) H → va_D A (mw md mc b.1) → va_S A s.heap H locs → lv_has ls 4 [(0, .ref (md 100)), (2, .int b.2)] → W p l e ({ frames := 0, cells := 0, slots := 0, locals := 0 }) s m args below meth c H locs 0 0 Q (F0 m 55 ls [])) : ∀ (H : Heap) (locs : List Loc) (ls : Array Slot), va_P D cls (mw md mc S) H → va_D A (mw md mc S) → va_S A s.heap H locs → lv_has ls 4 [(0, .ref (md 100)), (1, .int x1), (2, .int x2), (3, .int x3)] → W p l e ({ frames := 0, cells := 0, slots := 0, locals := 0 }) s m args below meth c H locs 0 0 Q (F0 m 4 ls []) := by
  intro H locs ls hP hD hS hl
  obtain ⟨hx, hb, hr, hml, hown, hts, hK, hA⟩ := id hC
  unfold m_rview_B4 at Heq
  refine lv_iload_n hx hb d_rview_4 rfl (lv_at hl 3 rfl) ?_
  refine lv_aload_n hx hb d_rview_5 rfl (lv_at hl 0 rfl) ?_
  refine va_get (D := D) (ci := 12) (v := .int (S.i 34)) (C := R_MM) (T := F_MM) (N := 77) hx hb hts i_MM hown hK hP 0 rfl rfl 34 (by decide) (hts _ kw_1416) (fun _ h9 => h9) rfl d_rview_6 ?_
  refine lv_icmp_ge (tgt := 55) hx hb d_rview_9 (by decide) (fun c_1 => ?_) (fun c_1 => ?_)
  · replace Heq := (if_pos c_1).symm.trans Heq
    exact K0 _ (Option.some.inj Heq).symm _ _ _ hP hD hS (lv_sub hl [0, 2] rfl)
  · replace Heq := (if_neg c_1).symm.trans Heq
    refine lv_aload_n hx hb d_rview_12 rfl (lv_at hl 0 rfl) ?_
    refine va_get (D := D) (ci := 12) (v := .ref (md 39)) (C := R_MM) (T := F_MM) (N := 77) hx hb hts i_MM hown hK hP 0 rfl rfl 39 (by decide) (hts _ kw_1421) (fun _ h9 => h9) rfl d_rview_13 ?_
    refine lv_iload_n hx hb d_rview_16 rfl (lv_at hl 1 rfl) ?_
    obtain ⟨hi_2, Heq⟩ := gd_some Heq
    refine va_iald hx hb hK hP 27 0 rfl rfl (i := x1) hi_2 d_rview_17 ?_
    refine w_i (y := S.a 39 x1.toNatClampNeg) rfl ?_
    refine lv_if_ge (tgt := 35) hx hb d_rview_18 (by decide) (fun c_3 => ?_) (fun c_3 => ?_)
    · replace Heq := (if_pos c_3).symm.trans Heq
      refine lv_aload_n hx hb d_rview_35 rfl (lv_at hl 0 rfl) ?_
      refine va_get (D := D) (ci := 12) (v := .ref (md 38)) (C := R_MM) (T := F_MM) (N := 77) hx hb hts i_MM hown hK hP 0 rfl rfl 38 (by decide) (hts _ kw_1420) (fun _ h9 => h9) rfl d_rview_36 ?_
      refine lv_iload_n hx hb d_rview_39 rfl (lv_at hl 1 rfl) ?_
      obtain ⟨hi_4, Heq⟩ := gd_some Heq
      refine tx_ald2 hx hb hK hP 50 4 rfl rfl (i := x1) hi_4 d_rview_40 ?_
      refine w_v (y := .ref (md (117 + x1.toNatClampNeg))) rfl ?_
      refine lv_iload_n hx hb d_rview_41 rfl (lv_at hl 3 rfl) ?_
      obtain ⟨hi_5, Heq⟩ := gd_some Heq
      refine va_zald hx hb hK hP (67 + x1.toNatClampNeg) 2 (mp_R117 (vp_in.lt hi_4)) rfl (i := x3) hi_5 d_rview_42 ?_
      refine w_i (y := S.a (117 + x1.toNatClampNeg) x3.toNatClampNeg) rfl ?_
      refine lv_if_eq (tgt := 49) hx hb d_rview_43 (by decide) (fun c_6 => ?_) (fun c_6 => ?_)
      · replace Heq := (if_pos c_6).symm.trans Heq
        exact w_rview_J49 hC Heq Ka K0 _ _ _ hP hD hS (lv_sub hl [0, 1, 2, 3] rfl)
      · replace Heq := (if_neg c_6).symm.trans Heq
        exact w_rview_J46 hC Heq Ka K0 _ _ _ hP hD hS (lv_sub hl [0, 1, 2, 3] rfl)
    · replace Heq := (if_neg c_3).symm.trans Heq
      refine lv_aload_n hx hb d_rview_21 rfl (lv_at hl 0 rfl) ?_
      refine va_get (D := D) (ci := 12) (v := .ref (md 36)) (C := R_MM) (T := F_MM) (N := 77) hx hb hts i_MM hown hK hP 0 rfl rfl 36 (by decide) (hts _ kw_1418) (fun _ h9 => h9) rfl d_rview_22 ?_
      refine lv_iload_n hx hb d_rview_25 rfl (lv_at hl 1 rfl) ?_
      obtain ⟨hi_7, Heq⟩ := gd_some Heq
      refine tx_ald2 hx hb hK hP 48 4 rfl rfl (i := x1) hi_7 d_rview_26 ?_
      refine w_v (y := .ref (md (101 + x1.toNatClampNeg))) rfl ?_
      refine lv_iload_n hx hb d_rview_27 rfl (lv_at hl 3 rfl) ?_
      obtain ⟨hi_8, Heq⟩ := gd_some Heq
      refine va_zald hx hb hK hP (51 + x1.toNatClampNeg) 2 (mp_R101 (vp_in.lt hi_7)) rfl (i := x3) hi_8 d_rview_28 ?_
      refine w_i (y := S.a (101 + x1.toNatClampNeg) x3.toNatClampNeg) rfl ?_
      refine lv_if_eq (tgt := 49) hx hb d_rview_29 (by decide) (fun c_9 => ?_) (fun c_9 => ?_)
      · replace Heq := (if_pos c_9).symm.trans Heq
        exact w_rview_J49 hC Heq Ka K0 _ _ _ hP hD hS (lv_sub hl [0, 1, 2, 3] rfl)
      · replace Heq := (if_neg c_9).symm.trans Heq
        refine lv_goto (tgt := 46) hx hb d_rview_32 (by decide) ?_
        exact w_rview_J46 hC Heq Ka K0 _ _ _ hP hD hS (lv_sub hl [0, 1, 2, 3] rfl)
def m_rview_L4 (S : MS) (x1 : Int32) (x2 : Int32) (x3 : Int32) : Option (MS × Int32) := lp (fun a : MS × Int32 × Int32 × Int32 => m_rview_B4 a.1 a.2.1 a.2.2.1 a.2.2.2) FU (S, x1, x2, x3)
theorem w_rview_L4 {p : Program} {l : Launch} {e : Env} {s : State} {m : MethodId} {args : Array Value} {below : List Frame} {meth : Method} {c : Code} {A : Nat → Prop} {D : va_G} {md : Nat → Nat} {mc : Nat → ClassId} {Q : State → Prop} (hC : MCx "JoinedTreesModel" prog_14_method_60_code 4 (some .int) p s m args meth c A D mc) {S : MS} {x1 : Int32} {x2 : Int32} {x3 : Int32} {o : MS × Int32} (Heq : m_rview_L4 S x1 x2 x3 = some o) (K0 : ∀ b : MS × Int32, o = b → ∀ (H : Heap) (locs : List Loc) (ls : Array Slot), va_P D cls (mw md mc b.1) H → va_D A (mw md mc b.1) → va_S A s.heap H locs → lv_has ls 4 [(0, .ref (md 100)), (2, .int b.2)] → W p l e ({ frames := 0, cells := 0, slots := 0, locals := 0 }) s m args below meth c H locs 0 0 Q (F0 m 55 ls [])) : ∀ (H : Heap) (locs : List Loc) (ls : Array Slot), va_P D cls (mw md mc S) H → va_D A (mw md mc S) → va_S A s.heap H locs → lv_has ls 4 [(0, .ref (md 100)), (1, .int x1), (2, .int x2), (3, .int x3)] → W p l e ({ frames := 0, cells := 0, slots := 0, locals := 0 }) s m args below meth c H locs 0 0 Q (F0 m 4 ls []) := by
  refine lp_w (G := fun a : MS × Int32 × Int32 × Int32 => ∀ (H : Heap) (locs : List Loc) (ls : Array Slot), va_P D cls (mw md mc a.1) H → va_D A (mw md mc a.1) → va_S A s.heap H locs → lv_has ls 4 [(0, .ref (md 100)), (1, .int a.2.1), (2, .int a.2.2.1), (3, .int a.2.2.2)] → W p l e ({ frames := 0, cells := 0, slots := 0, locals := 0 }) s m args below meth c H locs 0 0 Q (F0 m 4 ls [])) ?_ FU (S, x1, x2, x3) Heq
  intro a o1 ho Ka Ke
  exact w_rview_B4 hC ho (fun b h => Ka b h) (fun b h => K0 b (Ke _ h).symm)
def m_rview_J0 (S : MS) (x1 : Int32) : Option (MS × Int32) := ob (m_rview_L4 S x1 0 0) (fun b_1 => some (b_1.1, b_1.2))
theorem d_rview_55 : decode prog_14_method_60_code 55 = .ok (.iload_n 2, 1) := by decide +kernel
theorem d_rview_56 : decode prog_14_method_60_code 56 = .ok (.ireturn, 1) := by decide +kernel
set_option maxHeartbeats 4000000 in
set_option maxRecDepth 100000 in
theorem w_rview_J0 {p : Program} {l : Launch} {e : Env} {s : State} {m : MethodId} {args : Array Value} {below : List Frame} {meth : Method} {c : Code} {A : Nat → Prop} {D : va_G} {md : Nat → Nat} {mc : Nat → ClassId} {Q : State → Prop} (hC : MCx "JoinedTreesModel" prog_14_method_60_code 4 (some .int) p s m args meth c A D mc) {S : MS} {x1 : Int32} {o : MS × Int32} (Heq : m_rview_J0 S x1 = some o) (Kr : ∀ r : MS × Int32, o = r → ∀ (pc : Nat) (H : Heap) (locs : List Loc) (ls : Array Slot), decode prog_14_method_60_code pc = .ok (.ireturn, 1) → va_P D cls (mw md mc r.1) H → va_D A (mw md mc r.1) → va_S A s.heap H locs → W p l e ({ frames := 0, cells := 0, slots := 0, locals := 0 }) s m args below meth c H locs 0 0 Q (F0 m pc ls [.int r.2])) : ∀ (H : Heap) (locs : List Loc) (ls : Array Slot), va_P D cls (mw md mc S) H → va_D A (mw md mc S) → va_S A s.heap H locs → lv_has ls 4 [(0, .ref (md 100)), (1, .int x1)] → W p l e ({ frames := 0, cells := 0, slots := 0, locals := 0 }) s m args below meth c H locs 0 0 Q (F0 m 0 ls []) := by
  intro H locs ls hP hD hS hl
  obtain ⟨hx, hb, hr, hml, hown, hts, hK, hA⟩ := id hC
  unfold m_rview_J0 at Heq
  refine lv_iconst (v := 0) hx hb d_rview_0 (by decide) ?_
  refine lv_istore_n (lv' := [(2, .int 0), (0, .ref (md 100)), (1, .int x1)]) hx hb d_rview_1 rfl hl (by decide) rfl (fun ls hl => ?_)
  refine lv_iconst (v := 0) hx hb d_rview_2 (by decide) ?_
  refine lv_istore_n (lv' := [(3, .int 0), (2, .int 0), (0, .ref (md 100)), (1, .int x1)]) hx hb d_rview_3 rfl hl (by decide) rfl (fun ls hl => ?_)
  obtain ⟨b_1, h_2, Heq⟩ := ob_some Heq
  refine w_rview_L4 hC h_2 (fun b h => ?_) _ _ _ hP hD hS (lv_sub hl [2, 3, 1, 0] rfl)
  subst h
  intro H locs ls hP hD hS hl
  refine lv_iload_n hx hb d_rview_55 rfl (lv_at hl 1 rfl) ?_
  exact Kr _ (Option.some.inj Heq).symm 56 _ _ _ d_rview_56 hP hD hS
def m_rview (S : MS) (x1 : Int32) : Option (MS × Int32) := m_rview_J0 S x1
theorem g_rview (l : Launch) (D : va_G) (sz : Nat) {md : Nat → Nat} {mc : Nat → ClassId} {S : MS} {x1 : Int32} {o : MS × Int32} (Heq : m_rview S x1 = some o) : Met l ⟨"JoinedTreesModel", "view", "(I)I"⟩ (Cond.code ⟨"JoinedTreesModel", "view", "(I)I"⟩ prog_14_method_60_code 4 (some .int) :: gb) ({ frames := 0, cells := 0, slots := 0, locals := 0 }) (gPc D (mw md mc S) (mty mc) sz [.ref (md 100), .int x1]) (va_Qi (fun (r : Int32) (_ : Unit) => r = o.2) (fun _ t => gO D (mw md mc o.1) (mty mc) (va_A (mw md mc S) sz) t) (va_A (mw md mc S) sz)) 0 0 (va_A (mw md mc S) sz) := by
  refine Met.ofW (cc := prog_14_method_60_code) (maxL := 4) (ret := (some .int)) (by decide) rfl ?_
  intro p e s m args below meth c s₁ B hml hv
  obtain ⟨rfl, hsz, hP, hK, hD0⟩ := hv
  have hx := B.exec
  have hb := B.bytes
  have hr := B.returns
  have hts : ∀ w9 ∈ gb, w9.before [.ref (md 100), .int x1].toArray s = true := fun w9 h => atoms_spec (ws := Cond.code ⟨"JoinedTreesModel", "view", "(I)I"⟩ prog_14_method_60_code 4 (some .int) :: gb) B.pre w9 (List.mem_cons_of_mem _ h)
  have hown : s.vm.findClass "JoinedTreesModel" = some m.cls := findClass_of_methodNamed B.named
  have hlocks := B.notSynchronized
  subst hsz
  have hD := hD0.self (sz := s.heap.size)
  generalize hAe : va_A (mw md mc S) s.heap.size = A at hD ⊢
  have hA : ∀ q : Nat, s.heap.size ≤ q → A q := fun q h => by rw [← hAe]; exact Or.inr h
  have hS : va_S A s.heap s.heap [] := va_S.rf
  have hl := lv_entry ([.ref (md 100), .int x1]) (n := 4) (Nat.le_of_ble_eq_true rfl)
  rw [lg_entry_eq]
  generalize (lg_sl ([.ref (md 100), .int x1]) ++ List.replicate (4 - (lg_sl ([.ref (md 100), .int x1])).length) Slot.unset).toArray = ls at hl ⊢
  have hl : lv_has ls 4 [(0, .ref (md 100)), (1, .int x1)] := hl
  refine w_rview_J0 ⟨hx, hb, hr, hml, hown, hts, hK, hA⟩ Heq (fun r h pc H locs ls hd hP hD hS => ?_) _ _ _ hP hD hS (lv_sub hl [0, 1] rfl)
  subst h
  exact W.iret hx hb hr (fun t ht hW => ⟨⟨_, (), rfl, rfl, by rw [ht]; exact hP, va_K.moved hW.alike hK, hD⟩, hS.F ht⟩) hS.2.2 hd
def m_rlook_J18 (S : MS) : Option (MS × Int32) := ob (m_rno S 1) (fun o_1 => some (o_1.1, o_1.2))
theorem d_rlook_0 : decode prog_14_method_61_code 0 = .ok (.iload_n 1, 1) := by decide +kernel
theorem d_rlook_1 : decode prog_14_method_61_code 1 = .ok (.invokestatic 251, 3) := by decide +kernel
theorem d_rlook_4 : decode prog_14_method_61_code 4 = .ok (.ifCond .eq 14, 3) := by decide +kernel
theorem d_rlook_18 : decode prog_14_method_61_code 18 = .ok (.aload_n 0, 1) := by decide +kernel
theorem d_rlook_19 : decode prog_14_method_61_code 19 = .ok (.iconst 1, 1) := by decide +kernel
theorem d_rlook_20 : decode prog_14_method_61_code 20 = .ok (.invokevirtual 191, 3) := by decide +kernel
theorem d_rlook_23 : decode prog_14_method_61_code 23 = .ok (.ireturn, 1) := by decide +kernel
set_option maxHeartbeats 4000000 in
set_option maxRecDepth 100000 in
theorem w_rlook_J18 {p : Program} {l : Launch} {e : Env} {s : State} {m : MethodId} {args : Array Value} {below : List Frame} {meth : Method} {c : Code} {A : Nat → Prop} {D : va_G} {md : Nat → Nat} {mc : Nat → ClassId} {Q : State → Prop} (hC : MCx "JoinedTreesModel" prog_14_method_61_code 7 (some .int) p s m args meth c A D mc) {S : MS} {o : MS × Int32} (Heq : m_rlook_J18 S = some o) (Kr : ∀ r : MS × Int32, o = r → ∀ (pc : Nat) (H : Heap) (locs : List Loc) (ls : Array Slot), decode prog_14_method_61_code pc = .ok (.ireturn, 1) → va_P D cls (mw md mc r.1) H → va_D A (mw md mc r.1) → va_S A s.heap H locs → W p l e ({ frames := 1, cells := 0, slots := 0, locals := 23 }) s m args below meth c H locs 0 0 Q (F0 m pc ls [.int r.2])) : ∀ (H : Heap) (locs : List Loc) (ls : Array Slot), va_P D cls (mw md mc S) H → va_D A (mw md mc S) → va_S A s.heap H locs → lv_has ls 7 [(0, .ref (md 100))] → W p l e ({ frames := 1, cells := 0, slots := 0, locals := 23 }) s m args below meth c H locs 0 0 Q (F0 m 18 ls []) := by
  intro H locs ls hP hD hS hl
  obtain ⟨hx, hb, hr, hml, hown, hts, hK, hA⟩ := id hC
  unfold m_rlook_J18 at Heq
  refine lv_aload_n hx hb d_rlook_18 rfl (lv_at hl 0 rfl) ?_
  refine lv_iconst (v := 1) hx hb d_rlook_19 (by decide) ?_
  obtain ⟨o_1, h_2, Heq⟩ := ob_some Heq
  have hFc := fr_all hD hS hA
  refine va_calli (va_runV (As := [.int 1]) (rest := []) ⟨hx, hb, hml, hown, hts⟩ (g_rno l D H.size h_2) (cw_v 1 hts kw_1626 kw_1623 kw_1625 kp_29 kw_11 rfl rfl (by decide +kernel) ⟨Nat.le_of_ble_eq_true rfl, Nat.le_of_ble_eq_true rfl⟩) ⟨g_blind, va_recv hK hP (ci := 12) (q0 := 0) rfl rfl, fun U hU hW => g_pre hU hW hP hK hD⟩ rfl rfl hl.1 rfl (lv_room (Nat.le_of_ble_eq_true rfl)) d_rlook_20 ⟨Nat.le_of_ble_eq_true rfl, Nat.le_of_ble_eq_true rfl⟩) hS (fun q _ h => hFc q h) hFc (fun rz u t H1 locs ht hvm hw hB hz1 hk1 hS => ?_)
  obtain ⟨hP, -, hD1⟩ := hB
  rw [ht] at hP
  have hD := hD1.weaken (fun _ q _ h => hFc q.1 h)
  generalize H1 = H at hP hS ⊢
  refine W.cs (cells' := 0) (slots' := 0) rfl rfl ?_
  subst hw
  exact Kr _ (Option.some.inj Heq).symm 23 _ _ _ d_rlook_23 hP hD hS
def m_rlook_J198 (S : MS) (x1 : Int32) : Option (MS × Int32) := ob (m_rview S x1) (fun o_1 => some (o_1.1, o_1.2))
theorem d_rlook_7 : decode prog_14_method_61_code 7 = .ok (.iload_n 2, 1) := by decide +kernel
theorem d_rlook_8 : decode prog_14_method_61_code 8 = .ok (.iconst (-1), 1) := by decide +kernel
theorem d_rlook_9 : decode prog_14_method_61_code 9 = .ok (.if_icmp .lt 9, 3) := by decide +kernel
theorem d_rlook_12 : decode prog_14_method_61_code 12 = .ok (.iload_n 2, 1) := by decide +kernel
theorem d_rlook_13 : decode prog_14_method_61_code 13 = .ok (.bipush 7, 2) := by decide +kernel
theorem d_rlook_15 : decode prog_14_method_61_code 15 = .ok (.if_icmp .le 9, 3) := by decide +kernel
theorem d_rlook_24 : decode prog_14_method_61_code 24 = .ok (.iload_n 2, 1) := by decide +kernel
theorem d_rlook_25 : decode prog_14_method_61_code 25 = .ok (.ifCond .ge 7, 3) := by decide +kernel
theorem d_rlook_32 : decode prog_14_method_61_code 32 = .ok (.aload_n 0, 1) := by decide +kernel
theorem d_rlook_33 : decode prog_14_method_61_code 33 = .ok (.iload_n 2, 1) := by decide +kernel
theorem d_rlook_34 : decode prog_14_method_61_code 34 = .ok (.iload_n 3, 1) := by decide +kernel
theorem d_rlook_35 : decode prog_14_method_61_code 35 = .ok (.invokevirtual 399, 3) := by decide +kernel
theorem d_rlook_38 : decode prog_14_method_61_code 38 = .ok (.istore 4, 2) := by decide +kernel
theorem d_rlook_40 : decode prog_14_method_61_code 40 = .ok (.iload_n 2, 1) := by decide +kernel
theorem d_rlook_41 : decode prog_14_method_61_code 41 = .ok (.ifCond .lt 26, 3) := by decide +kernel
theorem d_rlook_67 : decode prog_14_method_61_code 67 = .ok (.aload_n 0, 1) := by decide +kernel
theorem d_rlook_68 : decode prog_14_method_61_code 68 = .ok (.iconst 0, 1) := by decide +kernel
theorem d_rlook_69 : decode prog_14_method_61_code 69 = .ok (.putfield 176, 3) := by decide +kernel
theorem d_rlook_72 : decode prog_14_method_61_code 72 = .ok (.aload_n 0, 1) := by decide +kernel
theorem d_rlook_73 : decode prog_14_method_61_code 73 = .ok (.getfield 104, 3) := by decide +kernel
theorem d_rlook_76 : decode prog_14_method_61_code 76 = .ok (.iload_n 1, 1) := by decide +kernel
theorem d_rlook_77 : decode prog_14_method_61_code 77 = .ok (.iload 4, 2) := by decide +kernel
theorem d_rlook_79 : decode prog_14_method_61_code 79 = .ok (.iastore, 1) := by decide +kernel
theorem d_rlook_80 : decode prog_14_method_61_code 80 = .ok (.iload 4, 2) := by decide +kernel
theorem d_rlook_82 : decode prog_14_method_61_code 82 = .ok (.ifCond .lt 116, 3) := by decide +kernel
theorem d_rlook_198 : decode prog_14_method_61_code 198 = .ok (.aload_n 0, 1) := by decide +kernel
theorem d_rlook_199 : decode prog_14_method_61_code 199 = .ok (.iload_n 1, 1) := by decide +kernel
theorem d_rlook_200 : decode prog_14_method_61_code 200 = .ok (.invokevirtual 408, 3) := by decide +kernel
theorem d_rlook_203 : decode prog_14_method_61_code 203 = .ok (.ireturn, 1) := by decide +kernel
set_option maxHeartbeats 4000000 in
set_option maxRecDepth 100000 in
theorem w_rlook_J198 {p : Program} {l : Launch} {e : Env} {s : State} {m : MethodId} {args : Array Value} {below : List Frame} {meth : Method} {c : Code} {A : Nat → Prop} {D : va_G} {md : Nat → Nat} {mc : Nat → ClassId} {Q : State → Prop} (hC : MCx "JoinedTreesModel" prog_14_method_61_code 7 (some .int) p s m args meth c A D mc) {S : MS} {x1 : Int32} {o : MS × Int32} (Heq : m_rlook_J198 S x1 = some o) (Kr : ∀ r : MS × Int32, o = r → ∀ (pc : Nat) (H : Heap) (locs : List Loc) (ls : Array Slot), decode prog_14_method_61_code pc = .ok (.ireturn, 1) → va_P D cls (mw md mc r.1) H → va_D A (mw md mc r.1) → va_S A s.heap H locs → W p l e ({ frames := 1, cells := 0, slots := 0, locals := 23 }) s m args below meth c H locs 0 0 Q (F0 m pc ls [.int r.2])) : ∀ (H : Heap) (locs : List Loc) (ls : Array Slot), va_P D cls (mw md mc S) H → va_D A (mw md mc S) → va_S A s.heap H locs → lv_has ls 7 [(0, .ref (md 100)), (1, .int x1)] → W p l e ({ frames := 1, cells := 0, slots := 0, locals := 23 }) s m args below meth c H locs 0 0 Q (F0 m 198 ls []) := by
  intro H locs ls hP hD hS hl
  obtain ⟨hx, hb, hr, hml, hown, hts, hK, hA⟩ := id hC
  unfold m_rlook_J198 at Heq
  refine lv_aload_n hx hb d_rlook_198 rfl (lv_at hl 0 rfl) ?_
  refine lv_iload_n hx hb d_rlook_199 rfl (lv_at hl 1 rfl) ?_
  obtain ⟨o_1, h_2, Heq⟩ := ob_some Heq
  have hFc := fr_all hD hS hA
  refine va_calli (va_runV (As := [.int x1]) (rest := []) ⟨hx, hb, hml, hown, hts⟩ (g_rview l D H.size h_2) (cw_v 1 hts kw_1855 kw_1852 kw_1854 kp_69 kw_11 rfl rfl (by decide +kernel) ⟨Nat.le_of_ble_eq_true rfl, Nat.le_of_ble_eq_true rfl⟩) ⟨g_blind, va_recv hK hP (ci := 12) (q0 := 0) rfl rfl, fun U hU hW => g_pre hU hW hP hK hD⟩ rfl rfl hl.1 rfl (lv_room (Nat.le_of_ble_eq_true rfl)) d_rlook_200 ⟨Nat.le_of_ble_eq_true rfl, Nat.le_of_ble_eq_true rfl⟩) hS (fun q _ h => hFc q h) hFc (fun rz u t H1 locs ht hvm hw hB hz1 hk1 hS => ?_)
  obtain ⟨hP, -, hD1⟩ := hB
  rw [ht] at hP
  have hD := hD1.weaken (fun _ q _ h => hFc q.1 h)
  generalize H1 = H at hP hS ⊢
  refine W.cs (cells' := 0) (slots' := 0) rfl rfl ?_
  subst hw
  exact Kr _ (Option.some.inj Heq).symm 203 _ _ _ d_rlook_203 hP hD hS
def m_rlook_J117 (S : MS) (x1 : Int32) (x4 : Int32) (x5 : Int32) (t0 : Int32) (t1 : Int32) (t2 : Nat) : Option ((MS × Int32 × Int32 × Int32) ⊕ (MS × Int32 × Int32)) := gR t2 (gd t1 1000 (some (.inl ((S.setA (117 + t2) (upd (S.a (117 + t2)) t1.toNatClampNeg (vp_nar .boolean t0))), x1, x4, (x5 + 1)))))
theorem d_rlook_85 : decode prog_14_method_61_code 85 = .ok (.iconst 0, 1) := by decide +kernel
theorem d_rlook_86 : decode prog_14_method_61_code 86 = .ok (.istore 5, 2) := by decide +kernel
theorem d_rlook_88 : decode prog_14_method_61_code 88 = .ok (.iload 5, 2) := by decide +kernel
theorem d_rlook_90 : decode prog_14_method_61_code 90 = .ok (.aload_n 0, 1) := by decide +kernel
theorem d_rlook_91 : decode prog_14_method_61_code 91 = .ok (.getfield 384, 3) := by decide +kernel
theorem d_rlook_94 : decode prog_14_method_61_code 94 = .ok (.if_icmp .ge 30, 3) := by decide +kernel
theorem d_rlook_97 : decode prog_14_method_61_code 97 = .ok (.aload_n 0, 1) := by decide +kernel
theorem d_rlook_98 : decode prog_14_method_61_code 98 = .ok (.getfield 101, 3) := by decide +kernel
theorem d_rlook_101 : decode prog_14_method_61_code 101 = .ok (.iload_n 1, 1) := by decide +kernel
theorem d_rlook_102 : decode prog_14_method_61_code 102 = .ok (.aaload, 1) := by decide +kernel
theorem d_rlook_103 : decode prog_14_method_61_code 103 = .ok (.iload 5, 2) := by decide +kernel
theorem d_rlook_105 : decode prog_14_method_61_code 105 = .ok (.iload 5, 2) := by decide +kernel
theorem d_rlook_107 : decode prog_14_method_61_code 107 = .ok (.iload 4, 2) := by decide +kernel
theorem d_rlook_109 : decode prog_14_method_61_code 109 = .ok (.if_icmp .ne 7, 3) := by decide +kernel
theorem d_rlook_116 : decode prog_14_method_61_code 116 = .ok (.iconst 0, 1) := by decide +kernel
theorem d_rlook_117 : decode prog_14_method_61_code 117 = .ok (.bastore, 1) := by decide +kernel
theorem d_rlook_118 : decode prog_14_method_61_code 118 = .ok (.iinc 5 1, 3) := by decide +kernel
theorem d_rlook_121 : decode prog_14_method_61_code 121 = .ok (.goto (-33), 3) := by decide +kernel
set_option maxHeartbeats 4000000 in
set_option maxRecDepth 100000 in
theorem w_rlook_J117 {p : Program} {l : Launch} {e : Env} {s : State} {m : MethodId} {args : Array Value} {below : List Frame} {meth : Method} {c : Code} {A : Nat → Prop} {D : va_G} {md : Nat → Nat} {mc : Nat → ClassId} {Q : State → Prop} (hC : MCx "JoinedTreesModel" prog_14_method_61_code 7 (some .int) p s m args meth c A D mc) {S : MS} {x1 : Int32} {x4 : Int32} {x5 : Int32} {t0 : Int32} {t1 : Int32} {t2 : Nat} {o : ((MS × Int32 × Int32 × Int32) ⊕ (MS × Int32 × Int32))} (Heq : m_rlook_J117 S x1 x4 x5 t0 t1 t2 = some o) (Ka : ∀ b : MS × Int32 × Int32 × Int32, o = .inl b → ∀ (H : Heap) (locs : List Loc) (ls : Array Slot), va_P D cls (mw md mc b.1) H → va_D A (mw md mc b.1) → va_S A s.heap H locs → lv_has ls 7 [(0, .ref (md 100)), (1, .int b.2.1), (4, .int b.2.2.1), (5, .int b.2.2.2)] → W p l e ({ frames := 1, cells := 0, slots := 0, locals := 23 }) s m args below meth c H locs 0 0 Q (F0 m 88 ls [])) (K0 : ∀ b : MS × Int32 × Int32, o = .inr b → ∀ (H : Heap) (locs : List Loc) (ls : Array Slot), va_P D cls (mw md mc b.1) H → va_D A (mw md mc b.1) → va_S A s.heap H locs → lv_has ls 7 [(0, .ref (md 100)), (1, .int b.2.1), (4, .int b.2.2)] → W p l e ({ frames := 1, cells := 0, slots := 0, locals := 23 }) s m args below meth c H locs 0 0 Q (F0 m 124 ls [])) : ∀ (H : Heap) (locs : List Loc) (ls : Array Slot), va_P D cls (mw md mc S) H → va_D A (mw md mc S) → va_S A s.heap H locs → lv_has ls 7 [(0, .ref (md 100)), (1, .int x1), (4, .int x4), (5, .int x5)] → W p l e ({ frames := 1, cells := 0, slots := 0, locals := 23 }) s m args below meth c H locs 0 0 Q (F0 m 117 ls [.int t0, .int t1, .ref (md (117 + t2))]) := by
  intro H locs ls hP hD hS hl
  obtain ⟨hx, hb, hr, hml, hown, hts, hK, hA⟩ := id hC
  unfold m_rlook_J117 at Heq
  obtain ⟨hR_t2, Heq⟩ := gR_some Heq
  obtain ⟨hi_1, Heq⟩ := gd_some Heq
  refine va_zast hx hb hK hP hD hS (67 + t2) 2 (mp_R117 hR_t2) rfl (i := t1) (x := t0) hi_1 d_rlook_117 (fun H locs hP hD hS => ?_)
  rw [(mw_R117 hR_t2)] at hP hD
  refine lv_iinc (v := x5 + 1) (lv' := [(5, .int (x5 + 1)), (0, .ref (md 100)), (1, .int x1), (4, .int x4)]) hx hb d_rlook_118 hl (k := 3) rfl rfl (by decide) rfl (fun ls hl => ?_)
  refine lv_goto (tgt := 88) hx hb d_rlook_121 (by decide) ?_
  exact Ka _ (Option.some.inj Heq).symm _ _ _ hP hD hS (lv_sub hl [1, 2, 3, 0] rfl)
def m_rlook_B88 (S : MS) (x1 : Int32) (x4 : Int32) (x5 : Int32) : Option ((MS × Int32 × Int32 × Int32) ⊕ (MS × Int32 × Int32)) := (if S.i 34 ≤ x5 then some (.inr (S, x1, x4)) else gd x1 8 ((if x5 = x4 then m_rlook_J117 S x1 x4 x5 1 x5 x1.toNatClampNeg else m_rlook_J117 S x1 x4 x5 0 x5 x1.toNatClampNeg)))
theorem d_rlook_112 : decode prog_14_method_61_code 112 = .ok (.iconst 1, 1) := by decide +kernel
theorem d_rlook_113 : decode prog_14_method_61_code 113 = .ok (.goto 4, 3) := by decide +kernel
set_option maxHeartbeats 4000000 in
set_option maxRecDepth 100000 in
theorem w_rlook_B88 {p : Program} {l : Launch} {e : Env} {s : State} {m : MethodId} {args : Array Value} {below : List Frame} {meth : Method} {c : Code} {A : Nat → Prop} {D : va_G} {md : Nat → Nat} {mc : Nat → ClassId} {Q : State → Prop} (hC : MCx "JoinedTreesModel" prog_14_method_61_code 7 (some .int) p s m args meth c A D mc) {S : MS} {x1 : Int32} {x4 : Int32} {x5 : Int32} {o : ((MS × Int32 × Int32 × Int32) ⊕ (MS × Int32 × Int32))} (Heq : m_rlook_B88 S x1 x4 x5 = some o) (Ka : ∀ b : MS × Int32 × Int32 × Int32, o = .inl b → ∀ (H : Heap) (locs : List Loc) (ls : Array Slot), va_P D cls (mw md mc b.1) H → va_D A (mw md mc b.1) → va_S A s.heap H locs → lv_has ls 7 [(0, .ref (md 100)), (1, .int b.2.1), (4, .int b.2.2.1), (5, .int b.2.2.2)] → W p l e ({ frames := 1, cells := 0, slots := 0, locals := 23 }) s m args below meth c H locs 0 0 Q (F0 m 88 ls [])) (K0 : ∀ b : MS × Int32 × Int32, o = .inr b → ∀ (H : Heap) (locs : List Loc) (ls : Array Slot), va_P D cls (mw md mc b.1) H → va_D A (mw md mc b.1) → va_S A s.heap H locs → lv_has ls 7 [(0, .ref (md 100)), (1, .int b.2.1), (4, .int b.2.2)] → W p l e ({ frames := 1, cells := 0, slots := 0, locals := 23 }) s m args below meth c H locs 0 0 Q (F0 m 124 ls [])) : ∀ (H : Heap) (locs : List Loc) (ls : Array Slot), va_P D cls (mw md mc S) H → va_D A (mw md mc S) → va_S A s.heap H locs → lv_has ls 7 [(0, .ref (md 100)), (1, .int x1), (4, .int x4), (5, .int x5)] → W p l e ({ frames := 1, cells := 0, slots := 0, locals := 23 }) s m args below meth c H locs 0 0 Q (F0 m 88 ls []) := by
  intro H locs ls hP hD hS hl
  obtain ⟨hx, hb, hr, hml, hown, hts, hK, hA⟩ := id hC
  unfold m_rlook_B88 at Heq
  refine lv_iload hx hb d_rlook_88 (lv_at hl 3 rfl) ?_
  refine lv_aload_n hx hb d_rlook_90 rfl (lv_at hl 0 rfl) ?_
  refine va_get (D := D) (ci := 12) (v := .int (S.i 34)) (C := R_MM) (T := F_MM) (N := 77) hx hb hts i_MM hown hK hP 0 rfl rfl 34 (by decide) (hts _ kw_1416) (fun _ h9 => h9) rfl d_rlook_91 ?_
  refine lv_icmp_ge (tgt := 124) hx hb d_rlook_94 (by decide) (fun c_1 => ?_) (fun c_1 => ?_)
  · replace Heq := (if_pos c_1).symm.trans Heq
    exact K0 _ (Option.some.inj Heq).symm _ _ _ hP hD hS (lv_sub hl [0, 1, 2] rfl)
  · replace Heq := (if_neg c_1).symm.trans Heq
    refine lv_aload_n hx hb d_rlook_97 rfl (lv_at hl 0 rfl) ?_
    refine va_get (D := D) (ci := 12) (v := .ref (md 38)) (C := R_MM) (T := F_MM) (N := 77) hx hb hts i_MM hown hK hP 0 rfl rfl 38 (by decide) (hts _ kw_1420) (fun _ h9 => h9) rfl d_rlook_98 ?_
    refine lv_iload_n hx hb d_rlook_101 rfl (lv_at hl 1 rfl) ?_
    obtain ⟨hi_2, Heq⟩ := gd_some Heq
    refine tx_ald2 hx hb hK hP 50 4 rfl rfl (i := x1) hi_2 d_rlook_102 ?_
    refine w_v (y := .ref (md (117 + x1.toNatClampNeg))) rfl ?_
    refine lv_iload hx hb d_rlook_103 (lv_at hl 3 rfl) ?_
    refine lv_iload hx hb d_rlook_105 (lv_at hl 3 rfl) ?_
    refine lv_iload hx hb d_rlook_107 (lv_at hl 2 rfl) ?_
    refine lv_icmp_ne (tgt := 116) hx hb d_rlook_109 (by decide) (fun c_3 => ?_) (fun c_3 => ?_)
    · replace Heq := (if_neg c_3).symm.trans Heq
      refine lv_iconst (v := 0) hx hb d_rlook_116 (by decide) ?_
      exact w_rlook_J117 hC Heq Ka K0 _ _ _ hP hD hS (lv_sub hl [0, 1, 2, 3] rfl)
    · replace Heq := (if_pos c_3).symm.trans Heq
      refine lv_iconst (v := 1) hx hb d_rlook_112 (by decide) ?_
      refine lv_goto (tgt := 117) hx hb d_rlook_113 (by decide) ?_
      exact w_rlook_J117 hC Heq Ka K0 _ _ _ hP hD hS (lv_sub hl [0, 1, 2, 3] rfl)
def m_rlook_L88 (S : MS) (x1 : Int32) (x4 : Int32) (x5 : Int32) : Option (MS × Int32 × Int32) := lp (fun a : MS × Int32 × Int32 × Int32 => m_rlook_B88 a.1 a.2.1 a.2.2.1 a.2.2.2) FU (S, x1, x4, x5)
theorem w_rlook_L88 {p : Program} {l : Launch} {e : Env} {s : State} {m : MethodId} {args : Array Value} {below : List Frame} {meth : Method} {c : Code} {A : Nat → Prop} {D : va_G} {md : Nat → Nat} {mc : Nat → ClassId} {Q : State → Prop} (hC : MCx "JoinedTreesModel" prog_14_method_61_code 7 (some .int) p s m args meth c A D mc) {S : MS} {x1 : Int32} {x4 : Int32} {x5 : Int32} {o : MS × Int32 × Int32} (Heq : m_rlook_L88 S x1 x4 x5 = some o) (K0 : ∀ b : MS × Int32 × Int32, o = b → ∀ (H : Heap) (locs : List Loc) (ls : Array Slot), va_P D cls (mw md mc b.1) H → va_D A (mw md mc b.1) → va_S A s.heap H locs → lv_has ls 7 [(0, .ref (md 100)), (1, .int b.2.1), (4, .int b.2.2)] → W p l e ({ frames := 1, cells := 0, slots := 0, locals := 23 }) s m args below meth c H locs 0 0 Q (F0 m 124 ls [])) : ∀ (H : Heap) (locs : List Loc) (ls : Array Slot), va_P D cls (mw md mc S) H → va_D A (mw md mc S) → va_S A s.heap H locs → lv_has ls 7 [(0, .ref (md 100)), (1, .int x1), (4, .int x4), (5, .int x5)] → W p l e ({ frames := 1, cells := 0, slots := 0, locals := 23 }) s m args below meth c H locs 0 0 Q (F0 m 88 ls []) := by
  refine lp_w (G := fun a : MS × Int32 × Int32 × Int32 => ∀ (H : Heap) (locs : List Loc) (ls : Array Slot), va_P D cls (mw md mc a.1) H → va_D A (mw md mc a.1) → va_S A s.heap H locs → lv_has ls 7 [(0, .ref (md 100)), (1, .int a.2.1), (4, .int a.2.2.1), (5, .int a.2.2.2)] → W p l e ({ frames := 1, cells := 0, slots := 0, locals := 23 }) s m args below meth c H locs 0 0 Q (F0 m 88 ls [])) ?_ FU (S, x1, x4, x5) Heq
  intro a o1 ho Ka Ke
  exact w_rlook_B88 hC ho (fun b h => Ka b h) (fun b h => K0 b (Ke _ h).symm)
def m_rlook_B151 (S : MS) (x1 : Int32) (x5 : Int32) (x6 : Int32) : Option ((MS × Int32 × Int32 × Int32) ⊕ (MS × Int32 × Int32)) := gd x5 1000 ((if S.a 32 x5.toNatClampNeg ≤ x6 then some (.inr (S, x1, x5)) else gd x1 8 (gd x5 1000 (gd ((S.a 31 x5.toNatClampNeg) + x6) 10000 (gd (S.a 33 (((S.a 31 x5.toNatClampNeg) + x6).toNatClampNeg)) 1000 (some (.inl ((S.setA (117 + x1.toNatClampNeg) (upd (S.a (117 + x1.toNatClampNeg)) ((S.a 33 (((S.a 31 x5.toNatClampNeg) + x6).toNatClampNeg)).toNatClampNeg) (vp_nar .boolean 1))), x1, x5, (x6 + 1)))))))))
theorem d_rlook_124 : decode prog_14_method_61_code 124 = .ok (.iload 4, 2) := by decide +kernel
theorem d_rlook_126 : decode prog_14_method_61_code 126 = .ok (.istore 5, 2) := by decide +kernel
theorem d_rlook_128 : decode prog_14_method_61_code 128 = .ok (.iload 5, 2) := by decide +kernel
theorem d_rlook_130 : decode prog_14_method_61_code 130 = .ok (.ifCond .lt 68, 3) := by decide +kernel
theorem d_rlook_133 : decode prog_14_method_61_code 133 = .ok (.aload_n 0, 1) := by decide +kernel
theorem d_rlook_134 : decode prog_14_method_61_code 134 = .ok (.getfield 101, 3) := by decide +kernel
theorem d_rlook_137 : decode prog_14_method_61_code 137 = .ok (.iload_n 1, 1) := by decide +kernel
theorem d_rlook_138 : decode prog_14_method_61_code 138 = .ok (.aaload, 1) := by decide +kernel
theorem d_rlook_139 : decode prog_14_method_61_code 139 = .ok (.iload 5, 2) := by decide +kernel
theorem d_rlook_141 : decode prog_14_method_61_code 141 = .ok (.baload, 1) := by decide +kernel
theorem d_rlook_142 : decode prog_14_method_61_code 142 = .ok (.ifCond .ne 6, 3) := by decide +kernel
theorem d_rlook_148 : decode prog_14_method_61_code 148 = .ok (.iconst 0, 1) := by decide +kernel
theorem d_rlook_149 : decode prog_14_method_61_code 149 = .ok (.istore 6, 2) := by decide +kernel
theorem d_rlook_151 : decode prog_14_method_61_code 151 = .ok (.iload 6, 2) := by decide +kernel
theorem d_rlook_153 : decode prog_14_method_61_code 153 = .ok (.aload_n 0, 1) := by decide +kernel
theorem d_rlook_154 : decode prog_14_method_61_code 154 = .ok (.getfield 87, 3) := by decide +kernel
theorem d_rlook_157 : decode prog_14_method_61_code 157 = .ok (.iload 5, 2) := by decide +kernel
theorem d_rlook_159 : decode prog_14_method_61_code 159 = .ok (.iaload, 1) := by decide +kernel
theorem d_rlook_160 : decode prog_14_method_61_code 160 = .ok (.if_icmp .ge 32, 3) := by decide +kernel
theorem d_rlook_163 : decode prog_14_method_61_code 163 = .ok (.aload_n 0, 1) := by decide +kernel
theorem d_rlook_164 : decode prog_14_method_61_code 164 = .ok (.getfield 101, 3) := by decide +kernel
theorem d_rlook_167 : decode prog_14_method_61_code 167 = .ok (.iload_n 1, 1) := by decide +kernel
theorem d_rlook_168 : decode prog_14_method_61_code 168 = .ok (.aaload, 1) := by decide +kernel
theorem d_rlook_169 : decode prog_14_method_61_code 169 = .ok (.aload_n 0, 1) := by decide +kernel
theorem d_rlook_170 : decode prog_14_method_61_code 170 = .ok (.getfield 90, 3) := by decide +kernel
theorem d_rlook_173 : decode prog_14_method_61_code 173 = .ok (.aload_n 0, 1) := by decide +kernel
theorem d_rlook_174 : decode prog_14_method_61_code 174 = .ok (.getfield 84, 3) := by decide +kernel
theorem d_rlook_177 : decode prog_14_method_61_code 177 = .ok (.iload 5, 2) := by decide +kernel
theorem d_rlook_179 : decode prog_14_method_61_code 179 = .ok (.iaload, 1) := by decide +kernel
theorem d_rlook_180 : decode prog_14_method_61_code 180 = .ok (.iload 6, 2) := by decide +kernel
theorem d_rlook_182 : decode prog_14_method_61_code 182 = .ok (.iadd, 1) := by decide +kernel
theorem d_rlook_183 : decode prog_14_method_61_code 183 = .ok (.iaload, 1) := by decide +kernel
theorem d_rlook_184 : decode prog_14_method_61_code 184 = .ok (.iconst 1, 1) := by decide +kernel
theorem d_rlook_185 : decode prog_14_method_61_code 185 = .ok (.bastore, 1) := by decide +kernel
theorem d_rlook_186 : decode prog_14_method_61_code 186 = .ok (.iinc 6 1, 3) := by decide +kernel
theorem d_rlook_189 : decode prog_14_method_61_code 189 = .ok (.goto (-38), 3) := by decide +kernel
set_option maxHeartbeats 4000000 in
set_option maxRecDepth 100000 in
theorem w_rlook_B151 {p : Program} {l : Launch} {e : Env} {s : State} {m : MethodId} {args : Array Value} {below : List Frame} {meth : Method} {c : Code} {A : Nat → Prop} {D : va_G} {md : Nat → Nat} {mc : Nat → ClassId} {Q : State → Prop} (hC : MCx "JoinedTreesModel" prog_14_method_61_code 7 (some .int) p s m args meth c A D mc) {S : MS} {x1 : Int32} {x5 : Int32} {x6 : Int32} {o : ((MS × Int32 × Int32 × Int32) ⊕ (MS × Int32 × Int32))} (Heq : m_rlook_B151 S x1 x5 x6 = some o) (Ka : ∀ b : MS × Int32 × Int32 × Int32, o = .inl b → ∀ (H : Heap) (locs : List Loc) (ls : Array Slot), va_P D cls (mw md mc b.1) H → va_D A (mw md mc b.1) → va_S A s.heap H locs → lv_has ls 7 [(0, .ref (md 100)), (1, .int b.2.1), (5, .int b.2.2.1), (6, .int b.2.2.2)] → W p l e ({ frames := 1, cells := 0, slots := 0, locals := 23 }) s m args below meth c H locs 0 0 Q (F0 m 151 ls [])) (K0 : ∀ b : MS × Int32 × Int32, o = .inr b → ∀ (H : Heap) (locs : List Loc) (ls : Array Slot), va_P D cls (mw md mc b.1) H → va_D A (mw md mc b.1) → va_S A s.heap H locs → lv_has ls 7 [(0, .ref (md 100)), (1, .int b.2.1), (5, .int b.2.2)] → W p l e ({ frames := 1, cells := 0, slots := 0, locals := 23 }) s m args below meth c H locs 0 0 Q (F0 m 192 ls [])) : ∀ (H : Heap) (locs : List Loc) (ls : Array Slot), va_P D cls (mw md mc S) H → va_D A (mw md mc S) → va_S A s.heap H locs → lv_has ls 7 [(0, .ref (md 100)), (1, .int x1), (5, .int x5), (6, .int x6)] → W p l e ({ frames := 1, cells := 0, slots := 0, locals := 23 }) s m args below meth c H locs 0 0 Q (F0 m 151 ls []) := by
  intro H locs ls hP hD hS hl
  obtain ⟨hx, hb, hr, hml, hown, hts, hK, hA⟩ := id hC
  unfold m_rlook_B151 at Heq
  refine lv_iload hx hb d_rlook_151 (lv_at hl 3 rfl) ?_
  refine lv_aload_n hx hb d_rlook_153 rfl (lv_at hl 0 rfl) ?_
  refine va_get (D := D) (ci := 12) (v := .ref (md 32)) (C := R_MM) (T := F_MM) (N := 77) hx hb hts i_MM hown hK hP 0 rfl rfl 32 (by decide) (hts _ kw_1414) (fun _ h9 => h9) rfl d_rlook_154 ?_
  refine lv_iload hx hb d_rlook_157 (lv_at hl 2 rfl) ?_
  obtain ⟨hi_1, Heq⟩ := gd_some Heq
  refine va_iald hx hb hK hP 25 0 rfl rfl (i := x5) hi_1 d_rlook_159 ?_
  refine w_i (y := S.a 32 x5.toNatClampNeg) rfl ?_
  refine lv_icmp_ge (tgt := 192) hx hb d_rlook_160 (by decide) (fun c_2 => ?_) (fun c_2 => ?_)
  · replace Heq := (if_pos c_2).symm.trans Heq
    exact K0 _ (Option.some.inj Heq).symm _ _ _ hP hD hS (lv_sub hl [0, 1, 2] rfl)
  · replace Heq := (if_neg c_2).symm.trans Heq
    refine lv_aload_n hx hb d_rlook_163 rfl (lv_at hl 0 rfl) ?_
    refine va_get (D := D) (ci := 12) (v := .ref (md 38)) (C := R_MM) (T := F_MM) (N := 77) hx hb hts i_MM hown hK hP 0 rfl rfl 38 (by decide) (hts _ kw_1420) (fun _ h9 => h9) rfl d_rlook_164 ?_
    refine lv_iload_n hx hb d_rlook_167 rfl (lv_at hl 1 rfl) ?_
    obtain ⟨hi_3, Heq⟩ := gd_some Heq
    refine tx_ald2 hx hb hK hP 50 4 rfl rfl (i := x1) hi_3 d_rlook_168 ?_
    refine w_v (y := .ref (md (117 + x1.toNatClampNeg))) rfl ?_
    refine lv_aload_n hx hb d_rlook_169 rfl (lv_at hl 0 rfl) ?_
    refine va_get (D := D) (ci := 12) (v := .ref (md 33)) (C := R_MM) (T := F_MM) (N := 77) hx hb hts i_MM hown hK hP 0 rfl rfl 33 (by decide) (hts _ kw_1415) (fun _ h9 => h9) rfl d_rlook_170 ?_
    refine lv_aload_n hx hb d_rlook_173 rfl (lv_at hl 0 rfl) ?_
    refine va_get (D := D) (ci := 12) (v := .ref (md 31)) (C := R_MM) (T := F_MM) (N := 77) hx hb hts i_MM hown hK hP 0 rfl rfl 31 (by decide) (hts _ kw_1413) (fun _ h9 => h9) rfl d_rlook_174 ?_
    refine lv_iload hx hb d_rlook_177 (lv_at hl 2 rfl) ?_
    obtain ⟨hi_4, Heq⟩ := gd_some Heq
    refine va_iald hx hb hK hP 24 0 rfl rfl (i := x5) hi_4 d_rlook_179 ?_
    refine w_i (y := S.a 31 x5.toNatClampNeg) rfl ?_
    refine lv_iload hx hb d_rlook_180 (lv_at hl 3 rfl) ?_
    refine lv_iadd hx hb d_rlook_182 ?_
    refine w_i (y := (S.a 31 x5.toNatClampNeg) + x6) rfl ?_
    obtain ⟨hi_5, Heq⟩ := gd_some Heq
    refine va_iald hx hb hK hP 26 0 rfl rfl (i := (S.a 31 x5.toNatClampNeg) + x6) hi_5 d_rlook_183 ?_
    refine w_i (y := S.a 33 (((S.a 31 x5.toNatClampNeg) + x6).toNatClampNeg)) rfl ?_
    refine lv_iconst (v := 1) hx hb d_rlook_184 (by decide) ?_
    obtain ⟨hi_6, Heq⟩ := gd_some Heq
    refine va_zast hx hb hK hP hD hS (67 + x1.toNatClampNeg) 2 (mp_R117 (vp_in.lt hi_3)) rfl (i := S.a 33 (((S.a 31 x5.toNatClampNeg) + x6).toNatClampNeg)) (x := 1) hi_6 d_rlook_185 (fun H locs hP hD hS => ?_)
    rw [(mw_R117 (vp_in.lt hi_3))] at hP hD
    refine lv_iinc (v := x6 + 1) (lv' := [(6, .int (x6 + 1)), (0, .ref (md 100)), (1, .int x1), (5, .int x5)]) hx hb d_rlook_186 hl (k := 3) rfl rfl (by decide) rfl (fun ls hl => ?_)
    refine lv_goto (tgt := 151) hx hb d_rlook_189 (by decide) ?_
    exact Ka _ (Option.some.inj Heq).symm _ _ _ hP hD hS (lv_sub hl [1, 2, 3, 0] rfl)
def m_rlook_L151 (S : MS) (x1 : Int32) (x5 : Int32) (x6 : Int32) : Option (MS × Int32 × Int32) := lp (fun a : MS × Int32 × Int32 × Int32 => m_rlook_B151 a.1 a.2.1 a.2.2.1 a.2.2.2) FU (S, x1, x5, x6)
theorem w_rlook_L151 {p : Program} {l : Launch} {e : Env} {s : State} {m : MethodId} {args : Array Value} {below : List Frame} {meth : Method} {c : Code} {A : Nat → Prop} {D : va_G} {md : Nat → Nat} {mc : Nat → ClassId} {Q : State → Prop} (hC : MCx "JoinedTreesModel" prog_14_method_61_code 7 (some .int) p s m args meth c A D mc) {S : MS} {x1 : Int32} {x5 : Int32} {x6 : Int32} {o : MS × Int32 × Int32} (Heq : m_rlook_L151 S x1 x5 x6 = some o) (K0 : ∀ b : MS × Int32 × Int32, o = b → ∀ (H : Heap) (locs : List Loc) (ls : Array Slot), va_P D cls (mw md mc b.1) H → va_D A (mw md mc b.1) → va_S A s.heap H locs → lv_has ls 7 [(0, .ref (md 100)), (1, .int b.2.1), (5, .int b.2.2)] → W p l e ({ frames := 1, cells := 0, slots := 0, locals := 23 }) s m args below meth c H locs 0 0 Q (F0 m 192 ls [])) : ∀ (H : Heap) (locs : List Loc) (ls : Array Slot), va_P D cls (mw md mc S) H → va_D A (mw md mc S) → va_S A s.heap H locs → lv_has ls 7 [(0, .ref (md 100)), (1, .int x1), (5, .int x5), (6, .int x6)] → W p l e ({ frames := 1, cells := 0, slots := 0, locals := 23 }) s m args below meth c H locs 0 0 Q (F0 m 151 ls []) := by
  refine lp_w (G := fun a : MS × Int32 × Int32 × Int32 => ∀ (H : Heap) (locs : List Loc) (ls : Array Slot), va_P D cls (mw md mc a.1) H → va_D A (mw md mc a.1) → va_S A s.heap H locs → lv_has ls 7 [(0, .ref (md 100)), (1, .int a.2.1), (5, .int a.2.2.1), (6, .int a.2.2.2)] → W p l e ({ frames := 1, cells := 0, slots := 0, locals := 23 }) s m args below meth c H locs 0 0 Q (F0 m 151 ls [])) ?_ FU (S, x1, x5, x6) Heq
  intro a o1 ho Ka Ke
  exact w_rlook_B151 hC ho (fun b h => Ka b h) (fun b h => K0 b (Ke _ h).symm)
def m_rlook_J192 (S : MS) (x1 : Int32) (x5 : Int32) : Option ((MS × Int32 × Int32) ⊕ (MS × Int32)) := some (.inl (S, x1, (x5 + (-1))))
theorem d_rlook_192 : decode prog_14_method_61_code 192 = .ok (.iinc 5 (-1), 3) := by decide +kernel
theorem d_rlook_195 : decode prog_14_method_61_code 195 = .ok (.goto (-67), 3) := by decide +kernel
set_option maxHeartbeats 4000000 in
set_option maxRecDepth 100000 in
theorem w_rlook_J192 {p : Program} {l : Launch} {e : Env} {s : State} {m : MethodId} {args : Array Value} {below : List Frame} {meth : Method} {c : Code} {A : Nat → Prop} {D : va_G} {md : Nat → Nat} {mc : Nat → ClassId} {Q : State → Prop} (hC : MCx "JoinedTreesModel" prog_14_method_61_code 7 (some .int) p s m args meth c A D mc) {S : MS} {x1 : Int32} {x5 : Int32} {o : ((MS × Int32 × Int32) ⊕ (MS × Int32))} (Heq : m_rlook_J192 S x1 x5 = some o) (Ka : ∀ b : MS × Int32 × Int32, o = .inl b → ∀ (H : Heap) (locs : List Loc) (ls : Array Slot), va_P D cls (mw md mc b.1) H → va_D A (mw md mc b.1) → va_S A s.heap H locs → lv_has ls 7 [(0, .ref (md 100)), (1, .int b.2.1), (5, .int b.2.2)] → W p l e ({ frames := 1, cells := 0, slots := 0, locals := 23 }) s m args below meth c H locs 0 0 Q (F0 m 128 ls [])) (K0 : ∀ b : MS × Int32, o = .inr b → ∀ (H : Heap) (locs : List Loc) (ls : Array Slot), va_P D cls (mw md mc b.1) H → va_D A (mw md mc b.1) → va_S A s.heap H locs → lv_has ls 7 [(0, .ref (md 100)), (1, .int b.2)] → W p l e ({ frames := 1, cells := 0, slots := 0, locals := 23 }) s m args below meth c H locs 0 0 Q (F0 m 198 ls [])) : ∀ (H : Heap) (locs : List Loc) (ls : Array Slot), va_P D cls (mw md mc S) H → va_D A (mw md mc S) → va_S A s.heap H locs → lv_has ls 7 [(0, .ref (md 100)), (1, .int x1), (5, .int x5)] → W p l e ({ frames := 1, cells := 0, slots := 0, locals := 23 }) s m args below meth c H locs 0 0 Q (F0 m 192 ls []) := by
  intro H locs ls hP hD hS hl
  obtain ⟨hx, hb, hr, hml, hown, hts, hK, hA⟩ := id hC
  unfold m_rlook_J192 at Heq
  refine lv_iinc (v := x5 + (-1)) (lv' := [(5, .int (x5 + (-1))), (0, .ref (md 100)), (1, .int x1)]) hx hb d_rlook_192 hl (k := 2) rfl rfl (by decide) rfl (fun ls hl => ?_)
  refine lv_goto (tgt := 128) hx hb d_rlook_195 (by decide) ?_
  exact Ka _ (Option.some.inj Heq).symm _ _ _ hP hD hS (lv_sub hl [1, 2, 0] rfl)
def m_rlook_B128 (S : MS) (x1 : Int32) (x5 : Int32) : Option ((MS × Int32 × Int32) ⊕ (MS × Int32)) := (if x5 < 0 then some (.inr (S, x1)) else gd x1 8 (gd x5 1000 ((if S.a (117 + x1.toNatClampNeg) x5.toNatClampNeg = 0 then m_rlook_J192 S x1 x5 else ob (m_rlook_L151 S x1 x5 0) (fun b_5 => m_rlook_J192 b_5.1 b_5.2.1 b_5.2.2)))))
theorem d_rlook_145 : decode prog_14_method_61_code 145 = .ok (.goto 47, 3) := by decide +kernel
set_option maxHeartbeats 4000000 in
set_option maxRecDepth 100000 in
theorem w_rlook_B128 {p : Program} {l : Launch} {e : Env} {s : State} {m : MethodId} {args : Array Value} {below : List Frame} {meth : Method} {c : Code} {A : Nat → Prop} {D : va_G} {md : Nat → Nat} {mc : Nat → ClassId} {Q : State → Prop} (hC : MCx "JoinedTreesModel" prog_14_method_61_code 7 (some .int) p s m args meth c A D mc) {S : MS} {x1 : Int32} {x5 : Int32} {o : ((MS × Int32 × Int32) ⊕ (MS × Int32))} (Heq : m_rlook_B128 S x1 x5 = some o) (Ka : ∀ b : MS × Int32 × Int32, o = .inl b → ∀ (H : Heap) (locs : List Loc) (ls : Array Slot), va_P D cls (mw md mc b.1) H → va_D A (mw md mc b.1) → va_S A s.heap H locs → lv_has ls 7 [(0, .ref (md 100)), (1, .int b.2.1), (5, .int b.2.2)] → W p l e ({ frames := 1, cells := 0, slots := 0, locals := 23 }) s m args below meth c H locs 0 0 Q (F0 m 128 ls [])) (K0 : ∀ b : MS × Int32, o = .inr b → ∀ (H : Heap) (locs : List Loc) (ls : Array Slot), va_P D cls (mw md mc b.1) H → va_D A (mw md mc b.1) → va_S A s.heap H locs → lv_has ls 7 [(0, .ref (md 100)), (1, .int b.2)] → W p l e ({ frames := 1, cells := 0, slots := 0, locals := 23 }) s m args below meth c H locs 0 0 Q (F0 m 198 ls [])) : ∀ (H : Heap) (locs : List Loc) (ls : Array Slot), va_P D cls (mw md mc S) H → va_D A (mw md mc S) → va_S A s.heap H locs → lv_has ls 7 [(0, .ref (md 100)), (1, .int x1), (5, .int x5)] → W p l e ({ frames := 1, cells := 0, slots := 0, locals := 23 }) s m args below meth c H locs 0 0 Q (F0 m 128 ls []) := by
  intro H locs ls hP hD hS hl
  obtain ⟨hx, hb, hr, hml, hown, hts, hK, hA⟩ := id hC
  unfold m_rlook_B128 at Heq
  refine lv_iload hx hb d_rlook_128 (lv_at hl 2 rfl) ?_
  refine lv_if_lt (tgt := 198) hx hb d_rlook_130 (by decide) (fun c_1 => ?_) (fun c_1 => ?_)
  · replace Heq := (if_pos c_1).symm.trans Heq
    exact K0 _ (Option.some.inj Heq).symm _ _ _ hP hD hS (lv_sub hl [0, 1] rfl)
  · replace Heq := (if_neg c_1).symm.trans Heq
    refine lv_aload_n hx hb d_rlook_133 rfl (lv_at hl 0 rfl) ?_
    refine va_get (D := D) (ci := 12) (v := .ref (md 38)) (C := R_MM) (T := F_MM) (N := 77) hx hb hts i_MM hown hK hP 0 rfl rfl 38 (by decide) (hts _ kw_1420) (fun _ h9 => h9) rfl d_rlook_134 ?_
    refine lv_iload_n hx hb d_rlook_137 rfl (lv_at hl 1 rfl) ?_
    obtain ⟨hi_2, Heq⟩ := gd_some Heq
    refine tx_ald2 hx hb hK hP 50 4 rfl rfl (i := x1) hi_2 d_rlook_138 ?_
    refine w_v (y := .ref (md (117 + x1.toNatClampNeg))) rfl ?_
    refine lv_iload hx hb d_rlook_139 (lv_at hl 2 rfl) ?_
    obtain ⟨hi_3, Heq⟩ := gd_some Heq
    refine va_zald hx hb hK hP (67 + x1.toNatClampNeg) 2 (mp_R117 (vp_in.lt hi_2)) rfl (i := x5) hi_3 d_rlook_141 ?_
    refine w_i (y := S.a (117 + x1.toNatClampNeg) x5.toNatClampNeg) rfl ?_
    refine lv_if_ne (tgt := 148) hx hb d_rlook_142 (by decide) (fun c_4 => ?_) (fun c_4 => ?_)
    · replace Heq := (if_neg c_4).symm.trans Heq
      refine lv_iconst (v := 0) hx hb d_rlook_148 (by decide) ?_
      refine lv_istore (lv' := [(6, .int 0), (0, .ref (md 100)), (1, .int x1), (5, .int x5)]) hx hb d_rlook_149 hl (by decide) rfl (fun ls hl => ?_)
      obtain ⟨b_5, h_6, Heq⟩ := ob_some Heq
      refine w_rlook_L151 hC h_6 (fun b h => ?_) _ _ _ hP hD hS (lv_sub hl [1, 2, 3, 0] rfl)
      subst h
      intro H locs ls hP hD hS hl
      exact w_rlook_J192 hC Heq Ka K0 _ _ _ hP hD hS (lv_sub hl [0, 1, 2] rfl)
    · replace Heq := (if_pos c_4).symm.trans Heq
      refine lv_goto (tgt := 192) hx hb d_rlook_145 (by decide) ?_
      exact w_rlook_J192 hC Heq Ka K0 _ _ _ hP hD hS (lv_sub hl [0, 1, 2] rfl)
def m_rlook_L128 (S : MS) (x1 : Int32) (x5 : Int32) : Option (MS × Int32) := lp (fun a : MS × Int32 × Int32 => m_rlook_B128 a.1 a.2.1 a.2.2) FU (S, x1, x5)
theorem w_rlook_L128 {p : Program} {l : Launch} {e : Env} {s : State} {m : MethodId} {args : Array Value} {below : List Frame} {meth : Method} {c : Code} {A : Nat → Prop} {D : va_G} {md : Nat → Nat} {mc : Nat → ClassId} {Q : State → Prop} (hC : MCx "JoinedTreesModel" prog_14_method_61_code 7 (some .int) p s m args meth c A D mc) {S : MS} {x1 : Int32} {x5 : Int32} {o : MS × Int32} (Heq : m_rlook_L128 S x1 x5 = some o) (K0 : ∀ b : MS × Int32, o = b → ∀ (H : Heap) (locs : List Loc) (ls : Array Slot), va_P D cls (mw md mc b.1) H → va_D A (mw md mc b.1) → va_S A s.heap H locs → lv_has ls 7 [(0, .ref (md 100)), (1, .int b.2)] → W p l e ({ frames := 1, cells := 0, slots := 0, locals := 23 }) s m args below meth c H locs 0 0 Q (F0 m 198 ls [])) : ∀ (H : Heap) (locs : List Loc) (ls : Array Slot), va_P D cls (mw md mc S) H → va_D A (mw md mc S) → va_S A s.heap H locs → lv_has ls 7 [(0, .ref (md 100)), (1, .int x1), (5, .int x5)] → W p l e ({ frames := 1, cells := 0, slots := 0, locals := 23 }) s m args below meth c H locs 0 0 Q (F0 m 128 ls []) := by
  refine lp_w (G := fun a : MS × Int32 × Int32 => ∀ (H : Heap) (locs : List Loc) (ls : Array Slot), va_P D cls (mw md mc a.1) H → va_D A (mw md mc a.1) → va_S A s.heap H locs → lv_has ls 7 [(0, .ref (md 100)), (1, .int a.2.1), (5, .int a.2.2)] → W p l e ({ frames := 1, cells := 0, slots := 0, locals := 23 }) s m args below meth c H locs 0 0 Q (F0 m 128 ls [])) ?_ FU (S, x1, x5) Heq
  intro a o1 ho Ka Ke
  exact w_rlook_B128 hC ho (fun b h => Ka b h) (fun b h => K0 b (Ke _ h).symm)
def m_rlook_J67 (S : MS) (x1 : Int32) (x4 : Int32) : Option (MS × Int32) := gd x1 8 ((if x4 < 0 then m_rlook_J198 ((S.setI 0 0).setA 39 (upd (S.a 39) x1.toNatClampNeg x4)) x1 else ob (m_rlook_L88 ((S.setI 0 0).setA 39 (upd (S.a 39) x1.toNatClampNeg x4)) x1 x4 0) (fun b_3 => ob (m_rlook_L128 b_3.1 b_3.2.1 b_3.2.2) (fun b_5 => m_rlook_J198 b_5.1 b_5.2))))
set_option maxHeartbeats 4000000 in
set_option maxRecDepth 100000 in
theorem w_rlook_J67 {p : Program} {l : Launch} {e : Env} {s : State} {m : MethodId} {args : Array Value} {below : List Frame} {meth : Method} {c : Code} {A : Nat → Prop} {D : va_G} {md : Nat → Nat} {mc : Nat → ClassId} {Q : State → Prop} (hC : MCx "JoinedTreesModel" prog_14_method_61_code 7 (some .int) p s m args meth c A D mc) {S : MS} {x1 : Int32} {x4 : Int32} {o : MS × Int32} (Heq : m_rlook_J67 S x1 x4 = some o) (Kr : ∀ r : MS × Int32, o = r → ∀ (pc : Nat) (H : Heap) (locs : List Loc) (ls : Array Slot), decode prog_14_method_61_code pc = .ok (.ireturn, 1) → va_P D cls (mw md mc r.1) H → va_D A (mw md mc r.1) → va_S A s.heap H locs → W p l e ({ frames := 1, cells := 0, slots := 0, locals := 23 }) s m args below meth c H locs 0 0 Q (F0 m pc ls [.int r.2])) : ∀ (H : Heap) (locs : List Loc) (ls : Array Slot), va_P D cls (mw md mc S) H → va_D A (mw md mc S) → va_S A s.heap H locs → lv_has ls 7 [(0, .ref (md 100)), (1, .int x1), (4, .int x4)] → W p l e ({ frames := 1, cells := 0, slots := 0, locals := 23 }) s m args below meth c H locs 0 0 Q (F0 m 67 ls []) := by
  intro H locs ls hP hD hS hl
  obtain ⟨hx, hb, hr, hml, hown, hts, hK, hA⟩ := id hC
  unfold m_rlook_J67 at Heq
  refine lv_aload_n hx hb d_rlook_67 rfl (lv_at hl 0 rfl) ?_
  refine lv_iconst (v := 0) hx hb d_rlook_68 (by decide) ?_
  refine va_put (D := D) (ci := 12) (v := .int 0) (ty := .int) (C := R_MM) (T := F_MM) (N := 77) hx hb hts i_MM t_MM t_MM_ok n_MM hown hK hP hD hS 0 rfl rfl 0 (by decide) (hts _ kw_1382) (fun _ h9 => h9) rfl (by decide +kernel) rfl rfl (Nat.le_of_ble_eq_true rfl) d_rlook_69 (fun H locs hP hD hS => ?_)
  rw [mw_I0] at hP hD
  refine lv_aload_n hx hb d_rlook_72 rfl (lv_at hl 0 rfl) ?_
  refine va_get (D := D) (ci := 12) (v := .ref (md 39)) (C := R_MM) (T := F_MM) (N := 77) hx hb hts i_MM hown hK hP 0 rfl rfl 39 (by decide) (hts _ kw_1421) (fun _ h9 => h9) rfl d_rlook_73 ?_
  refine lv_iload_n hx hb d_rlook_76 rfl (lv_at hl 1 rfl) ?_
  refine lv_iload hx hb d_rlook_77 (lv_at hl 2 rfl) ?_
  obtain ⟨hi_1, Heq⟩ := gd_some Heq
  refine va_iast hx hb hK hP hD hS 27 0 rfl rfl (i := x1) (x := x4) hi_1 d_rlook_79 (fun H locs hP hD hS => ?_)
  rw [mw_A39] at hP hD
  refine lv_iload hx hb d_rlook_80 (lv_at hl 2 rfl) ?_
  refine lv_if_lt (tgt := 198) hx hb d_rlook_82 (by decide) (fun c_2 => ?_) (fun c_2 => ?_)
  · replace Heq := (if_pos c_2).symm.trans Heq
    exact w_rlook_J198 hC Heq Kr _ _ _ hP hD hS (lv_sub hl [0, 1] rfl)
  · replace Heq := (if_neg c_2).symm.trans Heq
    refine lv_iconst (v := 0) hx hb d_rlook_85 (by decide) ?_
    refine lv_istore (lv' := [(5, .int 0), (0, .ref (md 100)), (1, .int x1), (4, .int x4)]) hx hb d_rlook_86 hl (by decide) rfl (fun ls hl => ?_)
    obtain ⟨b_3, h_4, Heq⟩ := ob_some Heq
    refine w_rlook_L88 hC h_4 (fun b h => ?_) _ _ _ hP hD hS (lv_sub hl [1, 2, 3, 0] rfl)
    subst h
    intro H locs ls hP hD hS hl
    refine lv_iload hx hb d_rlook_124 (lv_at hl 2 rfl) ?_
    refine lv_istore (lv' := [(5, .int b_3.2.2), (0, .ref (md 100)), (1, .int b_3.2.1), (4, .int b_3.2.2)]) hx hb d_rlook_126 hl (by decide) rfl (fun ls hl => ?_)
    obtain ⟨b_5, h_6, Heq⟩ := ob_some Heq
    refine w_rlook_L128 hC h_6 (fun b h => ?_) _ _ _ hP hD hS (lv_sub hl [1, 2, 0] rfl)
    subst h
    intro H locs ls hP hD hS hl
    exact w_rlook_J198 hC Heq Kr _ _ _ hP hD hS (lv_sub hl [0, 1] rfl)
def m_rlook_J61 (S : MS) : Option (MS × Int32) := ob (m_rno S 2) (fun o_1 => some (o_1.1, o_1.2))
theorem d_rlook_44 : decode prog_14_method_61_code 44 = .ok (.iload 4, 2) := by decide +kernel
theorem d_rlook_46 : decode prog_14_method_61_code 46 = .ok (.ifCond .lt 15, 3) := by decide +kernel
theorem d_rlook_61 : decode prog_14_method_61_code 61 = .ok (.aload_n 0, 1) := by decide +kernel
theorem d_rlook_62 : decode prog_14_method_61_code 62 = .ok (.iconst 2, 1) := by decide +kernel
theorem d_rlook_63 : decode prog_14_method_61_code 63 = .ok (.invokevirtual 191, 3) := by decide +kernel
theorem d_rlook_66 : decode prog_14_method_61_code 66 = .ok (.ireturn, 1) := by decide +kernel
set_option maxHeartbeats 4000000 in
set_option maxRecDepth 100000 in
theorem w_rlook_J61 {p : Program} {l : Launch} {e : Env} {s : State} {m : MethodId} {args : Array Value} {below : List Frame} {meth : Method} {c : Code} {A : Nat → Prop} {D : va_G} {md : Nat → Nat} {mc : Nat → ClassId} {Q : State → Prop} (hC : MCx "JoinedTreesModel" prog_14_method_61_code 7 (some .int) p s m args meth c A D mc) {S : MS} {o : MS × Int32} (Heq : m_rlook_J61 S = some o) (Kr : ∀ r : MS × Int32, o = r → ∀ (pc : Nat) (H : Heap) (locs : List Loc) (ls : Array Slot), decode prog_14_method_61_code pc = .ok (.ireturn, 1) → va_P D cls (mw md mc r.1) H → va_D A (mw md mc r.1) → va_S A s.heap H locs → W p l e ({ frames := 1, cells := 0, slots := 0, locals := 23 }) s m args below meth c H locs 0 0 Q (F0 m pc ls [.int r.2])) : ∀ (H : Heap) (locs : List Loc) (ls : Array Slot), va_P D cls (mw md mc S) H → va_D A (mw md mc S) → va_S A s.heap H locs → lv_has ls 7 [(0, .ref (md 100))] → W p l e ({ frames := 1, cells := 0, slots := 0, locals := 23 }) s m args below meth c H locs 0 0 Q (F0 m 61 ls []) := by
  intro H locs ls hP hD hS hl
  obtain ⟨hx, hb, hr, hml, hown, hts, hK, hA⟩ := id hC
  unfold m_rlook_J61 at Heq
  refine lv_aload_n hx hb d_rlook_61 rfl (lv_at hl 0 rfl) ?_
  refine lv_iconst (v := 2) hx hb d_rlook_62 (by decide) ?_
  obtain ⟨o_1, h_2, Heq⟩ := ob_some Heq
  have hFc := fr_all hD hS hA
  refine va_calli (va_runV (As := [.int 2]) (rest := []) ⟨hx, hb, hml, hown, hts⟩ (g_rno l D H.size h_2) (cw_v 1 hts kw_1626 kw_1623 kw_1625 kp_29 kw_11 rfl rfl (by decide +kernel) ⟨Nat.le_of_ble_eq_true rfl, Nat.le_of_ble_eq_true rfl⟩) ⟨g_blind, va_recv hK hP (ci := 12) (q0 := 0) rfl rfl, fun U hU hW => g_pre hU hW hP hK hD⟩ rfl rfl hl.1 rfl (lv_room (Nat.le_of_ble_eq_true rfl)) d_rlook_63 ⟨Nat.le_of_ble_eq_true rfl, Nat.le_of_ble_eq_true rfl⟩) hS (fun q _ h => hFc q h) hFc (fun rz u t H1 locs ht hvm hw hB hz1 hk1 hS => ?_)
  obtain ⟨hP, -, hD1⟩ := hB
  rw [ht] at hP
  have hD := hD1.weaken (fun _ q _ h => hFc q.1 h)
  generalize H1 = H at hP hS ⊢
  refine W.cs (cells' := 0) (slots' := 0) rfl rfl ?_
  subst hw
  exact Kr _ (Option.some.inj Heq).symm 66 _ _ _ d_rlook_66 hP hD hS
def m_rlook_J38 (S : MS) (x1 : Int32) (x2 : Int32) (t0 : Int32) : Option (MS × Int32) := (if x2 < 0 then m_rlook_J67 S x1 t0 else (if t0 < 0 then m_rlook_J61 S else gd x1 8 (gd t0 1000 ((if S.a (101 + x1.toNatClampNeg) t0.toNatClampNeg = 0 then m_rlook_J61 S else m_rlook_J67 S x1 t0)))))
theorem d_rlook_49 : decode prog_14_method_61_code 49 = .ok (.aload_n 0, 1) := by decide +kernel
theorem d_rlook_50 : decode prog_14_method_61_code 50 = .ok (.getfield 95, 3) := by decide +kernel
theorem d_rlook_53 : decode prog_14_method_61_code 53 = .ok (.iload_n 1, 1) := by decide +kernel
theorem d_rlook_54 : decode prog_14_method_61_code 54 = .ok (.aaload, 1) := by decide +kernel
theorem d_rlook_55 : decode prog_14_method_61_code 55 = .ok (.iload 4, 2) := by decide +kernel
theorem d_rlook_57 : decode prog_14_method_61_code 57 = .ok (.baload, 1) := by decide +kernel
theorem d_rlook_58 : decode prog_14_method_61_code 58 = .ok (.ifCond .ne 9, 3) := by decide +kernel
set_option maxHeartbeats 4000000 in
set_option maxRecDepth 100000 in
theorem w_rlook_J38 {p : Program} {l : Launch} {e : Env} {s : State} {m : MethodId} {args : Array Value} {below : List Frame} {meth : Method} {c : Code} {A : Nat → Prop} {D : va_G} {md : Nat → Nat} {mc : Nat → ClassId} {Q : State → Prop} (hC : MCx "JoinedTreesModel" prog_14_method_61_code 7 (some .int) p s m args meth c A D mc) {S : MS} {x1 : Int32} {x2 : Int32} {t0 : Int32} {o : MS × Int32} (Heq : m_rlook_J38 S x1 x2 t0 = some o) (Kr : ∀ r : MS × Int32, o = r → ∀ (pc : Nat) (H : Heap) (locs : List Loc) (ls : Array Slot), decode prog_14_method_61_code pc = .ok (.ireturn, 1) → va_P D cls (mw md mc r.1) H → va_D A (mw md mc r.1) → va_S A s.heap H locs → W p l e ({ frames := 1, cells := 0, slots := 0, locals := 23 }) s m args below meth c H locs 0 0 Q (F0 m pc ls [.int r.2])) : ∀ (H : Heap) (locs : List Loc) (ls : Array Slot), va_P D cls (mw md mc S) H → va_D A (mw md mc S) → va_S A s.heap H locs → lv_has ls 7 [(0, .ref (md 100)), (1, .int x1), (2, .int x2)] → W p l e ({ frames := 1, cells := 0, slots := 0, locals := 23 }) s m args below meth c H locs 0 0 Q (F0 m 38 ls [.int t0]) := by
  intro H locs ls hP hD hS hl
  obtain ⟨hx, hb, hr, hml, hown, hts, hK, hA⟩ := id hC
  unfold m_rlook_J38 at Heq
  refine lv_istore (lv' := [(4, .int t0), (0, .ref (md 100)), (1, .int x1), (2, .int x2)]) hx hb d_rlook_38 hl (by decide) rfl (fun ls hl => ?_)
  refine lv_iload_n hx hb d_rlook_40 rfl (lv_at hl 3 rfl) ?_
  refine lv_if_lt (tgt := 67) hx hb d_rlook_41 (by decide) (fun c_1 => ?_) (fun c_1 => ?_)
  · replace Heq := (if_pos c_1).symm.trans Heq
    exact w_rlook_J67 hC Heq Kr _ _ _ hP hD hS (lv_sub hl [1, 2, 0] rfl)
  · replace Heq := (if_neg c_1).symm.trans Heq
    refine lv_iload hx hb d_rlook_44 (lv_at hl 0 rfl) ?_
    refine lv_if_lt (tgt := 61) hx hb d_rlook_46 (by decide) (fun c_2 => ?_) (fun c_2 => ?_)
    · replace Heq := (if_pos c_2).symm.trans Heq
      exact w_rlook_J61 hC Heq Kr _ _ _ hP hD hS (lv_sub hl [1] rfl)
    · replace Heq := (if_neg c_2).symm.trans Heq
      refine lv_aload_n hx hb d_rlook_49 rfl (lv_at hl 1 rfl) ?_
      refine va_get (D := D) (ci := 12) (v := .ref (md 36)) (C := R_MM) (T := F_MM) (N := 77) hx hb hts i_MM hown hK hP 0 rfl rfl 36 (by decide) (hts _ kw_1418) (fun _ h9 => h9) rfl d_rlook_50 ?_
      refine lv_iload_n hx hb d_rlook_53 rfl (lv_at hl 2 rfl) ?_
      obtain ⟨hi_3, Heq⟩ := gd_some Heq
      refine tx_ald2 hx hb hK hP 48 4 rfl rfl (i := x1) hi_3 d_rlook_54 ?_
      refine w_v (y := .ref (md (101 + x1.toNatClampNeg))) rfl ?_
      refine lv_iload hx hb d_rlook_55 (lv_at hl 0 rfl) ?_
      obtain ⟨hi_4, Heq⟩ := gd_some Heq
      refine va_zald hx hb hK hP (51 + x1.toNatClampNeg) 2 (mp_R101 (vp_in.lt hi_3)) rfl (i := t0) hi_4 d_rlook_57 ?_
      refine w_i (y := S.a (101 + x1.toNatClampNeg) t0.toNatClampNeg) rfl ?_
      refine lv_if_ne (tgt := 67) hx hb d_rlook_58 (by decide) (fun c_5 => ?_) (fun c_5 => ?_)
      · replace Heq := (if_neg c_5).symm.trans Heq
        exact w_rlook_J67 hC Heq Kr _ _ _ hP hD hS (lv_sub hl [1, 2, 0] rfl)
      · replace Heq := (if_pos c_5).symm.trans Heq
        exact w_rlook_J61 hC Heq Kr _ _ _ hP hD hS (lv_sub hl [1] rfl)
def m_rlook_J0 (S : MS) (x1 : Int32) (x2 : Int32) (x3 : Int32) : Option (MS × Int32) := ob (m_risReplica S x1) (fun o_1 => (if o_1.2 = 0 then m_rlook_J18 o_1.1 else (if x2 < (-1) then m_rlook_J18 o_1.1 else (if x2 ≤ 7 then (if 0 ≤ x2 then ob (m_rfind o_1.1 x2 x3) (fun o_7 => m_rlook_J38 o_7.1 x1 x2 o_7.2) else m_rlook_J38 o_1.1 x1 x2 (-1)) else m_rlook_J18 o_1.1))))
theorem d_rlook_28 : decode prog_14_method_61_code 28 = .ok (.iconst (-1), 1) := by decide +kernel
theorem d_rlook_29 : decode prog_14_method_61_code 29 = .ok (.goto 9, 3) := by decide +kernel
set_option maxHeartbeats 4000000 in
set_option maxRecDepth 100000 in
theorem w_rlook_J0 {p : Program} {l : Launch} {e : Env} {s : State} {m : MethodId} {args : Array Value} {below : List Frame} {meth : Method} {c : Code} {A : Nat → Prop} {D : va_G} {md : Nat → Nat} {mc : Nat → ClassId} {Q : State → Prop} (hC : MCx "JoinedTreesModel" prog_14_method_61_code 7 (some .int) p s m args meth c A D mc) {S : MS} {x1 : Int32} {x2 : Int32} {x3 : Int32} {o : MS × Int32} (Heq : m_rlook_J0 S x1 x2 x3 = some o) (Kr : ∀ r : MS × Int32, o = r → ∀ (pc : Nat) (H : Heap) (locs : List Loc) (ls : Array Slot), decode prog_14_method_61_code pc = .ok (.ireturn, 1) → va_P D cls (mw md mc r.1) H → va_D A (mw md mc r.1) → va_S A s.heap H locs → W p l e ({ frames := 1, cells := 0, slots := 0, locals := 23 }) s m args below meth c H locs 0 0 Q (F0 m pc ls [.int r.2])) : ∀ (H : Heap) (locs : List Loc) (ls : Array Slot), va_P D cls (mw md mc S) H → va_D A (mw md mc S) → va_S A s.heap H locs → lv_has ls 7 [(0, .ref (md 100)), (1, .int x1), (2, .int x2), (3, .int x3)] → W p l e ({ frames := 1, cells := 0, slots := 0, locals := 23 }) s m args below meth c H locs 0 0 Q (F0 m 0 ls []) := by
  intro H locs ls hP hD hS hl
  obtain ⟨hx, hb, hr, hml, hown, hts, hK, hA⟩ := id hC
  unfold m_rlook_J0 at Heq
  refine lv_iload_n hx hb d_rlook_0 rfl (lv_at hl 1 rfl) ?_
  obtain ⟨o_1, h_2, Heq⟩ := ob_some Heq
  have hFc := fr_all hD hS hA
  refine va_calli (va_runS (As := [.int x1]) (rest := []) ⟨hx, hb, hml, hown, hts⟩ (g_risReplica l D H.size h_2) (cw_s 1 hts kw_1641 kw_1639 kw_1640 kw_11 rfl rfl (by decide +kernel) ⟨Nat.le_of_ble_eq_true rfl, Nat.le_of_ble_eq_true rfl⟩) ⟨g_blind, fun U hU hW => g_pre hU hW hP hK hD⟩ rfl rfl hl.1 rfl (lv_room (Nat.le_of_ble_eq_true rfl)) d_rlook_1 ⟨Nat.le_of_ble_eq_true rfl, Nat.le_of_ble_eq_true rfl⟩) hS (fun q _ h => hFc q h) hFc (fun rz u t H1 locs ht hvm hw hB hz1 hk1 hS => ?_)
  obtain ⟨hP, -, hD1⟩ := hB
  rw [ht] at hP
  have hD := hD1.weaken (fun _ q _ h => hFc q.1 h)
  generalize H1 = H at hP hS ⊢
  refine W.cs (cells' := 0) (slots' := 0) rfl rfl ?_
  subst hw
  refine lv_if_eq (tgt := 18) hx hb d_rlook_4 (by decide) (fun c_3 => ?_) (fun c_3 => ?_)
  · replace Heq := (if_pos c_3).symm.trans Heq
    exact w_rlook_J18 hC Heq Kr _ _ _ hP hD hS (lv_sub hl [0] rfl)
  · replace Heq := (if_neg c_3).symm.trans Heq
    refine lv_iload_n hx hb d_rlook_7 rfl (lv_at hl 2 rfl) ?_
    refine lv_iconst (v := (-1)) hx hb d_rlook_8 (by decide) ?_
    refine lv_icmp_lt (tgt := 18) hx hb d_rlook_9 (by decide) (fun c_4 => ?_) (fun c_4 => ?_)
    · replace Heq := (if_pos c_4).symm.trans Heq
      exact w_rlook_J18 hC Heq Kr _ _ _ hP hD hS (lv_sub hl [0] rfl)
    · replace Heq := (if_neg c_4).symm.trans Heq
      refine lv_iload_n hx hb d_rlook_12 rfl (lv_at hl 2 rfl) ?_
      refine lv_bipush (v := 7) hx hb d_rlook_13 (by decide) ?_
      refine lv_icmp_le (tgt := 24) hx hb d_rlook_15 (by decide) (fun c_5 => ?_) (fun c_5 => ?_)
      · replace Heq := (if_pos c_5).symm.trans Heq
        refine lv_iload_n hx hb d_rlook_24 rfl (lv_at hl 2 rfl) ?_
        refine lv_if_ge (tgt := 32) hx hb d_rlook_25 (by decide) (fun c_6 => ?_) (fun c_6 => ?_)
        · replace Heq := (if_pos c_6).symm.trans Heq
          refine lv_aload_n hx hb d_rlook_32 rfl (lv_at hl 0 rfl) ?_
          refine lv_iload_n hx hb d_rlook_33 rfl (lv_at hl 2 rfl) ?_
          refine lv_iload_n hx hb d_rlook_34 rfl (lv_at hl 3 rfl) ?_
          obtain ⟨o_7, h_8, Heq⟩ := ob_some Heq
          have hFc := fr_all hD hS hA
          refine va_calli (va_runV (As := [.int x2, .int x3]) (rest := []) ⟨hx, hb, hml, hown, hts⟩ (g_rfind l D H.size h_8) (cw_v 2 hts kw_1835 kw_1832 kw_1834 kp_66 kw_11 rfl rfl (by decide +kernel) ⟨Nat.le_of_ble_eq_true rfl, Nat.le_of_ble_eq_true rfl⟩) ⟨g_blind, va_recv hK hP (ci := 12) (q0 := 0) rfl rfl, fun U hU hW => g_pre hU hW hP hK hD⟩ rfl rfl hl.1 rfl (lv_room (Nat.le_of_ble_eq_true rfl)) d_rlook_35 ⟨Nat.le_of_ble_eq_true rfl, Nat.le_of_ble_eq_true rfl⟩) hS (fun q _ h => hFc q h) hFc (fun rz u t H1 locs ht hvm hw hB hz1 hk1 hS => ?_)
          obtain ⟨hP, -, hD1⟩ := hB
          rw [ht] at hP
          have hD := hD1.weaken (fun _ q _ h => hFc q.1 h)
          generalize H1 = H at hP hS ⊢
          refine W.cs (cells' := 0) (slots' := 0) rfl rfl ?_
          subst hw
          exact w_rlook_J38 hC Heq Kr _ _ _ hP hD hS (lv_sub hl [0, 1, 2] rfl)
        · replace Heq := (if_neg c_6).symm.trans Heq
          refine lv_iconst (v := (-1)) hx hb d_rlook_28 (by decide) ?_
          refine lv_goto (tgt := 38) hx hb d_rlook_29 (by decide) ?_
          exact w_rlook_J38 hC Heq Kr _ _ _ hP hD hS (lv_sub hl [0, 1, 2] rfl)
      · replace Heq := (if_neg c_5).symm.trans Heq
        exact w_rlook_J18 hC Heq Kr _ _ _ hP hD hS (lv_sub hl [0] rfl)
def m_rlook (S : MS) (x1 : Int32) (x2 : Int32) (x3 : Int32) : Option (MS × Int32) := m_rlook_J0 S x1 x2 x3
theorem g_rlook (l : Launch) (D : va_G) (sz : Nat) {md : Nat → Nat} {mc : Nat → ClassId} {S : MS} {x1 : Int32} {x2 : Int32} {x3 : Int32} {o : MS × Int32} (Heq : m_rlook S x1 x2 x3 = some o) : Met l ⟨"JoinedTreesModel", "look", "(III)I"⟩ (Cond.code ⟨"JoinedTreesModel", "look", "(III)I"⟩ prog_14_method_61_code 7 (some .int) :: gb) ({ frames := 1, cells := 0, slots := 0, locals := 23 }) (gPc D (mw md mc S) (mty mc) sz [.ref (md 100), .int x1, .int x2, .int x3]) (va_Qi (fun (r : Int32) (_ : Unit) => r = o.2) (fun _ t => gO D (mw md mc o.1) (mty mc) (va_A (mw md mc S) sz) t) (va_A (mw md mc S) sz)) 0 0 (va_A (mw md mc S) sz) := by
  refine Met.ofW (cc := prog_14_method_61_code) (maxL := 7) (ret := (some .int)) (by decide) rfl ?_
  intro p e s m args below meth c s₁ B hml hv
  obtain ⟨rfl, hsz, hP, hK, hD0⟩ := hv
  have hx := B.exec
  have hb := B.bytes
  have hr := B.returns
  have hts : ∀ w9 ∈ gb, w9.before [.ref (md 100), .int x1, .int x2, .int x3].toArray s = true := fun w9 h => atoms_spec (ws := Cond.code ⟨"JoinedTreesModel", "look", "(III)I"⟩ prog_14_method_61_code 7 (some .int) :: gb) B.pre w9 (List.mem_cons_of_mem _ h)
  have hown : s.vm.findClass "JoinedTreesModel" = some m.cls := findClass_of_methodNamed B.named
  have hlocks := B.notSynchronized
  subst hsz
  have hD := hD0.self (sz := s.heap.size)
  generalize hAe : va_A (mw md mc S) s.heap.size = A at hD ⊢
  have hA : ∀ q : Nat, s.heap.size ≤ q → A q := fun q h => by rw [← hAe]; exact Or.inr h
  have hS : va_S A s.heap s.heap [] := va_S.rf
  have hl := lv_entry ([.ref (md 100), .int x1, .int x2, .int x3]) (n := 7) (Nat.le_of_ble_eq_true rfl)
  rw [lg_entry_eq]
  generalize (lg_sl ([.ref (md 100), .int x1, .int x2, .int x3]) ++ List.replicate (7 - (lg_sl ([.ref (md 100), .int x1, .int x2, .int x3])).length) Slot.unset).toArray = ls at hl ⊢
  have hl : lv_has ls 7 [(0, .ref (md 100)), (1, .int x1), (2, .int x2), (3, .int x3)] := hl
  refine w_rlook_J0 ⟨hx, hb, hr, hml, hown, hts, hK, hA⟩ Heq (fun r h pc H locs ls hd hP hD hS => ?_) _ _ _ hP hD hS (lv_sub hl [0, 1, 2, 3] rfl)
  subst h
  exact W.iret hx hb hr (fun t ht hW => ⟨⟨_, (), rfl, rfl, by rw [ht]; exact hP, va_K.moved hW.alike hK, hD⟩, hS.F ht⟩) hS.2.2 hd
def m_rcompareKeys_B2 (S : MS) (x1 : Int32) (x2 : Int32) (x3 : Int32) : Option ((MS × Int32 × Int32 × Int32) ⊕ ((MS × Int32 × Int32) ⊕ (MS × Int32))) := gd x1 4000 ((if S.a 15 x1.toNatClampNeg ≤ x3 then some (.inr (.inl (S, x1, x2))) else gd x2 4000 ((if S.a 15 x2.toNatClampNeg ≤ x3 then some (.inr (.inl (S, x1, x2))) else gd x1 4000 (gd ((S.a 14 x1.toNatClampNeg) + x3) 32876 (gd x2 4000 (gd ((S.a 14 x2.toNatClampNeg) + x3) 32876 ((if (S.a 26 (((S.a 14 x1.toNatClampNeg) + x3).toNatClampNeg)) &&& 255 = (S.a 26 (((S.a 14 x2.toNatClampNeg) + x3).toNatClampNeg)) &&& 255 then some (.inl (S, x1, x2, (x3 + 1))) else some (.inr (.inr (S, ((S.a 26 (((S.a 14 x1.toNatClampNeg) + x3).toNatClampNeg)) &&& 255) - ((S.a 26 (((S.a 14 x2.toNatClampNeg) + x3).toNatClampNeg)) &&& 255)))))))))))))
theorem d_rcompareKeys_0 : decode prog_14_method_62_code 0 = .ok (.iconst 0, 1) := by decide +kernel
theorem d_rcompareKeys_1 : decode prog_14_method_62_code 1 = .ok (.istore_n 3, 1) := by decide +kernel
theorem d_rcompareKeys_2 : decode prog_14_method_62_code 2 = .ok (.iload_n 3, 1) := by decide +kernel
theorem d_rcompareKeys_3 : decode prog_14_method_62_code 3 = .ok (.aload_n 0, 1) := by decide +kernel
theorem d_rcompareKeys_4 : decode prog_14_method_62_code 4 = .ok (.getfield 41, 3) := by decide +kernel
theorem d_rcompareKeys_7 : decode prog_14_method_62_code 7 = .ok (.iload_n 1, 1) := by decide +kernel
theorem d_rcompareKeys_8 : decode prog_14_method_62_code 8 = .ok (.iaload, 1) := by decide +kernel
theorem d_rcompareKeys_9 : decode prog_14_method_62_code 9 = .ok (.if_icmp .ge 70, 3) := by decide +kernel
theorem d_rcompareKeys_12 : decode prog_14_method_62_code 12 = .ok (.iload_n 3, 1) := by decide +kernel
theorem d_rcompareKeys_13 : decode prog_14_method_62_code 13 = .ok (.aload_n 0, 1) := by decide +kernel
theorem d_rcompareKeys_14 : decode prog_14_method_62_code 14 = .ok (.getfield 41, 3) := by decide +kernel
theorem d_rcompareKeys_17 : decode prog_14_method_62_code 17 = .ok (.iload_n 2, 1) := by decide +kernel
theorem d_rcompareKeys_18 : decode prog_14_method_62_code 18 = .ok (.iaload, 1) := by decide +kernel
theorem d_rcompareKeys_19 : decode prog_14_method_62_code 19 = .ok (.if_icmp .ge 60, 3) := by decide +kernel
theorem d_rcompareKeys_22 : decode prog_14_method_62_code 22 = .ok (.aload_n 0, 1) := by decide +kernel
theorem d_rcompareKeys_23 : decode prog_14_method_62_code 23 = .ok (.getfield 72, 3) := by decide +kernel
theorem d_rcompareKeys_26 : decode prog_14_method_62_code 26 = .ok (.aload_n 0, 1) := by decide +kernel
theorem d_rcompareKeys_27 : decode prog_14_method_62_code 27 = .ok (.getfield 38, 3) := by decide +kernel
theorem d_rcompareKeys_30 : decode prog_14_method_62_code 30 = .ok (.iload_n 1, 1) := by decide +kernel
theorem d_rcompareKeys_31 : decode prog_14_method_62_code 31 = .ok (.iaload, 1) := by decide +kernel
theorem d_rcompareKeys_32 : decode prog_14_method_62_code 32 = .ok (.iload_n 3, 1) := by decide +kernel
theorem d_rcompareKeys_33 : decode prog_14_method_62_code 33 = .ok (.iadd, 1) := by decide +kernel
theorem d_rcompareKeys_34 : decode prog_14_method_62_code 34 = .ok (.baload, 1) := by decide +kernel
theorem d_rcompareKeys_35 : decode prog_14_method_62_code 35 = .ok (.sipush 255, 3) := by decide +kernel
theorem d_rcompareKeys_38 : decode prog_14_method_62_code 38 = .ok (.iand, 1) := by decide +kernel
theorem d_rcompareKeys_39 : decode prog_14_method_62_code 39 = .ok (.istore 4, 2) := by decide +kernel
theorem d_rcompareKeys_41 : decode prog_14_method_62_code 41 = .ok (.aload_n 0, 1) := by decide +kernel
theorem d_rcompareKeys_42 : decode prog_14_method_62_code 42 = .ok (.getfield 72, 3) := by decide +kernel
theorem d_rcompareKeys_45 : decode prog_14_method_62_code 45 = .ok (.aload_n 0, 1) := by decide +kernel
theorem d_rcompareKeys_46 : decode prog_14_method_62_code 46 = .ok (.getfield 38, 3) := by decide +kernel
theorem d_rcompareKeys_49 : decode prog_14_method_62_code 49 = .ok (.iload_n 2, 1) := by decide +kernel
theorem d_rcompareKeys_50 : decode prog_14_method_62_code 50 = .ok (.iaload, 1) := by decide +kernel
theorem d_rcompareKeys_51 : decode prog_14_method_62_code 51 = .ok (.iload_n 3, 1) := by decide +kernel
theorem d_rcompareKeys_52 : decode prog_14_method_62_code 52 = .ok (.iadd, 1) := by decide +kernel
theorem d_rcompareKeys_53 : decode prog_14_method_62_code 53 = .ok (.baload, 1) := by decide +kernel
theorem d_rcompareKeys_54 : decode prog_14_method_62_code 54 = .ok (.sipush 255, 3) := by decide +kernel
theorem d_rcompareKeys_57 : decode prog_14_method_62_code 57 = .ok (.iand, 1) := by decide +kernel
theorem d_rcompareKeys_58 : decode prog_14_method_62_code 58 = .ok (.istore 5, 2) := by decide +kernel
theorem d_rcompareKeys_60 : decode prog_14_method_62_code 60 = .ok (.iload 4, 2) := by decide +kernel
theorem d_rcompareKeys_62 : decode prog_14_method_62_code 62 = .ok (.iload 5, 2) := by decide +kernel
theorem d_rcompareKeys_64 : decode prog_14_method_62_code 64 = .ok (.if_icmp .eq 9, 3) := by decide +kernel
theorem d_rcompareKeys_73 : decode prog_14_method_62_code 73 = .ok (.iinc 3 1, 3) := by decide +kernel
theorem d_rcompareKeys_76 : decode prog_14_method_62_code 76 = .ok (.goto (-74), 3) := by decide +kernel
theorem d_rcompareKeys_67 : decode prog_14_method_62_code 67 = .ok (.iload 4, 2) := by decide +kernel
theorem d_rcompareKeys_69 : decode prog_14_method_62_code 69 = .ok (.iload 5, 2) := by decide +kernel
theorem d_rcompareKeys_71 : decode prog_14_method_62_code 71 = .ok (.isub, 1) := by decide +kernel
theorem d_rcompareKeys_72 : decode prog_14_method_62_code 72 = .ok (.ireturn, 1) := by decide +kernel
set_option maxHeartbeats 4000000 in
set_option maxRecDepth 100000 in
theorem w_rcompareKeys_B2 {p : Program} {l : Launch} {e : Env} {s : State} {m : MethodId} {args : Array Value} {below : List Frame} {meth : Method} {c : Code} {A : Nat → Prop} {D : va_G} {md : Nat → Nat} {mc : Nat → ClassId} {Q : State → Prop} (hC : MCx "JoinedTreesModel" prog_14_method_62_code 6 (some .int) p s m args meth c A D mc) {S : MS} {x1 : Int32} {x2 : Int32} {x3 : Int32} {o : ((MS × Int32 × Int32 × Int32) ⊕ ((MS × Int32 × Int32) ⊕ (MS × Int32)))} (Heq : m_rcompareKeys_B2 S x1 x2 x3 = some o) (Ka : ∀ b : MS × Int32 × Int32 × Int32, o = .inl b → ∀ (H : Heap) (locs : List Loc) (ls : Array Slot), va_P D cls (mw md mc b.1) H → va_D A (mw md mc b.1) → va_S A s.heap H locs → lv_has ls 6 [(0, .ref (md 100)), (1, .int b.2.1), (2, .int b.2.2.1), (3, .int b.2.2.2)] → W p l e ({ frames := 0, cells := 0, slots := 0, locals := 0 }) s m args below meth c H locs 0 0 Q (F0 m 2 ls [])) (K0 : ∀ b : MS × Int32 × Int32, o = .inr (.inl b) → ∀ (H : Heap) (locs : List Loc) (ls : Array Slot), va_P D cls (mw md mc b.1) H → va_D A (mw md mc b.1) → va_S A s.heap H locs → lv_has ls 6 [(0, .ref (md 100)), (1, .int b.2.1), (2, .int b.2.2)] → W p l e ({ frames := 0, cells := 0, slots := 0, locals := 0 }) s m args below meth c H locs 0 0 Q (F0 m 79 ls [])) (Kr : ∀ r : MS × Int32, o = .inr (.inr r) → ∀ (pc : Nat) (H : Heap) (locs : List Loc) (ls : Array Slot), decode prog_14_method_62_code pc = .ok (.ireturn, 1) → va_P D cls (mw md mc r.1) H → va_D A (mw md mc r.1) → va_S A s.heap H locs → W p l e ({ frames := 0, cells := 0, slots := 0, locals := 0 }) s m args below meth c H locs 0 0 Q (F0 m pc ls [.int r.2])) : ∀ (H : Heap) (locs : List Loc) (ls : Array Slot), va_P D cls (mw md mc S) H → va_D A (mw md mc S) → va_S A s.heap H locs → lv_has ls 6 [(0, .ref (md 100)), (1, .int x1), (2, .int x2), (3, .int x3)] → W p l e ({ frames := 0, cells := 0, slots := 0, locals := 0 }) s m args below meth c H locs 0 0 Q (F0 m 2 ls []) := by
  intro H locs ls hP hD hS hl
  obtain ⟨hx, hb, hr, hml, hown, hts, hK, hA⟩ := id hC
  unfold m_rcompareKeys_B2 at Heq
  refine lv_iload_n hx hb d_rcompareKeys_2 rfl (lv_at hl 3 rfl) ?_
  refine lv_aload_n hx hb d_rcompareKeys_3 rfl (lv_at hl 0 rfl) ?_
  refine va_get (D := D) (ci := 12) (v := .ref (md 15)) (C := R_MM) (T := F_MM) (N := 77) hx hb hts i_MM hown hK hP 0 rfl rfl 15 (by decide) (hts _ kw_1397) (fun _ h9 => h9) rfl d_rcompareKeys_4 ?_
  refine lv_iload_n hx hb d_rcompareKeys_7 rfl (lv_at hl 1 rfl) ?_
  obtain ⟨hi_1, Heq⟩ := gd_some Heq
  refine va_iald hx hb hK hP 11 0 rfl rfl (i := x1) hi_1 d_rcompareKeys_8 ?_
  refine w_i (y := S.a 15 x1.toNatClampNeg) rfl ?_
  refine lv_icmp_ge (tgt := 79) hx hb d_rcompareKeys_9 (by decide) (fun c_2 => ?_) (fun c_2 => ?_)
  · replace Heq := (if_pos c_2).symm.trans Heq
    exact K0 _ (Option.some.inj Heq).symm _ _ _ hP hD hS (lv_sub hl [0, 1, 2] rfl)
  · replace Heq := (if_neg c_2).symm.trans Heq
    refine lv_iload_n hx hb d_rcompareKeys_12 rfl (lv_at hl 3 rfl) ?_
    refine lv_aload_n hx hb d_rcompareKeys_13 rfl (lv_at hl 0 rfl) ?_
    refine va_get (D := D) (ci := 12) (v := .ref (md 15)) (C := R_MM) (T := F_MM) (N := 77) hx hb hts i_MM hown hK hP 0 rfl rfl 15 (by decide) (hts _ kw_1397) (fun _ h9 => h9) rfl d_rcompareKeys_14 ?_
    refine lv_iload_n hx hb d_rcompareKeys_17 rfl (lv_at hl 2 rfl) ?_
    obtain ⟨hi_3, Heq⟩ := gd_some Heq
    refine va_iald hx hb hK hP 11 0 rfl rfl (i := x2) hi_3 d_rcompareKeys_18 ?_
    refine w_i (y := S.a 15 x2.toNatClampNeg) rfl ?_
    refine lv_icmp_ge (tgt := 79) hx hb d_rcompareKeys_19 (by decide) (fun c_4 => ?_) (fun c_4 => ?_)
    · replace Heq := (if_pos c_4).symm.trans Heq
      exact K0 _ (Option.some.inj Heq).symm _ _ _ hP hD hS (lv_sub hl [0, 1, 2] rfl)
    · replace Heq := (if_neg c_4).symm.trans Heq
      refine lv_aload_n hx hb d_rcompareKeys_22 rfl (lv_at hl 0 rfl) ?_
      refine va_get (D := D) (ci := 12) (v := .ref (md 26)) (C := R_MM) (T := F_MM) (N := 77) hx hb hts i_MM hown hK hP 0 rfl rfl 26 (by decide) (hts _ kw_1408) (fun _ h9 => h9) rfl d_rcompareKeys_23 ?_
      refine lv_aload_n hx hb d_rcompareKeys_26 rfl (lv_at hl 0 rfl) ?_
      refine va_get (D := D) (ci := 12) (v := .ref (md 14)) (C := R_MM) (T := F_MM) (N := 77) hx hb hts i_MM hown hK hP 0 rfl rfl 14 (by decide) (hts _ kw_1396) (fun _ h9 => h9) rfl d_rcompareKeys_27 ?_
      refine lv_iload_n hx hb d_rcompareKeys_30 rfl (lv_at hl 1 rfl) ?_
      obtain ⟨hi_5, Heq⟩ := gd_some Heq
      refine va_iald hx hb hK hP 10 0 rfl rfl (i := x1) hi_5 d_rcompareKeys_31 ?_
      refine w_i (y := S.a 14 x1.toNatClampNeg) rfl ?_
      refine lv_iload_n hx hb d_rcompareKeys_32 rfl (lv_at hl 3 rfl) ?_
      refine lv_iadd hx hb d_rcompareKeys_33 ?_
      refine w_i (y := (S.a 14 x1.toNatClampNeg) + x3) rfl ?_
      obtain ⟨hi_6, Heq⟩ := gd_some Heq
      refine va_bald hx hb hK hP 20 1 rfl rfl (i := (S.a 14 x1.toNatClampNeg) + x3) hi_6 d_rcompareKeys_34 ?_
      refine w_i (y := S.a 26 (((S.a 14 x1.toNatClampNeg) + x3).toNatClampNeg)) rfl ?_
      refine lv_sipush (v := 255) hx hb d_rcompareKeys_35 (by decide) ?_
      refine lv_iand hx hb d_rcompareKeys_38 ?_
      refine w_i (y := (S.a 26 (((S.a 14 x1.toNatClampNeg) + x3).toNatClampNeg)) &&& 255) rfl ?_
      refine lv_istore (lv' := [(4, .int ((S.a 26 (((S.a 14 x1.toNatClampNeg) + x3).toNatClampNeg)) &&& 255)), (0, .ref (md 100)), (1, .int x1), (2, .int x2), (3, .int x3)]) hx hb d_rcompareKeys_39 hl (by decide) rfl (fun ls hl => ?_)
      refine lv_aload_n hx hb d_rcompareKeys_41 rfl (lv_at hl 1 rfl) ?_
      refine va_get (D := D) (ci := 12) (v := .ref (md 26)) (C := R_MM) (T := F_MM) (N := 77) hx hb hts i_MM hown hK hP 0 rfl rfl 26 (by decide) (hts _ kw_1408) (fun _ h9 => h9) rfl d_rcompareKeys_42 ?_
      refine lv_aload_n hx hb d_rcompareKeys_45 rfl (lv_at hl 1 rfl) ?_
      refine va_get (D := D) (ci := 12) (v := .ref (md 14)) (C := R_MM) (T := F_MM) (N := 77) hx hb hts i_MM hown hK hP 0 rfl rfl 14 (by decide) (hts _ kw_1396) (fun _ h9 => h9) rfl d_rcompareKeys_46 ?_
      refine lv_iload_n hx hb d_rcompareKeys_49 rfl (lv_at hl 3 rfl) ?_
      obtain ⟨hi_7, Heq⟩ := gd_some Heq
      refine va_iald hx hb hK hP 10 0 rfl rfl (i := x2) hi_7 d_rcompareKeys_50 ?_
      refine w_i (y := S.a 14 x2.toNatClampNeg) rfl ?_
      refine lv_iload_n hx hb d_rcompareKeys_51 rfl (lv_at hl 4 rfl) ?_
      refine lv_iadd hx hb d_rcompareKeys_52 ?_
      refine w_i (y := (S.a 14 x2.toNatClampNeg) + x3) rfl ?_
      obtain ⟨hi_8, Heq⟩ := gd_some Heq
      refine va_bald hx hb hK hP 20 1 rfl rfl (i := (S.a 14 x2.toNatClampNeg) + x3) hi_8 d_rcompareKeys_53 ?_
      refine w_i (y := S.a 26 (((S.a 14 x2.toNatClampNeg) + x3).toNatClampNeg)) rfl ?_
      refine lv_sipush (v := 255) hx hb d_rcompareKeys_54 (by decide) ?_
      refine lv_iand hx hb d_rcompareKeys_57 ?_
      refine w_i (y := (S.a 26 (((S.a 14 x2.toNatClampNeg) + x3).toNatClampNeg)) &&& 255) rfl ?_
      refine lv_istore (lv' := [(5, .int ((S.a 26 (((S.a 14 x2.toNatClampNeg) + x3).toNatClampNeg)) &&& 255)), (4, .int ((S.a 26 (((S.a 14 x1.toNatClampNeg) + x3).toNatClampNeg)) &&& 255)), (0, .ref (md 100)), (1, .int x1), (2, .int x2), (3, .int x3)]) hx hb d_rcompareKeys_58 hl (by decide) rfl (fun ls hl => ?_)
      refine lv_iload hx hb d_rcompareKeys_60 (lv_at hl 1 rfl) ?_
      refine lv_iload hx hb d_rcompareKeys_62 (lv_at hl 0 rfl) ?_
      refine lv_icmp_eq (tgt := 73) hx hb d_rcompareKeys_64 (by decide) (fun c_9 => ?_) (fun c_9 => ?_)
      · replace Heq := (if_pos c_9).symm.trans Heq
        refine lv_iinc (v := x3 + 1) (lv' := [(3, .int (x3 + 1)), (5, .int ((S.a 26 (((S.a 14 x2.toNatClampNeg) + x3).toNatClampNeg)) &&& 255)), (4, .int ((S.a 26 (((S.a 14 x1.toNatClampNeg) + x3).toNatClampNeg)) &&& 255)), (0, .ref (md 100)), (1, .int x1), (2, .int x2)]) hx hb d_rcompareKeys_73 hl (k := 5) rfl rfl (by decide) rfl (fun ls hl => ?_)
        refine lv_goto (tgt := 2) hx hb d_rcompareKeys_76 (by decide) ?_
        exact Ka _ (Option.some.inj Heq).symm _ _ _ hP hD hS (lv_sub hl [3, 4, 5, 0] rfl)
      · replace Heq := (if_neg c_9).symm.trans Heq
        refine lv_iload hx hb d_rcompareKeys_67 (lv_at hl 1 rfl) ?_
        refine lv_iload hx hb d_rcompareKeys_69 (lv_at hl 0 rfl) ?_
        refine lv_isub hx hb d_rcompareKeys_71 ?_
        refine w_i (y := ((S.a 26 (((S.a 14 x1.toNatClampNeg) + x3).toNatClampNeg)) &&& 255) - ((S.a 26 (((S.a 14 x2.toNatClampNeg) + x3).toNatClampNeg)) &&& 255)) rfl ?_
        exact Kr _ (Option.some.inj Heq).symm 72 _ _ _ d_rcompareKeys_72 hP hD hS
def m_rcompareKeys_L2 (S : MS) (x1 : Int32) (x2 : Int32) (x3 : Int32) : Option ((MS × Int32 × Int32) ⊕ (MS × Int32)) := lp (fun a : MS × Int32 × Int32 × Int32 => m_rcompareKeys_B2 a.1 a.2.1 a.2.2.1 a.2.2.2) FU (S, x1, x2, x3)
theorem w_rcompareKeys_L2 {p : Program} {l : Launch} {e : Env} {s : State} {m : MethodId} {args : Array Value} {below : List Frame} {meth : Method} {c : Code} {A : Nat → Prop} {D : va_G} {md : Nat → Nat} {mc : Nat → ClassId} {Q : State → Prop} (hC : MCx "JoinedTreesModel" prog_14_method_62_code 6 (some .int) p s m args meth c A D mc) {S : MS} {x1 : Int32} {x2 : Int32} {x3 : Int32} {o : ((MS × Int32 × Int32) ⊕ (MS × Int32))} (Heq : m_rcompareKeys_L2 S x1 x2 x3 = some o) (K0 : ∀ b : MS × Int32 × Int32, o = (.inl b) → ∀ (H : Heap) (locs : List Loc) (ls : Array Slot), va_P D cls (mw md mc b.1) H → va_D A (mw md mc b.1) → va_S A s.heap H locs → lv_has ls 6 [(0, .ref (md 100)), (1, .int b.2.1), (2, .int b.2.2)] → W p l e ({ frames := 0, cells := 0, slots := 0, locals := 0 }) s m args below meth c H locs 0 0 Q (F0 m 79 ls [])) (Kr : ∀ r : MS × Int32, o = (.inr r) → ∀ (pc : Nat) (H : Heap) (locs : List Loc) (ls : Array Slot), decode prog_14_method_62_code pc = .ok (.ireturn, 1) → va_P D cls (mw md mc r.1) H → va_D A (mw md mc r.1) → va_S A s.heap H locs → W p l e ({ frames := 0, cells := 0, slots := 0, locals := 0 }) s m args below meth c H locs 0 0 Q (F0 m pc ls [.int r.2])) : ∀ (H : Heap) (locs : List Loc) (ls : Array Slot), va_P D cls (mw md mc S) H → va_D A (mw md mc S) → va_S A s.heap H locs → lv_has ls 6 [(0, .ref (md 100)), (1, .int x1), (2, .int x2), (3, .int x3)] → W p l e ({ frames := 0, cells := 0, slots := 0, locals := 0 }) s m args below meth c H locs 0 0 Q (F0 m 2 ls []) := by
  refine lp_w (G := fun a : MS × Int32 × Int32 × Int32 => ∀ (H : Heap) (locs : List Loc) (ls : Array Slot), va_P D cls (mw md mc a.1) H → va_D A (mw md mc a.1) → va_S A s.heap H locs → lv_has ls 6 [(0, .ref (md 100)), (1, .int a.2.1), (2, .int a.2.2.1), (3, .int a.2.2.2)] → W p l e ({ frames := 0, cells := 0, slots := 0, locals := 0 }) s m args below meth c H locs 0 0 Q (F0 m 2 ls [])) ?_ FU (S, x1, x2, x3) Heq
  intro a o1 ho Ka Ke
  exact w_rcompareKeys_B2 hC ho (fun b h => Ka b h) (fun b h => K0 b (Ke _ h).symm) (fun r h => Kr r (Ke _ h).symm)
def m_rcompareKeys_J79 (S : MS) (x1 : Int32) (x2 : Int32) : Option (MS × Int32) := gd x1 4000 (gd x2 4000 (some (S, (S.a 15 x1.toNatClampNeg) - (S.a 15 x2.toNatClampNeg))))
theorem d_rcompareKeys_79 : decode prog_14_method_62_code 79 = .ok (.aload_n 0, 1) := by decide +kernel
theorem d_rcompareKeys_80 : decode prog_14_method_62_code 80 = .ok (.getfield 41, 3) := by decide +kernel
theorem d_rcompareKeys_83 : decode prog_14_method_62_code 83 = .ok (.iload_n 1, 1) := by decide +kernel
theorem d_rcompareKeys_84 : decode prog_14_method_62_code 84 = .ok (.iaload, 1) := by decide +kernel
theorem d_rcompareKeys_85 : decode prog_14_method_62_code 85 = .ok (.aload_n 0, 1) := by decide +kernel
theorem d_rcompareKeys_86 : decode prog_14_method_62_code 86 = .ok (.getfield 41, 3) := by decide +kernel
theorem d_rcompareKeys_89 : decode prog_14_method_62_code 89 = .ok (.iload_n 2, 1) := by decide +kernel
theorem d_rcompareKeys_90 : decode prog_14_method_62_code 90 = .ok (.iaload, 1) := by decide +kernel
theorem d_rcompareKeys_91 : decode prog_14_method_62_code 91 = .ok (.isub, 1) := by decide +kernel
theorem d_rcompareKeys_92 : decode prog_14_method_62_code 92 = .ok (.ireturn, 1) := by decide +kernel
set_option maxHeartbeats 4000000 in
set_option maxRecDepth 100000 in
theorem w_rcompareKeys_J79 {p : Program} {l : Launch} {e : Env} {s : State} {m : MethodId} {args : Array Value} {below : List Frame} {meth : Method} {c : Code} {A : Nat → Prop} {D : va_G} {md : Nat → Nat} {mc : Nat → ClassId} {Q : State → Prop} (hC : MCx "JoinedTreesModel" prog_14_method_62_code 6 (some .int) p s m args meth c A D mc) {S : MS} {x1 : Int32} {x2 : Int32} {o : MS × Int32} (Heq : m_rcompareKeys_J79 S x1 x2 = some o) (Kr : ∀ r : MS × Int32, o = r → ∀ (pc : Nat) (H : Heap) (locs : List Loc) (ls : Array Slot), decode prog_14_method_62_code pc = .ok (.ireturn, 1) → va_P D cls (mw md mc r.1) H → va_D A (mw md mc r.1) → va_S A s.heap H locs → W p l e ({ frames := 0, cells := 0, slots := 0, locals := 0 }) s m args below meth c H locs 0 0 Q (F0 m pc ls [.int r.2])) : ∀ (H : Heap) (locs : List Loc) (ls : Array Slot), va_P D cls (mw md mc S) H → va_D A (mw md mc S) → va_S A s.heap H locs → lv_has ls 6 [(0, .ref (md 100)), (1, .int x1), (2, .int x2)] → W p l e ({ frames := 0, cells := 0, slots := 0, locals := 0 }) s m args below meth c H locs 0 0 Q (F0 m 79 ls []) := by
  intro H locs ls hP hD hS hl
  obtain ⟨hx, hb, hr, hml, hown, hts, hK, hA⟩ := id hC
  unfold m_rcompareKeys_J79 at Heq
  refine lv_aload_n hx hb d_rcompareKeys_79 rfl (lv_at hl 0 rfl) ?_
  refine va_get (D := D) (ci := 12) (v := .ref (md 15)) (C := R_MM) (T := F_MM) (N := 77) hx hb hts i_MM hown hK hP 0 rfl rfl 15 (by decide) (hts _ kw_1397) (fun _ h9 => h9) rfl d_rcompareKeys_80 ?_
  refine lv_iload_n hx hb d_rcompareKeys_83 rfl (lv_at hl 1 rfl) ?_
  obtain ⟨hi_1, Heq⟩ := gd_some Heq
  refine va_iald hx hb hK hP 11 0 rfl rfl (i := x1) hi_1 d_rcompareKeys_84 ?_
  refine w_i (y := S.a 15 x1.toNatClampNeg) rfl ?_
  refine lv_aload_n hx hb d_rcompareKeys_85 rfl (lv_at hl 0 rfl) ?_
  refine va_get (D := D) (ci := 12) (v := .ref (md 15)) (C := R_MM) (T := F_MM) (N := 77) hx hb hts i_MM hown hK hP 0 rfl rfl 15 (by decide) (hts _ kw_1397) (fun _ h9 => h9) rfl d_rcompareKeys_86 ?_
  refine lv_iload_n hx hb d_rcompareKeys_89 rfl (lv_at hl 2 rfl) ?_
  obtain ⟨hi_2, Heq⟩ := gd_some Heq
  refine va_iald hx hb hK hP 11 0 rfl rfl (i := x2) hi_2 d_rcompareKeys_90 ?_
  refine w_i (y := S.a 15 x2.toNatClampNeg) rfl ?_
  refine lv_isub hx hb d_rcompareKeys_91 ?_
  refine w_i (y := (S.a 15 x1.toNatClampNeg) - (S.a 15 x2.toNatClampNeg)) rfl ?_
  exact Kr _ (Option.some.inj Heq).symm 92 _ _ _ d_rcompareKeys_92 hP hD hS
def m_rcompareKeys_J0 (S : MS) (x1 : Int32) (x2 : Int32) : Option (MS × Int32) := oe (m_rcompareKeys_L2 S x1 x2 0) (fun b_1 => m_rcompareKeys_J79 b_1.1 b_1.2.1 b_1.2.2) (fun r_3 => some r_3)
set_option maxHeartbeats 4000000 in
set_option maxRecDepth 100000 in
theorem w_rcompareKeys_J0 {p : Program} {l : Launch} {e : Env} {s : State} {m : MethodId} {args : Array Value} {below : List Frame} {meth : Method} {c : Code} {A : Nat → Prop} {D : va_G} {md : Nat → Nat} {mc : Nat → ClassId} {Q : State → Prop} (hC : MCx "JoinedTreesModel" prog_14_method_62_code 6 (some .int) p s m args meth c A D mc) {S : MS} {x1 : Int32} {x2 : Int32} {o : MS × Int32} (Heq : m_rcompareKeys_J0 S x1 x2 = some o) (Kr : ∀ r : MS × Int32, o = r → ∀ (pc : Nat) (H : Heap) (locs : List Loc) (ls : Array Slot), decode prog_14_method_62_code pc = .ok (.ireturn, 1) → va_P D cls (mw md mc r.1) H → va_D A (mw md mc r.1) → va_S A s.heap H locs → W p l e ({ frames := 0, cells := 0, slots := 0, locals := 0 }) s m args below meth c H locs 0 0 Q (F0 m pc ls [.int r.2])) : ∀ (H : Heap) (locs : List Loc) (ls : Array Slot), va_P D cls (mw md mc S) H → va_D A (mw md mc S) → va_S A s.heap H locs → lv_has ls 6 [(0, .ref (md 100)), (1, .int x1), (2, .int x2)] → W p l e ({ frames := 0, cells := 0, slots := 0, locals := 0 }) s m args below meth c H locs 0 0 Q (F0 m 0 ls []) := by
  intro H locs ls hP hD hS hl
  obtain ⟨hx, hb, hr, hml, hown, hts, hK, hA⟩ := id hC
  unfold m_rcompareKeys_J0 at Heq
  refine lv_iconst (v := 0) hx hb d_rcompareKeys_0 (by decide) ?_
  refine lv_istore_n (lv' := [(3, .int 0), (0, .ref (md 100)), (1, .int x1), (2, .int x2)]) hx hb d_rcompareKeys_1 rfl hl (by decide) rfl (fun ls hl => ?_)
  rcases oe_some Heq with ⟨b_1, h_2, Heq⟩ | ⟨r_3, h_2, Heq⟩
  · refine w_rcompareKeys_L2 hC h_2 (fun b h => ?_) (fun r h => by cases h) _ _ _ hP hD hS (lv_sub hl [1, 2, 3, 0] rfl)
    cases h
    intro H locs ls hP hD hS hl
    exact w_rcompareKeys_J79 hC Heq Kr _ _ _ hP hD hS (lv_sub hl [0, 1, 2] rfl)
  · refine w_rcompareKeys_L2 hC h_2 (fun b h => by cases h) (fun r h => ?_) _ _ _ hP hD hS (lv_sub hl [1, 2, 3, 0] rfl)
    cases h
    exact Kr _ (Option.some.inj Heq).symm
def m_rcompareKeys (S : MS) (x1 : Int32) (x2 : Int32) : Option (MS × Int32) := m_rcompareKeys_J0 S x1 x2
theorem g_rcompareKeys (l : Launch) (D : va_G) (sz : Nat) {md : Nat → Nat} {mc : Nat → ClassId} {S : MS} {x1 : Int32} {x2 : Int32} {o : MS × Int32} (Heq : m_rcompareKeys S x1 x2 = some o) : Met l ⟨"JoinedTreesModel", "compareKeys", "(II)I"⟩ (Cond.code ⟨"JoinedTreesModel", "compareKeys", "(II)I"⟩ prog_14_method_62_code 6 (some .int) :: gb) ({ frames := 0, cells := 0, slots := 0, locals := 0 }) (gPc D (mw md mc S) (mty mc) sz [.ref (md 100), .int x1, .int x2]) (va_Qi (fun (r : Int32) (_ : Unit) => r = o.2) (fun _ t => gO D (mw md mc o.1) (mty mc) (va_A (mw md mc S) sz) t) (va_A (mw md mc S) sz)) 0 0 (va_A (mw md mc S) sz) := by
  refine Met.ofW (cc := prog_14_method_62_code) (maxL := 6) (ret := (some .int)) (by decide) rfl ?_
  intro p e s m args below meth c s₁ B hml hv
  obtain ⟨rfl, hsz, hP, hK, hD0⟩ := hv
  have hx := B.exec
  have hb := B.bytes
  have hr := B.returns
  have hts : ∀ w9 ∈ gb, w9.before [.ref (md 100), .int x1, .int x2].toArray s = true := fun w9 h => atoms_spec (ws := Cond.code ⟨"JoinedTreesModel", "compareKeys", "(II)I"⟩ prog_14_method_62_code 6 (some .int) :: gb) B.pre w9 (List.mem_cons_of_mem _ h)
  have hown : s.vm.findClass "JoinedTreesModel" = some m.cls := findClass_of_methodNamed B.named
  have hlocks := B.notSynchronized
  subst hsz
  have hD := hD0.self (sz := s.heap.size)
  generalize hAe : va_A (mw md mc S) s.heap.size = A at hD ⊢
  have hA : ∀ q : Nat, s.heap.size ≤ q → A q := fun q h => by rw [← hAe]; exact Or.inr h
  have hS : va_S A s.heap s.heap [] := va_S.rf
  have hl := lv_entry ([.ref (md 100), .int x1, .int x2]) (n := 6) (Nat.le_of_ble_eq_true rfl)
  rw [lg_entry_eq]
  generalize (lg_sl ([.ref (md 100), .int x1, .int x2]) ++ List.replicate (6 - (lg_sl ([.ref (md 100), .int x1, .int x2])).length) Slot.unset).toArray = ls at hl ⊢
  have hl : lv_has ls 6 [(0, .ref (md 100)), (1, .int x1), (2, .int x2)] := hl
  refine w_rcompareKeys_J0 ⟨hx, hb, hr, hml, hown, hts, hK, hA⟩ Heq (fun r h pc H locs ls hd hP hD hS => ?_) _ _ _ hP hD hS (lv_sub hl [0, 1, 2] rfl)
  subst h
  exact W.iret hx hb hr (fun t ht hW => ⟨⟨_, (), rfl, rfl, by rw [ht]; exact hP, va_K.moved hW.alike hK, hD⟩, hS.F ht⟩) hS.2.2 hd
def m_rkeysOf_J178 (S : MS) (x1 : Int32) (x2 : Int32) (x3 : Int32) : Option ((MS × Int32 × Int32 × Int32) ⊕ MS) := some (.inl (S, x1, x2, (x3 + (-1))))
theorem d_rkeysOf_0 : decode prog_14_method_63_code 0 = .ok (.aload_n 0, 1) := by decide +kernel
theorem d_rkeysOf_1 : decode prog_14_method_63_code 1 = .ok (.iload_n 1, 1) := by decide +kernel
theorem d_rkeysOf_2 : decode prog_14_method_63_code 2 = .ok (.invokevirtual 206, 3) := by decide +kernel
theorem d_rkeysOf_5 : decode prog_14_method_63_code 5 = .ok (.aload_n 0, 1) := by decide +kernel
theorem d_rkeysOf_6 : decode prog_14_method_63_code 6 = .ok (.iconst 0, 1) := by decide +kernel
theorem d_rkeysOf_7 : decode prog_14_method_63_code 7 = .ok (.putfield 411, 3) := by decide +kernel
theorem d_rkeysOf_10 : decode prog_14_method_63_code 10 = .ok (.aload_n 0, 1) := by decide +kernel
theorem d_rkeysOf_11 : decode prog_14_method_63_code 11 = .ok (.getfield 195, 3) := by decide +kernel
theorem d_rkeysOf_14 : decode prog_14_method_63_code 14 = .ok (.iconst 1, 1) := by decide +kernel
theorem d_rkeysOf_15 : decode prog_14_method_63_code 15 = .ok (.isub, 1) := by decide +kernel
theorem d_rkeysOf_16 : decode prog_14_method_63_code 16 = .ok (.istore_n 3, 1) := by decide +kernel
theorem d_rkeysOf_17 : decode prog_14_method_63_code 17 = .ok (.iload_n 3, 1) := by decide +kernel
theorem d_rkeysOf_18 : decode prog_14_method_63_code 18 = .ok (.ifCond .lt 166, 3) := by decide +kernel
theorem d_rkeysOf_21 : decode prog_14_method_63_code 21 = .ok (.aload_n 0, 1) := by decide +kernel
theorem d_rkeysOf_22 : decode prog_14_method_63_code 22 = .ok (.getfield 75, 3) := by decide +kernel
theorem d_rkeysOf_25 : decode prog_14_method_63_code 25 = .ok (.iload_n 3, 1) := by decide +kernel
theorem d_rkeysOf_26 : decode prog_14_method_63_code 26 = .ok (.iaload, 1) := by decide +kernel
theorem d_rkeysOf_27 : decode prog_14_method_63_code 27 = .ok (.istore 4, 2) := by decide +kernel
theorem d_rkeysOf_29 : decode prog_14_method_63_code 29 = .ok (.aload_n 0, 1) := by decide +kernel
theorem d_rkeysOf_30 : decode prog_14_method_63_code 30 = .ok (.iload_n 1, 1) := by decide +kernel
theorem d_rkeysOf_31 : decode prog_14_method_63_code 31 = .ok (.iload 4, 2) := by decide +kernel
theorem d_rkeysOf_33 : decode prog_14_method_63_code 33 = .ok (.invokevirtual 213, 3) := by decide +kernel
theorem d_rkeysOf_36 : decode prog_14_method_63_code 36 = .ok (.ifCond .eq 142, 3) := by decide +kernel
theorem d_rkeysOf_178 : decode prog_14_method_63_code 178 = .ok (.iinc 3 (-1), 3) := by decide +kernel
theorem d_rkeysOf_181 : decode prog_14_method_63_code 181 = .ok (.goto (-164), 3) := by decide +kernel
set_option maxHeartbeats 4000000 in
set_option maxRecDepth 100000 in
theorem w_rkeysOf_J178 {p : Program} {l : Launch} {e : Env} {s : State} {m : MethodId} {args : Array Value} {below : List Frame} {meth : Method} {c : Code} {A : Nat → Prop} {D : va_G} {md : Nat → Nat} {mc : Nat → ClassId} {Q : State → Prop} (hC : MCx "JoinedTreesModel" prog_14_method_63_code 7 none p s m args meth c A D mc) {S : MS} {x1 : Int32} {x2 : Int32} {x3 : Int32} {o : ((MS × Int32 × Int32 × Int32) ⊕ MS)} (Heq : m_rkeysOf_J178 S x1 x2 x3 = some o) (Ka : ∀ b : MS × Int32 × Int32 × Int32, o = .inl b → ∀ (H : Heap) (locs : List Loc) (ls : Array Slot), va_P D cls (mw md mc b.1) H → va_D A (mw md mc b.1) → va_S A s.heap H locs → lv_has ls 7 [(0, .ref (md 100)), (1, .int b.2.1), (2, .int b.2.2.1), (3, .int b.2.2.2)] → W p l e ({ frames := 2, cells := 0, slots := 0, locals := 45 }) s m args below meth c H locs 0 0 Q (F0 m 17 ls [])) (K0 : ∀ b : MS, o = .inr b → ∀ (H : Heap) (locs : List Loc) (ls : Array Slot), va_P D cls (mw md mc b) H → va_D A (mw md mc b) → va_S A s.heap H locs → lv_has ls 7 [(0, .ref (md 100))] → W p l e ({ frames := 2, cells := 0, slots := 0, locals := 45 }) s m args below meth c H locs 0 0 Q (F0 m 184 ls [])) : ∀ (H : Heap) (locs : List Loc) (ls : Array Slot), va_P D cls (mw md mc S) H → va_D A (mw md mc S) → va_S A s.heap H locs → lv_has ls 7 [(0, .ref (md 100)), (1, .int x1), (2, .int x2), (3, .int x3)] → W p l e ({ frames := 2, cells := 0, slots := 0, locals := 45 }) s m args below meth c H locs 0 0 Q (F0 m 178 ls []) := by
  intro H locs ls hP hD hS hl
  obtain ⟨hx, hb, hr, hml, hown, hts, hK, hA⟩ := id hC
  unfold m_rkeysOf_J178 at Heq
  refine lv_iinc (v := x3 + (-1)) (lv' := [(3, .int (x3 + (-1))), (0, .ref (md 100)), (1, .int x1), (2, .int x2)]) hx hb d_rkeysOf_178 hl (k := 3) rfl rfl (by decide) rfl (fun ls hl => ?_)
  refine lv_goto (tgt := 17) hx hb d_rkeysOf_181 (by decide) ?_
  exact Ka _ (Option.some.inj Heq).symm _ _ _ hP hD hS (lv_sub hl [1, 2, 3, 0] rfl)
def m_rkeysOf_B69 (S : MS) (x1 : Int32) (x2 : Int32) (x3 : Int32) (x4 : Int32) (x5 : Int32) : Option ((MS × Int32 × Int32 × Int32 × Int32 × Int32) ⊕ (MS × Int32 × Int32 × Int32 × Int32 × Int32)) := (if x5 ≤ 0 then some (.inr (S, x1, x2, x3, x4, x5)) else gd (x5 - 1) 4000 (ob (m_rcompareKeys S (S.a 70 ((x5 - 1).toNatClampNeg)) x4) (fun o_3 => (if o_3.2 ≤ 0 then some (.inr (o_3.1, x1, x2, x3, x4, x5)) else some (.inl (o_3.1, x1, x2, x3, x4, (x5 + (-1))))))))
theorem d_rkeysOf_39 : decode prog_14_method_63_code 39 = .ok (.aload_n 0, 1) := by decide +kernel
theorem d_rkeysOf_40 : decode prog_14_method_63_code 40 = .ok (.getfield 23, 3) := by decide +kernel
theorem d_rkeysOf_43 : decode prog_14_method_63_code 43 = .ok (.iload 4, 2) := by decide +kernel
theorem d_rkeysOf_45 : decode prog_14_method_63_code 45 = .ok (.iaload, 1) := by decide +kernel
theorem d_rkeysOf_46 : decode prog_14_method_63_code 46 = .ok (.iload_n 2, 1) := by decide +kernel
theorem d_rkeysOf_47 : decode prog_14_method_63_code 47 = .ok (.if_icmp .ne 131, 3) := by decide +kernel
theorem d_rkeysOf_50 : decode prog_14_method_63_code 50 = .ok (.aload_n 0, 1) := by decide +kernel
theorem d_rkeysOf_51 : decode prog_14_method_63_code 51 = .ok (.getfield 41, 3) := by decide +kernel
theorem d_rkeysOf_54 : decode prog_14_method_63_code 54 = .ok (.iload 4, 2) := by decide +kernel
theorem d_rkeysOf_56 : decode prog_14_method_63_code 56 = .ok (.iaload, 1) := by decide +kernel
theorem d_rkeysOf_57 : decode prog_14_method_63_code 57 = .ok (.ifCond .ne 6, 3) := by decide +kernel
theorem d_rkeysOf_63 : decode prog_14_method_63_code 63 = .ok (.aload_n 0, 1) := by decide +kernel
theorem d_rkeysOf_64 : decode prog_14_method_63_code 64 = .ok (.getfield 411, 3) := by decide +kernel
theorem d_rkeysOf_67 : decode prog_14_method_63_code 67 = .ok (.istore 5, 2) := by decide +kernel
theorem d_rkeysOf_69 : decode prog_14_method_63_code 69 = .ok (.iload 5, 2) := by decide +kernel
theorem d_rkeysOf_71 : decode prog_14_method_63_code 71 = .ok (.ifCond .le 27, 3) := by decide +kernel
theorem d_rkeysOf_74 : decode prog_14_method_63_code 74 = .ok (.aload_n 0, 1) := by decide +kernel
theorem d_rkeysOf_75 : decode prog_14_method_63_code 75 = .ok (.aload_n 0, 1) := by decide +kernel
theorem d_rkeysOf_76 : decode prog_14_method_63_code 76 = .ok (.getfield 166, 3) := by decide +kernel
theorem d_rkeysOf_79 : decode prog_14_method_63_code 79 = .ok (.iload 5, 2) := by decide +kernel
theorem d_rkeysOf_81 : decode prog_14_method_63_code 81 = .ok (.iconst 1, 1) := by decide +kernel
theorem d_rkeysOf_82 : decode prog_14_method_63_code 82 = .ok (.isub, 1) := by decide +kernel
theorem d_rkeysOf_83 : decode prog_14_method_63_code 83 = .ok (.iaload, 1) := by decide +kernel
theorem d_rkeysOf_84 : decode prog_14_method_63_code 84 = .ok (.iload 4, 2) := by decide +kernel
theorem d_rkeysOf_86 : decode prog_14_method_63_code 86 = .ok (.invokevirtual 414, 3) := by decide +kernel
theorem d_rkeysOf_89 : decode prog_14_method_63_code 89 = .ok (.ifCond .le 9, 3) := by decide +kernel
theorem d_rkeysOf_92 : decode prog_14_method_63_code 92 = .ok (.iinc 5 (-1), 3) := by decide +kernel
theorem d_rkeysOf_95 : decode prog_14_method_63_code 95 = .ok (.goto (-26), 3) := by decide +kernel
set_option maxHeartbeats 4000000 in
set_option maxRecDepth 100000 in
theorem w_rkeysOf_B69 {p : Program} {l : Launch} {e : Env} {s : State} {m : MethodId} {args : Array Value} {below : List Frame} {meth : Method} {c : Code} {A : Nat → Prop} {D : va_G} {md : Nat → Nat} {mc : Nat → ClassId} {Q : State → Prop} (hC : MCx "JoinedTreesModel" prog_14_method_63_code 7 none p s m args meth c A D mc) {S : MS} {x1 : Int32} {x2 : Int32} {x3 : Int32} {x4 : Int32} {x5 : Int32} {o : ((MS × Int32 × Int32 × Int32 × Int32 × Int32) ⊕ (MS × Int32 × Int32 × Int32 × Int32 × Int32))} (Heq : m_rkeysOf_B69 S x1 x2 x3 x4 x5 = some o) (Ka : ∀ b : MS × Int32 × Int32 × Int32 × Int32 × Int32, o = .inl b → ∀ (H : Heap) (locs : List Loc) (ls : Array Slot), va_P D cls (mw md mc b.1) H → va_D A (mw md mc b.1) → va_S A s.heap H locs → lv_has ls 7 [(0, .ref (md 100)), (1, .int b.2.1), (2, .int b.2.2.1), (3, .int b.2.2.2.1), (4, .int b.2.2.2.2.1), (5, .int b.2.2.2.2.2)] → W p l e ({ frames := 2, cells := 0, slots := 0, locals := 45 }) s m args below meth c H locs 0 0 Q (F0 m 69 ls [])) (K0 : ∀ b : MS × Int32 × Int32 × Int32 × Int32 × Int32, o = .inr b → ∀ (H : Heap) (locs : List Loc) (ls : Array Slot), va_P D cls (mw md mc b.1) H → va_D A (mw md mc b.1) → va_S A s.heap H locs → lv_has ls 7 [(0, .ref (md 100)), (1, .int b.2.1), (2, .int b.2.2.1), (3, .int b.2.2.2.1), (4, .int b.2.2.2.2.1), (5, .int b.2.2.2.2.2)] → W p l e ({ frames := 2, cells := 0, slots := 0, locals := 45 }) s m args below meth c H locs 0 0 Q (F0 m 98 ls [])) : ∀ (H : Heap) (locs : List Loc) (ls : Array Slot), va_P D cls (mw md mc S) H → va_D A (mw md mc S) → va_S A s.heap H locs → lv_has ls 7 [(0, .ref (md 100)), (1, .int x1), (2, .int x2), (3, .int x3), (4, .int x4), (5, .int x5)] → W p l e ({ frames := 2, cells := 0, slots := 0, locals := 45 }) s m args below meth c H locs 0 0 Q (F0 m 69 ls []) := by
  intro H locs ls hP hD hS hl
  obtain ⟨hx, hb, hr, hml, hown, hts, hK, hA⟩ := id hC
  unfold m_rkeysOf_B69 at Heq
  refine lv_iload hx hb d_rkeysOf_69 (lv_at hl 5 rfl) ?_
  refine lv_if_le (tgt := 98) hx hb d_rkeysOf_71 (by decide) (fun c_1 => ?_) (fun c_1 => ?_)
  · replace Heq := (if_pos c_1).symm.trans Heq
    exact K0 _ (Option.some.inj Heq).symm _ _ _ hP hD hS (lv_sub hl [0, 1, 2, 3, 4, 5] rfl)
  · replace Heq := (if_neg c_1).symm.trans Heq
    refine lv_aload_n hx hb d_rkeysOf_74 rfl (lv_at hl 0 rfl) ?_
    refine lv_aload_n hx hb d_rkeysOf_75 rfl (lv_at hl 0 rfl) ?_
    refine va_get (D := D) (ci := 12) (v := .ref (md 70)) (C := R_MM) (T := F_MM) (N := 77) hx hb hts i_MM hown hK hP 0 rfl rfl 70 (by decide) (hts _ kw_1452) (fun _ h9 => h9) rfl d_rkeysOf_76 ?_
    refine lv_iload hx hb d_rkeysOf_79 (lv_at hl 5 rfl) ?_
    refine lv_iconst (v := 1) hx hb d_rkeysOf_81 (by decide) ?_
    refine lv_isub hx hb d_rkeysOf_82 ?_
    refine w_i (y := x5 - 1) rfl ?_
    obtain ⟨hi_2, Heq⟩ := gd_some Heq
    refine va_iald hx hb hK hP 46 0 rfl rfl (i := x5 - 1) hi_2 d_rkeysOf_83 ?_
    refine w_i (y := S.a 70 ((x5 - 1).toNatClampNeg)) rfl ?_
    refine lv_iload hx hb d_rkeysOf_84 (lv_at hl 4 rfl) ?_
    obtain ⟨o_3, h_4, Heq⟩ := ob_some Heq
    have hFc := fr_all hD hS hA
    refine va_calli (va_runV (As := [.int (S.a 70 ((x5 - 1).toNatClampNeg)), .int x4]) (rest := []) ⟨hx, hb, hml, hown, hts⟩ (g_rcompareKeys l D H.size h_4) (cw_v 2 hts kw_1867 kw_1864 kw_1866 kp_71 kw_11 rfl rfl (by decide +kernel) ⟨Nat.le_of_ble_eq_true rfl, Nat.le_of_ble_eq_true rfl⟩) ⟨g_blind, va_recv hK hP (ci := 12) (q0 := 0) rfl rfl, fun U hU hW => g_pre hU hW hP hK hD⟩ rfl rfl hl.1 rfl (lv_room (Nat.le_of_ble_eq_true rfl)) d_rkeysOf_86 ⟨Nat.le_of_ble_eq_true rfl, Nat.le_of_ble_eq_true rfl⟩) hS (fun q _ h => hFc q h) hFc (fun rz u t H1 locs ht hvm hw hB hz1 hk1 hS => ?_)
    obtain ⟨hP, -, hD1⟩ := hB
    rw [ht] at hP
    have hD := hD1.weaken (fun _ q _ h => hFc q.1 h)
    generalize H1 = H at hP hS ⊢
    refine W.cs (cells' := 0) (slots' := 0) rfl rfl ?_
    subst hw
    refine lv_if_le (tgt := 98) hx hb d_rkeysOf_89 (by decide) (fun c_5 => ?_) (fun c_5 => ?_)
    · replace Heq := (if_pos c_5).symm.trans Heq
      exact K0 _ (Option.some.inj Heq).symm _ _ _ hP hD hS (lv_sub hl [0, 1, 2, 3, 4, 5] rfl)
    · replace Heq := (if_neg c_5).symm.trans Heq
      refine lv_iinc (v := x5 + (-1)) (lv' := [(5, .int (x5 + (-1))), (0, .ref (md 100)), (1, .int x1), (2, .int x2), (3, .int x3), (4, .int x4)]) hx hb d_rkeysOf_92 hl (k := 5) rfl rfl (by decide) rfl (fun ls hl => ?_)
      refine lv_goto (tgt := 69) hx hb d_rkeysOf_95 (by decide) ?_
      exact Ka _ (Option.some.inj Heq).symm _ _ _ hP hD hS (lv_sub hl [1, 2, 3, 4, 5, 0] rfl)
def m_rkeysOf_L69 (S : MS) (x1 : Int32) (x2 : Int32) (x3 : Int32) (x4 : Int32) (x5 : Int32) : Option (MS × Int32 × Int32 × Int32 × Int32 × Int32) := lp (fun a : MS × Int32 × Int32 × Int32 × Int32 × Int32 => m_rkeysOf_B69 a.1 a.2.1 a.2.2.1 a.2.2.2.1 a.2.2.2.2.1 a.2.2.2.2.2) FU (S, x1, x2, x3, x4, x5)
theorem w_rkeysOf_L69 {p : Program} {l : Launch} {e : Env} {s : State} {m : MethodId} {args : Array Value} {below : List Frame} {meth : Method} {c : Code} {A : Nat → Prop} {D : va_G} {md : Nat → Nat} {mc : Nat → ClassId} {Q : State → Prop} (hC : MCx "JoinedTreesModel" prog_14_method_63_code 7 none p s m args meth c A D mc) {S : MS} {x1 : Int32} {x2 : Int32} {x3 : Int32} {x4 : Int32} {x5 : Int32} {o : MS × Int32 × Int32 × Int32 × Int32 × Int32} (Heq : m_rkeysOf_L69 S x1 x2 x3 x4 x5 = some o) (K0 : ∀ b : MS × Int32 × Int32 × Int32 × Int32 × Int32, o = b → ∀ (H : Heap) (locs : List Loc) (ls : Array Slot), va_P D cls (mw md mc b.1) H → va_D A (mw md mc b.1) → va_S A s.heap H locs → lv_has ls 7 [(0, .ref (md 100)), (1, .int b.2.1), (2, .int b.2.2.1), (3, .int b.2.2.2.1), (4, .int b.2.2.2.2.1), (5, .int b.2.2.2.2.2)] → W p l e ({ frames := 2, cells := 0, slots := 0, locals := 45 }) s m args below meth c H locs 0 0 Q (F0 m 98 ls [])) : ∀ (H : Heap) (locs : List Loc) (ls : Array Slot), va_P D cls (mw md mc S) H → va_D A (mw md mc S) → va_S A s.heap H locs → lv_has ls 7 [(0, .ref (md 100)), (1, .int x1), (2, .int x2), (3, .int x3), (4, .int x4), (5, .int x5)] → W p l e ({ frames := 2, cells := 0, slots := 0, locals := 45 }) s m args below meth c H locs 0 0 Q (F0 m 69 ls []) := by
  refine lp_w (G := fun a : MS × Int32 × Int32 × Int32 × Int32 × Int32 => ∀ (H : Heap) (locs : List Loc) (ls : Array Slot), va_P D cls (mw md mc a.1) H → va_D A (mw md mc a.1) → va_S A s.heap H locs → lv_has ls 7 [(0, .ref (md 100)), (1, .int a.2.1), (2, .int a.2.2.1), (3, .int a.2.2.2.1), (4, .int a.2.2.2.2.1), (5, .int a.2.2.2.2.2)] → W p l e ({ frames := 2, cells := 0, slots := 0, locals := 45 }) s m args below meth c H locs 0 0 Q (F0 m 69 ls [])) ?_ FU (S, x1, x2, x3, x4, x5) Heq
  intro a o1 ho Ka Ke
  exact w_rkeysOf_B69 hC ho (fun b h => Ka b h) (fun b h => K0 b (Ke _ h).symm)
def m_rkeysOf_B130 (S : MS) (x1 : Int32) (x2 : Int32) (x3 : Int32) (x4 : Int32) (x5 : Int32) (x6 : Int32) : Option ((MS × Int32 × Int32 × Int32 × Int32 × Int32 × Int32) ⊕ (MS × Int32 × Int32 × Int32 × Int32 × Int32)) := (if x6 ≤ x5 then some (.inr (S, x1, x2, x3, x4, x5)) else gd (x6 - 1) 4000 (gd x6 4000 (some (.inl ((S.setA 70 (upd (S.a 70) x6.toNatClampNeg (S.a 70 ((x6 - 1).toNatClampNeg)))), x1, x2, x3, x4, x5, (x6 + (-1)))))))
theorem d_rkeysOf_98 : decode prog_14_method_63_code 98 = .ok (.iload 5, 2) := by decide +kernel
theorem d_rkeysOf_100 : decode prog_14_method_63_code 100 = .ok (.ifCond .le 24, 3) := by decide +kernel
theorem d_rkeysOf_124 : decode prog_14_method_63_code 124 = .ok (.aload_n 0, 1) := by decide +kernel
theorem d_rkeysOf_125 : decode prog_14_method_63_code 125 = .ok (.getfield 411, 3) := by decide +kernel
theorem d_rkeysOf_128 : decode prog_14_method_63_code 128 = .ok (.istore 6, 2) := by decide +kernel
theorem d_rkeysOf_130 : decode prog_14_method_63_code 130 = .ok (.iload 6, 2) := by decide +kernel
theorem d_rkeysOf_132 : decode prog_14_method_63_code 132 = .ok (.iload 5, 2) := by decide +kernel
theorem d_rkeysOf_134 : decode prog_14_method_63_code 134 = .ok (.if_icmp .le 25, 3) := by decide +kernel
theorem d_rkeysOf_137 : decode prog_14_method_63_code 137 = .ok (.aload_n 0, 1) := by decide +kernel
theorem d_rkeysOf_138 : decode prog_14_method_63_code 138 = .ok (.getfield 166, 3) := by decide +kernel
theorem d_rkeysOf_141 : decode prog_14_method_63_code 141 = .ok (.iload 6, 2) := by decide +kernel
theorem d_rkeysOf_143 : decode prog_14_method_63_code 143 = .ok (.aload_n 0, 1) := by decide +kernel
theorem d_rkeysOf_144 : decode prog_14_method_63_code 144 = .ok (.getfield 166, 3) := by decide +kernel
theorem d_rkeysOf_147 : decode prog_14_method_63_code 147 = .ok (.iload 6, 2) := by decide +kernel
theorem d_rkeysOf_149 : decode prog_14_method_63_code 149 = .ok (.iconst 1, 1) := by decide +kernel
theorem d_rkeysOf_150 : decode prog_14_method_63_code 150 = .ok (.isub, 1) := by decide +kernel
theorem d_rkeysOf_151 : decode prog_14_method_63_code 151 = .ok (.iaload, 1) := by decide +kernel
theorem d_rkeysOf_152 : decode prog_14_method_63_code 152 = .ok (.iastore, 1) := by decide +kernel
theorem d_rkeysOf_153 : decode prog_14_method_63_code 153 = .ok (.iinc 6 (-1), 3) := by decide +kernel
theorem d_rkeysOf_156 : decode prog_14_method_63_code 156 = .ok (.goto (-26), 3) := by decide +kernel
set_option maxHeartbeats 4000000 in
set_option maxRecDepth 100000 in
theorem w_rkeysOf_B130 {p : Program} {l : Launch} {e : Env} {s : State} {m : MethodId} {args : Array Value} {below : List Frame} {meth : Method} {c : Code} {A : Nat → Prop} {D : va_G} {md : Nat → Nat} {mc : Nat → ClassId} {Q : State → Prop} (hC : MCx "JoinedTreesModel" prog_14_method_63_code 7 none p s m args meth c A D mc) {S : MS} {x1 : Int32} {x2 : Int32} {x3 : Int32} {x4 : Int32} {x5 : Int32} {x6 : Int32} {o : ((MS × Int32 × Int32 × Int32 × Int32 × Int32 × Int32) ⊕ (MS × Int32 × Int32 × Int32 × Int32 × Int32))} (Heq : m_rkeysOf_B130 S x1 x2 x3 x4 x5 x6 = some o) (Ka : ∀ b : MS × Int32 × Int32 × Int32 × Int32 × Int32 × Int32, o = .inl b → ∀ (H : Heap) (locs : List Loc) (ls : Array Slot), va_P D cls (mw md mc b.1) H → va_D A (mw md mc b.1) → va_S A s.heap H locs → lv_has ls 7 [(0, .ref (md 100)), (1, .int b.2.1), (2, .int b.2.2.1), (3, .int b.2.2.2.1), (4, .int b.2.2.2.2.1), (5, .int b.2.2.2.2.2.1), (6, .int b.2.2.2.2.2.2)] → W p l e ({ frames := 2, cells := 0, slots := 0, locals := 45 }) s m args below meth c H locs 0 0 Q (F0 m 130 ls [])) (K0 : ∀ b : MS × Int32 × Int32 × Int32 × Int32 × Int32, o = .inr b → ∀ (H : Heap) (locs : List Loc) (ls : Array Slot), va_P D cls (mw md mc b.1) H → va_D A (mw md mc b.1) → va_S A s.heap H locs → lv_has ls 7 [(0, .ref (md 100)), (1, .int b.2.1), (2, .int b.2.2.1), (3, .int b.2.2.2.1), (4, .int b.2.2.2.2.1), (5, .int b.2.2.2.2.2)] → W p l e ({ frames := 2, cells := 0, slots := 0, locals := 45 }) s m args below meth c H locs 0 0 Q (F0 m 159 ls [])) : ∀ (H : Heap) (locs : List Loc) (ls : Array Slot), va_P D cls (mw md mc S) H → va_D A (mw md mc S) → va_S A s.heap H locs → lv_has ls 7 [(0, .ref (md 100)), (1, .int x1), (2, .int x2), (3, .int x3), (4, .int x4), (5, .int x5), (6, .int x6)] → W p l e ({ frames := 2, cells := 0, slots := 0, locals := 45 }) s m args below meth c H locs 0 0 Q (F0 m 130 ls []) := by
  intro H locs ls hP hD hS hl
  obtain ⟨hx, hb, hr, hml, hown, hts, hK, hA⟩ := id hC
  unfold m_rkeysOf_B130 at Heq
  refine lv_iload hx hb d_rkeysOf_130 (lv_at hl 6 rfl) ?_
  refine lv_iload hx hb d_rkeysOf_132 (lv_at hl 5 rfl) ?_
  refine lv_icmp_le (tgt := 159) hx hb d_rkeysOf_134 (by decide) (fun c_1 => ?_) (fun c_1 => ?_)
  · replace Heq := (if_pos c_1).symm.trans Heq
    exact K0 _ (Option.some.inj Heq).symm _ _ _ hP hD hS (lv_sub hl [0, 1, 2, 3, 4, 5] rfl)
  · replace Heq := (if_neg c_1).symm.trans Heq
    refine lv_aload_n hx hb d_rkeysOf_137 rfl (lv_at hl 0 rfl) ?_
    refine va_get (D := D) (ci := 12) (v := .ref (md 70)) (C := R_MM) (T := F_MM) (N := 77) hx hb hts i_MM hown hK hP 0 rfl rfl 70 (by decide) (hts _ kw_1452) (fun _ h9 => h9) rfl d_rkeysOf_138 ?_
    refine lv_iload hx hb d_rkeysOf_141 (lv_at hl 6 rfl) ?_
    refine lv_aload_n hx hb d_rkeysOf_143 rfl (lv_at hl 0 rfl) ?_
    refine va_get (D := D) (ci := 12) (v := .ref (md 70)) (C := R_MM) (T := F_MM) (N := 77) hx hb hts i_MM hown hK hP 0 rfl rfl 70 (by decide) (hts _ kw_1452) (fun _ h9 => h9) rfl d_rkeysOf_144 ?_
    refine lv_iload hx hb d_rkeysOf_147 (lv_at hl 6 rfl) ?_
    refine lv_iconst (v := 1) hx hb d_rkeysOf_149 (by decide) ?_
    refine lv_isub hx hb d_rkeysOf_150 ?_
    refine w_i (y := x6 - 1) rfl ?_
    obtain ⟨hi_2, Heq⟩ := gd_some Heq
    refine va_iald hx hb hK hP 46 0 rfl rfl (i := x6 - 1) hi_2 d_rkeysOf_151 ?_
    refine w_i (y := S.a 70 ((x6 - 1).toNatClampNeg)) rfl ?_
    obtain ⟨hi_3, Heq⟩ := gd_some Heq
    refine va_iast hx hb hK hP hD hS 46 0 rfl rfl (i := x6) (x := S.a 70 ((x6 - 1).toNatClampNeg)) hi_3 d_rkeysOf_152 (fun H locs hP hD hS => ?_)
    rw [mw_A70] at hP hD
    refine lv_iinc (v := x6 + (-1)) (lv' := [(6, .int (x6 + (-1))), (0, .ref (md 100)), (1, .int x1), (2, .int x2), (3, .int x3), (4, .int x4), (5, .int x5)]) hx hb d_rkeysOf_153 hl (k := 6) rfl rfl (by decide) rfl (fun ls hl => ?_)
    refine lv_goto (tgt := 130) hx hb d_rkeysOf_156 (by decide) ?_
    exact Ka _ (Option.some.inj Heq).symm _ _ _ hP hD hS (lv_sub hl [1, 2, 3, 4, 5, 6, 0] rfl)
def m_rkeysOf_L130 (S : MS) (x1 : Int32) (x2 : Int32) (x3 : Int32) (x4 : Int32) (x5 : Int32) (x6 : Int32) : Option (MS × Int32 × Int32 × Int32 × Int32 × Int32) := lp (fun a : MS × Int32 × Int32 × Int32 × Int32 × Int32 × Int32 => m_rkeysOf_B130 a.1 a.2.1 a.2.2.1 a.2.2.2.1 a.2.2.2.2.1 a.2.2.2.2.2.1 a.2.2.2.2.2.2) FU (S, x1, x2, x3, x4, x5, x6)
theorem w_rkeysOf_L130 {p : Program} {l : Launch} {e : Env} {s : State} {m : MethodId} {args : Array Value} {below : List Frame} {meth : Method} {c : Code} {A : Nat → Prop} {D : va_G} {md : Nat → Nat} {mc : Nat → ClassId} {Q : State → Prop} (hC : MCx "JoinedTreesModel" prog_14_method_63_code 7 none p s m args meth c A D mc) {S : MS} {x1 : Int32} {x2 : Int32} {x3 : Int32} {x4 : Int32} {x5 : Int32} {x6 : Int32} {o : MS × Int32 × Int32 × Int32 × Int32 × Int32} (Heq : m_rkeysOf_L130 S x1 x2 x3 x4 x5 x6 = some o) (K0 : ∀ b : MS × Int32 × Int32 × Int32 × Int32 × Int32, o = b → ∀ (H : Heap) (locs : List Loc) (ls : Array Slot), va_P D cls (mw md mc b.1) H → va_D A (mw md mc b.1) → va_S A s.heap H locs → lv_has ls 7 [(0, .ref (md 100)), (1, .int b.2.1), (2, .int b.2.2.1), (3, .int b.2.2.2.1), (4, .int b.2.2.2.2.1), (5, .int b.2.2.2.2.2)] → W p l e ({ frames := 2, cells := 0, slots := 0, locals := 45 }) s m args below meth c H locs 0 0 Q (F0 m 159 ls [])) : ∀ (H : Heap) (locs : List Loc) (ls : Array Slot), va_P D cls (mw md mc S) H → va_D A (mw md mc S) → va_S A s.heap H locs → lv_has ls 7 [(0, .ref (md 100)), (1, .int x1), (2, .int x2), (3, .int x3), (4, .int x4), (5, .int x5), (6, .int x6)] → W p l e ({ frames := 2, cells := 0, slots := 0, locals := 45 }) s m args below meth c H locs 0 0 Q (F0 m 130 ls []) := by
  refine lp_w (G := fun a : MS × Int32 × Int32 × Int32 × Int32 × Int32 × Int32 => ∀ (H : Heap) (locs : List Loc) (ls : Array Slot), va_P D cls (mw md mc a.1) H → va_D A (mw md mc a.1) → va_S A s.heap H locs → lv_has ls 7 [(0, .ref (md 100)), (1, .int a.2.1), (2, .int a.2.2.1), (3, .int a.2.2.2.1), (4, .int a.2.2.2.2.1), (5, .int a.2.2.2.2.2.1), (6, .int a.2.2.2.2.2.2)] → W p l e ({ frames := 2, cells := 0, slots := 0, locals := 45 }) s m args below meth c H locs 0 0 Q (F0 m 130 ls [])) ?_ FU (S, x1, x2, x3, x4, x5, x6) Heq
  intro a o1 ho Ka Ke
  exact w_rkeysOf_B130 hC ho (fun b h => Ka b h) (fun b h => K0 b (Ke _ h).symm)
def m_rkeysOf_J124 (S : MS) (x1 : Int32) (x2 : Int32) (x3 : Int32) (x4 : Int32) (x5 : Int32) : Option ((MS × Int32 × Int32 × Int32) ⊕ MS) := ob (m_rkeysOf_L130 S x1 x2 x3 x4 x5 (S.i 71)) (fun b_1 => gd b_1.2.2.2.2.2 4000 (m_rkeysOf_J178 ((b_1.1.setA 70 (upd (b_1.1.a 70) b_1.2.2.2.2.2.toNatClampNeg b_1.2.2.2.2.1)).setI 71 ((b_1.1.i 71) + 1)) b_1.2.1 b_1.2.2.1 b_1.2.2.2.1))
theorem d_rkeysOf_159 : decode prog_14_method_63_code 159 = .ok (.aload_n 0, 1) := by decide +kernel
theorem d_rkeysOf_160 : decode prog_14_method_63_code 160 = .ok (.getfield 166, 3) := by decide +kernel
theorem d_rkeysOf_163 : decode prog_14_method_63_code 163 = .ok (.iload 5, 2) := by decide +kernel
theorem d_rkeysOf_165 : decode prog_14_method_63_code 165 = .ok (.iload 4, 2) := by decide +kernel
theorem d_rkeysOf_167 : decode prog_14_method_63_code 167 = .ok (.iastore, 1) := by decide +kernel
theorem d_rkeysOf_168 : decode prog_14_method_63_code 168 = .ok (.aload_n 0, 1) := by decide +kernel
theorem d_rkeysOf_169 : decode prog_14_method_63_code 169 = .ok (.dup, 1) := by decide +kernel
theorem d_rkeysOf_170 : decode prog_14_method_63_code 170 = .ok (.getfield 411, 3) := by decide +kernel
theorem d_rkeysOf_173 : decode prog_14_method_63_code 173 = .ok (.iconst 1, 1) := by decide +kernel
theorem d_rkeysOf_174 : decode prog_14_method_63_code 174 = .ok (.iadd, 1) := by decide +kernel
theorem d_rkeysOf_175 : decode prog_14_method_63_code 175 = .ok (.putfield 411, 3) := by decide +kernel
set_option maxHeartbeats 4000000 in
set_option maxRecDepth 100000 in
theorem w_rkeysOf_J124 {p : Program} {l : Launch} {e : Env} {s : State} {m : MethodId} {args : Array Value} {below : List Frame} {meth : Method} {c : Code} {A : Nat → Prop} {D : va_G} {md : Nat → Nat} {mc : Nat → ClassId} {Q : State → Prop} (hC : MCx "JoinedTreesModel" prog_14_method_63_code 7 none p s m args meth c A D mc) {S : MS} {x1 : Int32} {x2 : Int32} {x3 : Int32} {x4 : Int32} {x5 : Int32} {o : ((MS × Int32 × Int32 × Int32) ⊕ MS)} (Heq : m_rkeysOf_J124 S x1 x2 x3 x4 x5 = some o) (Ka : ∀ b : MS × Int32 × Int32 × Int32, o = .inl b → ∀ (H : Heap) (locs : List Loc) (ls : Array Slot), va_P D cls (mw md mc b.1) H → va_D A (mw md mc b.1) → va_S A s.heap H locs → lv_has ls 7 [(0, .ref (md 100)), (1, .int b.2.1), (2, .int b.2.2.1), (3, .int b.2.2.2)] → W p l e ({ frames := 2, cells := 0, slots := 0, locals := 45 }) s m args below meth c H locs 0 0 Q (F0 m 17 ls [])) (K0 : ∀ b : MS, o = .inr b → ∀ (H : Heap) (locs : List Loc) (ls : Array Slot), va_P D cls (mw md mc b) H → va_D A (mw md mc b) → va_S A s.heap H locs → lv_has ls 7 [(0, .ref (md 100))] → W p l e ({ frames := 2, cells := 0, slots := 0, locals := 45 }) s m args below meth c H locs 0 0 Q (F0 m 184 ls [])) : ∀ (H : Heap) (locs : List Loc) (ls : Array Slot), va_P D cls (mw md mc S) H → va_D A (mw md mc S) → va_S A s.heap H locs → lv_has ls 7 [(0, .ref (md 100)), (1, .int x1), (2, .int x2), (3, .int x3), (4, .int x4), (5, .int x5)] → W p l e ({ frames := 2, cells := 0, slots := 0, locals := 45 }) s m args below meth c H locs 0 0 Q (F0 m 124 ls []) := by
  intro H locs ls hP hD hS hl
  obtain ⟨hx, hb, hr, hml, hown, hts, hK, hA⟩ := id hC
  unfold m_rkeysOf_J124 at Heq
  refine lv_aload_n hx hb d_rkeysOf_124 rfl (lv_at hl 0 rfl) ?_
  refine va_get (D := D) (ci := 12) (v := .int (S.i 71)) (C := R_MM) (T := F_MM) (N := 77) hx hb hts i_MM hown hK hP 0 rfl rfl 71 (by decide) (hts _ kw_1453) (fun _ h9 => h9) rfl d_rkeysOf_125 ?_
  refine lv_istore (lv' := [(6, .int (S.i 71)), (0, .ref (md 100)), (1, .int x1), (2, .int x2), (3, .int x3), (4, .int x4), (5, .int x5)]) hx hb d_rkeysOf_128 hl (by decide) rfl (fun ls hl => ?_)
  obtain ⟨b_1, h_2, Heq⟩ := ob_some Heq
  refine w_rkeysOf_L130 hC h_2 (fun b h => ?_) _ _ _ hP hD hS (lv_sub hl [1, 2, 3, 4, 5, 6, 0] rfl)
  subst h
  intro H locs ls hP hD hS hl
  refine lv_aload_n hx hb d_rkeysOf_159 rfl (lv_at hl 0 rfl) ?_
  refine va_get (D := D) (ci := 12) (v := .ref (md 70)) (C := R_MM) (T := F_MM) (N := 77) hx hb hts i_MM hown hK hP 0 rfl rfl 70 (by decide) (hts _ kw_1452) (fun _ h9 => h9) rfl d_rkeysOf_160 ?_
  refine lv_iload hx hb d_rkeysOf_163 (lv_at hl 5 rfl) ?_
  refine lv_iload hx hb d_rkeysOf_165 (lv_at hl 4 rfl) ?_
  obtain ⟨hi_3, Heq⟩ := gd_some Heq
  refine va_iast hx hb hK hP hD hS 46 0 rfl rfl (i := b_1.2.2.2.2.2) (x := b_1.2.2.2.2.1) hi_3 d_rkeysOf_167 (fun H locs hP hD hS => ?_)
  rw [mw_A70] at hP hD
  refine lv_aload_n hx hb d_rkeysOf_168 rfl (lv_at hl 0 rfl) ?_
  refine lv_dup hx hb d_rkeysOf_169 rfl ?_
  refine va_get (D := D) (ci := 12) (v := .int (b_1.1.i 71)) (C := R_MM) (T := F_MM) (N := 77) hx hb hts i_MM hown hK hP 0 rfl rfl 71 (by decide) (hts _ kw_1453) (fun _ h9 => h9) rfl d_rkeysOf_170 ?_
  refine lv_iconst (v := 1) hx hb d_rkeysOf_173 (by decide) ?_
  refine lv_iadd hx hb d_rkeysOf_174 ?_
  refine w_i (y := (b_1.1.i 71) + 1) rfl ?_
  refine va_put (D := D) (ci := 12) (v := .int ((b_1.1.i 71) + 1)) (ty := .int) (C := R_MM) (T := F_MM) (N := 77) hx hb hts i_MM t_MM t_MM_ok n_MM hown hK hP hD hS 0 rfl rfl 71 (by decide) (hts _ kw_1453) (fun _ h9 => h9) rfl (by decide +kernel) rfl rfl (Nat.le_of_ble_eq_true rfl) d_rkeysOf_175 (fun H locs hP hD hS => ?_)
  rw [mw_I71] at hP hD
  exact w_rkeysOf_J178 hC Heq Ka K0 _ _ _ hP hD hS (lv_sub hl [0, 1, 2, 3] rfl)
def m_rkeysOf_J98 (S : MS) (x1 : Int32) (x2 : Int32) (x3 : Int32) (x4 : Int32) (x5 : Int32) : Option ((MS × Int32 × Int32 × Int32) ⊕ MS) := (if x5 ≤ 0 then m_rkeysOf_J124 S x1 x2 x3 x4 x5 else gd (x5 - 1) 4000 (ob (m_rcompareKeys S (S.a 70 ((x5 - 1).toNatClampNeg)) x4) (fun o_3 => (if o_3.2 = 0 then m_rkeysOf_J178 o_3.1 x1 x2 x3 else m_rkeysOf_J124 o_3.1 x1 x2 x3 x4 x5))))
theorem d_rkeysOf_103 : decode prog_14_method_63_code 103 = .ok (.aload_n 0, 1) := by decide +kernel
theorem d_rkeysOf_104 : decode prog_14_method_63_code 104 = .ok (.aload_n 0, 1) := by decide +kernel
theorem d_rkeysOf_105 : decode prog_14_method_63_code 105 = .ok (.getfield 166, 3) := by decide +kernel
theorem d_rkeysOf_108 : decode prog_14_method_63_code 108 = .ok (.iload 5, 2) := by decide +kernel
theorem d_rkeysOf_110 : decode prog_14_method_63_code 110 = .ok (.iconst 1, 1) := by decide +kernel
theorem d_rkeysOf_111 : decode prog_14_method_63_code 111 = .ok (.isub, 1) := by decide +kernel
theorem d_rkeysOf_112 : decode prog_14_method_63_code 112 = .ok (.iaload, 1) := by decide +kernel
theorem d_rkeysOf_113 : decode prog_14_method_63_code 113 = .ok (.iload 4, 2) := by decide +kernel
theorem d_rkeysOf_115 : decode prog_14_method_63_code 115 = .ok (.invokevirtual 414, 3) := by decide +kernel
theorem d_rkeysOf_118 : decode prog_14_method_63_code 118 = .ok (.ifCond .ne 6, 3) := by decide +kernel
theorem d_rkeysOf_121 : decode prog_14_method_63_code 121 = .ok (.goto 57, 3) := by decide +kernel
set_option maxHeartbeats 4000000 in
set_option maxRecDepth 100000 in
theorem w_rkeysOf_J98 {p : Program} {l : Launch} {e : Env} {s : State} {m : MethodId} {args : Array Value} {below : List Frame} {meth : Method} {c : Code} {A : Nat → Prop} {D : va_G} {md : Nat → Nat} {mc : Nat → ClassId} {Q : State → Prop} (hC : MCx "JoinedTreesModel" prog_14_method_63_code 7 none p s m args meth c A D mc) {S : MS} {x1 : Int32} {x2 : Int32} {x3 : Int32} {x4 : Int32} {x5 : Int32} {o : ((MS × Int32 × Int32 × Int32) ⊕ MS)} (Heq : m_rkeysOf_J98 S x1 x2 x3 x4 x5 = some o) (Ka : ∀ b : MS × Int32 × Int32 × Int32, o = .inl b → ∀ (H : Heap) (locs : List Loc) (ls : Array Slot), va_P D cls (mw md mc b.1) H → va_D A (mw md mc b.1) → va_S A s.heap H locs → lv_has ls 7 [(0, .ref (md 100)), (1, .int b.2.1), (2, .int b.2.2.1), (3, .int b.2.2.2)] → W p l e ({ frames := 2, cells := 0, slots := 0, locals := 45 }) s m args below meth c H locs 0 0 Q (F0 m 17 ls [])) (K0 : ∀ b : MS, o = .inr b → ∀ (H : Heap) (locs : List Loc) (ls : Array Slot), va_P D cls (mw md mc b) H → va_D A (mw md mc b) → va_S A s.heap H locs → lv_has ls 7 [(0, .ref (md 100))] → W p l e ({ frames := 2, cells := 0, slots := 0, locals := 45 }) s m args below meth c H locs 0 0 Q (F0 m 184 ls [])) : ∀ (H : Heap) (locs : List Loc) (ls : Array Slot), va_P D cls (mw md mc S) H → va_D A (mw md mc S) → va_S A s.heap H locs → lv_has ls 7 [(0, .ref (md 100)), (1, .int x1), (2, .int x2), (3, .int x3), (4, .int x4), (5, .int x5)] → W p l e ({ frames := 2, cells := 0, slots := 0, locals := 45 }) s m args below meth c H locs 0 0 Q (F0 m 98 ls []) := by
  intro H locs ls hP hD hS hl
  obtain ⟨hx, hb, hr, hml, hown, hts, hK, hA⟩ := id hC
  unfold m_rkeysOf_J98 at Heq
  refine lv_iload hx hb d_rkeysOf_98 (lv_at hl 5 rfl) ?_
  refine lv_if_le (tgt := 124) hx hb d_rkeysOf_100 (by decide) (fun c_1 => ?_) (fun c_1 => ?_)
  · replace Heq := (if_pos c_1).symm.trans Heq
    exact w_rkeysOf_J124 hC Heq Ka K0 _ _ _ hP hD hS (lv_sub hl [0, 1, 2, 3, 4, 5] rfl)
  · replace Heq := (if_neg c_1).symm.trans Heq
    refine lv_aload_n hx hb d_rkeysOf_103 rfl (lv_at hl 0 rfl) ?_
    refine lv_aload_n hx hb d_rkeysOf_104 rfl (lv_at hl 0 rfl) ?_
    refine va_get (D := D) (ci := 12) (v := .ref (md 70)) (C := R_MM) (T := F_MM) (N := 77) hx hb hts i_MM hown hK hP 0 rfl rfl 70 (by decide) (hts _ kw_1452) (fun _ h9 => h9) rfl d_rkeysOf_105 ?_
    refine lv_iload hx hb d_rkeysOf_108 (lv_at hl 5 rfl) ?_
    refine lv_iconst (v := 1) hx hb d_rkeysOf_110 (by decide) ?_
    refine lv_isub hx hb d_rkeysOf_111 ?_
    refine w_i (y := x5 - 1) rfl ?_
    obtain ⟨hi_2, Heq⟩ := gd_some Heq
    refine va_iald hx hb hK hP 46 0 rfl rfl (i := x5 - 1) hi_2 d_rkeysOf_112 ?_
    refine w_i (y := S.a 70 ((x5 - 1).toNatClampNeg)) rfl ?_
    refine lv_iload hx hb d_rkeysOf_113 (lv_at hl 4 rfl) ?_
    obtain ⟨o_3, h_4, Heq⟩ := ob_some Heq
    have hFc := fr_all hD hS hA
    refine va_calli (va_runV (As := [.int (S.a 70 ((x5 - 1).toNatClampNeg)), .int x4]) (rest := []) ⟨hx, hb, hml, hown, hts⟩ (g_rcompareKeys l D H.size h_4) (cw_v 2 hts kw_1867 kw_1864 kw_1866 kp_71 kw_11 rfl rfl (by decide +kernel) ⟨Nat.le_of_ble_eq_true rfl, Nat.le_of_ble_eq_true rfl⟩) ⟨g_blind, va_recv hK hP (ci := 12) (q0 := 0) rfl rfl, fun U hU hW => g_pre hU hW hP hK hD⟩ rfl rfl hl.1 rfl (lv_room (Nat.le_of_ble_eq_true rfl)) d_rkeysOf_115 ⟨Nat.le_of_ble_eq_true rfl, Nat.le_of_ble_eq_true rfl⟩) hS (fun q _ h => hFc q h) hFc (fun rz u t H1 locs ht hvm hw hB hz1 hk1 hS => ?_)
    obtain ⟨hP, -, hD1⟩ := hB
    rw [ht] at hP
    have hD := hD1.weaken (fun _ q _ h => hFc q.1 h)
    generalize H1 = H at hP hS ⊢
    refine W.cs (cells' := 0) (slots' := 0) rfl rfl ?_
    subst hw
    refine lv_if_ne (tgt := 124) hx hb d_rkeysOf_118 (by decide) (fun c_5 => ?_) (fun c_5 => ?_)
    · replace Heq := (if_neg c_5).symm.trans Heq
      exact w_rkeysOf_J124 hC Heq Ka K0 _ _ _ hP hD hS (lv_sub hl [0, 1, 2, 3, 4, 5] rfl)
    · replace Heq := (if_pos c_5).symm.trans Heq
      refine lv_goto (tgt := 178) hx hb d_rkeysOf_121 (by decide) ?_
      exact w_rkeysOf_J178 hC Heq Ka K0 _ _ _ hP hD hS (lv_sub hl [0, 1, 2, 3] rfl)
def m_rkeysOf_B17 (S : MS) (x1 : Int32) (x2 : Int32) (x3 : Int32) : Option ((MS × Int32 × Int32 × Int32) ⊕ MS) := (if x3 < 0 then some (.inr (S)) else gd x3 4000 (ob (m_rvisible S x1 (S.a 28 x3.toNatClampNeg)) (fun o_3 => (if o_3.2 = 0 then m_rkeysOf_J178 o_3.1 x1 x2 x3 else gd (S.a 28 x3.toNatClampNeg) 4000 ((if o_3.1.a 9 ((S.a 28 x3.toNatClampNeg).toNatClampNeg) = x2 then gd (S.a 28 x3.toNatClampNeg) 4000 ((if o_3.1.a 15 ((S.a 28 x3.toNatClampNeg).toNatClampNeg) = 0 then m_rkeysOf_J178 o_3.1 x1 x2 x3 else ob (m_rkeysOf_L69 o_3.1 x1 x2 x3 (S.a 28 x3.toNatClampNeg) (o_3.1.i 71)) (fun b_10 => m_rkeysOf_J98 b_10.1 b_10.2.1 b_10.2.2.1 b_10.2.2.2.1 b_10.2.2.2.2.1 b_10.2.2.2.2.2))) else m_rkeysOf_J178 o_3.1 x1 x2 x3))))))
theorem d_rkeysOf_60 : decode prog_14_method_63_code 60 = .ok (.goto 118, 3) := by decide +kernel
set_option maxHeartbeats 4000000 in
set_option maxRecDepth 100000 in
theorem w_rkeysOf_B17 {p : Program} {l : Launch} {e : Env} {s : State} {m : MethodId} {args : Array Value} {below : List Frame} {meth : Method} {c : Code} {A : Nat → Prop} {D : va_G} {md : Nat → Nat} {mc : Nat → ClassId} {Q : State → Prop} (hC : MCx "JoinedTreesModel" prog_14_method_63_code 7 none p s m args meth c A D mc) {S : MS} {x1 : Int32} {x2 : Int32} {x3 : Int32} {o : ((MS × Int32 × Int32 × Int32) ⊕ MS)} (Heq : m_rkeysOf_B17 S x1 x2 x3 = some o) (Ka : ∀ b : MS × Int32 × Int32 × Int32, o = .inl b → ∀ (H : Heap) (locs : List Loc) (ls : Array Slot), va_P D cls (mw md mc b.1) H → va_D A (mw md mc b.1) → va_S A s.heap H locs → lv_has ls 7 [(0, .ref (md 100)), (1, .int b.2.1), (2, .int b.2.2.1), (3, .int b.2.2.2)] → W p l e ({ frames := 2, cells := 0, slots := 0, locals := 45 }) s m args below meth c H locs 0 0 Q (F0 m 17 ls [])) (K0 : ∀ b : MS, o = .inr b → ∀ (H : Heap) (locs : List Loc) (ls : Array Slot), va_P D cls (mw md mc b) H → va_D A (mw md mc b) → va_S A s.heap H locs → lv_has ls 7 [(0, .ref (md 100))] → W p l e ({ frames := 2, cells := 0, slots := 0, locals := 45 }) s m args below meth c H locs 0 0 Q (F0 m 184 ls [])) : ∀ (H : Heap) (locs : List Loc) (ls : Array Slot), va_P D cls (mw md mc S) H → va_D A (mw md mc S) → va_S A s.heap H locs → lv_has ls 7 [(0, .ref (md 100)), (1, .int x1), (2, .int x2), (3, .int x3)] → W p l e ({ frames := 2, cells := 0, slots := 0, locals := 45 }) s m args below meth c H locs 0 0 Q (F0 m 17 ls []) := by
  intro H locs ls hP hD hS hl
  obtain ⟨hx, hb, hr, hml, hown, hts, hK, hA⟩ := id hC
  unfold m_rkeysOf_B17 at Heq
  refine lv_iload_n hx hb d_rkeysOf_17 rfl (lv_at hl 3 rfl) ?_
  refine lv_if_lt (tgt := 184) hx hb d_rkeysOf_18 (by decide) (fun c_1 => ?_) (fun c_1 => ?_)
  · replace Heq := (if_pos c_1).symm.trans Heq
    exact K0 _ (Option.some.inj Heq).symm _ _ _ hP hD hS (lv_sub hl [0] rfl)
  · replace Heq := (if_neg c_1).symm.trans Heq
    refine lv_aload_n hx hb d_rkeysOf_21 rfl (lv_at hl 0 rfl) ?_
    refine va_get (D := D) (ci := 12) (v := .ref (md 28)) (C := R_MM) (T := F_MM) (N := 77) hx hb hts i_MM hown hK hP 0 rfl rfl 28 (by decide) (hts _ kw_1410) (fun _ h9 => h9) rfl d_rkeysOf_22 ?_
    refine lv_iload_n hx hb d_rkeysOf_25 rfl (lv_at hl 3 rfl) ?_
    obtain ⟨hi_2, Heq⟩ := gd_some Heq
    refine va_iald hx hb hK hP 21 0 rfl rfl (i := x3) hi_2 d_rkeysOf_26 ?_
    refine w_i (y := S.a 28 x3.toNatClampNeg) rfl ?_
    refine lv_istore (lv' := [(4, .int (S.a 28 x3.toNatClampNeg)), (0, .ref (md 100)), (1, .int x1), (2, .int x2), (3, .int x3)]) hx hb d_rkeysOf_27 hl (by decide) rfl (fun ls hl => ?_)
    refine lv_aload_n hx hb d_rkeysOf_29 rfl (lv_at hl 1 rfl) ?_
    refine lv_iload_n hx hb d_rkeysOf_30 rfl (lv_at hl 2 rfl) ?_
    refine lv_iload hx hb d_rkeysOf_31 (lv_at hl 0 rfl) ?_
    obtain ⟨o_3, h_4, Heq⟩ := ob_some Heq
    have hFc := fr_all hD hS hA
    refine va_calli (va_runV (As := [.int x1, .int (S.a 28 x3.toNatClampNeg)]) (rest := []) ⟨hx, hb, hml, hown, hts⟩ (g_rvisible l D H.size h_4) (cw_v 2 hts kw_1676 kw_1673 kw_1675 kp_38 kw_11 rfl rfl (by decide +kernel) ⟨Nat.le_of_ble_eq_true rfl, Nat.le_of_ble_eq_true rfl⟩) ⟨g_blind, va_recv hK hP (ci := 12) (q0 := 0) rfl rfl, fun U hU hW => g_pre hU hW hP hK hD⟩ rfl rfl hl.1 rfl (lv_room (Nat.le_of_ble_eq_true rfl)) d_rkeysOf_33 ⟨Nat.le_of_ble_eq_true rfl, Nat.le_of_ble_eq_true rfl⟩) hS (fun q _ h => hFc q h) hFc (fun rz u t H1 locs ht hvm hw hB hz1 hk1 hS => ?_)
    obtain ⟨hP, -, hD1⟩ := hB
    rw [ht] at hP
    have hD := hD1.weaken (fun _ q _ h => hFc q.1 h)
    generalize H1 = H at hP hS ⊢
    refine W.cs (cells' := 0) (slots' := 0) rfl rfl ?_
    subst hw
    refine lv_if_eq (tgt := 178) hx hb d_rkeysOf_36 (by decide) (fun c_5 => ?_) (fun c_5 => ?_)
    · replace Heq := (if_pos c_5).symm.trans Heq
      exact w_rkeysOf_J178 hC Heq Ka K0 _ _ _ hP hD hS (lv_sub hl [1, 2, 3, 4] rfl)
    · replace Heq := (if_neg c_5).symm.trans Heq
      refine lv_aload_n hx hb d_rkeysOf_39 rfl (lv_at hl 1 rfl) ?_
      refine va_get (D := D) (ci := 12) (v := .ref (md 9)) (C := R_MM) (T := F_MM) (N := 77) hx hb hts i_MM hown hK hP 0 rfl rfl 9 (by decide) (hts _ kw_1391) (fun _ h9 => h9) rfl d_rkeysOf_40 ?_
      refine lv_iload hx hb d_rkeysOf_43 (lv_at hl 0 rfl) ?_
      obtain ⟨hi_6, Heq⟩ := gd_some Heq
      refine va_iald hx hb hK hP 5 0 rfl rfl (i := S.a 28 x3.toNatClampNeg) hi_6 d_rkeysOf_45 ?_
      refine w_i (y := o_3.1.a 9 ((S.a 28 x3.toNatClampNeg).toNatClampNeg)) rfl ?_
      refine lv_iload_n hx hb d_rkeysOf_46 rfl (lv_at hl 3 rfl) ?_
      refine lv_icmp_ne (tgt := 178) hx hb d_rkeysOf_47 (by decide) (fun c_7 => ?_) (fun c_7 => ?_)
      · replace Heq := (if_neg c_7).symm.trans Heq
        exact w_rkeysOf_J178 hC Heq Ka K0 _ _ _ hP hD hS (lv_sub hl [1, 2, 3, 4] rfl)
      · replace Heq := (if_pos c_7).symm.trans Heq
        refine lv_aload_n hx hb d_rkeysOf_50 rfl (lv_at hl 1 rfl) ?_
        refine va_get (D := D) (ci := 12) (v := .ref (md 15)) (C := R_MM) (T := F_MM) (N := 77) hx hb hts i_MM hown hK hP 0 rfl rfl 15 (by decide) (hts _ kw_1397) (fun _ h9 => h9) rfl d_rkeysOf_51 ?_
        refine lv_iload hx hb d_rkeysOf_54 (lv_at hl 0 rfl) ?_
        obtain ⟨hi_8, Heq⟩ := gd_some Heq
        refine va_iald hx hb hK hP 11 0 rfl rfl (i := S.a 28 x3.toNatClampNeg) hi_8 d_rkeysOf_56 ?_
        refine w_i (y := o_3.1.a 15 ((S.a 28 x3.toNatClampNeg).toNatClampNeg)) rfl ?_
        refine lv_if_ne (tgt := 63) hx hb d_rkeysOf_57 (by decide) (fun c_9 => ?_) (fun c_9 => ?_)
        · replace Heq := (if_neg c_9).symm.trans Heq
          refine lv_aload_n hx hb d_rkeysOf_63 rfl (lv_at hl 1 rfl) ?_
          refine va_get (D := D) (ci := 12) (v := .int (o_3.1.i 71)) (C := R_MM) (T := F_MM) (N := 77) hx hb hts i_MM hown hK hP 0 rfl rfl 71 (by decide) (hts _ kw_1453) (fun _ h9 => h9) rfl d_rkeysOf_64 ?_
          refine lv_istore (lv' := [(5, .int (o_3.1.i 71)), (4, .int (S.a 28 x3.toNatClampNeg)), (0, .ref (md 100)), (1, .int x1), (2, .int x2), (3, .int x3)]) hx hb d_rkeysOf_67 hl (by decide) rfl (fun ls hl => ?_)
          obtain ⟨b_10, h_11, Heq⟩ := ob_some Heq
          refine w_rkeysOf_L69 hC h_11 (fun b h => ?_) _ _ _ hP hD hS (lv_sub hl [2, 3, 4, 5, 1, 0] rfl)
          subst h
          intro H locs ls hP hD hS hl
          exact w_rkeysOf_J98 hC Heq Ka K0 _ _ _ hP hD hS (lv_sub hl [0, 1, 2, 3, 4, 5] rfl)
        · replace Heq := (if_pos c_9).symm.trans Heq
          refine lv_goto (tgt := 178) hx hb d_rkeysOf_60 (by decide) ?_
          exact w_rkeysOf_J178 hC Heq Ka K0 _ _ _ hP hD hS (lv_sub hl [1, 2, 3, 4] rfl)
def m_rkeysOf_L17 (S : MS) (x1 : Int32) (x2 : Int32) (x3 : Int32) : Option MS := lp (fun a : MS × Int32 × Int32 × Int32 => m_rkeysOf_B17 a.1 a.2.1 a.2.2.1 a.2.2.2) FU (S, x1, x2, x3)
theorem w_rkeysOf_L17 {p : Program} {l : Launch} {e : Env} {s : State} {m : MethodId} {args : Array Value} {below : List Frame} {meth : Method} {c : Code} {A : Nat → Prop} {D : va_G} {md : Nat → Nat} {mc : Nat → ClassId} {Q : State → Prop} (hC : MCx "JoinedTreesModel" prog_14_method_63_code 7 none p s m args meth c A D mc) {S : MS} {x1 : Int32} {x2 : Int32} {x3 : Int32} {o : MS} (Heq : m_rkeysOf_L17 S x1 x2 x3 = some o) (K0 : ∀ b : MS, o = b → ∀ (H : Heap) (locs : List Loc) (ls : Array Slot), va_P D cls (mw md mc b) H → va_D A (mw md mc b) → va_S A s.heap H locs → lv_has ls 7 [(0, .ref (md 100))] → W p l e ({ frames := 2, cells := 0, slots := 0, locals := 45 }) s m args below meth c H locs 0 0 Q (F0 m 184 ls [])) : ∀ (H : Heap) (locs : List Loc) (ls : Array Slot), va_P D cls (mw md mc S) H → va_D A (mw md mc S) → va_S A s.heap H locs → lv_has ls 7 [(0, .ref (md 100)), (1, .int x1), (2, .int x2), (3, .int x3)] → W p l e ({ frames := 2, cells := 0, slots := 0, locals := 45 }) s m args below meth c H locs 0 0 Q (F0 m 17 ls []) := by
  refine lp_w (G := fun a : MS × Int32 × Int32 × Int32 => ∀ (H : Heap) (locs : List Loc) (ls : Array Slot), va_P D cls (mw md mc a.1) H → va_D A (mw md mc a.1) → va_S A s.heap H locs → lv_has ls 7 [(0, .ref (md 100)), (1, .int a.2.1), (2, .int a.2.2.1), (3, .int a.2.2.2)] → W p l e ({ frames := 2, cells := 0, slots := 0, locals := 45 }) s m args below meth c H locs 0 0 Q (F0 m 17 ls [])) ?_ FU (S, x1, x2, x3) Heq
  intro a o1 ho Ka Ke
  exact w_rkeysOf_B17 hC ho (fun b h => Ka b h) (fun b h => K0 b (Ke _ h).symm)
def m_rkeysOf_J0 (S : MS) (x1 : Int32) (x2 : Int32) : Option MS := ob (m_rhide S x1) (fun o_1 => ob (m_rkeysOf_L17 (o_1.setI 71 0) x1 x2 ((o_1.i 23) - 1)) (fun b_3 => some b_3))
theorem d_rkeysOf_184 : decode prog_14_method_63_code 184 = .ok (.return_, 1) := by decide +kernel
set_option maxHeartbeats 4000000 in
set_option maxRecDepth 100000 in
theorem w_rkeysOf_J0 {p : Program} {l : Launch} {e : Env} {s : State} {m : MethodId} {args : Array Value} {below : List Frame} {meth : Method} {c : Code} {A : Nat → Prop} {D : va_G} {md : Nat → Nat} {mc : Nat → ClassId} {Q : State → Prop} (hC : MCx "JoinedTreesModel" prog_14_method_63_code 7 none p s m args meth c A D mc) {S : MS} {x1 : Int32} {x2 : Int32} {o : MS} (Heq : m_rkeysOf_J0 S x1 x2 = some o) (Kr : ∀ r : MS, o = r → ∀ (pc : Nat) (H : Heap) (locs : List Loc) (ls : Array Slot), decode prog_14_method_63_code pc = .ok (.return_, 1) → va_P D cls (mw md mc r) H → va_D A (mw md mc r) → va_S A s.heap H locs → W p l e ({ frames := 2, cells := 0, slots := 0, locals := 45 }) s m args below meth c H locs 0 0 Q (F0 m pc ls [])) : ∀ (H : Heap) (locs : List Loc) (ls : Array Slot), va_P D cls (mw md mc S) H → va_D A (mw md mc S) → va_S A s.heap H locs → lv_has ls 7 [(0, .ref (md 100)), (1, .int x1), (2, .int x2)] → W p l e ({ frames := 2, cells := 0, slots := 0, locals := 45 }) s m args below meth c H locs 0 0 Q (F0 m 0 ls []) := by
  intro H locs ls hP hD hS hl
  obtain ⟨hx, hb, hr, hml, hown, hts, hK, hA⟩ := id hC
  unfold m_rkeysOf_J0 at Heq
  refine lv_aload_n hx hb d_rkeysOf_0 rfl (lv_at hl 0 rfl) ?_
  refine lv_iload_n hx hb d_rkeysOf_1 rfl (lv_at hl 1 rfl) ?_
  obtain ⟨o_1, h_2, Heq⟩ := ob_some Heq
  have hFc := fr_all hD hS hA
  refine va_callv (va_runV (As := [.int x1]) (rest := []) ⟨hx, hb, hml, hown, hts⟩ (g_rhide l D H.size h_2) (cw_v 1 hts kw_1672 kw_1669 kw_1671 kp_37 kw_11 rfl rfl (by decide +kernel) ⟨Nat.le_of_ble_eq_true rfl, Nat.le_of_ble_eq_true rfl⟩) ⟨g_blind, va_recv hK hP (ci := 12) (q0 := 0) rfl rfl, fun U hU hW => g_pre hU hW hP hK hD⟩ rfl rfl hl.1 rfl (lv_room (Nat.le_of_ble_eq_true rfl)) d_rkeysOf_2 ⟨Nat.le_of_ble_eq_true rfl, Nat.le_of_ble_eq_true rfl⟩) hS (fun q _ h => hFc q h) hFc (fun u t H1 locs ht hvm hw hB hz1 hk1 hS => ?_)
  obtain ⟨hP, -, hD1⟩ := hB
  rw [ht] at hP
  have hD := hD1.weaken (fun _ q _ h => hFc q.1 h)
  generalize H1 = H at hP hS ⊢
  refine W.cs (cells' := 0) (slots' := 0) rfl rfl ?_
  refine lv_aload_n hx hb d_rkeysOf_5 rfl (lv_at hl 0 rfl) ?_
  refine lv_iconst (v := 0) hx hb d_rkeysOf_6 (by decide) ?_
  refine va_put (D := D) (ci := 12) (v := .int 0) (ty := .int) (C := R_MM) (T := F_MM) (N := 77) hx hb hts i_MM t_MM t_MM_ok n_MM hown hK hP hD hS 0 rfl rfl 71 (by decide) (hts _ kw_1453) (fun _ h9 => h9) rfl (by decide +kernel) rfl rfl (Nat.le_of_ble_eq_true rfl) d_rkeysOf_7 (fun H locs hP hD hS => ?_)
  rw [mw_I71] at hP hD
  refine lv_aload_n hx hb d_rkeysOf_10 rfl (lv_at hl 0 rfl) ?_
  refine va_get (D := D) (ci := 12) (v := .int (o_1.i 23)) (C := R_MM) (T := F_MM) (N := 77) hx hb hts i_MM hown hK hP 0 rfl rfl 23 (by decide) (hts _ kw_1405) (fun _ h9 => h9) rfl d_rkeysOf_11 ?_
  refine lv_iconst (v := 1) hx hb d_rkeysOf_14 (by decide) ?_
  refine lv_isub hx hb d_rkeysOf_15 ?_
  refine w_i (y := (o_1.i 23) - 1) rfl ?_
  refine lv_istore_n (lv' := [(3, .int ((o_1.i 23) - 1)), (0, .ref (md 100)), (1, .int x1), (2, .int x2)]) hx hb d_rkeysOf_16 rfl hl (by decide) rfl (fun ls hl => ?_)
  obtain ⟨b_3, h_4, Heq⟩ := ob_some Heq
  refine w_rkeysOf_L17 hC h_4 (fun b h => ?_) _ _ _ hP hD hS (lv_sub hl [1, 2, 3, 0] rfl)
  subst h
  intro H locs ls hP hD hS hl
  exact Kr _ (Option.some.inj Heq).symm 184 _ _ _ d_rkeysOf_184 hP hD hS
def m_rkeysOf (S : MS) (x1 : Int32) (x2 : Int32) : Option MS := m_rkeysOf_J0 S x1 x2
theorem g_rkeysOf (l : Launch) (D : va_G) (sz : Nat) {md : Nat → Nat} {mc : Nat → ClassId} {S : MS} {x1 : Int32} {x2 : Int32} {o : MS} (Heq : m_rkeysOf S x1 x2 = some o) : Met l ⟨"JoinedTreesModel", "keysOf", "(II)V"⟩ (Cond.code ⟨"JoinedTreesModel", "keysOf", "(II)V"⟩ prog_14_method_63_code 7 none :: gb) ({ frames := 2, cells := 0, slots := 0, locals := 45 }) (gPc D (mw md mc S) (mty mc) sz [.ref (md 100), .int x1, .int x2]) (va_Qv (fun _ : Unit => True) (fun _ t => gO D (mw md mc o) (mty mc) (va_A (mw md mc S) sz) t) (va_A (mw md mc S) sz)) 0 0 (va_A (mw md mc S) sz) := by
  refine Met.ofW (cc := prog_14_method_63_code) (maxL := 7) (ret := none) (by decide) rfl ?_
  intro p e s m args below meth c s₁ B hml hv
  obtain ⟨rfl, hsz, hP, hK, hD0⟩ := hv
  have hx := B.exec
  have hb := B.bytes
  have hr := B.returns
  have hts : ∀ w9 ∈ gb, w9.before [.ref (md 100), .int x1, .int x2].toArray s = true := fun w9 h => atoms_spec (ws := Cond.code ⟨"JoinedTreesModel", "keysOf", "(II)V"⟩ prog_14_method_63_code 7 none :: gb) B.pre w9 (List.mem_cons_of_mem _ h)
  have hown : s.vm.findClass "JoinedTreesModel" = some m.cls := findClass_of_methodNamed B.named
  have hlocks := B.notSynchronized
  subst hsz
  have hD := hD0.self (sz := s.heap.size)
  generalize hAe : va_A (mw md mc S) s.heap.size = A at hD ⊢
  have hA : ∀ q : Nat, s.heap.size ≤ q → A q := fun q h => by rw [← hAe]; exact Or.inr h
  have hS : va_S A s.heap s.heap [] := va_S.rf
  have hl := lv_entry ([.ref (md 100), .int x1, .int x2]) (n := 7) (Nat.le_of_ble_eq_true rfl)
  rw [lg_entry_eq]
  generalize (lg_sl ([.ref (md 100), .int x1, .int x2]) ++ List.replicate (7 - (lg_sl ([.ref (md 100), .int x1, .int x2])).length) Slot.unset).toArray = ls at hl ⊢
  have hl : lv_has ls 7 [(0, .ref (md 100)), (1, .int x1), (2, .int x2)] := hl
  refine w_rkeysOf_J0 ⟨hx, hb, hr, hml, hown, hts, hK, hA⟩ Heq (fun r h pc H locs ls hd hP hD hS => ?_) _ _ _ hP hD hS (lv_sub hl [0, 1, 2] rfl)
  subst h
  exact W.vret hx hb hr (fun t ht hW => ⟨⟨(), rfl, trivial, by rw [ht]; exact hP, va_K.moved hW.alike hK, hD⟩, hS.F ht⟩) hS.2.2 hd
