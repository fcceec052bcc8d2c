def m_rkeyThere_J87 (S : MS) (x1 : Int32) (x2 : Int32) (x3 : Int32) (x4 : Int32) : Option ((MS × Int32 × Int32 × Int32 × Int32) ⊕ (MS ⊕ (MS × Int32))) := some (.inl (S, x1, x2, x3, (x4 + 1)))
theorem d_rkeyThere_0 : decode prog_14_method_47_code 0 = .ok (.iconst 0, 1) := by decide +kernel
theorem d_rkeyThere_1 : decode prog_14_method_47_code 1 = .ok (.istore 4, 2) := by decide +kernel
theorem d_rkeyThere_3 : decode prog_14_method_47_code 3 = .ok (.iload 4, 2) := by decide +kernel
theorem d_rkeyThere_5 : decode prog_14_method_47_code 5 = .ok (.aload_n 0, 1) := by decide +kernel
theorem d_rkeyThere_6 : decode prog_14_method_47_code 6 = .ok (.getfield 345, 3) := by decide +kernel
theorem d_rkeyThere_9 : decode prog_14_method_47_code 9 = .ok (.if_icmp .ge 84, 3) := by decide +kernel
theorem d_rkeyThere_12 : decode prog_14_method_47_code 12 = .ok (.aload_n 0, 1) := by decide +kernel
theorem d_rkeyThere_13 : decode prog_14_method_47_code 13 = .ok (.getfield 136, 3) := by decide +kernel
theorem d_rkeyThere_16 : decode prog_14_method_47_code 16 = .ok (.iload 4, 2) := by decide +kernel
theorem d_rkeyThere_18 : decode prog_14_method_47_code 18 = .ok (.iaload, 1) := by decide +kernel
theorem d_rkeyThere_19 : decode prog_14_method_47_code 19 = .ok (.iload_n 1, 1) := by decide +kernel
theorem d_rkeyThere_20 : decode prog_14_method_47_code 20 = .ok (.if_icmp .ne 67, 3) := by decide +kernel
theorem d_rkeyThere_87 : decode prog_14_method_47_code 87 = .ok (.iinc 4 1, 3) := by decide +kernel
theorem d_rkeyThere_90 : decode prog_14_method_47_code 90 = .ok (.goto (-87), 3) := by decide +kernel
set_option maxHeartbeats 4000000 in
set_option maxRecDepth 100000 in
theorem w_rkeyThere_J87 {p : Program} {l : Launch} {e : Env} {s : State} {m : MethodId} {args : Array Value} {below : List Frame} {meth : Method} {c : Code} {A : Nat → Prop} {D : va_G} {md : Nat → Nat} {mc : Nat → ClassId} {Q : State → Prop} (hC : MCx "JoinedTreesModel" prog_14_method_47_code 6 (some .boolean) p s m args meth c A D mc) {S : MS} {x1 : Int32} {x2 : Int32} {x3 : Int32} {x4 : Int32} {o : ((MS × Int32 × Int32 × Int32 × Int32) ⊕ (MS ⊕ (MS × Int32)))} (Heq : m_rkeyThere_J87 S x1 x2 x3 x4 = some o) (Ka : ∀ b : MS × Int32 × Int32 × Int32 × Int32, o = .inl b → ∀ (H : Heap) (locs : List Loc) (ls : Array Slot), va_P D cls (mw md mc b.1) H → va_D A (mw md mc b.1) → va_S A s.heap H locs → lv_has ls 6 [(0, .ref (md 100)), (1, .int b.2.1), (2, .int b.2.2.1), (3, .int b.2.2.2.1), (4, .int b.2.2.2.2)] → W p l e ({ frames := 0, cells := 0, slots := 0, locals := 0 }) s m args below meth c H locs 0 0 Q (F0 m 3 ls [])) (K0 : ∀ b : MS, o = .inr (.inl b) → ∀ (H : Heap) (locs : List Loc) (ls : Array Slot), va_P D cls (mw md mc b) H → va_D A (mw md mc b) → va_S A s.heap H locs → lv_has ls 6 [(0, .ref (md 100))] → W p l e ({ frames := 0, cells := 0, slots := 0, locals := 0 }) s m args below meth c H locs 0 0 Q (F0 m 93 ls [])) (Kr : ∀ r : MS × Int32, o = .inr (.inr r) → ∀ (pc : Nat) (H : Heap) (locs : List Loc) (ls : Array Slot), decode prog_14_method_47_code pc = .ok (.ireturn, 1) → (r.2 = 0 ∨ r.2 = 1) → va_P D cls (mw md mc r.1) H → va_D A (mw md mc r.1) → va_S A s.heap H locs → W p l e ({ frames := 0, cells := 0, slots := 0, locals := 0 }) s m args below meth c H locs 0 0 Q (F0 m pc ls [.int r.2])) : ∀ (H : Heap) (locs : List Loc) (ls : Array Slot), va_P D cls (mw md mc S) H → va_D A (mw md mc S) → va_S A s.heap H locs → lv_has ls 6 [(0, .ref (md 100)), (1, .int x1), (2, .int x2), (3, .int x3), (4, .int x4)] → W p l e ({ frames := 0, cells := 0, slots := 0, locals := 0 }) s m args below meth c H locs 0 0 Q (F0 m 87 ls []) := by
  intro H locs ls hP hD hS hl
  obtain ⟨hx, hb, hr, hml, hown, hts, hK, hA⟩ := id hC
  unfold m_rkeyThere_J87 at Heq
  refine lv_iinc (v := x4 + 1) (lv' := [(4, .int (x4 + 1)), (0, .ref (md 100)), (1, .int x1), (2, .int x2), (3, .int x3)]) hx hb d_rkeyThere_87 hl (k := 4) rfl rfl (by decide) rfl (fun ls hl => ?_)
  refine lv_goto (tgt := 3) hx hb d_rkeyThere_90 (by decide) ?_
  exact Ka _ (Option.some.inj Heq).symm _ _ _ hP hD hS (lv_sub hl [1, 2, 3, 4, 0] rfl)
def m_rkeyThere_B40 (S : MS) (x1 : Int32) (x2 : Int32) (x3 : Int32) (x4 : Int32) (x5 : Int32) : Option ((MS × Int32 × Int32 × Int32 × Int32 × Int32) ⊕ (MS × Int32 × Int32 × Int32 × Int32 × Int32)) := (if x3 ≤ x5 then some (.inr (S, x1, x2, x3, x4, x5)) else gd x4 501 (gd ((S.a 55 x4.toNatClampNeg) + x5) 8300 (gd (x2 + x5) 8300 ((if S.a 62 (((S.a 55 x4.toNatClampNeg) + x5).toNatClampNeg) = S.a 62 ((x2 + x5).toNatClampNeg) then some (.inl (S, x1, x2, x3, x4, (x5 + 1))) else some (.inr (S, x1, x2, x3, x4, x5)))))))
theorem d_rkeyThere_23 : decode prog_14_method_47_code 23 = .ok (.aload_n 0, 1) := by decide +kernel
theorem d_rkeyThere_24 : decode prog_14_method_47_code 24 = .ok (.getfield 142, 3) := by decide +kernel
theorem d_rkeyThere_27 : decode prog_14_method_47_code 27 = .ok (.iload 4, 2) := by decide +kernel
theorem d_rkeyThere_29 : decode prog_14_method_47_code 29 = .ok (.iaload, 1) := by decide +kernel
theorem d_rkeyThere_30 : decode prog_14_method_47_code 30 = .ok (.iload_n 3, 1) := by decide +kernel
theorem d_rkeyThere_31 : decode prog_14_method_47_code 31 = .ok (.if_icmp .eq 6, 3) := by decide +kernel
theorem d_rkeyThere_37 : decode prog_14_method_47_code 37 = .ok (.iconst 0, 1) := by decide +kernel
theorem d_rkeyThere_38 : decode prog_14_method_47_code 38 = .ok (.istore 5, 2) := by decide +kernel
theorem d_rkeyThere_40 : decode prog_14_method_47_code 40 = .ok (.iload 5, 2) := by decide +kernel
theorem d_rkeyThere_42 : decode prog_14_method_47_code 42 = .ok (.iload_n 3, 1) := by decide +kernel
theorem d_rkeyThere_43 : decode prog_14_method_47_code 43 = .ok (.if_icmp .ge 36, 3) := by decide +kernel
theorem d_rkeyThere_46 : decode prog_14_method_47_code 46 = .ok (.aload_n 0, 1) := by decide +kernel
theorem d_rkeyThere_47 : decode prog_14_method_47_code 47 = .ok (.getfield 160, 3) := by decide +kernel
theorem d_rkeyThere_50 : decode prog_14_method_47_code 50 = .ok (.aload_n 0, 1) := by decide +kernel
theorem d_rkeyThere_51 : decode prog_14_method_47_code 51 = .ok (.getfield 139, 3) := by decide +kernel
theorem d_rkeyThere_54 : decode prog_14_method_47_code 54 = .ok (.iload 4, 2) := by decide +kernel
theorem d_rkeyThere_56 : decode prog_14_method_47_code 56 = .ok (.iaload, 1) := by decide +kernel
theorem d_rkeyThere_57 : decode prog_14_method_47_code 57 = .ok (.iload 5, 2) := by decide +kernel
theorem d_rkeyThere_59 : decode prog_14_method_47_code 59 = .ok (.iadd, 1) := by decide +kernel
theorem d_rkeyThere_60 : decode prog_14_method_47_code 60 = .ok (.baload, 1) := by decide +kernel
theorem d_rkeyThere_61 : decode prog_14_method_47_code 61 = .ok (.aload_n 0, 1) := by decide +kernel
theorem d_rkeyThere_62 : decode prog_14_method_47_code 62 = .ok (.getfield 160, 3) := by decide +kernel
theorem d_rkeyThere_65 : decode prog_14_method_47_code 65 = .ok (.iload_n 2, 1) := by decide +kernel
theorem d_rkeyThere_66 : decode prog_14_method_47_code 66 = .ok (.iload 5, 2) := by decide +kernel
theorem d_rkeyThere_68 : decode prog_14_method_47_code 68 = .ok (.iadd, 1) := by decide +kernel
theorem d_rkeyThere_69 : decode prog_14_method_47_code 69 = .ok (.baload, 1) := by decide +kernel
theorem d_rkeyThere_70 : decode prog_14_method_47_code 70 = .ok (.if_icmp .ne 9, 3) := by decide +kernel
theorem d_rkeyThere_73 : decode prog_14_method_47_code 73 = .ok (.iinc 5 1, 3) := by decide +kernel
theorem d_rkeyThere_76 : decode prog_14_method_47_code 76 = .ok (.goto (-36), 3) := by decide +kernel
set_option maxHeartbeats 4000000 in
set_option maxRecDepth 100000 in
theorem w_rkeyThere_B40 {p : Program} {l : Launch} {e : Env} {s : State} {m : MethodId} {args : Array Value} {below : List Frame} {meth : Method} {c : Code} {A : Nat → Prop} {D : va_G} {md : Nat → Nat} {mc : Nat → ClassId} {Q : State → Prop} (hC : MCx "JoinedTreesModel" prog_14_method_47_code 6 (some .boolean) p s m args meth c A D mc) {S : MS} {x1 : Int32} {x2 : Int32} {x3 : Int32} {x4 : Int32} {x5 : Int32} {o : ((MS × Int32 × Int32 × Int32 × Int32 × Int32) ⊕ (MS × Int32 × Int32 × Int32 × Int32 × Int32))} (Heq : m_rkeyThere_B40 S x1 x2 x3 x4 x5 = some o) (Ka : ∀ b : MS × Int32 × Int32 × Int32 × Int32 × Int32, o = .inl b → ∀ (H : Heap) (locs : List Loc) (ls : Array Slot), va_P D cls (mw md mc b.1) H → va_D A (mw md mc b.1) → va_S A s.heap H locs → lv_has ls 6 [(0, .ref (md 100)), (1, .int b.2.1), (2, .int b.2.2.1), (3, .int b.2.2.2.1), (4, .int b.2.2.2.2.1), (5, .int b.2.2.2.2.2)] → W p l e ({ frames := 0, cells := 0, slots := 0, locals := 0 }) s m args below meth c H locs 0 0 Q (F0 m 40 ls [])) (K0 : ∀ b : MS × Int32 × Int32 × Int32 × Int32 × Int32, o = .inr b → ∀ (H : Heap) (locs : List Loc) (ls : Array Slot), va_P D cls (mw md mc b.1) H → va_D A (mw md mc b.1) → va_S A s.heap H locs → lv_has ls 6 [(0, .ref (md 100)), (1, .int b.2.1), (2, .int b.2.2.1), (3, .int b.2.2.2.1), (4, .int b.2.2.2.2.1), (5, .int b.2.2.2.2.2)] → W p l e ({ frames := 0, cells := 0, slots := 0, locals := 0 }) s m args below meth c H locs 0 0 Q (F0 m 79 ls [])) : ∀ (H : Heap) (locs : List Loc) (ls : Array Slot), va_P D cls (mw md mc S) H → va_D A (mw md mc S) → va_S A s.heap H locs → lv_has ls 6 [(0, .ref (md 100)), (1, .int x1), (2, .int x2), (3, .int x3), (4, .int x4), (5, .int x5)] → W p l e ({ frames := 0, cells := 0, slots := 0, locals := 0 }) s m args below meth c H locs 0 0 Q (F0 m 40 ls []) := by
  intro H locs ls hP hD hS hl
  obtain ⟨hx, hb, hr, hml, hown, hts, hK, hA⟩ := id hC
  unfold m_rkeyThere_B40 at Heq
  refine lv_iload hx hb d_rkeyThere_40 (lv_at hl 5 rfl) ?_
  refine lv_iload_n hx hb d_rkeyThere_42 rfl (lv_at hl 3 rfl) ?_
  refine lv_icmp_ge (tgt := 79) hx hb d_rkeyThere_43 (by decide) (fun c_1 => ?_) (fun c_1 => ?_)
  · replace Heq := (if_pos c_1).symm.trans Heq
    exact K0 _ (Option.some.inj Heq).symm _ _ _ hP hD hS (lv_sub hl [0, 1, 2, 3, 4, 5] rfl)
  · replace Heq := (if_neg c_1).symm.trans Heq
    refine lv_aload_n hx hb d_rkeyThere_46 rfl (lv_at hl 0 rfl) ?_
    refine va_get (D := D) (ci := 12) (v := .ref (md 62)) (C := R_MM) (T := F_MM) (N := 77) hx hb hts i_MM hown hK hP 0 rfl rfl 62 (by decide) (hts _ kw_1444) (fun _ h9 => h9) rfl d_rkeyThere_47 ?_
    refine lv_aload_n hx hb d_rkeyThere_50 rfl (lv_at hl 0 rfl) ?_
    refine va_get (D := D) (ci := 12) (v := .ref (md 55)) (C := R_MM) (T := F_MM) (N := 77) hx hb hts i_MM hown hK hP 0 rfl rfl 55 (by decide) (hts _ kw_1437) (fun _ h9 => h9) rfl d_rkeyThere_51 ?_
    refine lv_iload hx hb d_rkeyThere_54 (lv_at hl 4 rfl) ?_
    obtain ⟨hi_2, Heq⟩ := gd_some Heq
    refine va_iald hx hb hK hP 37 0 rfl rfl (i := x4) hi_2 d_rkeyThere_56 ?_
    refine w_i (y := S.a 55 x4.toNatClampNeg) rfl ?_
    refine lv_iload hx hb d_rkeyThere_57 (lv_at hl 5 rfl) ?_
    refine lv_iadd hx hb d_rkeyThere_59 ?_
    refine w_i (y := (S.a 55 x4.toNatClampNeg) + x5) rfl ?_
    obtain ⟨hi_3, Heq⟩ := gd_some Heq
    refine va_bald hx hb hK hP 44 1 rfl rfl (i := (S.a 55 x4.toNatClampNeg) + x5) hi_3 d_rkeyThere_60 ?_
    refine w_i (y := S.a 62 (((S.a 55 x4.toNatClampNeg) + x5).toNatClampNeg)) rfl ?_
    refine lv_aload_n hx hb d_rkeyThere_61 rfl (lv_at hl 0 rfl) ?_
    refine va_get (D := D) (ci := 12) (v := .ref (md 62)) (C := R_MM) (T := F_MM) (N := 77) hx hb hts i_MM hown hK hP 0 rfl rfl 62 (by decide) (hts _ kw_1444) (fun _ h9 => h9) rfl d_rkeyThere_62 ?_
    refine lv_iload_n hx hb d_rkeyThere_65 rfl (lv_at hl 2 rfl) ?_
    refine lv_iload hx hb d_rkeyThere_66 (lv_at hl 5 rfl) ?_
    refine lv_iadd hx hb d_rkeyThere_68 ?_
    refine w_i (y := x2 + x5) rfl ?_
    obtain ⟨hi_4, Heq⟩ := gd_some Heq
    refine va_bald hx hb hK hP 44 1 rfl rfl (i := x2 + x5) hi_4 d_rkeyThere_69 ?_
    refine w_i (y := S.a 62 ((x2 + x5).toNatClampNeg)) rfl ?_
    refine lv_icmp_ne (tgt := 79) hx hb d_rkeyThere_70 (by decide) (fun c_5 => ?_) (fun c_5 => ?_)
    · replace Heq := (if_neg c_5).symm.trans Heq
      exact K0 _ (Option.some.inj Heq).symm _ _ _ hP hD hS (lv_sub hl [0, 1, 2, 3, 4, 5] rfl)
    · replace Heq := (if_pos c_5).symm.trans Heq
      refine lv_iinc (v := x5 + 1) (lv' := [(5, .int (x5 + 1)), (0, .ref (md 100)), (1, .int x1), (2, .int x2), (3, .int x3), (4, .int x4)]) hx hb d_rkeyThere_73 hl (k := 5) rfl rfl (by decide) rfl (fun ls hl => ?_)
      refine lv_goto (tgt := 40) hx hb d_rkeyThere_76 (by decide) ?_
      exact Ka _ (Option.some.inj Heq).symm _ _ _ hP hD hS (lv_sub hl [1, 2, 3, 4, 5, 0] rfl)
def m_rkeyThere_L40 (S : MS) (x1 : Int32) (x2 : Int32) (x3 : Int32) (x4 : Int32) (x5 : Int32) : Option (MS × Int32 × Int32 × Int32 × Int32 × Int32) := lp (fun a : MS × Int32 × Int32 × Int32 × Int32 × Int32 => m_rkeyThere_B40 a.1 a.2.1 a.2.2.1 a.2.2.2.1 a.2.2.2.2.1 a.2.2.2.2.2) FU (S, x1, x2, x3, x4, x5)
theorem w_rkeyThere_L40 {p : Program} {l : Launch} {e : Env} {s : State} {m : MethodId} {args : Array Value} {below : List Frame} {meth : Method} {c : Code} {A : Nat → Prop} {D : va_G} {md : Nat → Nat} {mc : Nat → ClassId} {Q : State → Prop} (hC : MCx "JoinedTreesModel" prog_14_method_47_code 6 (some .boolean) p s m args meth c A D mc) {S : MS} {x1 : Int32} {x2 : Int32} {x3 : Int32} {x4 : Int32} {x5 : Int32} {o : MS × Int32 × Int32 × Int32 × Int32 × Int32} (Heq : m_rkeyThere_L40 S x1 x2 x3 x4 x5 = some o) (K0 : ∀ b : MS × Int32 × Int32 × Int32 × Int32 × Int32, o = b → ∀ (H : Heap) (locs : List Loc) (ls : Array Slot), va_P D cls (mw md mc b.1) H → va_D A (mw md mc b.1) → va_S A s.heap H locs → lv_has ls 6 [(0, .ref (md 100)), (1, .int b.2.1), (2, .int b.2.2.1), (3, .int b.2.2.2.1), (4, .int b.2.2.2.2.1), (5, .int b.2.2.2.2.2)] → W p l e ({ frames := 0, cells := 0, slots := 0, locals := 0 }) s m args below meth c H locs 0 0 Q (F0 m 79 ls [])) : ∀ (H : Heap) (locs : List Loc) (ls : Array Slot), va_P D cls (mw md mc S) H → va_D A (mw md mc S) → va_S A s.heap H locs → lv_has ls 6 [(0, .ref (md 100)), (1, .int x1), (2, .int x2), (3, .int x3), (4, .int x4), (5, .int x5)] → W p l e ({ frames := 0, cells := 0, slots := 0, locals := 0 }) s m args below meth c H locs 0 0 Q (F0 m 40 ls []) := by
  refine lp_w (G := fun a : MS × Int32 × Int32 × Int32 × Int32 × Int32 => ∀ (H : Heap) (locs : List Loc) (ls : Array Slot), va_P D cls (mw md mc a.1) H → va_D A (mw md mc a.1) → va_S A s.heap H locs → lv_has ls 6 [(0, .ref (md 100)), (1, .int a.2.1), (2, .int a.2.2.1), (3, .int a.2.2.2.1), (4, .int a.2.2.2.2.1), (5, .int a.2.2.2.2.2)] → W p l e ({ frames := 0, cells := 0, slots := 0, locals := 0 }) s m args below meth c H locs 0 0 Q (F0 m 40 ls [])) ?_ FU (S, x1, x2, x3, x4, x5) Heq
  intro a o1 ho Ka Ke
  exact w_rkeyThere_B40 hC ho (fun b h => Ka b h) (fun b h => K0 b (Ke _ h).symm)
def m_rkeyThere_J79 (S : MS) (x1 : Int32) (x2 : Int32) (x3 : Int32) (x4 : Int32) (x5 : Int32) : Option ((MS × Int32 × Int32 × Int32 × Int32) ⊕ (MS ⊕ (MS × Int32))) := (if x5 = x3 then some (.inr (.inr (S, 1))) else m_rkeyThere_J87 S x1 x2 x3 x4)
theorem d_rkeyThere_79 : decode prog_14_method_47_code 79 = .ok (.iload 5, 2) := by decide +kernel
theorem d_rkeyThere_81 : decode prog_14_method_47_code 81 = .ok (.iload_n 3, 1) := by decide +kernel
theorem d_rkeyThere_82 : decode prog_14_method_47_code 82 = .ok (.if_icmp .ne 5, 3) := by decide +kernel
theorem d_rkeyThere_85 : decode prog_14_method_47_code 85 = .ok (.iconst 1, 1) := by decide +kernel
theorem d_rkeyThere_86 : decode prog_14_method_47_code 86 = .ok (.ireturn, 1) := by decide +kernel
set_option maxHeartbeats 4000000 in
set_option maxRecDepth 100000 in
theorem w_rkeyThere_J79 {p : Program} {l : Launch} {e : Env} {s : State} {m : MethodId} {args : Array Value} {below : List Frame} {meth : Method} {c : Code} {A : Nat → Prop} {D : va_G} {md : Nat → Nat} {mc : Nat → ClassId} {Q : State → Prop} (hC : MCx "JoinedTreesModel" prog_14_method_47_code 6 (some .boolean) p s m args meth c A D mc) {S : MS} {x1 : Int32} {x2 : Int32} {x3 : Int32} {x4 : Int32} {x5 : Int32} {o : ((MS × Int32 × Int32 × Int32 × Int32) ⊕ (MS ⊕ (MS × Int32)))} (Heq : m_rkeyThere_J79 S x1 x2 x3 x4 x5 = some o) (Ka : ∀ b : MS × Int32 × Int32 × Int32 × Int32, o = .inl b → ∀ (H : Heap) (locs : List Loc) (ls : Array Slot), va_P D cls (mw md mc b.1) H → va_D A (mw md mc b.1) → va_S A s.heap H locs → lv_has ls 6 [(0, .ref (md 100)), (1, .int b.2.1), (2, .int b.2.2.1), (3, .int b.2.2.2.1), (4, .int b.2.2.2.2)] → W p l e ({ frames := 0, cells := 0, slots := 0, locals := 0 }) s m args below meth c H locs 0 0 Q (F0 m 3 ls [])) (K0 : ∀ b : MS, o = .inr (.inl b) → ∀ (H : Heap) (locs : List Loc) (ls : Array Slot), va_P D cls (mw md mc b) H → va_D A (mw md mc b) → va_S A s.heap H locs → lv_has ls 6 [(0, .ref (md 100))] → W p l e ({ frames := 0, cells := 0, slots := 0, locals := 0 }) s m args below meth c H locs 0 0 Q (F0 m 93 ls [])) (Kr : ∀ r : MS × Int32, o = .inr (.inr r) → ∀ (pc : Nat) (H : Heap) (locs : List Loc) (ls : Array Slot), decode prog_14_method_47_code pc = .ok (.ireturn, 1) → (r.2 = 0 ∨ r.2 = 1) → va_P D cls (mw md mc r.1) H → va_D A (mw md mc r.1) → va_S A s.heap H locs → W p l e ({ frames := 0, cells := 0, slots := 0, locals := 0 }) s m args below meth c H locs 0 0 Q (F0 m pc ls [.int r.2])) : ∀ (H : Heap) (locs : List Loc) (ls : Array Slot), va_P D cls (mw md mc S) H → va_D A (mw md mc S) → va_S A s.heap H locs → lv_has ls 6 [(0, .ref (md 100)), (1, .int x1), (2, .int x2), (3, .int x3), (4, .int x4), (5, .int x5)] → W p l e ({ frames := 0, cells := 0, slots := 0, locals := 0 }) s m args below meth c H locs 0 0 Q (F0 m 79 ls []) := by
  intro H locs ls hP hD hS hl
  obtain ⟨hx, hb, hr, hml, hown, hts, hK, hA⟩ := id hC
  unfold m_rkeyThere_J79 at Heq
  refine lv_iload hx hb d_rkeyThere_79 (lv_at hl 5 rfl) ?_
  refine lv_iload_n hx hb d_rkeyThere_81 rfl (lv_at hl 3 rfl) ?_
  refine lv_icmp_ne (tgt := 87) hx hb d_rkeyThere_82 (by decide) (fun c_1 => ?_) (fun c_1 => ?_)
  · replace Heq := (if_neg c_1).symm.trans Heq
    exact w_rkeyThere_J87 hC Heq Ka K0 Kr _ _ _ hP hD hS (lv_sub hl [0, 1, 2, 3, 4] rfl)
  · replace Heq := (if_pos c_1).symm.trans Heq
    refine lv_iconst (v := 1) hx hb d_rkeyThere_85 (by decide) ?_
    exact Kr _ (Option.some.inj Heq).symm 86 _ _ _ d_rkeyThere_86 (Or.inr rfl) hP hD hS
def m_rkeyThere_B3 (S : MS) (x1 : Int32) (x2 : Int32) (x3 : Int32) (x4 : Int32) : Option ((MS × Int32 × Int32 × Int32 × Int32) ⊕ (MS ⊕ (MS × Int32))) := (if S.i 64 ≤ x4 then some (.inr (.inl (S))) else gd x4 501 ((if S.a 54 x4.toNatClampNeg = x1 then gd x4 501 ((if S.a 56 x4.toNatClampNeg = x3 then ob (m_rkeyThere_L40 S x1 x2 x3 x4 0) (fun b_6 => m_rkeyThere_J79 b_6.1 b_6.2.1 b_6.2.2.1 b_6.2.2.2.1 b_6.2.2.2.2.1 b_6.2.2.2.2.2) else m_rkeyThere_J87 S x1 x2 x3 x4)) else m_rkeyThere_J87 S x1 x2 x3 x4)))
theorem d_rkeyThere_34 : decode prog_14_method_47_code 34 = .ok (.goto 53, 3) := by decide +kernel
set_option maxHeartbeats 4000000 in
set_option maxRecDepth 100000 in
theorem w_rkeyThere_B3 {p : Program} {l : Launch} {e : Env} {s : State} {m : MethodId} {args : Array Value} {below : List Frame} {meth : Method} {c : Code} {A : Nat → Prop} {D : va_G} {md : Nat → Nat} {mc : Nat → ClassId} {Q : State → Prop} (hC : MCx "JoinedTreesModel" prog_14_method_47_code 6 (some .boolean) p s m args meth c A D mc) {S : MS} {x1 : Int32} {x2 : Int32} {x3 : Int32} {x4 : Int32} {o : ((MS × Int32 × Int32 × Int32 × Int32) ⊕ (MS ⊕ (MS × Int32)))} (Heq : m_rkeyThere_B3 S x1 x2 x3 x4 = some o) (Ka : ∀ b : MS × Int32 × Int32 × Int32 × Int32, o = .inl b → ∀ (H : Heap) (locs : List Loc) (ls : Array Slot), va_P D cls (mw md mc b.1) H → va_D A (mw md mc b.1) → va_S A s.heap H locs → lv_has ls 6 [(0, .ref (md 100)), (1, .int b.2.1), (2, .int b.2.2.1), (3, .int b.2.2.2.1), (4, .int b.2.2.2.2)] → W p l e ({ frames := 0, cells := 0, slots := 0, locals := 0 }) s m args below meth c H locs 0 0 Q (F0 m 3 ls [])) (K0 : ∀ b : MS, o = .inr (.inl b) → ∀ (H : Heap) (locs : List Loc) (ls : Array Slot), va_P D cls (mw md mc b) H → va_D A (mw md mc b) → va_S A s.heap H locs → lv_has ls 6 [(0, .ref (md 100))] → W p l e ({ frames := 0, cells := 0, slots := 0, locals := 0 }) s m args below meth c H locs 0 0 Q (F0 m 93 ls [])) (Kr : ∀ r : MS × Int32, o = .inr (.inr r) → ∀ (pc : Nat) (H : Heap) (locs : List Loc) (ls : Array Slot), decode prog_14_method_47_code pc = .ok (.ireturn, 1) → (r.2 = 0 ∨ r.2 = 1) → va_P D cls (mw md mc r.1) H → va_D A (mw md mc r.1) → va_S A s.heap H locs → W p l e ({ frames := 0, cells := 0, slots := 0, locals := 0 }) s m args below meth c H locs 0 0 Q (F0 m pc ls [.int r.2])) : ∀ (H : Heap) (locs : List Loc) (ls : Array Slot), va_P D cls (mw md mc S) H → va_D A (mw md mc S) → va_S A s.heap H locs → lv_has ls 6 [(0, .ref (md 100)), (1, .int x1), (2, .int x2), (3, .int x3), (4, .int x4)] → W p l e ({ frames := 0, cells := 0, slots := 0, locals := 0 }) s m args below meth c H locs 0 0 Q (F0 m 3 ls []) := by
  intro H locs ls hP hD hS hl
  obtain ⟨hx, hb, hr, hml, hown, hts, hK, hA⟩ := id hC
  unfold m_rkeyThere_B3 at Heq
  refine lv_iload hx hb d_rkeyThere_3 (lv_at hl 4 rfl) ?_
  refine lv_aload_n hx hb d_rkeyThere_5 rfl (lv_at hl 0 rfl) ?_
  refine va_get (D := D) (ci := 12) (v := .int (S.i 64)) (C := R_MM) (T := F_MM) (N := 77) hx hb hts i_MM hown hK hP 0 rfl rfl 64 (by decide) (hts _ kw_1446) (fun _ h9 => h9) rfl d_rkeyThere_6 ?_
  refine lv_icmp_ge (tgt := 93) hx hb d_rkeyThere_9 (by decide) (fun c_1 => ?_) (fun c_1 => ?_)
  · replace Heq := (if_pos c_1).symm.trans Heq
    exact K0 _ (Option.some.inj Heq).symm _ _ _ hP hD hS (lv_sub hl [0] rfl)
  · replace Heq := (if_neg c_1).symm.trans Heq
    refine lv_aload_n hx hb d_rkeyThere_12 rfl (lv_at hl 0 rfl) ?_
    refine va_get (D := D) (ci := 12) (v := .ref (md 54)) (C := R_MM) (T := F_MM) (N := 77) hx hb hts i_MM hown hK hP 0 rfl rfl 54 (by decide) (hts _ kw_1436) (fun _ h9 => h9) rfl d_rkeyThere_13 ?_
    refine lv_iload hx hb d_rkeyThere_16 (lv_at hl 4 rfl) ?_
    obtain ⟨hi_2, Heq⟩ := gd_some Heq
    refine va_iald hx hb hK hP 36 0 rfl rfl (i := x4) hi_2 d_rkeyThere_18 ?_
    refine w_i (y := S.a 54 x4.toNatClampNeg) rfl ?_
    refine lv_iload_n hx hb d_rkeyThere_19 rfl (lv_at hl 1 rfl) ?_
    refine lv_icmp_ne (tgt := 87) hx hb d_rkeyThere_20 (by decide) (fun c_3 => ?_) (fun c_3 => ?_)
    · replace Heq := (if_neg c_3).symm.trans Heq
      exact w_rkeyThere_J87 hC Heq Ka K0 Kr _ _ _ hP hD hS (lv_sub hl [0, 1, 2, 3, 4] rfl)
    · replace Heq := (if_pos c_3).symm.trans Heq
      refine lv_aload_n hx hb d_rkeyThere_23 rfl (lv_at hl 0 rfl) ?_
      refine va_get (D := D) (ci := 12) (v := .ref (md 56)) (C := R_MM) (T := F_MM) (N := 77) hx hb hts i_MM hown hK hP 0 rfl rfl 56 (by decide) (hts _ kw_1438) (fun _ h9 => h9) rfl d_rkeyThere_24 ?_
      refine lv_iload hx hb d_rkeyThere_27 (lv_at hl 4 rfl) ?_
      obtain ⟨hi_4, Heq⟩ := gd_some Heq
      refine va_iald hx hb hK hP 38 0 rfl rfl (i := x4) hi_4 d_rkeyThere_29 ?_
      refine w_i (y := S.a 56 x4.toNatClampNeg) rfl ?_
      refine lv_iload_n hx hb d_rkeyThere_30 rfl (lv_at hl 3 rfl) ?_
      refine lv_icmp_eq (tgt := 37) hx hb d_rkeyThere_31 (by decide) (fun c_5 => ?_) (fun c_5 => ?_)
      · replace Heq := (if_pos c_5).symm.trans Heq
        refine lv_iconst (v := 0) hx hb d_rkeyThere_37 (by decide) ?_
        refine lv_istore (lv' := [(5, .int 0), (0, .ref (md 100)), (1, .int x1), (2, .int x2), (3, .int x3), (4, .int x4)]) hx hb d_rkeyThere_38 hl (by decide) rfl (fun ls hl => ?_)
        obtain ⟨b_6, h_7, Heq⟩ := ob_some Heq
        refine w_rkeyThere_L40 hC h_7 (fun b h => ?_) _ _ _ hP hD hS (lv_sub hl [1, 2, 3, 4, 5, 0] rfl)
        subst h
        intro H locs ls hP hD hS hl
        exact w_rkeyThere_J79 hC Heq Ka K0 Kr _ _ _ hP hD hS (lv_sub hl [0, 1, 2, 3, 4, 5] rfl)
      · replace Heq := (if_neg c_5).symm.trans Heq
        refine lv_goto (tgt := 87) hx hb d_rkeyThere_34 (by decide) ?_
        exact w_rkeyThere_J87 hC Heq Ka K0 Kr _ _ _ hP hD hS (lv_sub hl [0, 1, 2, 3, 4] rfl)
def m_rkeyThere_L3 (S : MS) (x1 : Int32) (x2 : Int32) (x3 : Int32) (x4 : Int32) : Option (MS ⊕ (MS × Int32)) := lp (fun a : MS × Int32 × Int32 × Int32 × Int32 => m_rkeyThere_B3 a.1 a.2.1 a.2.2.1 a.2.2.2.1 a.2.2.2.2) FU (S, x1, x2, x3, x4)
theorem w_rkeyThere_L3 {p : Program} {l : Launch} {e : Env} {s : State} {m : MethodId} {args : Array Value} {below : List Frame} {meth : Method} {c : Code} {A : Nat → Prop} {D : va_G} {md : Nat → Nat} {mc : Nat → ClassId} {Q : State → Prop} (hC : MCx "JoinedTreesModel" prog_14_method_47_code 6 (some .boolean) p s m args meth c A D mc) {S : MS} {x1 : Int32} {x2 : Int32} {x3 : Int32} {x4 : Int32} {o : (MS ⊕ (MS × Int32))} (Heq : m_rkeyThere_L3 S x1 x2 x3 x4 = some o) (K0 : ∀ b : MS, o = (.inl b) → ∀ (H : Heap) (locs : List Loc) (ls : Array Slot), va_P D cls (mw md mc b) H → va_D A (mw md mc b) → va_S A s.heap H locs → lv_has ls 6 [(0, .ref (md 100))] → W p l e ({ frames := 0, cells := 0, slots := 0, locals := 0 }) s m args below meth c H locs 0 0 Q (F0 m 93 ls [])) (Kr : ∀ r : MS × Int32, o = (.inr r) → ∀ (pc : Nat) (H : Heap) (locs : List Loc) (ls : Array Slot), decode prog_14_method_47_code pc = .ok (.ireturn, 1) → (r.2 = 0 ∨ r.2 = 1) → va_P D cls (mw md mc r.1) H → va_D A (mw md mc r.1) → va_S A s.heap H locs → W p l e ({ frames := 0, cells := 0, slots := 0, locals := 0 }) s m args below meth c H locs 0 0 Q (F0 m pc ls [.int r.2])) : ∀ (H : Heap) (locs : List Loc) (ls : Array Slot), va_P D cls (mw md mc S) H → va_D A (mw md mc S) → va_S A s.heap H locs → lv_has ls 6 [(0, .ref (md 100)), (1, .int x1), (2, .int x2), (3, .int x3), (4, .int x4)] → W p l e ({ frames := 0, cells := 0, slots := 0, locals := 0 }) s m args below meth c H locs 0 0 Q (F0 m 3 ls []) := by
  refine lp_w (G := fun a : MS × Int32 × Int32 × Int32 × Int32 => ∀ (H : Heap) (locs : List Loc) (ls : Array Slot), va_P D cls (mw md mc a.1) H → va_D A (mw md mc a.1) → va_S A s.heap H locs → lv_has ls 6 [(0, .ref (md 100)), (1, .int a.2.1), (2, .int a.2.2.1), (3, .int a.2.2.2.1), (4, .int a.2.2.2.2)] → W p l e ({ frames := 0, cells := 0, slots := 0, locals := 0 }) s m args below meth c H locs 0 0 Q (F0 m 3 ls [])) ?_ FU (S, x1, x2, x3, x4) Heq
  intro a o1 ho Ka Ke
  exact w_rkeyThere_B3 hC ho (fun b h => Ka b h) (fun b h => K0 b (Ke _ h).symm) (fun r h => Kr r (Ke _ h).symm)
def m_rkeyThere_J0 (S : MS) (x1 : Int32) (x2 : Int32) (x3 : Int32) : Option (MS × Int32) := oe (m_rkeyThere_L3 S x1 x2 x3 0) (fun b_1 => some (b_1, 0)) (fun r_3 => some r_3)
theorem d_rkeyThere_93 : decode prog_14_method_47_code 93 = .ok (.iconst 0, 1) := by decide +kernel
theorem d_rkeyThere_94 : decode prog_14_method_47_code 94 = .ok (.ireturn, 1) := by decide +kernel
set_option maxHeartbeats 4000000 in
set_option maxRecDepth 100000 in
theorem w_rkeyThere_J0 {p : Program} {l : Launch} {e : Env} {s : State} {m : MethodId} {args : Array Value} {below : List Frame} {meth : Method} {c : Code} {A : Nat → Prop} {D : va_G} {md : Nat → Nat} {mc : Nat → ClassId} {Q : State → Prop} (hC : MCx "JoinedTreesModel" prog_14_method_47_code 6 (some .boolean) p s m args meth c A D mc) {S : MS} {x1 : Int32} {x2 : Int32} {x3 : Int32} {o : MS × Int32} (Heq : m_rkeyThere_J0 S x1 x2 x3 = some o) (Kr : ∀ r : MS × Int32, o = r → ∀ (pc : Nat) (H : Heap) (locs : List Loc) (ls : Array Slot), decode prog_14_method_47_code pc = .ok (.ireturn, 1) → (r.2 = 0 ∨ r.2 = 1) → va_P D cls (mw md mc r.1) H → va_D A (mw md mc r.1) → va_S A s.heap H locs → W p l e ({ frames := 0, cells := 0, slots := 0, locals := 0 }) s m args below meth c H locs 0 0 Q (F0 m pc ls [.int r.2])) : ∀ (H : Heap) (locs : List Loc) (ls : Array Slot), va_P D cls (mw md mc S) H → va_D A (mw md mc S) → va_S A s.heap H locs → lv_has ls 6 [(0, .ref (md 100)), (1, .int x1), (2, .int x2), (3, .int x3)] → W p l e ({ frames := 0, cells := 0, slots := 0, locals := 0 }) s m args below meth c H locs 0 0 Q (F0 m 0 ls []) := by
  intro H locs ls hP hD hS hl
  obtain ⟨hx, hb, hr, hml, hown, hts, hK, hA⟩ := id hC
  unfold m_rkeyThere_J0 at Heq
  refine lv_iconst (v := 0) hx hb d_rkeyThere_0 (by decide) ?_
  refine lv_istore (lv' := [(4, .int 0), (0, .ref (md 100)), (1, .int x1), (2, .int x2), (3, .int x3)]) hx hb d_rkeyThere_1 hl (by decide) rfl (fun ls hl => ?_)
  rcases oe_some Heq with ⟨b_1, h_2, Heq⟩ | ⟨r_3, h_2, Heq⟩
  · refine w_rkeyThere_L3 hC h_2 (fun b h => ?_) (fun r h => by cases h) _ _ _ hP hD hS (lv_sub hl [1, 2, 3, 4, 0] rfl)
    cases h
    intro H locs ls hP hD hS hl
    refine lv_iconst (v := 0) hx hb d_rkeyThere_93 (by decide) ?_
    exact Kr _ (Option.some.inj Heq).symm 94 _ _ _ d_rkeyThere_94 (Or.inl rfl) hP hD hS
  · refine w_rkeyThere_L3 hC h_2 (fun b h => by cases h) (fun r h => ?_) _ _ _ hP hD hS (lv_sub hl [1, 2, 3, 4, 0] rfl)
    cases h
    exact Kr _ (Option.some.inj Heq).symm
def m_rkeyThere (S : MS) (x1 : Int32) (x2 : Int32) (x3 : Int32) : Option (MS × Int32) := m_rkeyThere_J0 S x1 x2 x3
theorem g_rkeyThere (l : Launch) (D : va_G) (sz : Nat) {md : Nat → Nat} {mc : Nat → ClassId} {S : MS} {x1 : Int32} {x2 : Int32} {x3 : Int32} {o : MS × Int32} (Heq : m_rkeyThere S x1 x2 x3 = some o) : Met l ⟨"JoinedTreesModel", "keyThere", "(III)Z"⟩ (Cond.code ⟨"JoinedTreesModel", "keyThere", "(III)Z"⟩ prog_14_method_47_code 6 (some .boolean) :: gb) ({ frames := 0, cells := 0, slots := 0, locals := 0 }) (gPc D (mw md mc S) (mty mc) sz [.ref (md 100), .int x1, .int x2, .int x3]) (va_Qi (fun (r : Int32) (_ : Unit) => r = o.2) (fun _ t => gO D (mw md mc o.1) (mty mc) (va_A (mw md mc S) sz) t) (va_A (mw md mc S) sz)) 0 0 (va_A (mw md mc S) sz) := by
  refine Met.ofW (cc := prog_14_method_47_code) (maxL := 6) (ret := (some .boolean)) (by decide) rfl ?_
  intro p e s m args below meth c s₁ B hml hv
  obtain ⟨rfl, hsz, hP, hK, hD0⟩ := hv
  have hx := B.exec
  have hb := B.bytes
  have hr := B.returns
  have hts : ∀ w9 ∈ gb, w9.before [.ref (md 100), .int x1, .int x2, .int x3].toArray s = true := fun w9 h => atoms_spec (ws := Cond.code ⟨"JoinedTreesModel", "keyThere", "(III)Z"⟩ prog_14_method_47_code 6 (some .boolean) :: gb) B.pre w9 (List.mem_cons_of_mem _ h)
  have hown : s.vm.findClass "JoinedTreesModel" = some m.cls := findClass_of_methodNamed B.named
  have hlocks := B.notSynchronized
  subst hsz
  have hD := hD0.self (sz := s.heap.size)
  generalize hAe : va_A (mw md mc S) s.heap.size = A at hD ⊢
  have hA : ∀ q : Nat, s.heap.size ≤ q → A q := fun q h => by rw [← hAe]; exact Or.inr h
  have hS : va_S A s.heap s.heap [] := va_S.rf
  have hl := lv_entry ([.ref (md 100), .int x1, .int x2, .int x3]) (n := 6) (Nat.le_of_ble_eq_true rfl)
  rw [lg_entry_eq]
  generalize (lg_sl ([.ref (md 100), .int x1, .int x2, .int x3]) ++ List.replicate (6 - (lg_sl ([.ref (md 100), .int x1, .int x2, .int x3])).length) Slot.unset).toArray = ls at hl ⊢
  have hl : lv_has ls 6 [(0, .ref (md 100)), (1, .int x1), (2, .int x2), (3, .int x3)] := hl
  refine w_rkeyThere_J0 ⟨hx, hb, hr, hml, hown, hts, hK, hA⟩ Heq (fun r h pc H locs ls hd hz hP hD hS => ?_) _ _ _ hP hD hS (lv_sub hl [0, 1, 2, 3] rfl)
  subst h
  exact W.zret (ty := .boolean) hx hb hr (by rcases hz with hz | hz <;> rw [hz] <;> rfl) (fun t ht hW => ⟨⟨_, (), rfl, rfl, by rw [ht]; exact hP, va_K.moved hW.alike hK, hD⟩, hS.F ht⟩) hS.2.2 hd
def m_ropen_J43 (S : MS) (x1 : Int32) (x2 : Int32) (x3 : Int32) : Option ((MS × Int32 × Int32 × Int32) ⊕ (MS × Int32)) := some (.inl (S, x1, x2, (x3 + 1)))
theorem d_ropen_0 : decode prog_14_method_50_code 0 = .ok (.iconst 0, 1) := by decide +kernel
theorem d_ropen_1 : decode prog_14_method_50_code 1 = .ok (.istore_n 2, 1) := by decide +kernel
theorem d_ropen_2 : decode prog_14_method_50_code 2 = .ok (.iconst 0, 1) := by decide +kernel
theorem d_ropen_3 : decode prog_14_method_50_code 3 = .ok (.istore_n 3, 1) := by decide +kernel
theorem d_ropen_4 : decode prog_14_method_50_code 4 = .ok (.iload_n 3, 1) := by decide +kernel
theorem d_ropen_5 : decode prog_14_method_50_code 5 = .ok (.aload_n 0, 1) := by decide +kernel
theorem d_ropen_6 : decode prog_14_method_50_code 6 = .ok (.getfield 195, 3) := by decide +kernel
theorem d_ropen_9 : decode prog_14_method_50_code 9 = .ok (.if_icmp .ge 40, 3) := by decide +kernel
theorem d_ropen_12 : decode prog_14_method_50_code 12 = .ok (.aload_n 0, 1) := by decide +kernel
theorem d_ropen_13 : decode prog_14_method_50_code 13 = .ok (.getfield 60, 3) := by decide +kernel
theorem d_ropen_16 : decode prog_14_method_50_code 16 = .ok (.iload_n 3, 1) := by decide +kernel
theorem d_ropen_17 : decode prog_14_method_50_code 17 = .ok (.baload, 1) := by decide +kernel
theorem d_ropen_18 : decode prog_14_method_50_code 18 = .ok (.ifCond .ne 25, 3) := by decide +kernel
theorem d_ropen_43 : decode prog_14_method_50_code 43 = .ok (.iinc 3 1, 3) := by decide +kernel
theorem d_ropen_46 : decode prog_14_method_50_code 46 = .ok (.goto (-42), 3) := by decide +kernel
set_option maxHeartbeats 4000000 in
set_option maxRecDepth 100000 in
theorem w_ropen_J43 {p : Program} {l : Launch} {e : Env} {s : State} {m : MethodId} {args : Array Value} {below : List Frame} {meth : Method} {c : Code} {A : Nat → Prop} {D : va_G} {md : Nat → Nat} {mc : Nat → ClassId} {Q : State → Prop} (hC : MCx "JoinedTreesModel" prog_14_method_50_code 4 (some .int) p s m args meth c A D mc) {S : MS} {x1 : Int32} {x2 : Int32} {x3 : Int32} {o : ((MS × Int32 × Int32 × Int32) ⊕ (MS × Int32))} (Heq : m_ropen_J43 S x1 x2 x3 = some o) (Ka : ∀ b : MS × Int32 × Int32 × Int32, o = .inl b → ∀ (H : Heap) (locs : List Loc) (ls : Array Slot), va_P D cls (mw md mc b.1) H → va_D A (mw md mc b.1) → va_S A s.heap H locs → lv_has ls 4 [(0, .ref (md 100)), (1, .int b.2.1), (2, .int b.2.2.1), (3, .int b.2.2.2)] → W p l e ({ frames := 0, cells := 0, slots := 0, locals := 0 }) s m args below meth c H locs 0 0 Q (F0 m 4 ls [])) (K0 : ∀ b : MS × Int32, o = .inr b → ∀ (H : Heap) (locs : List Loc) (ls : Array Slot), va_P D cls (mw md mc b.1) H → va_D A (mw md mc b.1) → va_S A s.heap H locs → lv_has ls 4 [(0, .ref (md 100)), (2, .int b.2)] → W p l e ({ frames := 0, cells := 0, slots := 0, locals := 0 }) s m args below meth c H locs 0 0 Q (F0 m 49 ls [])) : ∀ (H : Heap) (locs : List Loc) (ls : Array Slot), va_P D cls (mw md mc S) H → va_D A (mw md mc S) → va_S A s.heap H locs → lv_has ls 4 [(0, .ref (md 100)), (1, .int x1), (2, .int x2), (3, .int x3)] → W p l e ({ frames := 0, cells := 0, slots := 0, locals := 0 }) s m args below meth c H locs 0 0 Q (F0 m 43 ls []) := by
  intro H locs ls hP hD hS hl
  obtain ⟨hx, hb, hr, hml, hown, hts, hK, hA⟩ := id hC
  unfold m_ropen_J43 at Heq
  refine lv_iinc (v := x3 + 1) (lv' := [(3, .int (x3 + 1)), (0, .ref (md 100)), (1, .int x1), (2, .int x2)]) hx hb d_ropen_43 hl (k := 3) rfl rfl (by decide) rfl (fun ls hl => ?_)
  refine lv_goto (tgt := 4) hx hb d_ropen_46 (by decide) ?_
  exact Ka _ (Option.some.inj Heq).symm _ _ _ hP hD hS (lv_sub hl [1, 2, 3, 0] rfl)
def m_ropen_B4 (S : MS) (x1 : Int32) (x2 : Int32) (x3 : Int32) : Option ((MS × Int32 × Int32 × Int32) ⊕ (MS × Int32)) := (if S.i 23 ≤ x3 then some (.inr (S, x2)) else gd x3 4000 ((if S.a 21 x3.toNatClampNeg = 0 then gd x3 4000 ((if 0 ≤ S.a 13 x3.toNatClampNeg then m_ropen_J43 S x1 x2 x3 else gd x3 4000 ((if S.a 12 x3.toNatClampNeg = x1 then m_ropen_J43 S x1 (x2 + 1) x3 else m_ropen_J43 S x1 x2 x3)))) else m_ropen_J43 S x1 x2 x3)))
theorem d_ropen_21 : decode prog_14_method_50_code 21 = .ok (.aload_n 0, 1) := by decide +kernel
theorem d_ropen_22 : decode prog_14_method_50_code 22 = .ok (.getfield 35, 3) := by decide +kernel
theorem d_ropen_25 : decode prog_14_method_50_code 25 = .ok (.iload_n 3, 1) := by decide +kernel
theorem d_ropen_26 : decode prog_14_method_50_code 26 = .ok (.iaload, 1) := by decide +kernel
theorem d_ropen_27 : decode prog_14_method_50_code 27 = .ok (.ifCond .ge 16, 3) := by decide +kernel
theorem d_ropen_30 : decode prog_14_method_50_code 30 = .ok (.aload_n 0, 1) := by decide +kernel
theorem d_ropen_31 : decode prog_14_method_50_code 31 = .ok (.getfield 32, 3) := by decide +kernel
theorem d_ropen_34 : decode prog_14_method_50_code 34 = .ok (.iload_n 3, 1) := by decide +kernel
theorem d_ropen_35 : decode prog_14_method_50_code 35 = .ok (.iaload, 1) := by decide +kernel
theorem d_ropen_36 : decode prog_14_method_50_code 36 = .ok (.iload_n 1, 1) := by decide +kernel
theorem d_ropen_37 : decode prog_14_method_50_code 37 = .ok (.if_icmp .ne 6, 3) := by decide +kernel
theorem d_ropen_40 : decode prog_14_method_50_code 40 = .ok (.iinc 2 1, 3) := by decide +kernel
set_option maxHeartbeats 4000000 in
set_option maxRecDepth 100000 in
theorem w_ropen_B4 {p : Program} {l : Launch} {e : Env} {s : State} {m : MethodId} {args : Array Value} {below : List Frame} {meth : Method} {c : Code} {A : Nat → Prop} {D : va_G} {md : Nat → Nat} {mc : Nat → ClassId} {Q : State → Prop} (hC : MCx "JoinedTreesModel" prog_14_method_50_code 4 (some .int) p s m args meth c A D mc) {S : MS} {x1 : Int32} {x2 : Int32} {x3 : Int32} {o : ((MS × Int32 × Int32 × Int32) ⊕ (MS × Int32))} (Heq : m_ropen_B4 S x1 x2 x3 = some o) (Ka : ∀ b : MS × Int32 × Int32 × Int32, o = .inl b → ∀ (H : Heap) (locs : List Loc) (ls : Array Slot), va_P D cls (mw md mc b.1) H → va_D A (mw md mc b.1) → va_S A s.heap H locs → lv_has ls 4 [(0, .ref (md 100)), (1, .int b.2.1), (2, .int b.2.2.1), (3, .int b.2.2.2)] → W p l e ({ frames := 0, cells := 0, slots := 0, locals := 0 }) s m args below meth c H locs 0 0 Q (F0 m 4 ls [])) (K0 : ∀ b : MS × Int32, o = .inr b → ∀ (H : Heap) (locs : List Loc) (ls : Array Slot), va_P D cls (mw md mc b.1) H → va_D A (mw md mc b.1) → va_S A s.heap H locs → lv_has ls 4 [(0, .ref (md 100)), (2, .int b.2)] → W p l e ({ frames := 0, cells := 0, slots := 0, locals := 0 }) s m args below meth c H locs 0 0 Q (F0 m 49 ls [])) : ∀ (H : Heap) (locs : List Loc) (ls : Array Slot), va_P D cls (mw md mc S) H → va_D A (mw md mc S) → va_S A s.heap H locs → lv_has ls 4 [(0, .ref (md 100)), (1, .int x1), (2, .int x2), (3, .int x3)] → W p l e ({ frames := 0, cells := 0, slots := 0, locals := 0 }) s m args below meth c H locs 0 0 Q (F0 m 4 ls []) := by
  intro H locs ls hP hD hS hl
  obtain ⟨hx, hb, hr, hml, hown, hts, hK, hA⟩ := id hC
  unfold m_ropen_B4 at Heq
  refine lv_iload_n hx hb d_ropen_4 rfl (lv_at hl 3 rfl) ?_
  refine lv_aload_n hx hb d_ropen_5 rfl (lv_at hl 0 rfl) ?_
  refine va_get (D := D) (ci := 12) (v := .int (S.i 23)) (C := R_MM) (T := F_MM) (N := 77) hx hb hts i_MM hown hK hP 0 rfl rfl 23 (by decide) (hts _ kw_1405) (fun _ h9 => h9) rfl d_ropen_6 ?_
  refine lv_icmp_ge (tgt := 49) hx hb d_ropen_9 (by decide) (fun c_1 => ?_) (fun c_1 => ?_)
  · replace Heq := (if_pos c_1).symm.trans Heq
    exact K0 _ (Option.some.inj Heq).symm _ _ _ hP hD hS (lv_sub hl [0, 2] rfl)
  · replace Heq := (if_neg c_1).symm.trans Heq
    refine lv_aload_n hx hb d_ropen_12 rfl (lv_at hl 0 rfl) ?_
    refine va_get (D := D) (ci := 12) (v := .ref (md 21)) (C := R_MM) (T := F_MM) (N := 77) hx hb hts i_MM hown hK hP 0 rfl rfl 21 (by decide) (hts _ kw_1403) (fun _ h9 => h9) rfl d_ropen_13 ?_
    refine lv_iload_n hx hb d_ropen_16 rfl (lv_at hl 3 rfl) ?_
    obtain ⟨hi_2, Heq⟩ := gd_some Heq
    refine va_zald hx hb hK hP 17 2 rfl rfl (i := x3) hi_2 d_ropen_17 ?_
    refine w_i (y := S.a 21 x3.toNatClampNeg) rfl ?_
    refine lv_if_ne (tgt := 43) hx hb d_ropen_18 (by decide) (fun c_3 => ?_) (fun c_3 => ?_)
    · replace Heq := (if_neg c_3).symm.trans Heq
      exact w_ropen_J43 hC Heq Ka K0 _ _ _ hP hD hS (lv_sub hl [0, 1, 2, 3] rfl)
    · replace Heq := (if_pos c_3).symm.trans Heq
      refine lv_aload_n hx hb d_ropen_21 rfl (lv_at hl 0 rfl) ?_
      refine va_get (D := D) (ci := 12) (v := .ref (md 13)) (C := R_MM) (T := F_MM) (N := 77) hx hb hts i_MM hown hK hP 0 rfl rfl 13 (by decide) (hts _ kw_1395) (fun _ h9 => h9) rfl d_ropen_22 ?_
      refine lv_iload_n hx hb d_ropen_25 rfl (lv_at hl 3 rfl) ?_
      obtain ⟨hi_4, Heq⟩ := gd_some Heq
      refine va_iald hx hb hK hP 9 0 rfl rfl (i := x3) hi_4 d_ropen_26 ?_
      refine w_i (y := S.a 13 x3.toNatClampNeg) rfl ?_
      refine lv_if_ge (tgt := 43) hx hb d_ropen_27 (by decide) (fun c_5 => ?_) (fun c_5 => ?_)
      · replace Heq := (if_pos c_5).symm.trans Heq
        exact w_ropen_J43 hC Heq Ka K0 _ _ _ hP hD hS (lv_sub hl [0, 1, 2, 3] rfl)
      · replace Heq := (if_neg c_5).symm.trans Heq
        refine lv_aload_n hx hb d_ropen_30 rfl (lv_at hl 0 rfl) ?_
        refine va_get (D := D) (ci := 12) (v := .ref (md 12)) (C := R_MM) (T := F_MM) (N := 77) hx hb hts i_MM hown hK hP 0 rfl rfl 12 (by decide) (hts _ kw_1394) (fun _ h9 => h9) rfl d_ropen_31 ?_
        refine lv_iload_n hx hb d_ropen_34 rfl (lv_at hl 3 rfl) ?_
        obtain ⟨hi_6, Heq⟩ := gd_some Heq
        refine va_iald hx hb hK hP 8 0 rfl rfl (i := x3) hi_6 d_ropen_35 ?_
        refine w_i (y := S.a 12 x3.toNatClampNeg) rfl ?_
        refine lv_iload_n hx hb d_ropen_36 rfl (lv_at hl 1 rfl) ?_
        refine lv_icmp_ne (tgt := 43) hx hb d_ropen_37 (by decide) (fun c_7 => ?_) (fun c_7 => ?_)
        · replace Heq := (if_neg c_7).symm.trans Heq
          exact w_ropen_J43 hC Heq Ka K0 _ _ _ hP hD hS (lv_sub hl [0, 1, 2, 3] rfl)
        · replace Heq := (if_pos c_7).symm.trans Heq
          refine lv_iinc (v := x2 + 1) (lv' := [(2, .int (x2 + 1)), (0, .ref (md 100)), (1, .int x1), (3, .int x3)]) hx hb d_ropen_40 hl (k := 2) rfl rfl (by decide) rfl (fun ls hl => ?_)
          exact w_ropen_J43 hC Heq Ka K0 _ _ _ hP hD hS (lv_sub hl [1, 2, 0, 3] rfl)
def m_ropen_L4 (S : MS) (x1 : Int32) (x2 : Int32) (x3 : Int32) : Option (MS × Int32) := lp (fun a : MS × Int32 × Int32 × Int32 => m_ropen_B4 a.1 a.2.1 a.2.2.1 a.2.2.2) FU (S, x1, x2, x3)
theorem w_ropen_L4 {p : Program} {l : Launch} {e : Env} {s : State} {m : MethodId} {args : Array Value} {below : List Frame} {meth : Method} {c : Code} {A : Nat → Prop} {D : va_G} {md : Nat → Nat} {mc : Nat → ClassId} {Q : State → Prop} (hC : MCx "JoinedTreesModel" prog_14_method_50_code 4 (some .int) p s m args meth c A D mc) {S : MS} {x1 : Int32} {x2 : Int32} {x3 : Int32} {o : MS × Int32} (Heq : m_ropen_L4 S x1 x2 x3 = some o) (K0 : ∀ b : MS × Int32, o = b → ∀ (H : Heap) (locs : List Loc) (ls : Array Slot), va_P D cls (mw md mc b.1) H → va_D A (mw md mc b.1) → va_S A s.heap H locs → lv_has ls 4 [(0, .ref (md 100)), (2, .int b.2)] → W p l e ({ frames := 0, cells := 0, slots := 0, locals := 0 }) s m args below meth c H locs 0 0 Q (F0 m 49 ls [])) : ∀ (H : Heap) (locs : List Loc) (ls : Array Slot), va_P D cls (mw md mc S) H → va_D A (mw md mc S) → va_S A s.heap H locs → lv_has ls 4 [(0, .ref (md 100)), (1, .int x1), (2, .int x2), (3, .int x3)] → W p l e ({ frames := 0, cells := 0, slots := 0, locals := 0 }) s m args below meth c H locs 0 0 Q (F0 m 4 ls []) := by
  refine lp_w (G := fun a : MS × Int32 × Int32 × Int32 => ∀ (H : Heap) (locs : List Loc) (ls : Array Slot), va_P D cls (mw md mc a.1) H → va_D A (mw md mc a.1) → va_S A s.heap H locs → lv_has ls 4 [(0, .ref (md 100)), (1, .int a.2.1), (2, .int a.2.2.1), (3, .int a.2.2.2)] → W p l e ({ frames := 0, cells := 0, slots := 0, locals := 0 }) s m args below meth c H locs 0 0 Q (F0 m 4 ls [])) ?_ FU (S, x1, x2, x3) Heq
  intro a o1 ho Ka Ke
  exact w_ropen_B4 hC ho (fun b h => Ka b h) (fun b h => K0 b (Ke _ h).symm)
def m_ropen_J0 (S : MS) (x1 : Int32) : Option (MS × Int32) := ob (m_ropen_L4 S x1 0 0) (fun b_1 => some (b_1.1, b_1.2))
theorem d_ropen_49 : decode prog_14_method_50_code 49 = .ok (.iload_n 2, 1) := by decide +kernel
theorem d_ropen_50 : decode prog_14_method_50_code 50 = .ok (.ireturn, 1) := by decide +kernel
set_option maxHeartbeats 4000000 in
set_option maxRecDepth 100000 in
theorem w_ropen_J0 {p : Program} {l : Launch} {e : Env} {s : State} {m : MethodId} {args : Array Value} {below : List Frame} {meth : Method} {c : Code} {A : Nat → Prop} {D : va_G} {md : Nat → Nat} {mc : Nat → ClassId} {Q : State → Prop} (hC : MCx "JoinedTreesModel" prog_14_method_50_code 4 (some .int) p s m args meth c A D mc) {S : MS} {x1 : Int32} {o : MS × Int32} (Heq : m_ropen_J0 S x1 = some o) (Kr : ∀ r : MS × Int32, o = r → ∀ (pc : Nat) (H : Heap) (locs : List Loc) (ls : Array Slot), decode prog_14_method_50_code pc = .ok (.ireturn, 1) → va_P D cls (mw md mc r.1) H → va_D A (mw md mc r.1) → va_S A s.heap H locs → W p l e ({ frames := 0, cells := 0, slots := 0, locals := 0 }) s m args below meth c H locs 0 0 Q (F0 m pc ls [.int r.2])) : ∀ (H : Heap) (locs : List Loc) (ls : Array Slot), va_P D cls (mw md mc S) H → va_D A (mw md mc S) → va_S A s.heap H locs → lv_has ls 4 [(0, .ref (md 100)), (1, .int x1)] → W p l e ({ frames := 0, cells := 0, slots := 0, locals := 0 }) s m args below meth c H locs 0 0 Q (F0 m 0 ls []) := by
  intro H locs ls hP hD hS hl
  obtain ⟨hx, hb, hr, hml, hown, hts, hK, hA⟩ := id hC
  unfold m_ropen_J0 at Heq
  refine lv_iconst (v := 0) hx hb d_ropen_0 (by decide) ?_
  refine lv_istore_n (lv' := [(2, .int 0), (0, .ref (md 100)), (1, .int x1)]) hx hb d_ropen_1 rfl hl (by decide) rfl (fun ls hl => ?_)
  refine lv_iconst (v := 0) hx hb d_ropen_2 (by decide) ?_
  refine lv_istore_n (lv' := [(3, .int 0), (2, .int 0), (0, .ref (md 100)), (1, .int x1)]) hx hb d_ropen_3 rfl hl (by decide) rfl (fun ls hl => ?_)
  obtain ⟨b_1, h_2, Heq⟩ := ob_some Heq
  refine w_ropen_L4 hC h_2 (fun b h => ?_) _ _ _ hP hD hS (lv_sub hl [2, 3, 1, 0] rfl)
  subst h
  intro H locs ls hP hD hS hl
  refine lv_iload_n hx hb d_ropen_49 rfl (lv_at hl 1 rfl) ?_
  exact Kr _ (Option.some.inj Heq).symm 50 _ _ _ d_ropen_50 hP hD hS
def m_ropen (S : MS) (x1 : Int32) : Option (MS × Int32) := m_ropen_J0 S x1
theorem g_ropen (l : Launch) (D : va_G) (sz : Nat) {md : Nat → Nat} {mc : Nat → ClassId} {S : MS} {x1 : Int32} {o : MS × Int32} (Heq : m_ropen S x1 = some o) : Met l ⟨"JoinedTreesModel", "open", "(I)I"⟩ (Cond.code ⟨"JoinedTreesModel", "open", "(I)I"⟩ prog_14_method_50_code 4 (some .int) :: gb) ({ frames := 0, cells := 0, slots := 0, locals := 0 }) (gPc D (mw md mc S) (mty mc) sz [.ref (md 100), .int x1]) (va_Qi (fun (r : Int32) (_ : Unit) => r = o.2) (fun _ t => gO D (mw md mc o.1) (mty mc) (va_A (mw md mc S) sz) t) (va_A (mw md mc S) sz)) 0 0 (va_A (mw md mc S) sz) := by
  refine Met.ofW (cc := prog_14_method_50_code) (maxL := 4) (ret := (some .int)) (by decide) rfl ?_
  intro p e s m args below meth c s₁ B hml hv
  obtain ⟨rfl, hsz, hP, hK, hD0⟩ := hv
  have hx := B.exec
  have hb := B.bytes
  have hr := B.returns
  have hts : ∀ w9 ∈ gb, w9.before [.ref (md 100), .int x1].toArray s = true := fun w9 h => atoms_spec (ws := Cond.code ⟨"JoinedTreesModel", "open", "(I)I"⟩ prog_14_method_50_code 4 (some .int) :: gb) B.pre w9 (List.mem_cons_of_mem _ h)
  have hown : s.vm.findClass "JoinedTreesModel" = some m.cls := findClass_of_methodNamed B.named
  have hlocks := B.notSynchronized
  subst hsz
  have hD := hD0.self (sz := s.heap.size)
  generalize hAe : va_A (mw md mc S) s.heap.size = A at hD ⊢
  have hA : ∀ q : Nat, s.heap.size ≤ q → A q := fun q h => by rw [← hAe]; exact Or.inr h
  have hS : va_S A s.heap s.heap [] := va_S.rf
  have hl := lv_entry ([.ref (md 100), .int x1]) (n := 4) (Nat.le_of_ble_eq_true rfl)
  rw [lg_entry_eq]
  generalize (lg_sl ([.ref (md 100), .int x1]) ++ List.replicate (4 - (lg_sl ([.ref (md 100), .int x1])).length) Slot.unset).toArray = ls at hl ⊢
  have hl : lv_has ls 4 [(0, .ref (md 100)), (1, .int x1)] := hl
  refine w_ropen_J0 ⟨hx, hb, hr, hml, hown, hts, hK, hA⟩ Heq (fun r h pc H locs ls hd hP hD hS => ?_) _ _ _ hP hD hS (lv_sub hl [0, 1] rfl)
  subst h
  exact W.iret hx hb hr (fun t ht hW => ⟨⟨_, (), rfl, rfl, by rw [ht]; exact hP, va_K.moved hW.alike hK, hD⟩, hS.F ht⟩) hS.2.2 hd
def m_risHead_B40 (S : MS) (x1 : Int32) (x2 : Int32) (x3 : Int32) (x4 : Int32) : Option ((MS × Int32 × Int32 × Int32 × Int32) ⊕ ((MS × Int32 × Int32 × Int32) ⊕ (MS × Int32))) := gd x3 1000 ((if S.a 32 x3.toNatClampNeg ≤ x4 then some (.inr (.inl (S, x1, x2, x3))) else gd x3 1000 (gd ((S.a 31 x3.toNatClampNeg) + x4) 10000 ((if S.a 33 (((S.a 31 x3.toNatClampNeg) + x4).toNatClampNeg) = x2 then some (.inr (.inr (S, 0))) else some (.inl (S, x1, x2, x3, (x4 + 1))))))))
theorem d_risHead_0 : decode prog_14_method_51_code 0 = .ok (.aload_n 0, 1) := by decide +kernel
theorem d_risHead_1 : decode prog_14_method_51_code 1 = .ok (.getfield 95, 3) := by decide +kernel
theorem d_risHead_4 : decode prog_14_method_51_code 4 = .ok (.iload_n 1, 1) := by decide +kernel
theorem d_risHead_5 : decode prog_14_method_51_code 5 = .ok (.aaload, 1) := by decide +kernel
theorem d_risHead_6 : decode prog_14_method_51_code 6 = .ok (.iload_n 2, 1) := by decide +kernel
theorem d_risHead_7 : decode prog_14_method_51_code 7 = .ok (.baload, 1) := by decide +kernel
theorem d_risHead_8 : decode prog_14_method_51_code 8 = .ok (.ifCond .ne 5, 3) := by decide +kernel
theorem d_risHead_13 : decode prog_14_method_51_code 13 = .ok (.iconst 0, 1) := by decide +kernel
theorem d_risHead_14 : decode prog_14_method_51_code 14 = .ok (.istore_n 3, 1) := by decide +kernel
theorem d_risHead_15 : decode prog_14_method_51_code 15 = .ok (.iload_n 3, 1) := by decide +kernel
theorem d_risHead_16 : decode prog_14_method_51_code 16 = .ok (.aload_n 0, 1) := by decide +kernel
theorem d_risHead_17 : decode prog_14_method_51_code 17 = .ok (.getfield 384, 3) := by decide +kernel
theorem d_risHead_20 : decode prog_14_method_51_code 20 = .ok (.if_icmp .ge 63, 3) := by decide +kernel
theorem d_risHead_23 : decode prog_14_method_51_code 23 = .ok (.aload_n 0, 1) := by decide +kernel
theorem d_risHead_24 : decode prog_14_method_51_code 24 = .ok (.getfield 95, 3) := by decide +kernel
theorem d_risHead_27 : decode prog_14_method_51_code 27 = .ok (.iload_n 1, 1) := by decide +kernel
theorem d_risHead_28 : decode prog_14_method_51_code 28 = .ok (.aaload, 1) := by decide +kernel
theorem d_risHead_29 : decode prog_14_method_51_code 29 = .ok (.iload_n 3, 1) := by decide +kernel
theorem d_risHead_30 : decode prog_14_method_51_code 30 = .ok (.baload, 1) := by decide +kernel
theorem d_risHead_31 : decode prog_14_method_51_code 31 = .ok (.ifCond .ne 6, 3) := by decide +kernel
theorem d_risHead_37 : decode prog_14_method_51_code 37 = .ok (.iconst 0, 1) := by decide +kernel
theorem d_risHead_38 : decode prog_14_method_51_code 38 = .ok (.istore 4, 2) := by decide +kernel
theorem d_risHead_40 : decode prog_14_method_51_code 40 = .ok (.iload 4, 2) := by decide +kernel
theorem d_risHead_42 : decode prog_14_method_51_code 42 = .ok (.aload_n 0, 1) := by decide +kernel
theorem d_risHead_43 : decode prog_14_method_51_code 43 = .ok (.getfield 87, 3) := by decide +kernel
theorem d_risHead_46 : decode prog_14_method_51_code 46 = .ok (.iload_n 3, 1) := by decide +kernel
theorem d_risHead_47 : decode prog_14_method_51_code 47 = .ok (.iaload, 1) := by decide +kernel
theorem d_risHead_48 : decode prog_14_method_51_code 48 = .ok (.if_icmp .ge 29, 3) := by decide +kernel
theorem d_risHead_51 : decode prog_14_method_51_code 51 = .ok (.aload_n 0, 1) := by decide +kernel
theorem d_risHead_52 : decode prog_14_method_51_code 52 = .ok (.getfield 90, 3) := by decide +kernel
theorem d_risHead_55 : decode prog_14_method_51_code 55 = .ok (.aload_n 0, 1) := by decide +kernel
theorem d_risHead_56 : decode prog_14_method_51_code 56 = .ok (.getfield 84, 3) := by decide +kernel
theorem d_risHead_59 : decode prog_14_method_51_code 59 = .ok (.iload_n 3, 1) := by decide +kernel
theorem d_risHead_60 : decode prog_14_method_51_code 60 = .ok (.iaload, 1) := by decide +kernel
theorem d_risHead_61 : decode prog_14_method_51_code 61 = .ok (.iload 4, 2) := by decide +kernel
theorem d_risHead_63 : decode prog_14_method_51_code 63 = .ok (.iadd, 1) := by decide +kernel
theorem d_risHead_64 : decode prog_14_method_51_code 64 = .ok (.iaload, 1) := by decide +kernel
theorem d_risHead_65 : decode prog_14_method_51_code 65 = .ok (.iload_n 2, 1) := by decide +kernel
theorem d_risHead_66 : decode prog_14_method_51_code 66 = .ok (.if_icmp .ne 5, 3) := by decide +kernel
theorem d_risHead_71 : decode prog_14_method_51_code 71 = .ok (.iinc 4 1, 3) := by decide +kernel
theorem d_risHead_74 : decode prog_14_method_51_code 74 = .ok (.goto (-34), 3) := by decide +kernel
theorem d_risHead_69 : decode prog_14_method_51_code 69 = .ok (.iconst 0, 1) := by decide +kernel
theorem d_risHead_70 : decode prog_14_method_51_code 70 = .ok (.ireturn, 1) := by decide +kernel
set_option maxHeartbeats 4000000 in
set_option maxRecDepth 100000 in
theorem w_risHead_B40 {p : Program} {l : Launch} {e : Env} {s : State} {m : MethodId} {args : Array Value} {below : List Frame} {meth : Method} {c : Code} {A : Nat → Prop} {D : va_G} {md : Nat → Nat} {mc : Nat → ClassId} {Q : State → Prop} (hC : MCx "JoinedTreesModel" prog_14_method_51_code 5 (some .boolean) p s m args meth c A D mc) {S : MS} {x1 : Int32} {x2 : Int32} {x3 : Int32} {x4 : Int32} {o : ((MS × Int32 × Int32 × Int32 × Int32) ⊕ ((MS × Int32 × Int32 × Int32) ⊕ (MS × Int32)))} (Heq : m_risHead_B40 S x1 x2 x3 x4 = some o) (Ka : ∀ b : MS × Int32 × Int32 × Int32 × Int32, o = .inl b → ∀ (H : Heap) (locs : List Loc) (ls : Array Slot), va_P D cls (mw md mc b.1) H → va_D A (mw md mc b.1) → va_S A s.heap H locs → lv_has ls 5 [(0, .ref (md 100)), (1, .int b.2.1), (2, .int b.2.2.1), (3, .int b.2.2.2.1), (4, .int b.2.2.2.2)] → W p l e ({ frames := 0, cells := 0, slots := 0, locals := 0 }) s m args below meth c H locs 0 0 Q (F0 m 40 ls [])) (K0 : ∀ b : MS × Int32 × Int32 × Int32, o = .inr (.inl b) → ∀ (H : Heap) (locs : List Loc) (ls : Array Slot), va_P D cls (mw md mc b.1) H → va_D A (mw md mc b.1) → va_S A s.heap H locs → lv_has ls 5 [(0, .ref (md 100)), (1, .int b.2.1), (2, .int b.2.2.1), (3, .int b.2.2.2)] → W p l e ({ frames := 0, cells := 0, slots := 0, locals := 0 }) s m args below meth c H locs 0 0 Q (F0 m 77 ls [])) (Kr : ∀ r : MS × Int32, o = .inr (.inr r) → ∀ (pc : Nat) (H : Heap) (locs : List Loc) (ls : Array Slot), decode prog_14_method_51_code pc = .ok (.ireturn, 1) → (r.2 = 0 ∨ r.2 = 1) → va_P D cls (mw md mc r.1) H → va_D A (mw md mc r.1) → va_S A s.heap H locs → W p l e ({ frames := 0, cells := 0, slots := 0, locals := 0 }) s m args below meth c H locs 0 0 Q (F0 m pc ls [.int r.2])) : ∀ (H : Heap) (locs : List Loc) (ls : Array Slot), va_P D cls (mw md mc S) H → va_D A (mw md mc S) → va_S A s.heap H locs → lv_has ls 5 [(0, .ref (md 100)), (1, .int x1), (2, .int x2), (3, .int x3), (4, .int x4)] → W p l e ({ frames := 0, cells := 0, slots := 0, locals := 0 }) s m args below meth c H locs 0 0 Q (F0 m 40 ls []) := by
  intro H locs ls hP hD hS hl
  obtain ⟨hx, hb, hr, hml, hown, hts, hK, hA⟩ := id hC
  unfold m_risHead_B40 at Heq
  refine lv_iload hx hb d_risHead_40 (lv_at hl 4 rfl) ?_
  refine lv_aload_n hx hb d_risHead_42 rfl (lv_at hl 0 rfl) ?_
  refine va_get (D := D) (ci := 12) (v := .ref (md 32)) (C := R_MM) (T := F_MM) (N := 77) hx hb hts i_MM hown hK hP 0 rfl rfl 32 (by decide) (hts _ kw_1414) (fun _ h9 => h9) rfl d_risHead_43 ?_
  refine lv_iload_n hx hb d_risHead_46 rfl (lv_at hl 3 rfl) ?_
  obtain ⟨hi_1, Heq⟩ := gd_some Heq
  refine va_iald hx hb hK hP 25 0 rfl rfl (i := x3) hi_1 d_risHead_47 ?_
  refine w_i (y := S.a 32 x3.toNatClampNeg) rfl ?_
  refine lv_icmp_ge (tgt := 77) hx hb d_risHead_48 (by decide) (fun c_2 => ?_) (fun c_2 => ?_)
  · replace Heq := (if_pos c_2).symm.trans Heq
    exact K0 _ (Option.some.inj Heq).symm _ _ _ hP hD hS (lv_sub hl [0, 1, 2, 3] rfl)
  · replace Heq := (if_neg c_2).symm.trans Heq
    refine lv_aload_n hx hb d_risHead_51 rfl (lv_at hl 0 rfl) ?_
    refine va_get (D := D) (ci := 12) (v := .ref (md 33)) (C := R_MM) (T := F_MM) (N := 77) hx hb hts i_MM hown hK hP 0 rfl rfl 33 (by decide) (hts _ kw_1415) (fun _ h9 => h9) rfl d_risHead_52 ?_
    refine lv_aload_n hx hb d_risHead_55 rfl (lv_at hl 0 rfl) ?_
    refine va_get (D := D) (ci := 12) (v := .ref (md 31)) (C := R_MM) (T := F_MM) (N := 77) hx hb hts i_MM hown hK hP 0 rfl rfl 31 (by decide) (hts _ kw_1413) (fun _ h9 => h9) rfl d_risHead_56 ?_
    refine lv_iload_n hx hb d_risHead_59 rfl (lv_at hl 3 rfl) ?_
    obtain ⟨hi_3, Heq⟩ := gd_some Heq
    refine va_iald hx hb hK hP 24 0 rfl rfl (i := x3) hi_3 d_risHead_60 ?_
    refine w_i (y := S.a 31 x3.toNatClampNeg) rfl ?_
    refine lv_iload hx hb d_risHead_61 (lv_at hl 4 rfl) ?_
    refine lv_iadd hx hb d_risHead_63 ?_
    refine w_i (y := (S.a 31 x3.toNatClampNeg) + x4) rfl ?_
    obtain ⟨hi_4, Heq⟩ := gd_some Heq
    refine va_iald hx hb hK hP 26 0 rfl rfl (i := (S.a 31 x3.toNatClampNeg) + x4) hi_4 d_risHead_64 ?_
    refine w_i (y := S.a 33 (((S.a 31 x3.toNatClampNeg) + x4).toNatClampNeg)) rfl ?_
    refine lv_iload_n hx hb d_risHead_65 rfl (lv_at hl 2 rfl) ?_
    refine lv_icmp_ne (tgt := 71) hx hb d_risHead_66 (by decide) (fun c_5 => ?_) (fun c_5 => ?_)
    · replace Heq := (if_neg c_5).symm.trans Heq
      refine lv_iinc (v := x4 + 1) (lv' := [(4, .int (x4 + 1)), (0, .ref (md 100)), (1, .int x1), (2, .int x2), (3, .int x3)]) hx hb d_risHead_71 hl (k := 4) rfl rfl (by decide) rfl (fun ls hl => ?_)
      refine lv_goto (tgt := 40) hx hb d_risHead_74 (by decide) ?_
      exact Ka _ (Option.some.inj Heq).symm _ _ _ hP hD hS (lv_sub hl [1, 2, 3, 4, 0] rfl)
    · replace Heq := (if_pos c_5).symm.trans Heq
      refine lv_iconst (v := 0) hx hb d_risHead_69 (by decide) ?_
      exact Kr _ (Option.some.inj Heq).symm 70 _ _ _ d_risHead_70 (Or.inl rfl) hP hD hS
def m_risHead_L40 (S : MS) (x1 : Int32) (x2 : Int32) (x3 : Int32) (x4 : Int32) : Option ((MS × Int32 × Int32 × Int32) ⊕ (MS × Int32)) := lp (fun a : MS × Int32 × Int32 × Int32 × Int32 => m_risHead_B40 a.1 a.2.1 a.2.2.1 a.2.2.2.1 a.2.2.2.2) FU (S, x1, x2, x3, x4)
theorem w_risHead_L40 {p : Program} {l : Launch} {e : Env} {s : State} {m : MethodId} {args : Array Value} {below : List Frame} {meth : Method} {c : Code} {A : Nat → Prop} {D : va_G} {md : Nat → Nat} {mc : Nat → ClassId} {Q : State → Prop} (hC : MCx "JoinedTreesModel" prog_14_method_51_code 5 (some .boolean) p s m args meth c A D mc) {S : MS} {x1 : Int32} {x2 : Int32} {x3 : Int32} {x4 : Int32} {o : ((MS × Int32 × Int32 × Int32) ⊕ (MS × Int32))} (Heq : m_risHead_L40 S x1 x2 x3 x4 = some o) (K0 : ∀ b : MS × Int32 × Int32 × Int32, o = (.inl b) → ∀ (H : Heap) (locs : List Loc) (ls : Array Slot), va_P D cls (mw md mc b.1) H → va_D A (mw md mc b.1) → va_S A s.heap H locs → lv_has ls 5 [(0, .ref (md 100)), (1, .int b.2.1), (2, .int b.2.2.1), (3, .int b.2.2.2)] → W p l e ({ frames := 0, cells := 0, slots := 0, locals := 0 }) s m args below meth c H locs 0 0 Q (F0 m 77 ls [])) (Kr : ∀ r : MS × Int32, o = (.inr r) → ∀ (pc : Nat) (H : Heap) (locs : List Loc) (ls : Array Slot), decode prog_14_method_51_code pc = .ok (.ireturn, 1) → (r.2 = 0 ∨ r.2 = 1) → va_P D cls (mw md mc r.1) H → va_D A (mw md mc r.1) → va_S A s.heap H locs → W p l e ({ frames := 0, cells := 0, slots := 0, locals := 0 }) s m args below meth c H locs 0 0 Q (F0 m pc ls [.int r.2])) : ∀ (H : Heap) (locs : List Loc) (ls : Array Slot), va_P D cls (mw md mc S) H → va_D A (mw md mc S) → va_S A s.heap H locs → lv_has ls 5 [(0, .ref (md 100)), (1, .int x1), (2, .int x2), (3, .int x3), (4, .int x4)] → W p l e ({ frames := 0, cells := 0, slots := 0, locals := 0 }) s m args below meth c H locs 0 0 Q (F0 m 40 ls []) := by
  refine lp_w (G := fun a : MS × Int32 × Int32 × Int32 × Int32 => ∀ (H : Heap) (locs : List Loc) (ls : Array Slot), va_P D cls (mw md mc a.1) H → va_D A (mw md mc a.1) → va_S A s.heap H locs → lv_has ls 5 [(0, .ref (md 100)), (1, .int a.2.1), (2, .int a.2.2.1), (3, .int a.2.2.2.1), (4, .int a.2.2.2.2)] → W p l e ({ frames := 0, cells := 0, slots := 0, locals := 0 }) s m args below meth c H locs 0 0 Q (F0 m 40 ls [])) ?_ FU (S, x1, x2, x3, x4) Heq
  intro a o1 ho Ka Ke
  exact w_risHead_B40 hC ho (fun b h => Ka b h) (fun b h => K0 b (Ke _ h).symm) (fun r h => Kr r (Ke _ h).symm)
def m_risHead_J77 (S : MS) (x1 : Int32) (x2 : Int32) (x3 : Int32) : Option ((MS × Int32 × Int32 × Int32) ⊕ (MS ⊕ (MS × Int32))) := some (.inl (S, x1, x2, (x3 + 1)))
theorem d_risHead_77 : decode prog_14_method_51_code 77 = .ok (.iinc 3 1, 3) := by decide +kernel
theorem d_risHead_80 : decode prog_14_method_51_code 80 = .ok (.goto (-65), 3) := by decide +kernel
set_option maxHeartbeats 4000000 in
set_option maxRecDepth 100000 in
theorem w_risHead_J77 {p : Program} {l : Launch} {e : Env} {s : State} {m : MethodId} {args : Array Value} {below : List Frame} {meth : Method} {c : Code} {A : Nat → Prop} {D : va_G} {md : Nat → Nat} {mc : Nat → ClassId} {Q : State → Prop} (hC : MCx "JoinedTreesModel" prog_14_method_51_code 5 (some .boolean) p s m args meth c A D mc) {S : MS} {x1 : Int32} {x2 : Int32} {x3 : Int32} {o : ((MS × Int32 × Int32 × Int32) ⊕ (MS ⊕ (MS × Int32)))} (Heq : m_risHead_J77 S x1 x2 x3 = some o) (Ka : ∀ b : MS × Int32 × Int32 × Int32, o = .inl b → ∀ (H : Heap) (locs : List Loc) (ls : Array Slot), va_P D cls (mw md mc b.1) H → va_D A (mw md mc b.1) → va_S A s.heap H locs → lv_has ls 5 [(0, .ref (md 100)), (1, .int b.2.1), (2, .int b.2.2.1), (3, .int b.2.2.2)] → W p l e ({ frames := 0, cells := 0, slots := 0, locals := 0 }) s m args below meth c H locs 0 0 Q (F0 m 15 ls [])) (K0 : ∀ b : MS, o = .inr (.inl b) → ∀ (H : Heap) (locs : List Loc) (ls : Array Slot), va_P D cls (mw md mc b) H → va_D A (mw md mc b) → va_S A s.heap H locs → lv_has ls 5 [(0, .ref (md 100))] → W p l e ({ frames := 0, cells := 0, slots := 0, locals := 0 }) s m args below meth c H locs 0 0 Q (F0 m 83 ls [])) (Kr : ∀ r : MS × Int32, o = .inr (.inr r) → ∀ (pc : Nat) (H : Heap) (locs : List Loc) (ls : Array Slot), decode prog_14_method_51_code pc = .ok (.ireturn, 1) → (r.2 = 0 ∨ r.2 = 1) → va_P D cls (mw md mc r.1) H → va_D A (mw md mc r.1) → va_S A s.heap H locs → W p l e ({ frames := 0, cells := 0, slots := 0, locals := 0 }) s m args below meth c H locs 0 0 Q (F0 m pc ls [.int r.2])) : ∀ (H : Heap) (locs : List Loc) (ls : Array Slot), va_P D cls (mw md mc S) H → va_D A (mw md mc S) → va_S A s.heap H locs → lv_has ls 5 [(0, .ref (md 100)), (1, .int x1), (2, .int x2), (3, .int x3)] → W p l e ({ frames := 0, cells := 0, slots := 0, locals := 0 }) s m args below meth c H locs 0 0 Q (F0 m 77 ls []) := by
  intro H locs ls hP hD hS hl
  obtain ⟨hx, hb, hr, hml, hown, hts, hK, hA⟩ := id hC
  unfold m_risHead_J77 at Heq
  refine lv_iinc (v := x3 + 1) (lv' := [(3, .int (x3 + 1)), (0, .ref (md 100)), (1, .int x1), (2, .int x2)]) hx hb d_risHead_77 hl (k := 3) rfl rfl (by decide) rfl (fun ls hl => ?_)
  refine lv_goto (tgt := 15) hx hb d_risHead_80 (by decide) ?_
  exact Ka _ (Option.some.inj Heq).symm _ _ _ hP hD hS (lv_sub hl [1, 2, 3, 0] rfl)
def m_risHead_B15 (S : MS) (x1 : Int32) (x2 : Int32) (x3 : Int32) : Option ((MS × Int32 × Int32 × Int32) ⊕ (MS ⊕ (MS × Int32))) := (if S.i 34 ≤ x3 then some (.inr (.inl (S))) else gd x1 8 (gd x3 1000 ((if S.a (101 + x1.toNatClampNeg) x3.toNatClampNeg = 0 then m_risHead_J77 S x1 x2 x3 else oe (m_risHead_L40 S x1 x2 x3 0) (fun b_5 => m_risHead_J77 b_5.1 b_5.2.1 b_5.2.2.1 b_5.2.2.2) (fun r_7 => some (.inr (.inr r_7)))))))
theorem d_risHead_34 : decode prog_14_method_51_code 34 = .ok (.goto 43, 3) := by decide +kernel
set_option maxHeartbeats 4000000 in
set_option maxRecDepth 100000 in
theorem w_risHead_B15 {p : Program} {l : Launch} {e : Env} {s : State} {m : MethodId} {args : Array Value} {below : List Frame} {meth : Method} {c : Code} {A : Nat → Prop} {D : va_G} {md : Nat → Nat} {mc : Nat → ClassId} {Q : State → Prop} (hC : MCx "JoinedTreesModel" prog_14_method_51_code 5 (some .boolean) p s m args meth c A D mc) {S : MS} {x1 : Int32} {x2 : Int32} {x3 : Int32} {o : ((MS × Int32 × Int32 × Int32) ⊕ (MS ⊕ (MS × Int32)))} (Heq : m_risHead_B15 S x1 x2 x3 = some o) (Ka : ∀ b : MS × Int32 × Int32 × Int32, o = .inl b → ∀ (H : Heap) (locs : List Loc) (ls : Array Slot), va_P D cls (mw md mc b.1) H → va_D A (mw md mc b.1) → va_S A s.heap H locs → lv_has ls 5 [(0, .ref (md 100)), (1, .int b.2.1), (2, .int b.2.2.1), (3, .int b.2.2.2)] → W p l e ({ frames := 0, cells := 0, slots := 0, locals := 0 }) s m args below meth c H locs 0 0 Q (F0 m 15 ls [])) (K0 : ∀ b : MS, o = .inr (.inl b) → ∀ (H : Heap) (locs : List Loc) (ls : Array Slot), va_P D cls (mw md mc b) H → va_D A (mw md mc b) → va_S A s.heap H locs → lv_has ls 5 [(0, .ref (md 100))] → W p l e ({ frames := 0, cells := 0, slots := 0, locals := 0 }) s m args below meth c H locs 0 0 Q (F0 m 83 ls [])) (Kr : ∀ r : MS × Int32, o = .inr (.inr r) → ∀ (pc : Nat) (H : Heap) (locs : List Loc) (ls : Array Slot), decode prog_14_method_51_code pc = .ok (.ireturn, 1) → (r.2 = 0 ∨ r.2 = 1) → va_P D cls (mw md mc r.1) H → va_D A (mw md mc r.1) → va_S A s.heap H locs → W p l e ({ frames := 0, cells := 0, slots := 0, locals := 0 }) s m args below meth c H locs 0 0 Q (F0 m pc ls [.int r.2])) : ∀ (H : Heap) (locs : List Loc) (ls : Array Slot), va_P D cls (mw md mc S) H → va_D A (mw md mc S) → va_S A s.heap H locs → lv_has ls 5 [(0, .ref (md 100)), (1, .int x1), (2, .int x2), (3, .int x3)] → W p l e ({ frames := 0, cells := 0, slots := 0, locals := 0 }) s m args below meth c H locs 0 0 Q (F0 m 15 ls []) := by
  intro H locs ls hP hD hS hl
  obtain ⟨hx, hb, hr, hml, hown, hts, hK, hA⟩ := id hC
  unfold m_risHead_B15 at Heq
  refine lv_iload_n hx hb d_risHead_15 rfl (lv_at hl 3 rfl) ?_
  refine lv_aload_n hx hb d_risHead_16 rfl (lv_at hl 0 rfl) ?_
  refine va_get (D := D) (ci := 12) (v := .int (S.i 34)) (C := R_MM) (T := F_MM) (N := 77) hx hb hts i_MM hown hK hP 0 rfl rfl 34 (by decide) (hts _ kw_1416) (fun _ h9 => h9) rfl d_risHead_17 ?_
  refine lv_icmp_ge (tgt := 83) hx hb d_risHead_20 (by decide) (fun c_1 => ?_) (fun c_1 => ?_)
  · replace Heq := (if_pos c_1).symm.trans Heq
    exact K0 _ (Option.some.inj Heq).symm _ _ _ hP hD hS (lv_sub hl [0] rfl)
  · replace Heq := (if_neg c_1).symm.trans Heq
    refine lv_aload_n hx hb d_risHead_23 rfl (lv_at hl 0 rfl) ?_
    refine va_get (D := D) (ci := 12) (v := .ref (md 36)) (C := R_MM) (T := F_MM) (N := 77) hx hb hts i_MM hown hK hP 0 rfl rfl 36 (by decide) (hts _ kw_1418) (fun _ h9 => h9) rfl d_risHead_24 ?_
    refine lv_iload_n hx hb d_risHead_27 rfl (lv_at hl 1 rfl) ?_
    obtain ⟨hi_2, Heq⟩ := gd_some Heq
    refine tx_ald2 hx hb hK hP 48 4 rfl rfl (i := x1) hi_2 d_risHead_28 ?_
    refine w_v (y := .ref (md (101 + x1.toNatClampNeg))) rfl ?_
    refine lv_iload_n hx hb d_risHead_29 rfl (lv_at hl 3 rfl) ?_
    obtain ⟨hi_3, Heq⟩ := gd_some Heq
    refine va_zald hx hb hK hP (51 + x1.toNatClampNeg) 2 (mp_R101 (vp_in.lt hi_2)) rfl (i := x3) hi_3 d_risHead_30 ?_
    refine w_i (y := S.a (101 + x1.toNatClampNeg) x3.toNatClampNeg) rfl ?_
    refine lv_if_ne (tgt := 37) hx hb d_risHead_31 (by decide) (fun c_4 => ?_) (fun c_4 => ?_)
    · replace Heq := (if_neg c_4).symm.trans Heq
      refine lv_iconst (v := 0) hx hb d_risHead_37 (by decide) ?_
      refine lv_istore (lv' := [(4, .int 0), (0, .ref (md 100)), (1, .int x1), (2, .int x2), (3, .int x3)]) hx hb d_risHead_38 hl (by decide) rfl (fun ls hl => ?_)
      rcases oe_some Heq with ⟨b_5, h_6, Heq⟩ | ⟨r_7, h_6, Heq⟩
      · refine w_risHead_L40 hC h_6 (fun b h => ?_) (fun r h => by cases h) _ _ _ hP hD hS (lv_sub hl [1, 2, 3, 4, 0] rfl)
        cases h
        intro H locs ls hP hD hS hl
        exact w_risHead_J77 hC Heq Ka K0 Kr _ _ _ hP hD hS (lv_sub hl [0, 1, 2, 3] rfl)
      · refine w_risHead_L40 hC h_6 (fun b h => by cases h) (fun r h => ?_) _ _ _ hP hD hS (lv_sub hl [1, 2, 3, 4, 0] rfl)
        cases h
        exact Kr _ (Option.some.inj Heq).symm
    · replace Heq := (if_pos c_4).symm.trans Heq
      refine lv_goto (tgt := 77) hx hb d_risHead_34 (by decide) ?_
      exact w_risHead_J77 hC Heq Ka K0 Kr _ _ _ hP hD hS (lv_sub hl [0, 1, 2, 3] rfl)
def m_risHead_L15 (S : MS) (x1 : Int32) (x2 : Int32) (x3 : Int32) : Option (MS ⊕ (MS × Int32)) := lp (fun a : MS × Int32 × Int32 × Int32 => m_risHead_B15 a.1 a.2.1 a.2.2.1 a.2.2.2) FU (S, x1, x2, x3)
theorem w_risHead_L15 {p : Program} {l : Launch} {e : Env} {s : State} {m : MethodId} {args : Array Value} {below : List Frame} {meth : Method} {c : Code} {A : Nat → Prop} {D : va_G} {md : Nat → Nat} {mc : Nat → ClassId} {Q : State → Prop} (hC : MCx "JoinedTreesModel" prog_14_method_51_code 5 (some .boolean) p s m args meth c A D mc) {S : MS} {x1 : Int32} {x2 : Int32} {x3 : Int32} {o : (MS ⊕ (MS × Int32))} (Heq : m_risHead_L15 S x1 x2 x3 = some o) (K0 : ∀ b : MS, o = (.inl b) → ∀ (H : Heap) (locs : List Loc) (ls : Array Slot), va_P D cls (mw md mc b) H → va_D A (mw md mc b) → va_S A s.heap H locs → lv_has ls 5 [(0, .ref (md 100))] → W p l e ({ frames := 0, cells := 0, slots := 0, locals := 0 }) s m args below meth c H locs 0 0 Q (F0 m 83 ls [])) (Kr : ∀ r : MS × Int32, o = (.inr r) → ∀ (pc : Nat) (H : Heap) (locs : List Loc) (ls : Array Slot), decode prog_14_method_51_code pc = .ok (.ireturn, 1) → (r.2 = 0 ∨ r.2 = 1) → va_P D cls (mw md mc r.1) H → va_D A (mw md mc r.1) → va_S A s.heap H locs → W p l e ({ frames := 0, cells := 0, slots := 0, locals := 0 }) s m args below meth c H locs 0 0 Q (F0 m pc ls [.int r.2])) : ∀ (H : Heap) (locs : List Loc) (ls : Array Slot), va_P D cls (mw md mc S) H → va_D A (mw md mc S) → va_S A s.heap H locs → lv_has ls 5 [(0, .ref (md 100)), (1, .int x1), (2, .int x2), (3, .int x3)] → W p l e ({ frames := 0, cells := 0, slots := 0, locals := 0 }) s m args below meth c H locs 0 0 Q (F0 m 15 ls []) := by
  refine lp_w (G := fun a : MS × Int32 × Int32 × Int32 => ∀ (H : Heap) (locs : List Loc) (ls : Array Slot), va_P D cls (mw md mc a.1) H → va_D A (mw md mc a.1) → va_S A s.heap H locs → lv_has ls 5 [(0, .ref (md 100)), (1, .int a.2.1), (2, .int a.2.2.1), (3, .int a.2.2.2)] → W p l e ({ frames := 0, cells := 0, slots := 0, locals := 0 }) s m args below meth c H locs 0 0 Q (F0 m 15 ls [])) ?_ FU (S, x1, x2, x3) Heq
  intro a o1 ho Ka Ke
  exact w_risHead_B15 hC ho (fun b h => Ka b h) (fun b h => K0 b (Ke _ h).symm) (fun r h => Kr r (Ke _ h).symm)
def m_risHead_J0 (S : MS) (x1 : Int32) (x2 : Int32) : Option (MS × Int32) := gd x1 8 (gd x2 1000 ((if S.a (101 + x1.toNatClampNeg) x2.toNatClampNeg = 0 then some (S, 0) else oe (m_risHead_L15 S x1 x2 0) (fun b_4 => some (b_4, 1)) (fun r_6 => some r_6))))
theorem d_risHead_83 : decode prog_14_method_51_code 83 = .ok (.iconst 1, 1) := by decide +kernel
theorem d_risHead_84 : decode prog_14_method_51_code 84 = .ok (.ireturn, 1) := by decide +kernel
theorem d_risHead_11 : decode prog_14_method_51_code 11 = .ok (.iconst 0, 1) := by decide +kernel
theorem d_risHead_12 : decode prog_14_method_51_code 12 = .ok (.ireturn, 1) := by decide +kernel
set_option maxHeartbeats 4000000 in
set_option maxRecDepth 100000 in
theorem w_risHead_J0 {p : Program} {l : Launch} {e : Env} {s : State} {m : MethodId} {args : Array Value} {below : List Frame} {meth : Method} {c : Code} {A : Nat → Prop} {D : va_G} {md : Nat → Nat} {mc : Nat → ClassId} {Q : State → Prop} (hC : MCx "JoinedTreesModel" prog_14_method_51_code 5 (some .boolean) p s m args meth c A D mc) {S : MS} {x1 : Int32} {x2 : Int32} {o : MS × Int32} (Heq : m_risHead_J0 S x1 x2 = some o) (Kr : ∀ r : MS × Int32, o = r → ∀ (pc : Nat) (H : Heap) (locs : List Loc) (ls : Array Slot), decode prog_14_method_51_code pc = .ok (.ireturn, 1) → (r.2 = 0 ∨ r.2 = 1) → va_P D cls (mw md mc r.1) H → va_D A (mw md mc r.1) → va_S A s.heap H locs → W p l e ({ frames := 0, cells := 0, slots := 0, locals := 0 }) s m args below meth c H locs 0 0 Q (F0 m pc ls [.int r.2])) : ∀ (H : Heap) (locs : List Loc) (ls : Array Slot), va_P D cls (mw md mc S) H → va_D A (mw md mc S) → va_S A s.heap H locs → lv_has ls 5 [(0, .ref (md 100)), (1, .int x1), (2, .int x2)] → W p l e ({ frames := 0, cells := 0, slots := 0, locals := 0 }) s m args below meth c H locs 0 0 Q (F0 m 0 ls []) := by
  intro H locs ls hP hD hS hl
  obtain ⟨hx, hb, hr, hml, hown, hts, hK, hA⟩ := id hC
  unfold m_risHead_J0 at Heq
  refine lv_aload_n hx hb d_risHead_0 rfl (lv_at hl 0 rfl) ?_
  refine va_get (D := D) (ci := 12) (v := .ref (md 36)) (C := R_MM) (T := F_MM) (N := 77) hx hb hts i_MM hown hK hP 0 rfl rfl 36 (by decide) (hts _ kw_1418) (fun _ h9 => h9) rfl d_risHead_1 ?_
  refine lv_iload_n hx hb d_risHead_4 rfl (lv_at hl 1 rfl) ?_
  obtain ⟨hi_1, Heq⟩ := gd_some Heq
  refine tx_ald2 hx hb hK hP 48 4 rfl rfl (i := x1) hi_1 d_risHead_5 ?_
  refine w_v (y := .ref (md (101 + x1.toNatClampNeg))) rfl ?_
  refine lv_iload_n hx hb d_risHead_6 rfl (lv_at hl 2 rfl) ?_
  obtain ⟨hi_2, Heq⟩ := gd_some Heq
  refine va_zald hx hb hK hP (51 + x1.toNatClampNeg) 2 (mp_R101 (vp_in.lt hi_1)) rfl (i := x2) hi_2 d_risHead_7 ?_
  refine w_i (y := S.a (101 + x1.toNatClampNeg) x2.toNatClampNeg) rfl ?_
  refine lv_if_ne (tgt := 13) hx hb d_risHead_8 (by decide) (fun c_3 => ?_) (fun c_3 => ?_)
  · replace Heq := (if_neg c_3).symm.trans Heq
    refine lv_iconst (v := 0) hx hb d_risHead_13 (by decide) ?_
    refine lv_istore_n (lv' := [(3, .int 0), (0, .ref (md 100)), (1, .int x1), (2, .int x2)]) hx hb d_risHead_14 rfl hl (by decide) rfl (fun ls hl => ?_)
    rcases oe_some Heq with ⟨b_4, h_5, Heq⟩ | ⟨r_6, h_5, Heq⟩
    · refine w_risHead_L15 hC h_5 (fun b h => ?_) (fun r h => by cases h) _ _ _ hP hD hS (lv_sub hl [1, 2, 3, 0] rfl)
      cases h
      intro H locs ls hP hD hS hl
      refine lv_iconst (v := 1) hx hb d_risHead_83 (by decide) ?_
      exact Kr _ (Option.some.inj Heq).symm 84 _ _ _ d_risHead_84 (Or.inr rfl) hP hD hS
    · refine w_risHead_L15 hC h_5 (fun b h => by cases h) (fun r h => ?_) _ _ _ hP hD hS (lv_sub hl [1, 2, 3, 0] rfl)
      cases h
      exact Kr _ (Option.some.inj Heq).symm
  · replace Heq := (if_pos c_3).symm.trans Heq
    refine lv_iconst (v := 0) hx hb d_risHead_11 (by decide) ?_
    exact Kr _ (Option.some.inj Heq).symm 12 _ _ _ d_risHead_12 (Or.inl rfl) hP hD hS
def m_risHead (S : MS) (x1 : Int32) (x2 : Int32) : Option (MS × Int32) := m_risHead_J0 S x1 x2
theorem g_risHead (l : Launch) (D : va_G) (sz : Nat) {md : Nat → Nat} {mc : Nat → ClassId} {S : MS} {x1 : Int32} {x2 : Int32} {o : MS × Int32} (Heq : m_risHead S x1 x2 = some o) : Met l ⟨"JoinedTreesModel", "isHead", "(II)Z"⟩ (Cond.code ⟨"JoinedTreesModel", "isHead", "(II)Z"⟩ prog_14_method_51_code 5 (some .boolean) :: gb) ({ frames := 0, cells := 0, slots := 0, locals := 0 }) (gPc D (mw md mc S) (mty mc) sz [.ref (md 100), .int x1, .int x2]) (va_Qi (fun (r : Int32) (_ : Unit) => r = o.2) (fun _ t => gO D (mw md mc o.1) (mty mc) (va_A (mw md mc S) sz) t) (va_A (mw md mc S) sz)) 0 0 (va_A (mw md mc S) sz) := by
  refine Met.ofW (cc := prog_14_method_51_code) (maxL := 5) (ret := (some .boolean)) (by decide) rfl ?_
  intro p e s m args below meth c s₁ B hml hv
  obtain ⟨rfl, hsz, hP, hK, hD0⟩ := hv
  have hx := B.exec
  have hb := B.bytes
  have hr := B.returns
  have hts : ∀ w9 ∈ gb, w9.before [.ref (md 100), .int x1, .int x2].toArray s = true := fun w9 h => atoms_spec (ws := Cond.code ⟨"JoinedTreesModel", "isHead", "(II)Z"⟩ prog_14_method_51_code 5 (some .boolean) :: gb) B.pre w9 (List.mem_cons_of_mem _ h)
  have hown : s.vm.findClass "JoinedTreesModel" = some m.cls := findClass_of_methodNamed B.named
  have hlocks := B.notSynchronized
  subst hsz
  have hD := hD0.self (sz := s.heap.size)
  generalize hAe : va_A (mw md mc S) s.heap.size = A at hD ⊢
  have hA : ∀ q : Nat, s.heap.size ≤ q → A q := fun q h => by rw [← hAe]; exact Or.inr h
  have hS : va_S A s.heap s.heap [] := va_S.rf
  have hl := lv_entry ([.ref (md 100), .int x1, .int x2]) (n := 5) (Nat.le_of_ble_eq_true rfl)
  rw [lg_entry_eq]
  generalize (lg_sl ([.ref (md 100), .int x1, .int x2]) ++ List.replicate (5 - (lg_sl ([.ref (md 100), .int x1, .int x2])).length) Slot.unset).toArray = ls at hl ⊢
  have hl : lv_has ls 5 [(0, .ref (md 100)), (1, .int x1), (2, .int x2)] := hl
  refine w_risHead_J0 ⟨hx, hb, hr, hml, hown, hts, hK, hA⟩ Heq (fun r h pc H locs ls hd hz hP hD hS => ?_) _ _ _ hP hD hS (lv_sub hl [0, 1, 2] rfl)
  subst h
  exact W.zret (ty := .boolean) hx hb hr (by rcases hz with hz | hz <;> rw [hz] <;> rfl) (fun t ht hW => ⟨⟨_, (), rfl, rfl, by rw [ht]; exact hP, va_K.moved hW.alike hK, hD⟩, hS.F ht⟩) hS.2.2 hd
def m_rnumberOf_J40 (S : MS) (x1 : Int32) (x2 : Int32) (x3 : Int32) (x4 : Int32) : Option ((MS × Int32 × Int32 × Int32 × Int32) ⊕ (MS × Int32)) := some (.inl (S, x1, x2, x3, (x4 + 1)))
theorem d_rnumberOf_0 : decode prog_14_method_52_code 0 = .ok (.iconst 0, 1) := by decide +kernel
theorem d_rnumberOf_1 : decode prog_14_method_52_code 1 = .ok (.istore_n 3, 1) := by decide +kernel
theorem d_rnumberOf_2 : decode prog_14_method_52_code 2 = .ok (.iconst 0, 1) := by decide +kernel
theorem d_rnumberOf_3 : decode prog_14_method_52_code 3 = .ok (.istore 4, 2) := by decide +kernel
theorem d_rnumberOf_5 : decode prog_14_method_52_code 5 = .ok (.iload 4, 2) := by decide +kernel
theorem d_rnumberOf_7 : decode prog_14_method_52_code 7 = .ok (.aload_n 0, 1) := by decide +kernel
theorem d_rnumberOf_8 : decode prog_14_method_52_code 8 = .ok (.getfield 384, 3) := by decide +kernel
theorem d_rnumberOf_11 : decode prog_14_method_52_code 11 = .ok (.if_icmp .ge 35, 3) := by decide +kernel
theorem d_rnumberOf_14 : decode prog_14_method_52_code 14 = .ok (.aload_n 0, 1) := by decide +kernel
theorem d_rnumberOf_15 : decode prog_14_method_52_code 15 = .ok (.getfield 95, 3) := by decide +kernel
theorem d_rnumberOf_18 : decode prog_14_method_52_code 18 = .ok (.iload_n 1, 1) := by decide +kernel
theorem d_rnumberOf_19 : decode prog_14_method_52_code 19 = .ok (.aaload, 1) := by decide +kernel
theorem d_rnumberOf_20 : decode prog_14_method_52_code 20 = .ok (.iload 4, 2) := by decide +kernel
theorem d_rnumberOf_22 : decode prog_14_method_52_code 22 = .ok (.baload, 1) := by decide +kernel
theorem d_rnumberOf_23 : decode prog_14_method_52_code 23 = .ok (.ifCond .eq 17, 3) := by decide +kernel
theorem d_rnumberOf_40 : decode prog_14_method_52_code 40 = .ok (.iinc 4 1, 3) := by decide +kernel
theorem d_rnumberOf_43 : decode prog_14_method_52_code 43 = .ok (.goto (-38), 3) := by decide +kernel
set_option maxHeartbeats 4000000 in
set_option maxRecDepth 100000 in
theorem w_rnumberOf_J40 {p : Program} {l : Launch} {e : Env} {s : State} {m : MethodId} {args : Array Value} {below : List Frame} {meth : Method} {c : Code} {A : Nat → Prop} {D : va_G} {md : Nat → Nat} {mc : Nat → ClassId} {Q : State → Prop} (hC : MCx "JoinedTreesModel" prog_14_method_52_code 5 (some .int) p s m args meth c A D mc) {S : MS} {x1 : Int32} {x2 : Int32} {x3 : Int32} {x4 : Int32} {o : ((MS × Int32 × Int32 × Int32 × Int32) ⊕ (MS × Int32))} (Heq : m_rnumberOf_J40 S x1 x2 x3 x4 = some o) (Ka : ∀ b : MS × Int32 × Int32 × Int32 × Int32, o = .inl b → ∀ (H : Heap) (locs : List Loc) (ls : Array Slot), va_P D cls (mw md mc b.1) H → va_D A (mw md mc b.1) → va_S A s.heap H locs → lv_has ls 5 [(0, .ref (md 100)), (1, .int b.2.1), (2, .int b.2.2.1), (3, .int b.2.2.2.1), (4, .int b.2.2.2.2)] → W p l e ({ frames := 0, cells := 0, slots := 0, locals := 0 }) s m args below meth c H locs 0 0 Q (F0 m 5 ls [])) (K0 : ∀ b : MS × Int32, o = .inr b → ∀ (H : Heap) (locs : List Loc) (ls : Array Slot), va_P D cls (mw md mc b.1) H → va_D A (mw md mc b.1) → va_S A s.heap H locs → lv_has ls 5 [(0, .ref (md 100)), (3, .int b.2)] → W p l e ({ frames := 0, cells := 0, slots := 0, locals := 0 }) s m args below meth c H locs 0 0 Q (F0 m 46 ls [])) : ∀ (H : Heap) (locs : List Loc) (ls : Array Slot), va_P D cls (mw md mc S) H → va_D A (mw md mc S) → va_S A s.heap H locs → lv_has ls 5 [(0, .ref (md 100)), (1, .int x1), (2, .int x2), (3, .int x3), (4, .int x4)] → W p l e ({ frames := 0, cells := 0, slots := 0, locals := 0 }) s m args below meth c H locs 0 0 Q (F0 m 40 ls []) := by
  intro H locs ls hP hD hS hl
  obtain ⟨hx, hb, hr, hml, hown, hts, hK, hA⟩ := id hC
  unfold m_rnumberOf_J40 at Heq
  refine lv_iinc (v := x4 + 1) (lv' := [(4, .int (x4 + 1)), (0, .ref (md 100)), (1, .int x1), (2, .int x2), (3, .int x3)]) hx hb d_rnumberOf_40 hl (k := 4) rfl rfl (by decide) rfl (fun ls hl => ?_)
  refine lv_goto (tgt := 5) hx hb d_rnumberOf_43 (by decide) ?_
  exact Ka _ (Option.some.inj Heq).symm _ _ _ hP hD hS (lv_sub hl [1, 2, 3, 4, 0] rfl)
def m_rnumberOf_B5 (S : MS) (x1 : Int32) (x2 : Int32) (x3 : Int32) (x4 : Int32) : Option ((MS × Int32 × Int32 × Int32 × Int32) ⊕ (MS × Int32)) := (if S.i 34 ≤ x4 then some (.inr (S, x3)) else gd x1 8 (gd x4 1000 ((if S.a (101 + x1.toNatClampNeg) x4.toNatClampNeg = 0 then m_rnumberOf_J40 S x1 x2 x3 x4 else gd x4 1000 ((if S.a 29 x4.toNatClampNeg = x2 then m_rnumberOf_J40 S x1 x2 (x3 + 1) x4 else m_rnumberOf_J40 S x1 x2 x3 x4))))))
theorem d_rnumberOf_26 : decode prog_14_method_52_code 26 = .ok (.aload_n 0, 1) := by decide +kernel
theorem d_rnumberOf_27 : decode prog_14_method_52_code 27 = .ok (.getfield 78, 3) := by decide +kernel
theorem d_rnumberOf_30 : decode prog_14_method_52_code 30 = .ok (.iload 4, 2) := by decide +kernel
theorem d_rnumberOf_32 : decode prog_14_method_52_code 32 = .ok (.iaload, 1) := by decide +kernel
theorem d_rnumberOf_33 : decode prog_14_method_52_code 33 = .ok (.iload_n 2, 1) := by decide +kernel
theorem d_rnumberOf_34 : decode prog_14_method_52_code 34 = .ok (.if_icmp .ne 6, 3) := by decide +kernel
theorem d_rnumberOf_37 : decode prog_14_method_52_code 37 = .ok (.iinc 3 1, 3) := by decide +kernel
set_option maxHeartbeats 4000000 in
set_option maxRecDepth 100000 in
theorem w_rnumberOf_B5 {p : Program} {l : Launch} {e : Env} {s : State} {m : MethodId} {args : Array Value} {below : List Frame} {meth : Method} {c : Code} {A : Nat → Prop} {D : va_G} {md : Nat → Nat} {mc : Nat → ClassId} {Q : State → Prop} (hC : MCx "JoinedTreesModel" prog_14_method_52_code 5 (some .int) p s m args meth c A D mc) {S : MS} {x1 : Int32} {x2 : Int32} {x3 : Int32} {x4 : Int32} {o : ((MS × Int32 × Int32 × Int32 × Int32) ⊕ (MS × Int32))} (Heq : m_rnumberOf_B5 S x1 x2 x3 x4 = some o) (Ka : ∀ b : MS × Int32 × Int32 × Int32 × Int32, o = .inl b → ∀ (H : Heap) (locs : List Loc) (ls : Array Slot), va_P D cls (mw md mc b.1) H → va_D A (mw md mc b.1) → va_S A s.heap H locs → lv_has ls 5 [(0, .ref (md 100)), (1, .int b.2.1), (2, .int b.2.2.1), (3, .int b.2.2.2.1), (4, .int b.2.2.2.2)] → W p l e ({ frames := 0, cells := 0, slots := 0, locals := 0 }) s m args below meth c H locs 0 0 Q (F0 m 5 ls [])) (K0 : ∀ b : MS × Int32, o = .inr b → ∀ (H : Heap) (locs : List Loc) (ls : Array Slot), va_P D cls (mw md mc b.1) H → va_D A (mw md mc b.1) → va_S A s.heap H locs → lv_has ls 5 [(0, .ref (md 100)), (3, .int b.2)] → W p l e ({ frames := 0, cells := 0, slots := 0, locals := 0 }) s m args below meth c H locs 0 0 Q (F0 m 46 ls [])) : ∀ (H : Heap) (locs : List Loc) (ls : Array Slot), va_P D cls (mw md mc S) H → va_D A (mw md mc S) → va_S A s.heap H locs → lv_has ls 5 [(0, .ref (md 100)), (1, .int x1), (2, .int x2), (3, .int x3), (4, .int x4)] → W p l e ({ frames := 0, cells := 0, slots := 0, locals := 0 }) s m args below meth c H locs 0 0 Q (F0 m 5 ls []) := by
  intro H locs ls hP hD hS hl
  obtain ⟨hx, hb, hr, hml, hown, hts, hK, hA⟩ := id hC
  unfold m_rnumberOf_B5 at Heq
  refine lv_iload hx hb d_rnumberOf_5 (lv_at hl 4 rfl) ?_
  refine lv_aload_n hx hb d_rnumberOf_7 rfl (lv_at hl 0 rfl) ?_
  refine va_get (D := D) (ci := 12) (v := .int (S.i 34)) (C := R_MM) (T := F_MM) (N := 77) hx hb hts i_MM hown hK hP 0 rfl rfl 34 (by decide) (hts _ kw_1416) (fun _ h9 => h9) rfl d_rnumberOf_8 ?_
  refine lv_icmp_ge (tgt := 46) hx hb d_rnumberOf_11 (by decide) (fun c_1 => ?_) (fun c_1 => ?_)
  · replace Heq := (if_pos c_1).symm.trans Heq
    exact K0 _ (Option.some.inj Heq).symm _ _ _ hP hD hS (lv_sub hl [0, 3] rfl)
  · replace Heq := (if_neg c_1).symm.trans Heq
    refine lv_aload_n hx hb d_rnumberOf_14 rfl (lv_at hl 0 rfl) ?_
    refine va_get (D := D) (ci := 12) (v := .ref (md 36)) (C := R_MM) (T := F_MM) (N := 77) hx hb hts i_MM hown hK hP 0 rfl rfl 36 (by decide) (hts _ kw_1418) (fun _ h9 => h9) rfl d_rnumberOf_15 ?_
    refine lv_iload_n hx hb d_rnumberOf_18 rfl (lv_at hl 1 rfl) ?_
    obtain ⟨hi_2, Heq⟩ := gd_some Heq
    refine tx_ald2 hx hb hK hP 48 4 rfl rfl (i := x1) hi_2 d_rnumberOf_19 ?_
    refine w_v (y := .ref (md (101 + x1.toNatClampNeg))) rfl ?_
    refine lv_iload hx hb d_rnumberOf_20 (lv_at hl 4 rfl) ?_
    obtain ⟨hi_3, Heq⟩ := gd_some Heq
    refine va_zald hx hb hK hP (51 + x1.toNatClampNeg) 2 (mp_R101 (vp_in.lt hi_2)) rfl (i := x4) hi_3 d_rnumberOf_22 ?_
    refine w_i (y := S.a (101 + x1.toNatClampNeg) x4.toNatClampNeg) rfl ?_
    refine lv_if_eq (tgt := 40) hx hb d_rnumberOf_23 (by decide) (fun c_4 => ?_) (fun c_4 => ?_)
    · replace Heq := (if_pos c_4).symm.trans Heq
      exact w_rnumberOf_J40 hC Heq Ka K0 _ _ _ hP hD hS (lv_sub hl [0, 1, 2, 3, 4] rfl)
    · replace Heq := (if_neg c_4).symm.trans Heq
      refine lv_aload_n hx hb d_rnumberOf_26 rfl (lv_at hl 0 rfl) ?_
      refine va_get (D := D) (ci := 12) (v := .ref (md 29)) (C := R_MM) (T := F_MM) (N := 77) hx hb hts i_MM hown hK hP 0 rfl rfl 29 (by decide) (hts _ kw_1411) (fun _ h9 => h9) rfl d_rnumberOf_27 ?_
      refine lv_iload hx hb d_rnumberOf_30 (lv_at hl 4 rfl) ?_
      obtain ⟨hi_5, Heq⟩ := gd_some Heq
      refine va_iald hx hb hK hP 22 0 rfl rfl (i := x4) hi_5 d_rnumberOf_32 ?_
      refine w_i (y := S.a 29 x4.toNatClampNeg) rfl ?_
      refine lv_iload_n hx hb d_rnumberOf_33 rfl (lv_at hl 2 rfl) ?_
      refine lv_icmp_ne (tgt := 40) hx hb d_rnumberOf_34 (by decide) (fun c_6 => ?_) (fun c_6 => ?_)
      · replace Heq := (if_neg c_6).symm.trans Heq
        exact w_rnumberOf_J40 hC Heq Ka K0 _ _ _ hP hD hS (lv_sub hl [0, 1, 2, 3, 4] rfl)
      · replace Heq := (if_pos c_6).symm.trans Heq
        refine lv_iinc (v := x3 + 1) (lv' := [(3, .int (x3 + 1)), (0, .ref (md 100)), (1, .int x1), (2, .int x2), (4, .int x4)]) hx hb d_rnumberOf_37 hl (k := 3) rfl rfl (by decide) rfl (fun ls hl => ?_)
        exact w_rnumberOf_J40 hC Heq Ka K0 _ _ _ hP hD hS (lv_sub hl [1, 2, 3, 0, 4] rfl)
def m_rnumberOf_L5 (S : MS) (x1 : Int32) (x2 : Int32) (x3 : Int32) (x4 : Int32) : Option (MS × Int32) := lp (fun a : MS × Int32 × Int32 × Int32 × Int32 => m_rnumberOf_B5 a.1 a.2.1 a.2.2.1 a.2.2.2.1 a.2.2.2.2) FU (S, x1, x2, x3, x4)
theorem w_rnumberOf_L5 {p : Program} {l : Launch} {e : Env} {s : State} {m : MethodId} {args : Array Value} {below : List Frame} {meth : Method} {c : Code} {A : Nat → Prop} {D : va_G} {md : Nat → Nat} {mc : Nat → ClassId} {Q : State → Prop} (hC : MCx "JoinedTreesModel" prog_14_method_52_code 5 (some .int) p s m args meth c A D mc) {S : MS} {x1 : Int32} {x2 : Int32} {x3 : Int32} {x4 : Int32} {o : MS × Int32} (Heq : m_rnumberOf_L5 S x1 x2 x3 x4 = some o) (K0 : ∀ b : MS × Int32, o = b → ∀ (H : Heap) (locs : List Loc) (ls : Array Slot), va_P D cls (mw md mc b.1) H → va_D A (mw md mc b.1) → va_S A s.heap H locs → lv_has ls 5 [(0, .ref (md 100)), (3, .int b.2)] → W p l e ({ frames := 0, cells := 0, slots := 0, locals := 0 }) s m args below meth c H locs 0 0 Q (F0 m 46 ls [])) : ∀ (H : Heap) (locs : List Loc) (ls : Array Slot), va_P D cls (mw md mc S) H → va_D A (mw md mc S) → va_S A s.heap H locs → lv_has ls 5 [(0, .ref (md 100)), (1, .int x1), (2, .int x2), (3, .int x3), (4, .int x4)] → W p l e ({ frames := 0, cells := 0, slots := 0, locals := 0 }) s m args below meth c H locs 0 0 Q (F0 m 5 ls []) := by
  refine lp_w (G := fun a : MS × Int32 × Int32 × Int32 × Int32 => ∀ (H : Heap) (locs : List Loc) (ls : Array Slot), va_P D cls (mw md mc a.1) H → va_D A (mw md mc a.1) → va_S A s.heap H locs → lv_has ls 5 [(0, .ref (md 100)), (1, .int a.2.1), (2, .int a.2.2.1), (3, .int a.2.2.2.1), (4, .int a.2.2.2.2)] → W p l e ({ frames := 0, cells := 0, slots := 0, locals := 0 }) s m args below meth c H locs 0 0 Q (F0 m 5 ls [])) ?_ FU (S, x1, x2, x3, x4) Heq
  intro a o1 ho Ka Ke
  exact w_rnumberOf_B5 hC ho (fun b h => Ka b h) (fun b h => K0 b (Ke _ h).symm)
def m_rnumberOf_J0 (S : MS) (x1 : Int32) (x2 : Int32) : Option (MS × Int32) := ob (m_rnumberOf_L5 S x1 x2 0 0) (fun b_1 => some (b_1.1, b_1.2))
theorem d_rnumberOf_46 : decode prog_14_method_52_code 46 = .ok (.iload_n 3, 1) := by decide +kernel
theorem d_rnumberOf_47 : decode prog_14_method_52_code 47 = .ok (.ireturn, 1) := by decide +kernel
set_option maxHeartbeats 4000000 in
set_option maxRecDepth 100000 in
theorem w_rnumberOf_J0 {p : Program} {l : Launch} {e : Env} {s : State} {m : MethodId} {args : Array Value} {below : List Frame} {meth : Method} {c : Code} {A : Nat → Prop} {D : va_G} {md : Nat → Nat} {mc : Nat → ClassId} {Q : State → Prop} (hC : MCx "JoinedTreesModel" prog_14_method_52_code 5 (some .int) p s m args meth c A D mc) {S : MS} {x1 : Int32} {x2 : Int32} {o : MS × Int32} (Heq : m_rnumberOf_J0 S x1 x2 = some o) (Kr : ∀ r : MS × Int32, o = r → ∀ (pc : Nat) (H : Heap) (locs : List Loc) (ls : Array Slot), decode prog_14_method_52_code pc = .ok (.ireturn, 1) → va_P D cls (mw md mc r.1) H → va_D A (mw md mc r.1) → va_S A s.heap H locs → W p l e ({ frames := 0, cells := 0, slots := 0, locals := 0 }) s m args below meth c H locs 0 0 Q (F0 m pc ls [.int r.2])) : ∀ (H : Heap) (locs : List Loc) (ls : Array Slot), va_P D cls (mw md mc S) H → va_D A (mw md mc S) → va_S A s.heap H locs → lv_has ls 5 [(0, .ref (md 100)), (1, .int x1), (2, .int x2)] → W p l e ({ frames := 0, cells := 0, slots := 0, locals := 0 }) s m args below meth c H locs 0 0 Q (F0 m 0 ls []) := by
  intro H locs ls hP hD hS hl
  obtain ⟨hx, hb, hr, hml, hown, hts, hK, hA⟩ := id hC
  unfold m_rnumberOf_J0 at Heq
  refine lv_iconst (v := 0) hx hb d_rnumberOf_0 (by decide) ?_
  refine lv_istore_n (lv' := [(3, .int 0), (0, .ref (md 100)), (1, .int x1), (2, .int x2)]) hx hb d_rnumberOf_1 rfl hl (by decide) rfl (fun ls hl => ?_)
  refine lv_iconst (v := 0) hx hb d_rnumberOf_2 (by decide) ?_
  refine lv_istore (lv' := [(4, .int 0), (3, .int 0), (0, .ref (md 100)), (1, .int x1), (2, .int x2)]) hx hb d_rnumberOf_3 hl (by decide) rfl (fun ls hl => ?_)
  obtain ⟨b_1, h_2, Heq⟩ := ob_some Heq
  refine w_rnumberOf_L5 hC h_2 (fun b h => ?_) _ _ _ hP hD hS (lv_sub hl [2, 3, 4, 1, 0] rfl)
  subst h
  intro H locs ls hP hD hS hl
  refine lv_iload_n hx hb d_rnumberOf_46 rfl (lv_at hl 1 rfl) ?_
  exact Kr _ (Option.some.inj Heq).symm 47 _ _ _ d_rnumberOf_47 hP hD hS
def m_rnumberOf (S : MS) (x1 : Int32) (x2 : Int32) : Option (MS × Int32) := m_rnumberOf_J0 S x1 x2
theorem g_rnumberOf (l : Launch) (D : va_G) (sz : Nat) {md : Nat → Nat} {mc : Nat → ClassId} {S : MS} {x1 : Int32} {x2 : Int32} {o : MS × Int32} (Heq : m_rnumberOf S x1 x2 = some o) : Met l ⟨"JoinedTreesModel", "numberOf", "(II)I"⟩ (Cond.code ⟨"JoinedTreesModel", "numberOf", "(II)I"⟩ prog_14_method_52_code 5 (some .int) :: gb) ({ frames := 0, cells := 0, slots := 0, locals := 0 }) (gPc D (mw md mc S) (mty mc) sz [.ref (md 100), .int x1, .int x2]) (va_Qi (fun (r : Int32) (_ : Unit) => r = o.2) (fun _ t => gO D (mw md mc o.1) (mty mc) (va_A (mw md mc S) sz) t) (va_A (mw md mc S) sz)) 0 0 (va_A (mw md mc S) sz) := by
  refine Met.ofW (cc := prog_14_method_52_code) (maxL := 5) (ret := (some .int)) (by decide) rfl ?_
  intro p e s m args below meth c s₁ B hml hv
  obtain ⟨rfl, hsz, hP, hK, hD0⟩ := hv
  have hx := B.exec
  have hb := B.bytes
  have hr := B.returns
  have hts : ∀ w9 ∈ gb, w9.before [.ref (md 100), .int x1, .int x2].toArray s = true := fun w9 h => atoms_spec (ws := Cond.code ⟨"JoinedTreesModel", "numberOf", "(II)I"⟩ prog_14_method_52_code 5 (some .int) :: gb) B.pre w9 (List.mem_cons_of_mem _ h)
  have hown : s.vm.findClass "JoinedTreesModel" = some m.cls := findClass_of_methodNamed B.named
  have hlocks := B.notSynchronized
  subst hsz
  have hD := hD0.self (sz := s.heap.size)
  generalize hAe : va_A (mw md mc S) s.heap.size = A at hD ⊢
  have hA : ∀ q : Nat, s.heap.size ≤ q → A q := fun q h => by rw [← hAe]; exact Or.inr h
  have hS : va_S A s.heap s.heap [] := va_S.rf
  have hl := lv_entry ([.ref (md 100), .int x1, .int x2]) (n := 5) (Nat.le_of_ble_eq_true rfl)
  rw [lg_entry_eq]
  generalize (lg_sl ([.ref (md 100), .int x1, .int x2]) ++ List.replicate (5 - (lg_sl ([.ref (md 100), .int x1, .int x2])).length) Slot.unset).toArray = ls at hl ⊢
  have hl : lv_has ls 5 [(0, .ref (md 100)), (1, .int x1), (2, .int x2)] := hl
  refine w_rnumberOf_J0 ⟨hx, hb, hr, hml, hown, hts, hK, hA⟩ Heq (fun r h pc H locs ls hd hP hD hS => ?_) _ _ _ hP hD hS (lv_sub hl [0, 1, 2] rfl)
  subst h
  exact W.iret hx hb hr (fun t ht hW => ⟨⟨_, (), rfl, rfl, by rw [ht]; exact hP, va_K.moved hW.alike hK, hD⟩, hS.F ht⟩) hS.2.2 hd
def m_rcommit_J143 (S : MS) (x1 : Int32) (x2 : Int32) (x3 : Int32) : Option ((MS × Int32 × Int32 × Int32) ⊕ (MS × Int32 × Int32)) := some (.inl (S, x1, x2, (x3 + 1)))
theorem d_rcommit_0 : decode prog_14_method_53_code 0 = .ok (.iload_n 1, 1) := by decide +kernel
theorem d_rcommit_1 : decode prog_14_method_53_code 1 = .ok (.invokestatic 251, 3) := by decide +kernel
theorem d_rcommit_4 : decode prog_14_method_53_code 4 = .ok (.ifCond .ne 9, 3) := by decide +kernel
theorem d_rcommit_13 : decode prog_14_method_53_code 13 = .ok (.aload_n 0, 1) := by decide +kernel
theorem d_rcommit_14 : decode prog_14_method_53_code 14 = .ok (.iload_n 1, 1) := by decide +kernel
theorem d_rcommit_15 : decode prog_14_method_53_code 15 = .ok (.invokevirtual 387, 3) := by decide +kernel
theorem d_rcommit_18 : decode prog_14_method_53_code 18 = .ok (.ifCond .ne 9, 3) := by decide +kernel
theorem d_rcommit_27 : decode prog_14_method_53_code 27 = .ok (.aload_n 0, 1) := by decide +kernel
theorem d_rcommit_28 : decode prog_14_method_53_code 28 = .ok (.getfield 384, 3) := by decide +kernel
theorem d_rcommit_31 : decode prog_14_method_53_code 31 = .ok (.sipush 1000, 3) := by decide +kernel
theorem d_rcommit_34 : decode prog_14_method_53_code 34 = .ok (.if_icmp .ne 9, 3) := by decide +kernel
theorem d_rcommit_43 : decode prog_14_method_53_code 43 = .ok (.aload_n 0, 1) := by decide +kernel
theorem d_rcommit_44 : decode prog_14_method_53_code 44 = .ok (.iconst 0, 1) := by decide +kernel
theorem d_rcommit_45 : decode prog_14_method_53_code 45 = .ok (.putfield 176, 3) := by decide +kernel
theorem d_rcommit_48 : decode prog_14_method_53_code 48 = .ok (.aload_n 0, 1) := by decide +kernel
theorem d_rcommit_49 : decode prog_14_method_53_code 49 = .ok (.getfield 384, 3) := by decide +kernel
theorem d_rcommit_52 : decode prog_14_method_53_code 52 = .ok (.istore_n 2, 1) := by decide +kernel
theorem d_rcommit_53 : decode prog_14_method_53_code 53 = .ok (.aload_n 0, 1) := by decide +kernel
theorem d_rcommit_54 : decode prog_14_method_53_code 54 = .ok (.getfield 78, 3) := by decide +kernel
theorem d_rcommit_57 : decode prog_14_method_53_code 57 = .ok (.iload_n 2, 1) := by decide +kernel
theorem d_rcommit_58 : decode prog_14_method_53_code 58 = .ok (.iload_n 1, 1) := by decide +kernel
theorem d_rcommit_59 : decode prog_14_method_53_code 59 = .ok (.iastore, 1) := by decide +kernel
theorem d_rcommit_60 : decode prog_14_method_53_code 60 = .ok (.aload_n 0, 1) := by decide +kernel
theorem d_rcommit_61 : decode prog_14_method_53_code 61 = .ok (.getfield 81, 3) := by decide +kernel
theorem d_rcommit_64 : decode prog_14_method_53_code 64 = .ok (.iload_n 2, 1) := by decide +kernel
theorem d_rcommit_65 : decode prog_14_method_53_code 65 = .ok (.aload_n 0, 1) := by decide +kernel
theorem d_rcommit_66 : decode prog_14_method_53_code 66 = .ok (.iload_n 1, 1) := by decide +kernel
theorem d_rcommit_67 : decode prog_14_method_53_code 67 = .ok (.iload_n 1, 1) := by decide +kernel
theorem d_rcommit_68 : decode prog_14_method_53_code 68 = .ok (.invokevirtual 390, 3) := by decide +kernel
theorem d_rcommit_71 : decode prog_14_method_53_code 71 = .ok (.iconst 1, 1) := by decide +kernel
theorem d_rcommit_72 : decode prog_14_method_53_code 72 = .ok (.iadd, 1) := by decide +kernel
theorem d_rcommit_73 : decode prog_14_method_53_code 73 = .ok (.iastore, 1) := by decide +kernel
theorem d_rcommit_74 : decode prog_14_method_53_code 74 = .ok (.aload_n 0, 1) := by decide +kernel
theorem d_rcommit_75 : decode prog_14_method_53_code 75 = .ok (.getfield 84, 3) := by decide +kernel
theorem d_rcommit_78 : decode prog_14_method_53_code 78 = .ok (.iload_n 2, 1) := by decide +kernel
theorem d_rcommit_79 : decode prog_14_method_53_code 79 = .ok (.aload_n 0, 1) := by decide +kernel
theorem d_rcommit_80 : decode prog_14_method_53_code 80 = .ok (.getfield 393, 3) := by decide +kernel
theorem d_rcommit_83 : decode prog_14_method_53_code 83 = .ok (.iastore, 1) := by decide +kernel
theorem d_rcommit_84 : decode prog_14_method_53_code 84 = .ok (.aload_n 0, 1) := by decide +kernel
theorem d_rcommit_85 : decode prog_14_method_53_code 85 = .ok (.getfield 87, 3) := by decide +kernel
theorem d_rcommit_88 : decode prog_14_method_53_code 88 = .ok (.iload_n 2, 1) := by decide +kernel
theorem d_rcommit_89 : decode prog_14_method_53_code 89 = .ok (.iconst 0, 1) := by decide +kernel
theorem d_rcommit_90 : decode prog_14_method_53_code 90 = .ok (.iastore, 1) := by decide +kernel
theorem d_rcommit_91 : decode prog_14_method_53_code 91 = .ok (.iconst 0, 1) := by decide +kernel
theorem d_rcommit_92 : decode prog_14_method_53_code 92 = .ok (.istore_n 3, 1) := by decide +kernel
theorem d_rcommit_93 : decode prog_14_method_53_code 93 = .ok (.iload_n 3, 1) := by decide +kernel
theorem d_rcommit_94 : decode prog_14_method_53_code 94 = .ok (.aload_n 0, 1) := by decide +kernel
theorem d_rcommit_95 : decode prog_14_method_53_code 95 = .ok (.getfield 384, 3) := by decide +kernel
theorem d_rcommit_98 : decode prog_14_method_53_code 98 = .ok (.if_icmp .ge 51, 3) := by decide +kernel
theorem d_rcommit_101 : decode prog_14_method_53_code 101 = .ok (.aload_n 0, 1) := by decide +kernel
theorem d_rcommit_102 : decode prog_14_method_53_code 102 = .ok (.iload_n 1, 1) := by decide +kernel
theorem d_rcommit_103 : decode prog_14_method_53_code 103 = .ok (.iload_n 3, 1) := by decide +kernel
theorem d_rcommit_104 : decode prog_14_method_53_code 104 = .ok (.invokevirtual 396, 3) := by decide +kernel
theorem d_rcommit_107 : decode prog_14_method_53_code 107 = .ok (.ifCond .ne 6, 3) := by decide +kernel
theorem d_rcommit_113 : decode prog_14_method_53_code 113 = .ok (.aload_n 0, 1) := by decide +kernel
theorem d_rcommit_114 : decode prog_14_method_53_code 114 = .ok (.getfield 90, 3) := by decide +kernel
theorem d_rcommit_117 : decode prog_14_method_53_code 117 = .ok (.aload_n 0, 1) := by decide +kernel
theorem d_rcommit_118 : decode prog_14_method_53_code 118 = .ok (.getfield 393, 3) := by decide +kernel
theorem d_rcommit_121 : decode prog_14_method_53_code 121 = .ok (.iload_n 3, 1) := by decide +kernel
theorem d_rcommit_122 : decode prog_14_method_53_code 122 = .ok (.iastore, 1) := by decide +kernel
theorem d_rcommit_123 : decode prog_14_method_53_code 123 = .ok (.aload_n 0, 1) := by decide +kernel
theorem d_rcommit_124 : decode prog_14_method_53_code 124 = .ok (.dup, 1) := by decide +kernel
theorem d_rcommit_125 : decode prog_14_method_53_code 125 = .ok (.getfield 393, 3) := by decide +kernel
theorem d_rcommit_128 : decode prog_14_method_53_code 128 = .ok (.iconst 1, 1) := by decide +kernel
theorem d_rcommit_129 : decode prog_14_method_53_code 129 = .ok (.iadd, 1) := by decide +kernel
theorem d_rcommit_130 : decode prog_14_method_53_code 130 = .ok (.putfield 393, 3) := by decide +kernel
theorem d_rcommit_133 : decode prog_14_method_53_code 133 = .ok (.aload_n 0, 1) := by decide +kernel
theorem d_rcommit_134 : decode prog_14_method_53_code 134 = .ok (.getfield 87, 3) := by decide +kernel
theorem d_rcommit_137 : decode prog_14_method_53_code 137 = .ok (.iload_n 2, 1) := by decide +kernel
theorem d_rcommit_138 : decode prog_14_method_53_code 138 = .ok (.dup2, 1) := by decide +kernel
theorem d_rcommit_139 : decode prog_14_method_53_code 139 = .ok (.iaload, 1) := by decide +kernel
theorem d_rcommit_140 : decode prog_14_method_53_code 140 = .ok (.iconst 1, 1) := by decide +kernel
theorem d_rcommit_141 : decode prog_14_method_53_code 141 = .ok (.iadd, 1) := by decide +kernel
theorem d_rcommit_142 : decode prog_14_method_53_code 142 = .ok (.iastore, 1) := by decide +kernel
theorem d_rcommit_143 : decode prog_14_method_53_code 143 = .ok (.iinc 3 1, 3) := by decide +kernel
theorem d_rcommit_146 : decode prog_14_method_53_code 146 = .ok (.goto (-53), 3) := by decide +kernel
set_option maxHeartbeats 4000000 in
set_option maxRecDepth 100000 in
theorem w_rcommit_J143 {p : Program} {l : Launch} {e : Env} {s : State} {m : MethodId} {args : Array Value} {below : List Frame} {meth : Method} {c : Code} {A : Nat → Prop} {D : va_G} {md : Nat → Nat} {mc : Nat → ClassId} {Q : State → Prop} (hC : MCx "JoinedTreesModel" prog_14_method_53_code 4 (some .int) p s m args meth c A D mc) {S : MS} {x1 : Int32} {x2 : Int32} {x3 : Int32} {o : ((MS × Int32 × Int32 × Int32) ⊕ (MS × Int32 × Int32))} (Heq : m_rcommit_J143 S x1 x2 x3 = some o) (Ka : ∀ b : MS × Int32 × Int32 × Int32, o = .inl b → ∀ (H : Heap) (locs : List Loc) (ls : Array Slot), va_P D cls (mw md mc b.1) H → va_D A (mw md mc b.1) → va_S A s.heap H locs → lv_has ls 4 [(0, .ref (md 100)), (1, .int b.2.1), (2, .int b.2.2.1), (3, .int b.2.2.2)] → W p l e ({ frames := 1, cells := 0, slots := 0, locals := 24 }) s m args below meth c H locs 0 0 Q (F0 m 93 ls [])) (K0 : ∀ b : MS × Int32 × Int32, o = .inr b → ∀ (H : Heap) (locs : List Loc) (ls : Array Slot), va_P D cls (mw md mc b.1) H → va_D A (mw md mc b.1) → va_S A s.heap H locs → lv_has ls 4 [(0, .ref (md 100)), (1, .int b.2.1), (2, .int b.2.2)] → W p l e ({ frames := 1, cells := 0, slots := 0, locals := 24 }) s m args below meth c H locs 0 0 Q (F0 m 149 ls [])) : ∀ (H : Heap) (locs : List Loc) (ls : Array Slot), va_P D cls (mw md mc S) H → va_D A (mw md mc S) → va_S A s.heap H locs → lv_has ls 4 [(0, .ref (md 100)), (1, .int x1), (2, .int x2), (3, .int x3)] → W p l e ({ frames := 1, cells := 0, slots := 0, locals := 24 }) s m args below meth c H locs 0 0 Q (F0 m 143 ls []) := by
  intro H locs ls hP hD hS hl
  obtain ⟨hx, hb, hr, hml, hown, hts, hK, hA⟩ := id hC
  unfold m_rcommit_J143 at Heq
  refine lv_iinc (v := x3 + 1) (lv' := [(3, .int (x3 + 1)), (0, .ref (md 100)), (1, .int x1), (2, .int x2)]) hx hb d_rcommit_143 hl (k := 3) rfl rfl (by decide) rfl (fun ls hl => ?_)
  refine lv_goto (tgt := 93) hx hb d_rcommit_146 (by decide) ?_
  exact Ka _ (Option.some.inj Heq).symm _ _ _ hP hD hS (lv_sub hl [1, 2, 3, 0] rfl)
def m_rcommit_B93 (S : MS) (x1 : Int32) (x2 : Int32) (x3 : Int32) : Option ((MS × Int32 × Int32 × Int32) ⊕ (MS × Int32 × Int32)) := (if S.i 34 ≤ x3 then some (.inr (S, x1, x2)) else ob (m_risHead S x1 x3) (fun o_2 => (if o_2.2 = 0 then m_rcommit_J143 o_2.1 x1 x2 x3 else gd (o_2.1.i 35) 10000 (gd x2 1000 (gd x2 1000 (m_rcommit_J143 (((o_2.1.setA 33 (upd (o_2.1.a 33) ((o_2.1.i 35).toNatClampNeg) x3)).setI 35 ((o_2.1.i 35) + 1)).setA 32 (upd (o_2.1.a 32) x2.toNatClampNeg ((o_2.1.a 32 x2.toNatClampNeg) + 1))) x1 x2 x3))))))
theorem d_rcommit_110 : decode prog_14_method_53_code 110 = .ok (.goto 33, 3) := by decide +kernel
set_option maxHeartbeats 4000000 in
set_option maxRecDepth 100000 in
theorem w_rcommit_B93 {p : Program} {l : Launch} {e : Env} {s : State} {m : MethodId} {args : Array Value} {below : List Frame} {meth : Method} {c : Code} {A : Nat → Prop} {D : va_G} {md : Nat → Nat} {mc : Nat → ClassId} {Q : State → Prop} (hC : MCx "JoinedTreesModel" prog_14_method_53_code 4 (some .int) p s m args meth c A D mc) {S : MS} {x1 : Int32} {x2 : Int32} {x3 : Int32} {o : ((MS × Int32 × Int32 × Int32) ⊕ (MS × Int32 × Int32))} (Heq : m_rcommit_B93 S x1 x2 x3 = some o) (Ka : ∀ b : MS × Int32 × Int32 × Int32, o = .inl b → ∀ (H : Heap) (locs : List Loc) (ls : Array Slot), va_P D cls (mw md mc b.1) H → va_D A (mw md mc b.1) → va_S A s.heap H locs → lv_has ls 4 [(0, .ref (md 100)), (1, .int b.2.1), (2, .int b.2.2.1), (3, .int b.2.2.2)] → W p l e ({ frames := 1, cells := 0, slots := 0, locals := 24 }) s m args below meth c H locs 0 0 Q (F0 m 93 ls [])) (K0 : ∀ b : MS × Int32 × Int32, o = .inr b → ∀ (H : Heap) (locs : List Loc) (ls : Array Slot), va_P D cls (mw md mc b.1) H → va_D A (mw md mc b.1) → va_S A s.heap H locs → lv_has ls 4 [(0, .ref (md 100)), (1, .int b.2.1), (2, .int b.2.2)] → W p l e ({ frames := 1, cells := 0, slots := 0, locals := 24 }) s m args below meth c H locs 0 0 Q (F0 m 149 ls [])) : ∀ (H : Heap) (locs : List Loc) (ls : Array Slot), va_P D cls (mw md mc S) H → va_D A (mw md mc S) → va_S A s.heap H locs → lv_has ls 4 [(0, .ref (md 100)), (1, .int x1), (2, .int x2), (3, .int x3)] → W p l e ({ frames := 1, cells := 0, slots := 0, locals := 24 }) s m args below meth c H locs 0 0 Q (F0 m 93 ls []) := by
  intro H locs ls hP hD hS hl
  obtain ⟨hx, hb, hr, hml, hown, hts, hK, hA⟩ := id hC
  unfold m_rcommit_B93 at Heq
  refine lv_iload_n hx hb d_rcommit_93 rfl (lv_at hl 3 rfl) ?_
  refine lv_aload_n hx hb d_rcommit_94 rfl (lv_at hl 0 rfl) ?_
  refine va_get (D := D) (ci := 12) (v := .int (S.i 34)) (C := R_MM) (T := F_MM) (N := 77) hx hb hts i_MM hown hK hP 0 rfl rfl 34 (by decide) (hts _ kw_1416) (fun _ h9 => h9) rfl d_rcommit_95 ?_
  refine lv_icmp_ge (tgt := 149) hx hb d_rcommit_98 (by decide) (fun c_1 => ?_) (fun c_1 => ?_)
  · replace Heq := (if_pos c_1).symm.trans Heq
    exact K0 _ (Option.some.inj Heq).symm _ _ _ hP hD hS (lv_sub hl [0, 1, 2] rfl)
  · replace Heq := (if_neg c_1).symm.trans Heq
    refine lv_aload_n hx hb d_rcommit_101 rfl (lv_at hl 0 rfl) ?_
    refine lv_iload_n hx hb d_rcommit_102 rfl (lv_at hl 1 rfl) ?_
    refine lv_iload_n hx hb d_rcommit_103 rfl (lv_at hl 3 rfl) ?_
    obtain ⟨o_2, h_3, Heq⟩ := ob_some Heq
    have hFc := fr_all hD hS hA
    refine va_calli (va_runV (As := [.int x1, .int x3]) (rest := []) ⟨hx, hb, hml, hown, hts⟩ (g_risHead l D H.size h_3) (cw_v 2 hts kw_1823 kw_1820 kw_1822 kp_65 kw_11 rfl rfl (by decide +kernel) ⟨Nat.le_of_ble_eq_true rfl, Nat.le_of_ble_eq_true rfl⟩) ⟨g_blind, va_recv hK hP (ci := 12) (q0 := 0) rfl rfl, fun U hU hW => g_pre hU hW hP hK hD⟩ rfl rfl hl.1 rfl (lv_room (Nat.le_of_ble_eq_true rfl)) d_rcommit_104 ⟨Nat.le_of_ble_eq_true rfl, Nat.le_of_ble_eq_true rfl⟩) hS (fun q _ h => hFc q h) hFc (fun rz u t H1 locs ht hvm hw hB hz1 hk1 hS => ?_)
    obtain ⟨hP, -, hD1⟩ := hB
    rw [ht] at hP
    have hD := hD1.weaken (fun _ q _ h => hFc q.1 h)
    generalize H1 = H at hP hS ⊢
    refine W.cs (cells' := 0) (slots' := 0) rfl rfl ?_
    subst hw
    refine lv_if_ne (tgt := 113) hx hb d_rcommit_107 (by decide) (fun c_4 => ?_) (fun c_4 => ?_)
    · replace Heq := (if_neg c_4).symm.trans Heq
      refine lv_aload_n hx hb d_rcommit_113 rfl (lv_at hl 0 rfl) ?_
      refine va_get (D := D) (ci := 12) (v := .ref (md 33)) (C := R_MM) (T := F_MM) (N := 77) hx hb hts i_MM hown hK hP 0 rfl rfl 33 (by decide) (hts _ kw_1415) (fun _ h9 => h9) rfl d_rcommit_114 ?_
      refine lv_aload_n hx hb d_rcommit_117 rfl (lv_at hl 0 rfl) ?_
      refine va_get (D := D) (ci := 12) (v := .int (o_2.1.i 35)) (C := R_MM) (T := F_MM) (N := 77) hx hb hts i_MM hown hK hP 0 rfl rfl 35 (by decide) (hts _ kw_1417) (fun _ h9 => h9) rfl d_rcommit_118 ?_
      refine lv_iload_n hx hb d_rcommit_121 rfl (lv_at hl 3 rfl) ?_
      obtain ⟨hi_5, Heq⟩ := gd_some Heq
      refine va_iast hx hb hK hP hD hS 26 0 rfl rfl (i := o_2.1.i 35) (x := x3) hi_5 d_rcommit_122 (fun H locs hP hD hS => ?_)
      rw [mw_A33] at hP hD
      refine lv_aload_n hx hb d_rcommit_123 rfl (lv_at hl 0 rfl) ?_
      refine lv_dup hx hb d_rcommit_124 rfl ?_
      refine va_get (D := D) (ci := 12) (v := .int (o_2.1.i 35)) (C := R_MM) (T := F_MM) (N := 77) hx hb hts i_MM hown hK hP 0 rfl rfl 35 (by decide) (hts _ kw_1417) (fun _ h9 => h9) rfl d_rcommit_125 ?_
      refine lv_iconst (v := 1) hx hb d_rcommit_128 (by decide) ?_
      refine lv_iadd hx hb d_rcommit_129 ?_
      refine w_i (y := (o_2.1.i 35) + 1) rfl ?_
      refine va_put (D := D) (ci := 12) (v := .int ((o_2.1.i 35) + 1)) (ty := .int) (C := R_MM) (T := F_MM) (N := 77) hx hb hts i_MM t_MM t_MM_ok n_MM hown hK hP hD hS 0 rfl rfl 35 (by decide) (hts _ kw_1417) (fun _ h9 => h9) rfl (by decide +kernel) rfl rfl (Nat.le_of_ble_eq_true rfl) d_rcommit_130 (fun H locs hP hD hS => ?_)
      rw [mw_I35] at hP hD
      refine lv_aload_n hx hb d_rcommit_133 rfl (lv_at hl 0 rfl) ?_
      refine va_get (D := D) (ci := 12) (v := .ref (md 32)) (C := R_MM) (T := F_MM) (N := 77) hx hb hts i_MM hown hK hP 0 rfl rfl 32 (by decide) (hts _ kw_1414) (fun _ h9 => h9) rfl d_rcommit_134 ?_
      refine lv_iload_n hx hb d_rcommit_137 rfl (lv_at hl 2 rfl) ?_
      refine lv_dup2_11 hx hb d_rcommit_138 rfl rfl ?_
      obtain ⟨hi_6, Heq⟩ := gd_some Heq
      refine va_iald hx hb hK hP 25 0 rfl rfl (i := x2) hi_6 d_rcommit_139 ?_
      refine w_i (y := o_2.1.a 32 x2.toNatClampNeg) rfl ?_
      refine lv_iconst (v := 1) hx hb d_rcommit_140 (by decide) ?_
      refine lv_iadd hx hb d_rcommit_141 ?_
      refine w_i (y := (o_2.1.a 32 x2.toNatClampNeg) + 1) rfl ?_
      obtain ⟨hi_7, Heq⟩ := gd_some Heq
      refine va_iast hx hb hK hP hD hS 25 0 rfl rfl (i := x2) (x := (o_2.1.a 32 x2.toNatClampNeg) + 1) hi_7 d_rcommit_142 (fun H locs hP hD hS => ?_)
      rw [mw_A32] at hP hD
      exact w_rcommit_J143 hC Heq Ka K0 _ _ _ hP hD hS (lv_sub hl [0, 1, 2, 3] rfl)
    · replace Heq := (if_pos c_4).symm.trans Heq
      refine lv_goto (tgt := 143) hx hb d_rcommit_110 (by decide) ?_
      exact w_rcommit_J143 hC Heq Ka K0 _ _ _ hP hD hS (lv_sub hl [0, 1, 2, 3] rfl)
def m_rcommit_L93 (S : MS) (x1 : Int32) (x2 : Int32) (x3 : Int32) : Option (MS × Int32 × Int32) := lp (fun a : MS × Int32 × Int32 × Int32 => m_rcommit_B93 a.1 a.2.1 a.2.2.1 a.2.2.2) FU (S, x1, x2, x3)
theorem w_rcommit_L93 {p : Program} {l : Launch} {e : Env} {s : State} {m : MethodId} {args : Array Value} {below : List Frame} {meth : Method} {c : Code} {A : Nat → Prop} {D : va_G} {md : Nat → Nat} {mc : Nat → ClassId} {Q : State → Prop} (hC : MCx "JoinedTreesModel" prog_14_method_53_code 4 (some .int) p s m args meth c A D mc) {S : MS} {x1 : Int32} {x2 : Int32} {x3 : Int32} {o : MS × Int32 × Int32} (Heq : m_rcommit_L93 S x1 x2 x3 = some o) (K0 : ∀ b : MS × Int32 × Int32, o = b → ∀ (H : Heap) (locs : List Loc) (ls : Array Slot), va_P D cls (mw md mc b.1) H → va_D A (mw md mc b.1) → va_S A s.heap H locs → lv_has ls 4 [(0, .ref (md 100)), (1, .int b.2.1), (2, .int b.2.2)] → W p l e ({ frames := 1, cells := 0, slots := 0, locals := 24 }) s m args below meth c H locs 0 0 Q (F0 m 149 ls [])) : ∀ (H : Heap) (locs : List Loc) (ls : Array Slot), va_P D cls (mw md mc S) H → va_D A (mw md mc S) → va_S A s.heap H locs → lv_has ls 4 [(0, .ref (md 100)), (1, .int x1), (2, .int x2), (3, .int x3)] → W p l e ({ frames := 1, cells := 0, slots := 0, locals := 24 }) s m args below meth c H locs 0 0 Q (F0 m 93 ls []) := by
  refine lp_w (G := fun a : MS × Int32 × Int32 × Int32 => ∀ (H : Heap) (locs : List Loc) (ls : Array Slot), va_P D cls (mw md mc a.1) H → va_D A (mw md mc a.1) → va_S A s.heap H locs → lv_has ls 4 [(0, .ref (md 100)), (1, .int a.2.1), (2, .int a.2.2.1), (3, .int a.2.2.2)] → W p l e ({ frames := 1, cells := 0, slots := 0, locals := 24 }) s m args below meth c H locs 0 0 Q (F0 m 93 ls [])) ?_ FU (S, x1, x2, x3) Heq
  intro a o1 ho Ka Ke
  exact w_rcommit_B93 hC ho (fun b h => Ka b h) (fun b h => K0 b (Ke _ h).symm)
def m_rcommit_J204 (S : MS) (x1 : Int32) (x2 : Int32) (x3 : Int32) : Option ((MS × Int32 × Int32 × Int32) ⊕ (MS × Int32 × Int32)) := some (.inl (S, x1, x2, (x3 + 1)))
theorem d_rcommit_149 : decode prog_14_method_53_code 149 = .ok (.aload_n 0, 1) := by decide +kernel
theorem d_rcommit_150 : decode prog_14_method_53_code 150 = .ok (.dup, 1) := by decide +kernel
theorem d_rcommit_151 : decode prog_14_method_53_code 151 = .ok (.getfield 384, 3) := by decide +kernel
theorem d_rcommit_154 : decode prog_14_method_53_code 154 = .ok (.iconst 1, 1) := by decide +kernel
theorem d_rcommit_155 : decode prog_14_method_53_code 155 = .ok (.iadd, 1) := by decide +kernel
theorem d_rcommit_156 : decode prog_14_method_53_code 156 = .ok (.putfield 384, 3) := by decide +kernel
theorem d_rcommit_159 : decode prog_14_method_53_code 159 = .ok (.iconst 0, 1) := by decide +kernel
theorem d_rcommit_160 : decode prog_14_method_53_code 160 = .ok (.istore_n 3, 1) := by decide +kernel
theorem d_rcommit_161 : decode prog_14_method_53_code 161 = .ok (.iload_n 3, 1) := by decide +kernel
theorem d_rcommit_162 : decode prog_14_method_53_code 162 = .ok (.aload_n 0, 1) := by decide +kernel
theorem d_rcommit_163 : decode prog_14_method_53_code 163 = .ok (.getfield 195, 3) := by decide +kernel
theorem d_rcommit_166 : decode prog_14_method_53_code 166 = .ok (.if_icmp .ge 44, 3) := by decide +kernel
theorem d_rcommit_169 : decode prog_14_method_53_code 169 = .ok (.aload_n 0, 1) := by decide +kernel
theorem d_rcommit_170 : decode prog_14_method_53_code 170 = .ok (.getfield 60, 3) := by decide +kernel
theorem d_rcommit_173 : decode prog_14_method_53_code 173 = .ok (.iload_n 3, 1) := by decide +kernel
theorem d_rcommit_174 : decode prog_14_method_53_code 174 = .ok (.baload, 1) := by decide +kernel
theorem d_rcommit_175 : decode prog_14_method_53_code 175 = .ok (.ifCond .ne 29, 3) := by decide +kernel
theorem d_rcommit_204 : decode prog_14_method_53_code 204 = .ok (.iinc 3 1, 3) := by decide +kernel
theorem d_rcommit_207 : decode prog_14_method_53_code 207 = .ok (.goto (-46), 3) := by decide +kernel
set_option maxHeartbeats 4000000 in
set_option maxRecDepth 100000 in
theorem w_rcommit_J204 {p : Program} {l : Launch} {e : Env} {s : State} {m : MethodId} {args : Array Value} {below : List Frame} {meth : Method} {c : Code} {A : Nat → Prop} {D : va_G} {md : Nat → Nat} {mc : Nat → ClassId} {Q : State → Prop} (hC : MCx "JoinedTreesModel" prog_14_method_53_code 4 (some .int) p s m args meth c A D mc) {S : MS} {x1 : Int32} {x2 : Int32} {x3 : Int32} {o : ((MS × Int32 × Int32 × Int32) ⊕ (MS × Int32 × Int32))} (Heq : m_rcommit_J204 S x1 x2 x3 = some o) (Ka : ∀ b : MS × Int32 × Int32 × Int32, o = .inl b → ∀ (H : Heap) (locs : List Loc) (ls : Array Slot), va_P D cls (mw md mc b.1) H → va_D A (mw md mc b.1) → va_S A s.heap H locs → lv_has ls 4 [(0, .ref (md 100)), (1, .int b.2.1), (2, .int b.2.2.1), (3, .int b.2.2.2)] → W p l e ({ frames := 1, cells := 0, slots := 0, locals := 24 }) s m args below meth c H locs 0 0 Q (F0 m 161 ls [])) (K0 : ∀ b : MS × Int32 × Int32, o = .inr b → ∀ (H : Heap) (locs : List Loc) (ls : Array Slot), va_P D cls (mw md mc b.1) H → va_D A (mw md mc b.1) → va_S A s.heap H locs → lv_has ls 4 [(0, .ref (md 100)), (1, .int b.2.1), (2, .int b.2.2)] → W p l e ({ frames := 1, cells := 0, slots := 0, locals := 24 }) s m args below meth c H locs 0 0 Q (F0 m 210 ls [])) : ∀ (H : Heap) (locs : List Loc) (ls : Array Slot), va_P D cls (mw md mc S) H → va_D A (mw md mc S) → va_S A s.heap H locs → lv_has ls 4 [(0, .ref (md 100)), (1, .int x1), (2, .int x2), (3, .int x3)] → W p l e ({ frames := 1, cells := 0, slots := 0, locals := 24 }) s m args below meth c H locs 0 0 Q (F0 m 204 ls []) := by
  intro H locs ls hP hD hS hl
  obtain ⟨hx, hb, hr, hml, hown, hts, hK, hA⟩ := id hC
  unfold m_rcommit_J204 at Heq
  refine lv_iinc (v := x3 + 1) (lv' := [(3, .int (x3 + 1)), (0, .ref (md 100)), (1, .int x1), (2, .int x2)]) hx hb d_rcommit_204 hl (k := 3) rfl rfl (by decide) rfl (fun ls hl => ?_)
  refine lv_goto (tgt := 161) hx hb d_rcommit_207 (by decide) ?_
  exact Ka _ (Option.some.inj Heq).symm _ _ _ hP hD hS (lv_sub hl [1, 2, 3, 0] rfl)
def m_rcommit_B161 (S : MS) (x1 : Int32) (x2 : Int32) (x3 : Int32) : Option ((MS × Int32 × Int32 × Int32) ⊕ (MS × Int32 × Int32)) := (if S.i 23 ≤ x3 then some (.inr (S, x1, x2)) else gd x3 4000 ((if S.a 21 x3.toNatClampNeg = 0 then gd x3 4000 ((if 0 ≤ S.a 13 x3.toNatClampNeg then m_rcommit_J204 S x1 x2 x3 else gd x3 4000 ((if S.a 12 x3.toNatClampNeg = x1 then gd x3 4000 (m_rcommit_J204 (S.setA 13 (upd (S.a 13) x3.toNatClampNeg x2)) x1 x2 x3) else m_rcommit_J204 S x1 x2 x3)))) else m_rcommit_J204 S x1 x2 x3)))
theorem d_rcommit_178 : decode prog_14_method_53_code 178 = .ok (.aload_n 0, 1) := by decide +kernel
theorem d_rcommit_179 : decode prog_14_method_53_code 179 = .ok (.getfield 35, 3) := by decide +kernel
theorem d_rcommit_182 : decode prog_14_method_53_code 182 = .ok (.iload_n 3, 1) := by decide +kernel
theorem d_rcommit_183 : decode prog_14_method_53_code 183 = .ok (.iaload, 1) := by decide +kernel
theorem d_rcommit_184 : decode prog_14_method_53_code 184 = .ok (.ifCond .ge 20, 3) := by decide +kernel
theorem d_rcommit_187 : decode prog_14_method_53_code 187 = .ok (.aload_n 0, 1) := by decide +kernel
theorem d_rcommit_188 : decode prog_14_method_53_code 188 = .ok (.getfield 32, 3) := by decide +kernel
theorem d_rcommit_191 : decode prog_14_method_53_code 191 = .ok (.iload_n 3, 1) := by decide +kernel
theorem d_rcommit_192 : decode prog_14_method_53_code 192 = .ok (.iaload, 1) := by decide +kernel
theorem d_rcommit_193 : decode prog_14_method_53_code 193 = .ok (.iload_n 1, 1) := by decide +kernel
theorem d_rcommit_194 : decode prog_14_method_53_code 194 = .ok (.if_icmp .ne 10, 3) := by decide +kernel
theorem d_rcommit_197 : decode prog_14_method_53_code 197 = .ok (.aload_n 0, 1) := by decide +kernel
theorem d_rcommit_198 : decode prog_14_method_53_code 198 = .ok (.getfield 35, 3) := by decide +kernel
theorem d_rcommit_201 : decode prog_14_method_53_code 201 = .ok (.iload_n 3, 1) := by decide +kernel
theorem d_rcommit_202 : decode prog_14_method_53_code 202 = .ok (.iload_n 2, 1) := by decide +kernel
theorem d_rcommit_203 : decode prog_14_method_53_code 203 = .ok (.iastore, 1) := by decide +kernel
set_option maxHeartbeats 4000000 in
set_option maxRecDepth 100000 in
theorem w_rcommit_B161 {p : Program} {l : Launch} {e : Env} {s : State} {m : MethodId} {args : Array Value} {below : List Frame} {meth : Method} {c : Code} {A : Nat → Prop} {D : va_G} {md : Nat → Nat} {mc : Nat → ClassId} {Q : State → Prop} (hC : MCx "JoinedTreesModel" prog_14_method_53_code 4 (some .int) p s m args meth c A D mc) {S : MS} {x1 : Int32} {x2 : Int32} {x3 : Int32} {o : ((MS × Int32 × Int32 × Int32) ⊕ (MS × Int32 × Int32))} (Heq : m_rcommit_B161 S x1 x2 x3 = some o) (Ka : ∀ b : MS × Int32 × Int32 × Int32, o = .inl b → ∀ (H : Heap) (locs : List Loc) (ls : Array Slot), va_P D cls (mw md mc b.1) H → va_D A (mw md mc b.1) → va_S A s.heap H locs → lv_has ls 4 [(0, .ref (md 100)), (1, .int b.2.1), (2, .int b.2.2.1), (3, .int b.2.2.2)] → W p l e ({ frames := 1, cells := 0, slots := 0, locals := 24 }) s m args below meth c H locs 0 0 Q (F0 m 161 ls [])) (K0 : ∀ b : MS × Int32 × Int32, o = .inr b → ∀ (H : Heap) (locs : List Loc) (ls : Array Slot), va_P D cls (mw md mc b.1) H → va_D A (mw md mc b.1) → va_S A s.heap H locs → lv_has ls 4 [(0, .ref (md 100)), (1, .int b.2.1), (2, .int b.2.2)] → W p l e ({ frames := 1, cells := 0, slots := 0, locals := 24 }) s m args below meth c H locs 0 0 Q (F0 m 210 ls [])) : ∀ (H : Heap) (locs : List Loc) (ls : Array Slot), va_P D cls (mw md mc S) H → va_D A (mw md mc S) → va_S A s.heap H locs → lv_has ls 4 [(0, .ref (md 100)), (1, .int x1), (2, .int x2), (3, .int x3)] → W p l e ({ frames := 1, cells := 0, slots := 0, locals := 24 }) s m args below meth c H locs 0 0 Q (F0 m 161 ls []) := by
  intro H locs ls hP hD hS hl
  obtain ⟨hx, hb, hr, hml, hown, hts, hK, hA⟩ := id hC
  unfold m_rcommit_B161 at Heq
  refine lv_iload_n hx hb d_rcommit_161 rfl (lv_at hl 3 rfl) ?_
  refine lv_aload_n hx hb d_rcommit_162 rfl (lv_at hl 0 rfl) ?_
  refine va_get (D := D) (ci := 12) (v := .int (S.i 23)) (C := R_MM) (T := F_MM) (N := 77) hx hb hts i_MM hown hK hP 0 rfl rfl 23 (by decide) (hts _ kw_1405) (fun _ h9 => h9) rfl d_rcommit_163 ?_
  refine lv_icmp_ge (tgt := 210) hx hb d_rcommit_166 (by decide) (fun c_1 => ?_) (fun c_1 => ?_)
  · replace Heq := (if_pos c_1).symm.trans Heq
    exact K0 _ (Option.some.inj Heq).symm _ _ _ hP hD hS (lv_sub hl [0, 1, 2] rfl)
  · replace Heq := (if_neg c_1).symm.trans Heq
    refine lv_aload_n hx hb d_rcommit_169 rfl (lv_at hl 0 rfl) ?_
    refine va_get (D := D) (ci := 12) (v := .ref (md 21)) (C := R_MM) (T := F_MM) (N := 77) hx hb hts i_MM hown hK hP 0 rfl rfl 21 (by decide) (hts _ kw_1403) (fun _ h9 => h9) rfl d_rcommit_170 ?_
    refine lv_iload_n hx hb d_rcommit_173 rfl (lv_at hl 3 rfl) ?_
    obtain ⟨hi_2, Heq⟩ := gd_some Heq
    refine va_zald hx hb hK hP 17 2 rfl rfl (i := x3) hi_2 d_rcommit_174 ?_
    refine w_i (y := S.a 21 x3.toNatClampNeg) rfl ?_
    refine lv_if_ne (tgt := 204) hx hb d_rcommit_175 (by decide) (fun c_3 => ?_) (fun c_3 => ?_)
    · replace Heq := (if_neg c_3).symm.trans Heq
      exact w_rcommit_J204 hC Heq Ka K0 _ _ _ hP hD hS (lv_sub hl [0, 1, 2, 3] rfl)
    · replace Heq := (if_pos c_3).symm.trans Heq
      refine lv_aload_n hx hb d_rcommit_178 rfl (lv_at hl 0 rfl) ?_
      refine va_get (D := D) (ci := 12) (v := .ref (md 13)) (C := R_MM) (T := F_MM) (N := 77) hx hb hts i_MM hown hK hP 0 rfl rfl 13 (by decide) (hts _ kw_1395) (fun _ h9 => h9) rfl d_rcommit_179 ?_
      refine lv_iload_n hx hb d_rcommit_182 rfl (lv_at hl 3 rfl) ?_
      obtain ⟨hi_4, Heq⟩ := gd_some Heq
      refine va_iald hx hb hK hP 9 0 rfl rfl (i := x3) hi_4 d_rcommit_183 ?_
      refine w_i (y := S.a 13 x3.toNatClampNeg) rfl ?_
      refine lv_if_ge (tgt := 204) hx hb d_rcommit_184 (by decide) (fun c_5 => ?_) (fun c_5 => ?_)
      · replace Heq := (if_pos c_5).symm.trans Heq
        exact w_rcommit_J204 hC Heq Ka K0 _ _ _ hP hD hS (lv_sub hl [0, 1, 2, 3] rfl)
      · replace Heq := (if_neg c_5).symm.trans Heq
        refine lv_aload_n hx hb d_rcommit_187 rfl (lv_at hl 0 rfl) ?_
        refine va_get (D := D) (ci := 12) (v := .ref (md 12)) (C := R_MM) (T := F_MM) (N := 77) hx hb hts i_MM hown hK hP 0 rfl rfl 12 (by decide) (hts _ kw_1394) (fun _ h9 => h9) rfl d_rcommit_188 ?_
        refine lv_iload_n hx hb d_rcommit_191 rfl (lv_at hl 3 rfl) ?_
        obtain ⟨hi_6, Heq⟩ := gd_some Heq
        refine va_iald hx hb hK hP 8 0 rfl rfl (i := x3) hi_6 d_rcommit_192 ?_
        refine w_i (y := S.a 12 x3.toNatClampNeg) rfl ?_
        refine lv_iload_n hx hb d_rcommit_193 rfl (lv_at hl 1 rfl) ?_
        refine lv_icmp_ne (tgt := 204) hx hb d_rcommit_194 (by decide) (fun c_7 => ?_) (fun c_7 => ?_)
        · replace Heq := (if_neg c_7).symm.trans Heq
          exact w_rcommit_J204 hC Heq Ka K0 _ _ _ hP hD hS (lv_sub hl [0, 1, 2, 3] rfl)
        · replace Heq := (if_pos c_7).symm.trans Heq
          refine lv_aload_n hx hb d_rcommit_197 rfl (lv_at hl 0 rfl) ?_
          refine va_get (D := D) (ci := 12) (v := .ref (md 13)) (C := R_MM) (T := F_MM) (N := 77) hx hb hts i_MM hown hK hP 0 rfl rfl 13 (by decide) (hts _ kw_1395) (fun _ h9 => h9) rfl d_rcommit_198 ?_
          refine lv_iload_n hx hb d_rcommit_201 rfl (lv_at hl 3 rfl) ?_
          refine lv_iload_n hx hb d_rcommit_202 rfl (lv_at hl 2 rfl) ?_
          obtain ⟨hi_8, Heq⟩ := gd_some Heq
          refine va_iast hx hb hK hP hD hS 9 0 rfl rfl (i := x3) (x := x2) hi_8 d_rcommit_203 (fun H locs hP hD hS => ?_)
          rw [mw_A13] at hP hD
          exact w_rcommit_J204 hC Heq Ka K0 _ _ _ hP hD hS (lv_sub hl [0, 1, 2, 3] rfl)
def m_rcommit_L161 (S : MS) (x1 : Int32) (x2 : Int32) (x3 : Int32) : Option (MS × Int32 × Int32) := lp (fun a : MS × Int32 × Int32 × Int32 => m_rcommit_B161 a.1 a.2.1 a.2.2.1 a.2.2.2) FU (S, x1, x2, x3)
theorem w_rcommit_L161 {p : Program} {l : Launch} {e : Env} {s : State} {m : MethodId} {args : Array Value} {below : List Frame} {meth : Method} {c : Code} {A : Nat → Prop} {D : va_G} {md : Nat → Nat} {mc : Nat → ClassId} {Q : State → Prop} (hC : MCx "JoinedTreesModel" prog_14_method_53_code 4 (some .int) p s m args meth c A D mc) {S : MS} {x1 : Int32} {x2 : Int32} {x3 : Int32} {o : MS × Int32 × Int32} (Heq : m_rcommit_L161 S x1 x2 x3 = some o) (K0 : ∀ b : MS × Int32 × Int32, o = b → ∀ (H : Heap) (locs : List Loc) (ls : Array Slot), va_P D cls (mw md mc b.1) H → va_D A (mw md mc b.1) → va_S A s.heap H locs → lv_has ls 4 [(0, .ref (md 100)), (1, .int b.2.1), (2, .int b.2.2)] → W p l e ({ frames := 1, cells := 0, slots := 0, locals := 24 }) s m args below meth c H locs 0 0 Q (F0 m 210 ls [])) : ∀ (H : Heap) (locs : List Loc) (ls : Array Slot), va_P D cls (mw md mc S) H → va_D A (mw md mc S) → va_S A s.heap H locs → lv_has ls 4 [(0, .ref (md 100)), (1, .int x1), (2, .int x2), (3, .int x3)] → W p l e ({ frames := 1, cells := 0, slots := 0, locals := 24 }) s m args below meth c H locs 0 0 Q (F0 m 161 ls []) := by
  refine lp_w (G := fun a : MS × Int32 × Int32 × Int32 => ∀ (H : Heap) (locs : List Loc) (ls : Array Slot), va_P D cls (mw md mc a.1) H → va_D A (mw md mc a.1) → va_S A s.heap H locs → lv_has ls 4 [(0, .ref (md 100)), (1, .int a.2.1), (2, .int a.2.2.1), (3, .int a.2.2.2)] → W p l e ({ frames := 1, cells := 0, slots := 0, locals := 24 }) s m args below meth c H locs 0 0 Q (F0 m 161 ls [])) ?_ FU (S, x1, x2, x3) Heq
  intro a o1 ho Ka Ke
  exact w_rcommit_B161 hC ho (fun b h => Ka b h) (fun b h => K0 b (Ke _ h).symm)
def m_rcommit_J0 (S : MS) (x1 : Int32) : Option (MS × Int32) := ob (m_risReplica S x1) (fun o_1 => (if o_1.2 = 0 then ob (m_rno o_1.1 1) (fun o_25 => some (o_25.1, o_25.2)) else ob (m_ropen o_1.1 x1) (fun o_4 => (if o_4.2 = 0 then ob (m_rno o_4.1 2) (fun o_23 => some (o_23.1, o_23.2)) else (if o_4.1.i 34 = 1000 then ob (m_rno o_4.1 3) (fun o_21 => some (o_21.1, o_21.2)) else gd (o_4.1.i 34) 1000 (ob (m_rnumberOf ((o_4.1.setI 0 0).setA 29 (upd (o_4.1.a 29) ((o_4.1.i 34).toNatClampNeg) x1)) x1 x1) (fun o_9 => gd (o_4.1.i 34) 1000 (gd (o_4.1.i 34) 1000 (gd (o_4.1.i 34) 1000 (ob (m_rcommit_L93 (((o_9.1.setA 30 (upd (o_9.1.a 30) ((o_4.1.i 34).toNatClampNeg) (o_9.2 + 1))).setA 31 (upd (o_9.1.a 31) ((o_4.1.i 34).toNatClampNeg) (o_9.1.i 35))).setA 32 (upd (o_9.1.a 32) ((o_4.1.i 34).toNatClampNeg) 0)) x1 (o_4.1.i 34) 0) (fun b_14 => ob (m_rcommit_L161 (b_14.1.setI 34 ((b_14.1.i 34) + 1)) b_14.2.1 b_14.2.2 0) (fun b_16 => gd b_16.2.1 8 (gd b_16.2.2 1000 (gd b_16.2.2 1000 (some ((b_16.1.setA (101 + b_16.2.1.toNatClampNeg) (upd (b_16.1.a (101 + b_16.2.1.toNatClampNeg)) b_16.2.2.toNatClampNeg (vp_nar .boolean 1))), ((b_16.1.setA (101 + b_16.2.1.toNatClampNeg) (upd (b_16.1.a (101 + b_16.2.1.toNatClampNeg)) b_16.2.2.toNatClampNeg (vp_nar .boolean 1))).a 30) b_16.2.2.toNatClampNeg))))))))))))))))
theorem d_rcommit_210 : decode prog_14_method_53_code 210 = .ok (.aload_n 0, 1) := by decide +kernel
theorem d_rcommit_211 : decode prog_14_method_53_code 211 = .ok (.getfield 95, 3) := by decide +kernel
theorem d_rcommit_214 : decode prog_14_method_53_code 214 = .ok (.iload_n 1, 1) := by decide +kernel
theorem d_rcommit_215 : decode prog_14_method_53_code 215 = .ok (.aaload, 1) := by decide +kernel
theorem d_rcommit_216 : decode prog_14_method_53_code 216 = .ok (.iload_n 2, 1) := by decide +kernel
theorem d_rcommit_217 : decode prog_14_method_53_code 217 = .ok (.iconst 1, 1) := by decide +kernel
theorem d_rcommit_218 : decode prog_14_method_53_code 218 = .ok (.bastore, 1) := by decide +kernel
theorem d_rcommit_219 : decode prog_14_method_53_code 219 = .ok (.aload_n 0, 1) := by decide +kernel
theorem d_rcommit_220 : decode prog_14_method_53_code 220 = .ok (.getfield 81, 3) := by decide +kernel
theorem d_rcommit_223 : decode prog_14_method_53_code 223 = .ok (.iload_n 2, 1) := by decide +kernel
theorem d_rcommit_224 : decode prog_14_method_53_code 224 = .ok (.iaload, 1) := by decide +kernel
theorem d_rcommit_225 : decode prog_14_method_53_code 225 = .ok (.ireturn, 1) := by decide +kernel
theorem d_rcommit_37 : decode prog_14_method_53_code 37 = .ok (.aload_n 0, 1) := by decide +kernel
theorem d_rcommit_38 : decode prog_14_method_53_code 38 = .ok (.iconst 3, 1) := by decide +kernel
theorem d_rcommit_39 : decode prog_14_method_53_code 39 = .ok (.invokevirtual 191, 3) := by decide +kernel
theorem d_rcommit_42 : decode prog_14_method_53_code 42 = .ok (.ireturn, 1) := by decide +kernel
theorem d_rcommit_21 : decode prog_14_method_53_code 21 = .ok (.aload_n 0, 1) := by decide +kernel
theorem d_rcommit_22 : decode prog_14_method_53_code 22 = .ok (.iconst 2, 1) := by decide +kernel
theorem d_rcommit_23 : decode prog_14_method_53_code 23 = .ok (.invokevirtual 191, 3) := by decide +kernel
theorem d_rcommit_26 : decode prog_14_method_53_code 26 = .ok (.ireturn, 1) := by decide +kernel
theorem d_rcommit_7 : decode prog_14_method_53_code 7 = .ok (.aload_n 0, 1) := by decide +kernel
theorem d_rcommit_8 : decode prog_14_method_53_code 8 = .ok (.iconst 1, 1) := by decide +kernel
theorem d_rcommit_9 : decode prog_14_method_53_code 9 = .ok (.invokevirtual 191, 3) := by decide +kernel
theorem d_rcommit_12 : decode prog_14_method_53_code 12 = .ok (.ireturn, 1) := by decide +kernel
set_option maxHeartbeats 4000000 in
set_option maxRecDepth 100000 in
theorem w_rcommit_J0 {p : Program} {l : Launch} {e : Env} {s : State} {m : MethodId} {args : Array Value} {below : List Frame} {meth : Method} {c : Code} {A : Nat → Prop} {D : va_G} {md : Nat → Nat} {mc : Nat → ClassId} {Q : State → Prop} (hC : MCx "JoinedTreesModel" prog_14_method_53_code 4 (some .int) p s m args meth c A D mc) {S : MS} {x1 : Int32} {o : MS × Int32} (Heq : m_rcommit_J0 S x1 = some o) (Kr : ∀ r : MS × Int32, o = r → ∀ (pc : Nat) (H : Heap) (locs : List Loc) (ls : Array Slot), decode prog_14_method_53_code pc = .ok (.ireturn, 1) → va_P D cls (mw md mc r.1) H → va_D A (mw md mc r.1) → va_S A s.heap H locs → W p l e ({ frames := 1, cells := 0, slots := 0, locals := 24 }) s m args below meth c H locs 0 0 Q (F0 m pc ls [.int r.2])) : ∀ (H : Heap) (locs : List Loc) (ls : Array Slot), va_P D cls (mw md mc S) H → va_D A (mw md mc S) → va_S A s.heap H locs → lv_has ls 4 [(0, .ref (md 100)), (1, .int x1)] → W p l e ({ frames := 1, cells := 0, slots := 0, locals := 24 }) s m args below meth c H locs 0 0 Q (F0 m 0 ls []) := by
  intro H locs ls hP hD hS hl
  obtain ⟨hx, hb, hr, hml, hown, hts, hK, hA⟩ := id hC
  unfold m_rcommit_J0 at Heq
  refine lv_iload_n hx hb d_rcommit_0 rfl (lv_at hl 1 rfl) ?_
  obtain ⟨o_1, h_2, Heq⟩ := ob_some Heq
  have hFc := fr_all hD hS hA
  refine va_calli (va_runS (As := [.int x1]) (rest := []) ⟨hx, hb, hml, hown, hts⟩ (g_risReplica l D H.size h_2) (cw_s 1 hts kw_1641 kw_1639 kw_1640 kw_11 rfl rfl (by decide +kernel) ⟨Nat.le_of_ble_eq_true rfl, Nat.le_of_ble_eq_true rfl⟩) ⟨g_blind, fun U hU hW => g_pre hU hW hP hK hD⟩ rfl rfl hl.1 rfl (lv_room (Nat.le_of_ble_eq_true rfl)) d_rcommit_1 ⟨Nat.le_of_ble_eq_true rfl, Nat.le_of_ble_eq_true rfl⟩) hS (fun q _ h => hFc q h) hFc (fun rz u t H1 locs ht hvm hw hB hz1 hk1 hS => ?_)
  obtain ⟨hP, -, hD1⟩ := hB
  rw [ht] at hP
  have hD := hD1.weaken (fun _ q _ h => hFc q.1 h)
  generalize H1 = H at hP hS ⊢
  refine W.cs (cells' := 0) (slots' := 0) rfl rfl ?_
  subst hw
  refine lv_if_ne (tgt := 13) hx hb d_rcommit_4 (by decide) (fun c_3 => ?_) (fun c_3 => ?_)
  · replace Heq := (if_neg c_3).symm.trans Heq
    refine lv_aload_n hx hb d_rcommit_13 rfl (lv_at hl 0 rfl) ?_
    refine lv_iload_n hx hb d_rcommit_14 rfl (lv_at hl 1 rfl) ?_
    obtain ⟨o_4, h_5, Heq⟩ := ob_some Heq
    have hFc := fr_all hD hS hA
    refine va_calli (va_runV (As := [.int x1]) (rest := []) ⟨hx, hb, hml, hown, hts⟩ (g_ropen l D H.size h_5) (cw_v 1 hts kw_1815 kw_1812 kw_1814 kp_63 kw_11 rfl rfl (by decide +kernel) ⟨Nat.le_of_ble_eq_true rfl, Nat.le_of_ble_eq_true rfl⟩) ⟨g_blind, va_recv hK hP (ci := 12) (q0 := 0) rfl rfl, fun U hU hW => g_pre hU hW hP hK hD⟩ rfl rfl hl.1 rfl (lv_room (Nat.le_of_ble_eq_true rfl)) d_rcommit_15 ⟨Nat.le_of_ble_eq_true rfl, Nat.le_of_ble_eq_true rfl⟩) hS (fun q _ h => hFc q h) hFc (fun rz u t H1 locs ht hvm hw hB hz1 hk1 hS => ?_)
    obtain ⟨hP, -, hD1⟩ := hB
    rw [ht] at hP
    have hD := hD1.weaken (fun _ q _ h => hFc q.1 h)
    generalize H1 = H at hP hS ⊢
    refine W.cs (cells' := 0) (slots' := 0) rfl rfl ?_
    subst hw
    refine lv_if_ne (tgt := 27) hx hb d_rcommit_18 (by decide) (fun c_6 => ?_) (fun c_6 => ?_)
    · replace Heq := (if_neg c_6).symm.trans Heq
      refine lv_aload_n hx hb d_rcommit_27 rfl (lv_at hl 0 rfl) ?_
      refine va_get (D := D) (ci := 12) (v := .int (o_4.1.i 34)) (C := R_MM) (T := F_MM) (N := 77) hx hb hts i_MM hown hK hP 0 rfl rfl 34 (by decide) (hts _ kw_1416) (fun _ h9 => h9) rfl d_rcommit_28 ?_
      refine lv_sipush (v := 1000) hx hb d_rcommit_31 (by decide) ?_
      refine lv_icmp_ne (tgt := 43) hx hb d_rcommit_34 (by decide) (fun c_7 => ?_) (fun c_7 => ?_)
      · replace Heq := (if_neg c_7).symm.trans Heq
        refine lv_aload_n hx hb d_rcommit_43 rfl (lv_at hl 0 rfl) ?_
        refine lv_iconst (v := 0) hx hb d_rcommit_44 (by decide) ?_
        refine va_put (D := D) (ci := 12) (v := .int 0) (ty := .int) (C := R_MM) (T := F_MM) (N := 77) hx hb hts i_MM t_MM t_MM_ok n_MM hown hK hP hD hS 0 rfl rfl 0 (by decide) (hts _ kw_1382) (fun _ h9 => h9) rfl (by decide +kernel) rfl rfl (Nat.le_of_ble_eq_true rfl) d_rcommit_45 (fun H locs hP hD hS => ?_)
        rw [mw_I0] at hP hD
        refine lv_aload_n hx hb d_rcommit_48 rfl (lv_at hl 0 rfl) ?_
        refine va_get (D := D) (ci := 12) (v := .int (o_4.1.i 34)) (C := R_MM) (T := F_MM) (N := 77) hx hb hts i_MM hown hK hP 0 rfl rfl 34 (by decide) (hts _ kw_1416) (fun _ h9 => h9) rfl d_rcommit_49 ?_
        refine lv_istore_n (lv' := [(2, .int (o_4.1.i 34)), (0, .ref (md 100)), (1, .int x1)]) hx hb d_rcommit_52 rfl hl (by decide) rfl (fun ls hl => ?_)
        refine lv_aload_n hx hb d_rcommit_53 rfl (lv_at hl 1 rfl) ?_
        refine va_get (D := D) (ci := 12) (v := .ref (md 29)) (C := R_MM) (T := F_MM) (N := 77) hx hb hts i_MM hown hK hP 0 rfl rfl 29 (by decide) (hts _ kw_1411) (fun _ h9 => h9) rfl d_rcommit_54 ?_
        refine lv_iload_n hx hb d_rcommit_57 rfl (lv_at hl 0 rfl) ?_
        refine lv_iload_n hx hb d_rcommit_58 rfl (lv_at hl 2 rfl) ?_
        obtain ⟨hi_8, Heq⟩ := gd_some Heq
        refine va_iast hx hb hK hP hD hS 22 0 rfl rfl (i := o_4.1.i 34) (x := x1) hi_8 d_rcommit_59 (fun H locs hP hD hS => ?_)
        rw [mw_A29] at hP hD
        refine lv_aload_n hx hb d_rcommit_60 rfl (lv_at hl 1 rfl) ?_
        refine va_get (D := D) (ci := 12) (v := .ref (md 30)) (C := R_MM) (T := F_MM) (N := 77) hx hb hts i_MM hown hK hP 0 rfl rfl 30 (by decide) (hts _ kw_1412) (fun _ h9 => h9) rfl d_rcommit_61 ?_
        refine lv_iload_n hx hb d_rcommit_64 rfl (lv_at hl 0 rfl) ?_
        refine lv_aload_n hx hb d_rcommit_65 rfl (lv_at hl 1 rfl) ?_
        refine lv_iload_n hx hb d_rcommit_66 rfl (lv_at hl 2 rfl) ?_
        refine lv_iload_n hx hb d_rcommit_67 rfl (lv_at hl 2 rfl) ?_
        obtain ⟨o_9, h_10, Heq⟩ := ob_some Heq
        have hFc := fr_all hD hS hA
        refine va_calli (va_runV (As := [.int x1, .int x1]) (rest := [.int (o_4.1.i 34), .ref (md 30)]) ⟨hx, hb, hml, hown, hts⟩ (g_rnumberOf l D H.size h_10) (cw_v 2 hts kw_1819 kw_1816 kw_1818 kp_64 kw_11 rfl rfl (by decide +kernel) ⟨Nat.le_of_ble_eq_true rfl, Nat.le_of_ble_eq_true rfl⟩) ⟨g_blind, va_recv hK hP (ci := 12) (q0 := 0) rfl rfl, fun U hU hW => g_pre hU hW hP hK hD⟩ rfl rfl hl.1 rfl (lv_room (Nat.le_of_ble_eq_true rfl)) d_rcommit_68 ⟨Nat.le_of_ble_eq_true rfl, Nat.le_of_ble_eq_true rfl⟩) hS (fun q _ h => hFc q h) hFc (fun rz u t H1 locs ht hvm hw hB hz1 hk1 hS => ?_)
        obtain ⟨hP, -, hD1⟩ := hB
        rw [ht] at hP
        have hD := hD1.weaken (fun _ q _ h => hFc q.1 h)
        generalize H1 = H at hP hS ⊢
        refine W.cs (cells' := 0) (slots' := 0) rfl rfl ?_
        subst hw
        refine lv_iconst (v := 1) hx hb d_rcommit_71 (by decide) ?_
        refine lv_iadd hx hb d_rcommit_72 ?_
        refine w_i (y := o_9.2 + 1) rfl ?_
        obtain ⟨hi_11, Heq⟩ := gd_some Heq
        refine va_iast hx hb hK hP hD hS 23 0 rfl rfl (i := o_4.1.i 34) (x := o_9.2 + 1) hi_11 d_rcommit_73 (fun H locs hP hD hS => ?_)
        rw [mw_A30] at hP hD
        refine lv_aload_n hx hb d_rcommit_74 rfl (lv_at hl 1 rfl) ?_
        refine va_get (D := D) (ci := 12) (v := .ref (md 31)) (C := R_MM) (T := F_MM) (N := 77) hx hb hts i_MM hown hK hP 0 rfl rfl 31 (by decide) (hts _ kw_1413) (fun _ h9 => h9) rfl d_rcommit_75 ?_
        refine lv_iload_n hx hb d_rcommit_78 rfl (lv_at hl 0 rfl) ?_
        refine lv_aload_n hx hb d_rcommit_79 rfl (lv_at hl 1 rfl) ?_
        refine va_get (D := D) (ci := 12) (v := .int (o_9.1.i 35)) (C := R_MM) (T := F_MM) (N := 77) hx hb hts i_MM hown hK hP 0 rfl rfl 35 (by decide) (hts _ kw_1417) (fun _ h9 => h9) rfl d_rcommit_80 ?_
        obtain ⟨hi_12, Heq⟩ := gd_some Heq
        refine va_iast hx hb hK hP hD hS 24 0 rfl rfl (i := o_4.1.i 34) (x := o_9.1.i 35) hi_12 d_rcommit_83 (fun H locs hP hD hS => ?_)
        rw [mw_A31] at hP hD
        refine lv_aload_n hx hb d_rcommit_84 rfl (lv_at hl 1 rfl) ?_
        refine va_get (D := D) (ci := 12) (v := .ref (md 32)) (C := R_MM) (T := F_MM) (N := 77) hx hb hts i_MM hown hK hP 0 rfl rfl 32 (by decide) (hts _ kw_1414) (fun _ h9 => h9) rfl d_rcommit_85 ?_
        refine lv_iload_n hx hb d_rcommit_88 rfl (lv_at hl 0 rfl) ?_
        refine lv_iconst (v := 0) hx hb d_rcommit_89 (by decide) ?_
        obtain ⟨hi_13, Heq⟩ := gd_some Heq
        refine va_iast hx hb hK hP hD hS 25 0 rfl rfl (i := o_4.1.i 34) (x := 0) hi_13 d_rcommit_90 (fun H locs hP hD hS => ?_)
        rw [mw_A32] at hP hD
        refine lv_iconst (v := 0) hx hb d_rcommit_91 (by decide) ?_
        refine lv_istore_n (lv' := [(3, .int 0), (2, .int (o_4.1.i 34)), (0, .ref (md 100)), (1, .int x1)]) hx hb d_rcommit_92 rfl hl (by decide) rfl (fun ls hl => ?_)
        obtain ⟨b_14, h_15, Heq⟩ := ob_some Heq
        refine w_rcommit_L93 hC h_15 (fun b h => ?_) _ _ _ hP hD hS (lv_sub hl [2, 3, 1, 0] rfl)
        subst h
        intro H locs ls hP hD hS hl
        refine lv_aload_n hx hb d_rcommit_149 rfl (lv_at hl 0 rfl) ?_
        refine lv_dup hx hb d_rcommit_150 rfl ?_
        refine va_get (D := D) (ci := 12) (v := .int (b_14.1.i 34)) (C := R_MM) (T := F_MM) (N := 77) hx hb hts i_MM hown hK hP 0 rfl rfl 34 (by decide) (hts _ kw_1416) (fun _ h9 => h9) rfl d_rcommit_151 ?_
        refine lv_iconst (v := 1) hx hb d_rcommit_154 (by decide) ?_
        refine lv_iadd hx hb d_rcommit_155 ?_
        refine w_i (y := (b_14.1.i 34) + 1) rfl ?_
        refine va_put (D := D) (ci := 12) (v := .int ((b_14.1.i 34) + 1)) (ty := .int) (C := R_MM) (T := F_MM) (N := 77) hx hb hts i_MM t_MM t_MM_ok n_MM hown hK hP hD hS 0 rfl rfl 34 (by decide) (hts _ kw_1416) (fun _ h9 => h9) rfl (by decide +kernel) rfl rfl (Nat.le_of_ble_eq_true rfl) d_rcommit_156 (fun H locs hP hD hS => ?_)
        rw [mw_I34] at hP hD
        refine lv_iconst (v := 0) hx hb d_rcommit_159 (by decide) ?_
        refine lv_istore_n (lv' := [(3, .int 0), (0, .ref (md 100)), (1, .int b_14.2.1), (2, .int b_14.2.2)]) hx hb d_rcommit_160 rfl hl (by decide) rfl (fun ls hl => ?_)
        obtain ⟨b_16, h_17, Heq⟩ := ob_some Heq
        refine w_rcommit_L161 hC h_17 (fun b h => ?_) _ _ _ hP hD hS (lv_sub hl [1, 2, 3, 0] rfl)
        subst h
        intro H locs ls hP hD hS hl
        refine lv_aload_n hx hb d_rcommit_210 rfl (lv_at hl 0 rfl) ?_
        refine va_get (D := D) (ci := 12) (v := .ref (md 36)) (C := R_MM) (T := F_MM) (N := 77) hx hb hts i_MM hown hK hP 0 rfl rfl 36 (by decide) (hts _ kw_1418) (fun _ h9 => h9) rfl d_rcommit_211 ?_
        refine lv_iload_n hx hb d_rcommit_214 rfl (lv_at hl 1 rfl) ?_
        obtain ⟨hi_18, Heq⟩ := gd_some Heq
        refine tx_ald2 hx hb hK hP 48 4 rfl rfl (i := b_16.2.1) hi_18 d_rcommit_215 ?_
        refine w_v (y := .ref (md (101 + b_16.2.1.toNatClampNeg))) rfl ?_
        refine lv_iload_n hx hb d_rcommit_216 rfl (lv_at hl 2 rfl) ?_
        refine lv_iconst (v := 1) hx hb d_rcommit_217 (by decide) ?_
        obtain ⟨hi_19, Heq⟩ := gd_some Heq
        refine va_zast hx hb hK hP hD hS (51 + b_16.2.1.toNatClampNeg) 2 (mp_R101 (vp_in.lt hi_18)) rfl (i := b_16.2.2) (x := 1) hi_19 d_rcommit_218 (fun H locs hP hD hS => ?_)
        rw [(mw_R101 (vp_in.lt hi_18))] at hP hD
        refine lv_aload_n hx hb d_rcommit_219 rfl (lv_at hl 0 rfl) ?_
        refine va_get (D := D) (ci := 12) (v := .ref (md 30)) (C := R_MM) (T := F_MM) (N := 77) hx hb hts i_MM hown hK hP 0 rfl rfl 30 (by decide) (hts _ kw_1412) (fun _ h9 => h9) rfl d_rcommit_220 ?_
        refine lv_iload_n hx hb d_rcommit_223 rfl (lv_at hl 2 rfl) ?_
        obtain ⟨hi_20, Heq⟩ := gd_some Heq
        refine va_iald hx hb hK hP 23 0 rfl rfl (i := b_16.2.2) hi_20 d_rcommit_224 ?_
        refine w_i (y := ((b_16.1.setA (101 + b_16.2.1.toNatClampNeg) (upd (b_16.1.a (101 + b_16.2.1.toNatClampNeg)) b_16.2.2.toNatClampNeg (vp_nar .boolean 1))).a 30) b_16.2.2.toNatClampNeg) rfl ?_
        exact Kr _ (Option.some.inj Heq).symm 225 _ _ _ d_rcommit_225 hP hD hS
      · replace Heq := (if_pos c_7).symm.trans Heq
        refine lv_aload_n hx hb d_rcommit_37 rfl (lv_at hl 0 rfl) ?_
        refine lv_iconst (v := 3) hx hb d_rcommit_38 (by decide) ?_
        obtain ⟨o_21, h_22, Heq⟩ := ob_some Heq
        have hFc := fr_all hD hS hA
        refine va_calli (va_runV (As := [.int 3]) (rest := []) ⟨hx, hb, hml, hown, hts⟩ (g_rno l D H.size h_22) (cw_v 1 hts kw_1626 kw_1623 kw_1625 kp_29 kw_11 rfl rfl (by decide +kernel) ⟨Nat.le_of_ble_eq_true rfl, Nat.le_of_ble_eq_true rfl⟩) ⟨g_blind, va_recv hK hP (ci := 12) (q0 := 0) rfl rfl, fun U hU hW => g_pre hU hW hP hK hD⟩ rfl rfl hl.1 rfl (lv_room (Nat.le_of_ble_eq_true rfl)) d_rcommit_39 ⟨Nat.le_of_ble_eq_true rfl, Nat.le_of_ble_eq_true rfl⟩) hS (fun q _ h => hFc q h) hFc (fun rz u t H1 locs ht hvm hw hB hz1 hk1 hS => ?_)
        obtain ⟨hP, -, hD1⟩ := hB
        rw [ht] at hP
        have hD := hD1.weaken (fun _ q _ h => hFc q.1 h)
        generalize H1 = H at hP hS ⊢
        refine W.cs (cells' := 0) (slots' := 0) rfl rfl ?_
        subst hw
        exact Kr _ (Option.some.inj Heq).symm 42 _ _ _ d_rcommit_42 hP hD hS
    · replace Heq := (if_pos c_6).symm.trans Heq
      refine lv_aload_n hx hb d_rcommit_21 rfl (lv_at hl 0 rfl) ?_
      refine lv_iconst (v := 2) hx hb d_rcommit_22 (by decide) ?_
      obtain ⟨o_23, h_24, Heq⟩ := ob_some Heq
      have hFc := fr_all hD hS hA
      refine va_calli (va_runV (As := [.int 2]) (rest := []) ⟨hx, hb, hml, hown, hts⟩ (g_rno l D H.size h_24) (cw_v 1 hts kw_1626 kw_1623 kw_1625 kp_29 kw_11 rfl rfl (by decide +kernel) ⟨Nat.le_of_ble_eq_true rfl, Nat.le_of_ble_eq_true rfl⟩) ⟨g_blind, va_recv hK hP (ci := 12) (q0 := 0) rfl rfl, fun U hU hW => g_pre hU hW hP hK hD⟩ rfl rfl hl.1 rfl (lv_room (Nat.le_of_ble_eq_true rfl)) d_rcommit_23 ⟨Nat.le_of_ble_eq_true rfl, Nat.le_of_ble_eq_true rfl⟩) hS (fun q _ h => hFc q h) hFc (fun rz u t H1 locs ht hvm hw hB hz1 hk1 hS => ?_)
      obtain ⟨hP, -, hD1⟩ := hB
      rw [ht] at hP
      have hD := hD1.weaken (fun _ q _ h => hFc q.1 h)
      generalize H1 = H at hP hS ⊢
      refine W.cs (cells' := 0) (slots' := 0) rfl rfl ?_
      subst hw
      exact Kr _ (Option.some.inj Heq).symm 26 _ _ _ d_rcommit_26 hP hD hS
  · replace Heq := (if_pos c_3).symm.trans Heq
    refine lv_aload_n hx hb d_rcommit_7 rfl (lv_at hl 0 rfl) ?_
    refine lv_iconst (v := 1) hx hb d_rcommit_8 (by decide) ?_
    obtain ⟨o_25, h_26, Heq⟩ := ob_some Heq
    have hFc := fr_all hD hS hA
    refine va_calli (va_runV (As := [.int 1]) (rest := []) ⟨hx, hb, hml, hown, hts⟩ (g_rno l D H.size h_26) (cw_v 1 hts kw_1626 kw_1623 kw_1625 kp_29 kw_11 rfl rfl (by decide +kernel) ⟨Nat.le_of_ble_eq_true rfl, Nat.le_of_ble_eq_true rfl⟩) ⟨g_blind, va_recv hK hP (ci := 12) (q0 := 0) rfl rfl, fun U hU hW => g_pre hU hW hP hK hD⟩ rfl rfl hl.1 rfl (lv_room (Nat.le_of_ble_eq_true rfl)) d_rcommit_9 ⟨Nat.le_of_ble_eq_true rfl, Nat.le_of_ble_eq_true rfl⟩) hS (fun q _ h => hFc q h) hFc (fun rz u t H1 locs ht hvm hw hB hz1 hk1 hS => ?_)
    obtain ⟨hP, -, hD1⟩ := hB
    rw [ht] at hP
    have hD := hD1.weaken (fun _ q _ h => hFc q.1 h)
    generalize H1 = H at hP hS ⊢
    refine W.cs (cells' := 0) (slots' := 0) rfl rfl ?_
    subst hw
    exact Kr _ (Option.some.inj Heq).symm 12 _ _ _ d_rcommit_12 hP hD hS
def m_rcommit (S : MS) (x1 : Int32) : Option (MS × Int32) := m_rcommit_J0 S x1
theorem g_rcommit (l : Launch) (D : va_G) (sz : Nat) {md : Nat → Nat} {mc : Nat → ClassId} {S : MS} {x1 : Int32} {o : MS × Int32} (Heq : m_rcommit S x1 = some o) : Met l ⟨"JoinedTreesModel", "commit", "(I)I"⟩ (Cond.code ⟨"JoinedTreesModel", "commit", "(I)I"⟩ prog_14_method_53_code 4 (some .int) :: gb) ({ frames := 1, cells := 0, slots := 0, locals := 24 }) (gPc D (mw md mc S) (mty mc) sz [.ref (md 100), .int x1]) (va_Qi (fun (r : Int32) (_ : Unit) => r = o.2) (fun _ t => gO D (mw md mc o.1) (mty mc) (va_A (mw md mc S) sz) t) (va_A (mw md mc S) sz)) 0 0 (va_A (mw md mc S) sz) := by
  refine Met.ofW (cc := prog_14_method_53_code) (maxL := 4) (ret := (some .int)) (by decide) rfl ?_
  intro p e s m args below meth c s₁ B hml hv
  obtain ⟨rfl, hsz, hP, hK, hD0⟩ := hv
  have hx := B.exec
  have hb := B.bytes
  have hr := B.returns
  have hts : ∀ w9 ∈ gb, w9.before [.ref (md 100), .int x1].toArray s = true := fun w9 h => atoms_spec (ws := Cond.code ⟨"JoinedTreesModel", "commit", "(I)I"⟩ prog_14_method_53_code 4 (some .int) :: gb) B.pre w9 (List.mem_cons_of_mem _ h)
  have hown : s.vm.findClass "JoinedTreesModel" = some m.cls := findClass_of_methodNamed B.named
  have hlocks := B.notSynchronized
  subst hsz
  have hD := hD0.self (sz := s.heap.size)
  generalize hAe : va_A (mw md mc S) s.heap.size = A at hD ⊢
  have hA : ∀ q : Nat, s.heap.size ≤ q → A q := fun q h => by rw [← hAe]; exact Or.inr h
  have hS : va_S A s.heap s.heap [] := va_S.rf
  have hl := lv_entry ([.ref (md 100), .int x1]) (n := 4) (Nat.le_of_ble_eq_true rfl)
  rw [lg_entry_eq]
  generalize (lg_sl ([.ref (md 100), .int x1]) ++ List.replicate (4 - (lg_sl ([.ref (md 100), .int x1])).length) Slot.unset).toArray = ls at hl ⊢
  have hl : lv_has ls 4 [(0, .ref (md 100)), (1, .int x1)] := hl
  refine w_rcommit_J0 ⟨hx, hb, hr, hml, hown, hts, hK, hA⟩ Heq (fun r h pc H locs ls hd hP hD hS => ?_) _ _ _ hP hD hS (lv_sub hl [0, 1] rfl)
  subst h
  exact W.iret hx hb hr (fun t ht hW => ⟨⟨_, (), rfl, rfl, by rw [ht]; exact hP, va_K.moved hW.alike hK, hD⟩, hS.F ht⟩) hS.2.2 hd
