def m_rlist_J141 (S : MS) (x1 : Int32) (x2 : Int32) (x3 : Int32) (x4 : Int32) : Option ((MS × Int32 × Int32 × Int32 × Int32) ⊕ (MS × Int32)) := some (.inl (S, x1, x2, x3, (x4 + 1)))
theorem d_rlist_0 : decode prog_14_method_17_code 0 = .ok (.aload_n 0, 1) := by decide +kernel
theorem d_rlist_1 : decode prog_14_method_17_code 1 = .ok (.iload_n 1, 1) := by decide +kernel
theorem d_rlist_2 : decode prog_14_method_17_code 2 = .ok (.invokevirtual 206, 3) := by decide +kernel
theorem d_rlist_5 : decode prog_14_method_17_code 5 = .ok (.iconst (-1), 1) := by decide +kernel
theorem d_rlist_6 : decode prog_14_method_17_code 6 = .ok (.istore_n 3, 1) := by decide +kernel
theorem d_rlist_7 : decode prog_14_method_17_code 7 = .ok (.iconst 0, 1) := by decide +kernel
theorem d_rlist_8 : decode prog_14_method_17_code 8 = .ok (.istore 4, 2) := by decide +kernel
theorem d_rlist_10 : decode prog_14_method_17_code 10 = .ok (.iload 4, 2) := by decide +kernel
theorem d_rlist_12 : decode prog_14_method_17_code 12 = .ok (.aload_n 0, 1) := by decide +kernel
theorem d_rlist_13 : decode prog_14_method_17_code 13 = .ok (.getfield 195, 3) := by decide +kernel
theorem d_rlist_16 : decode prog_14_method_17_code 16 = .ok (.if_icmp .ge 131, 3) := by decide +kernel
theorem d_rlist_19 : decode prog_14_method_17_code 19 = .ok (.aload_n 0, 1) := by decide +kernel
theorem d_rlist_20 : decode prog_14_method_17_code 20 = .ok (.getfield 75, 3) := by decide +kernel
theorem d_rlist_23 : decode prog_14_method_17_code 23 = .ok (.iload 4, 2) := by decide +kernel
theorem d_rlist_25 : decode prog_14_method_17_code 25 = .ok (.iaload, 1) := by decide +kernel
theorem d_rlist_26 : decode prog_14_method_17_code 26 = .ok (.istore 5, 2) := by decide +kernel
theorem d_rlist_28 : decode prog_14_method_17_code 28 = .ok (.aload_n 0, 1) := by decide +kernel
theorem d_rlist_29 : decode prog_14_method_17_code 29 = .ok (.iload_n 1, 1) := by decide +kernel
theorem d_rlist_30 : decode prog_14_method_17_code 30 = .ok (.iload 5, 2) := by decide +kernel
theorem d_rlist_32 : decode prog_14_method_17_code 32 = .ok (.invokevirtual 198, 3) := by decide +kernel
theorem d_rlist_35 : decode prog_14_method_17_code 35 = .ok (.ifCond .eq 106, 3) := by decide +kernel
theorem d_rlist_141 : decode prog_14_method_17_code 141 = .ok (.iinc 4 1, 3) := by decide +kernel
theorem d_rlist_144 : decode prog_14_method_17_code 144 = .ok (.goto (-134), 3) := by decide +kernel
set_option maxHeartbeats 4000000 in
set_option maxRecDepth 100000 in
theorem w_rlist_J141 {p : Program} {l : Launch} {e : Env} {s : State} {m : MethodId} {args : Array Value} {below : List Frame} {meth : Method} {c : Code} {A : Nat → Prop} {D : va_G} {md : Nat → Nat} {mc : Nat → ClassId} {Q : State → Prop} (hC : MCx "JoinedTreesModel" prog_14_method_17_code 7 none p s m args meth c A D mc) {S : MS} {x1 : Int32} {x2 : Int32} {x3 : Int32} {x4 : Int32} {o : ((MS × Int32 × Int32 × Int32 × Int32) ⊕ (MS × Int32))} (Heq : m_rlist_J141 S x1 x2 x3 x4 = some o) (Ka : ∀ b : MS × Int32 × Int32 × Int32 × Int32, o = .inl b → ∀ (H : Heap) (locs : List Loc) (ls : Array Slot), va_P D cls (mw md mc b.1) H → va_D A (mw md mc b.1) → va_S A s.heap H locs → lv_has ls 7 [(0, .ref (md 100)), (1, .int b.2.1), (2, .int b.2.2.1), (3, .int b.2.2.2.1), (4, .int b.2.2.2.2)] → W p l e ({ frames := 2, cells := 0, slots := 0, locals := 45 }) s m args below meth c H locs 0 0 Q (F0 m 10 ls [])) (K0 : ∀ b : MS × Int32, o = .inr b → ∀ (H : Heap) (locs : List Loc) (ls : Array Slot), va_P D cls (mw md mc b.1) H → va_D A (mw md mc b.1) → va_S A s.heap H locs → lv_has ls 7 [(0, .ref (md 100)), (3, .int b.2)] → W p l e ({ frames := 2, cells := 0, slots := 0, locals := 45 }) s m args below meth c H locs 0 0 Q (F0 m 147 ls [])) : ∀ (H : Heap) (locs : List Loc) (ls : Array Slot), va_P D cls (mw md mc S) H → va_D A (mw md mc S) → va_S A s.heap H locs → lv_has ls 7 [(0, .ref (md 100)), (1, .int x1), (2, .int x2), (3, .int x3), (4, .int x4)] → W p l e ({ frames := 2, cells := 0, slots := 0, locals := 45 }) s m args below meth c H locs 0 0 Q (F0 m 141 ls []) := by
  intro H locs ls hP hD hS hl
  obtain ⟨hx, hb, hr, hml, hown, hts, hK, hA⟩ := id hC
  unfold m_rlist_J141 at Heq
  refine lv_iinc (v := x4 + 1) (lv' := [(4, .int (x4 + 1)), (0, .ref (md 100)), (1, .int x1), (2, .int x2), (3, .int x3)]) hx hb d_rlist_141 hl (k := 4) rfl rfl (by decide) rfl (fun ls hl => ?_)
  refine lv_goto (tgt := 10) hx hb d_rlist_144 (by decide) ?_
  exact Ka _ (Option.some.inj Heq).symm _ _ _ hP hD hS (lv_sub hl [1, 2, 3, 4, 0] rfl)
def m_rlist_B89 (S : MS) (x1 : Int32) (x2 : Int32) (x3 : Int32) (x4 : Int32) (x5 : Int32) (x6 : Int32) : Option ((MS × Int32 × Int32 × Int32 × Int32 × Int32 × Int32) ⊕ (MS × Int32 × Int32 × Int32 × Int32 × Int32 × Int32)) := gd x6 4000 (gd x5 4000 ((if S.a 8 x6.toNatClampNeg = S.a 10 x5.toNatClampNeg then some (.inr (S, x1, x2, x3, x4, x5, x6)) else gd x6 4001 (some (.inl (S, x1, x2, x3, x4, x5, (S.a 49 x6.toNatClampNeg)))))))
theorem d_rlist_38 : decode prog_14_method_17_code 38 = .ok (.aload_n 0, 1) := by decide +kernel
theorem d_rlist_39 : decode prog_14_method_17_code 39 = .ok (.getfield 56, 3) := by decide +kernel
theorem d_rlist_42 : decode prog_14_method_17_code 42 = .ok (.iload 5, 2) := by decide +kernel
theorem d_rlist_44 : decode prog_14_method_17_code 44 = .ok (.baload, 1) := by decide +kernel
theorem d_rlist_45 : decode prog_14_method_17_code 45 = .ok (.ifCond .eq 96, 3) := by decide +kernel
theorem d_rlist_48 : decode prog_14_method_17_code 48 = .ok (.aload_n 0, 1) := by decide +kernel
theorem d_rlist_49 : decode prog_14_method_17_code 49 = .ok (.getfield 23, 3) := by decide +kernel
theorem d_rlist_52 : decode prog_14_method_17_code 52 = .ok (.iload 5, 2) := by decide +kernel
theorem d_rlist_54 : decode prog_14_method_17_code 54 = .ok (.iaload, 1) := by decide +kernel
theorem d_rlist_55 : decode prog_14_method_17_code 55 = .ok (.iload_n 2, 1) := by decide +kernel
theorem d_rlist_56 : decode prog_14_method_17_code 56 = .ok (.if_icmp .eq 6, 3) := by decide +kernel
theorem d_rlist_62 : decode prog_14_method_17_code 62 = .ok (.aload_n 0, 1) := by decide +kernel
theorem d_rlist_63 : decode prog_14_method_17_code 63 = .ok (.getfield 26, 3) := by decide +kernel
theorem d_rlist_66 : decode prog_14_method_17_code 66 = .ok (.iload 5, 2) := by decide +kernel
theorem d_rlist_68 : decode prog_14_method_17_code 68 = .ok (.iaload, 1) := by decide +kernel
theorem d_rlist_69 : decode prog_14_method_17_code 69 = .ok (.ifCond .ne 17, 3) := by decide +kernel
theorem d_rlist_86 : decode prog_14_method_17_code 86 = .ok (.iload_n 3, 1) := by decide +kernel
theorem d_rlist_87 : decode prog_14_method_17_code 87 = .ok (.istore 6, 2) := by decide +kernel
theorem d_rlist_89 : decode prog_14_method_17_code 89 = .ok (.aload_n 0, 1) := by decide +kernel
theorem d_rlist_90 : decode prog_14_method_17_code 90 = .ok (.getfield 19, 3) := by decide +kernel
theorem d_rlist_93 : decode prog_14_method_17_code 93 = .ok (.iload 6, 2) := by decide +kernel
theorem d_rlist_95 : decode prog_14_method_17_code 95 = .ok (.iaload, 1) := by decide +kernel
theorem d_rlist_96 : decode prog_14_method_17_code 96 = .ok (.aload_n 0, 1) := by decide +kernel
theorem d_rlist_97 : decode prog_14_method_17_code 97 = .ok (.getfield 26, 3) := by decide +kernel
theorem d_rlist_100 : decode prog_14_method_17_code 100 = .ok (.iload 5, 2) := by decide +kernel
theorem d_rlist_102 : decode prog_14_method_17_code 102 = .ok (.iaload, 1) := by decide +kernel
theorem d_rlist_103 : decode prog_14_method_17_code 103 = .ok (.if_icmp .eq 15, 3) := by decide +kernel
theorem d_rlist_106 : decode prog_14_method_17_code 106 = .ok (.aload_n 0, 1) := by decide +kernel
theorem d_rlist_107 : decode prog_14_method_17_code 107 = .ok (.getfield 127, 3) := by decide +kernel
theorem d_rlist_110 : decode prog_14_method_17_code 110 = .ok (.iload 6, 2) := by decide +kernel
theorem d_rlist_112 : decode prog_14_method_17_code 112 = .ok (.iaload, 1) := by decide +kernel
theorem d_rlist_113 : decode prog_14_method_17_code 113 = .ok (.istore 6, 2) := by decide +kernel
theorem d_rlist_115 : decode prog_14_method_17_code 115 = .ok (.goto (-26), 3) := by decide +kernel
set_option maxHeartbeats 4000000 in
set_option maxRecDepth 100000 in
theorem w_rlist_B89 {p : Program} {l : Launch} {e : Env} {s : State} {m : MethodId} {args : Array Value} {below : List Frame} {meth : Method} {c : Code} {A : Nat → Prop} {D : va_G} {md : Nat → Nat} {mc : Nat → ClassId} {Q : State → Prop} (hC : MCx "JoinedTreesModel" prog_14_method_17_code 7 none p s m args meth c A D mc) {S : MS} {x1 : Int32} {x2 : Int32} {x3 : Int32} {x4 : Int32} {x5 : Int32} {x6 : Int32} {o : ((MS × Int32 × Int32 × Int32 × Int32 × Int32 × Int32) ⊕ (MS × Int32 × Int32 × Int32 × Int32 × Int32 × Int32))} (Heq : m_rlist_B89 S x1 x2 x3 x4 x5 x6 = some o) (Ka : ∀ b : MS × Int32 × Int32 × Int32 × Int32 × Int32 × Int32, o = .inl b → ∀ (H : Heap) (locs : List Loc) (ls : Array Slot), va_P D cls (mw md mc b.1) H → va_D A (mw md mc b.1) → va_S A s.heap H locs → lv_has ls 7 [(0, .ref (md 100)), (1, .int b.2.1), (2, .int b.2.2.1), (3, .int b.2.2.2.1), (4, .int b.2.2.2.2.1), (5, .int b.2.2.2.2.2.1), (6, .int b.2.2.2.2.2.2)] → W p l e ({ frames := 2, cells := 0, slots := 0, locals := 45 }) s m args below meth c H locs 0 0 Q (F0 m 89 ls [])) (K0 : ∀ b : MS × Int32 × Int32 × Int32 × Int32 × Int32 × Int32, o = .inr b → ∀ (H : Heap) (locs : List Loc) (ls : Array Slot), va_P D cls (mw md mc b.1) H → va_D A (mw md mc b.1) → va_S A s.heap H locs → lv_has ls 7 [(0, .ref (md 100)), (1, .int b.2.1), (2, .int b.2.2.1), (3, .int b.2.2.2.1), (4, .int b.2.2.2.2.1), (5, .int b.2.2.2.2.2.1), (6, .int b.2.2.2.2.2.2)] → W p l e ({ frames := 2, cells := 0, slots := 0, locals := 45 }) s m args below meth c H locs 0 0 Q (F0 m 118 ls [])) : ∀ (H : Heap) (locs : List Loc) (ls : Array Slot), va_P D cls (mw md mc S) H → va_D A (mw md mc S) → va_S A s.heap H locs → lv_has ls 7 [(0, .ref (md 100)), (1, .int x1), (2, .int x2), (3, .int x3), (4, .int x4), (5, .int x5), (6, .int x6)] → W p l e ({ frames := 2, cells := 0, slots := 0, locals := 45 }) s m args below meth c H locs 0 0 Q (F0 m 89 ls []) := by
  intro H locs ls hP hD hS hl
  obtain ⟨hx, hb, hr, hml, hown, hts, hK, hA⟩ := id hC
  unfold m_rlist_B89 at Heq
  refine lv_aload_n hx hb d_rlist_89 rfl (lv_at hl 0 rfl) ?_
  refine va_get (D := D) (ci := 12) (v := .ref (md 8)) (C := R_MM) (T := F_MM) (N := 77) hx hb hts i_MM hown hK hP 0 rfl rfl 8 (by decide) (hts _ kw_1390) (fun _ h9 => h9) rfl d_rlist_90 ?_
  refine lv_iload hx hb d_rlist_93 (lv_at hl 6 rfl) ?_
  obtain ⟨hi_1, Heq⟩ := gd_some Heq
  refine va_iald hx hb hK hP 4 0 rfl rfl (i := x6) hi_1 d_rlist_95 ?_
  refine w_i (y := S.a 8 x6.toNatClampNeg) rfl ?_
  refine lv_aload_n hx hb d_rlist_96 rfl (lv_at hl 0 rfl) ?_
  refine va_get (D := D) (ci := 12) (v := .ref (md 10)) (C := R_MM) (T := F_MM) (N := 77) hx hb hts i_MM hown hK hP 0 rfl rfl 10 (by decide) (hts _ kw_1392) (fun _ h9 => h9) rfl d_rlist_97 ?_
  refine lv_iload hx hb d_rlist_100 (lv_at hl 5 rfl) ?_
  obtain ⟨hi_2, Heq⟩ := gd_some Heq
  refine va_iald hx hb hK hP 6 0 rfl rfl (i := x5) hi_2 d_rlist_102 ?_
  refine w_i (y := S.a 10 x5.toNatClampNeg) rfl ?_
  refine lv_icmp_eq (tgt := 118) hx hb d_rlist_103 (by decide) (fun c_3 => ?_) (fun c_3 => ?_)
  · replace Heq := (if_pos c_3).symm.trans Heq
    exact K0 _ (Option.some.inj Heq).symm _ _ _ hP hD hS (lv_sub hl [0, 1, 2, 3, 4, 5, 6] rfl)
  · replace Heq := (if_neg c_3).symm.trans Heq
    refine lv_aload_n hx hb d_rlist_106 rfl (lv_at hl 0 rfl) ?_
    refine va_get (D := D) (ci := 12) (v := .ref (md 49)) (C := R_MM) (T := F_MM) (N := 77) hx hb hts i_MM hown hK hP 0 rfl rfl 49 (by decide) (hts _ kw_1431) (fun _ h9 => h9) rfl d_rlist_107 ?_
    refine lv_iload hx hb d_rlist_110 (lv_at hl 6 rfl) ?_
    obtain ⟨hi_4, Heq⟩ := gd_some Heq
    refine va_iald hx hb hK hP 33 0 rfl rfl (i := x6) hi_4 d_rlist_112 ?_
    refine w_i (y := S.a 49 x6.toNatClampNeg) rfl ?_
    refine lv_istore (lv' := [(6, .int (S.a 49 x6.toNatClampNeg)), (0, .ref (md 100)), (1, .int x1), (2, .int x2), (3, .int x3), (4, .int x4), (5, .int x5)]) hx hb d_rlist_113 hl (by decide) rfl (fun ls hl => ?_)
    refine lv_goto (tgt := 89) hx hb d_rlist_115 (by decide) ?_
    exact Ka _ (Option.some.inj Heq).symm _ _ _ hP hD hS (lv_sub hl [1, 2, 3, 4, 5, 6, 0] rfl)
def m_rlist_L89 (S : MS) (x1 : Int32) (x2 : Int32) (x3 : Int32) (x4 : Int32) (x5 : Int32) (x6 : Int32) : Option (MS × Int32 × Int32 × Int32 × Int32 × Int32 × Int32) := lp (fun a : MS × Int32 × Int32 × Int32 × Int32 × Int32 × Int32 => m_rlist_B89 a.1 a.2.1 a.2.2.1 a.2.2.2.1 a.2.2.2.2.1 a.2.2.2.2.2.1 a.2.2.2.2.2.2) FU (S, x1, x2, x3, x4, x5, x6)
theorem w_rlist_L89 {p : Program} {l : Launch} {e : Env} {s : State} {m : MethodId} {args : Array Value} {below : List Frame} {meth : Method} {c : Code} {A : Nat → Prop} {D : va_G} {md : Nat → Nat} {mc : Nat → ClassId} {Q : State → Prop} (hC : MCx "JoinedTreesModel" prog_14_method_17_code 7 none p s m args meth c A D mc) {S : MS} {x1 : Int32} {x2 : Int32} {x3 : Int32} {x4 : Int32} {x5 : Int32} {x6 : Int32} {o : MS × Int32 × Int32 × Int32 × Int32 × Int32 × Int32} (Heq : m_rlist_L89 S x1 x2 x3 x4 x5 x6 = some o) (K0 : ∀ b : MS × Int32 × Int32 × Int32 × Int32 × Int32 × Int32, o = b → ∀ (H : Heap) (locs : List Loc) (ls : Array Slot), va_P D cls (mw md mc b.1) H → va_D A (mw md mc b.1) → va_S A s.heap H locs → lv_has ls 7 [(0, .ref (md 100)), (1, .int b.2.1), (2, .int b.2.2.1), (3, .int b.2.2.2.1), (4, .int b.2.2.2.2.1), (5, .int b.2.2.2.2.2.1), (6, .int b.2.2.2.2.2.2)] → W p l e ({ frames := 2, cells := 0, slots := 0, locals := 45 }) s m args below meth c H locs 0 0 Q (F0 m 118 ls [])) : ∀ (H : Heap) (locs : List Loc) (ls : Array Slot), va_P D cls (mw md mc S) H → va_D A (mw md mc S) → va_S A s.heap H locs → lv_has ls 7 [(0, .ref (md 100)), (1, .int x1), (2, .int x2), (3, .int x3), (4, .int x4), (5, .int x5), (6, .int x6)] → W p l e ({ frames := 2, cells := 0, slots := 0, locals := 45 }) s m args below meth c H locs 0 0 Q (F0 m 89 ls []) := by
  refine lp_w (G := fun a : MS × Int32 × Int32 × Int32 × Int32 × Int32 × Int32 => ∀ (H : Heap) (locs : List Loc) (ls : Array Slot), va_P D cls (mw md mc a.1) H → va_D A (mw md mc a.1) → va_S A s.heap H locs → lv_has ls 7 [(0, .ref (md 100)), (1, .int a.2.1), (2, .int a.2.2.1), (3, .int a.2.2.2.1), (4, .int a.2.2.2.2.1), (5, .int a.2.2.2.2.2.1), (6, .int a.2.2.2.2.2.2)] → W p l e ({ frames := 2, cells := 0, slots := 0, locals := 45 }) s m args below meth c H locs 0 0 Q (F0 m 89 ls [])) ?_ FU (S, x1, x2, x3, x4, x5, x6) Heq
  intro a o1 ho Ka Ke
  exact w_rlist_B89 hC ho (fun b h => Ka b h) (fun b h => K0 b (Ke _ h).symm)
def m_rlist_B10 (S : MS) (x1 : Int32) (x2 : Int32) (x3 : Int32) (x4 : Int32) : Option ((MS × Int32 × Int32 × Int32 × Int32) ⊕ (MS × Int32)) := (if S.i 23 ≤ x4 then some (.inr (S, x3)) else gd x4 4000 (ob (m_rin S x1 (S.a 28 x4.toNatClampNeg)) (fun o_3 => (if o_3.2 = 0 then m_rlist_J141 o_3.1 x1 x2 x3 x4 else gd (S.a 28 x4.toNatClampNeg) 4000 ((if o_3.1.a 20 ((S.a 28 x4.toNatClampNeg).toNatClampNeg) = 0 then m_rlist_J141 o_3.1 x1 x2 x3 x4 else gd (S.a 28 x4.toNatClampNeg) 4000 ((if o_3.1.a 9 ((S.a 28 x4.toNatClampNeg).toNatClampNeg) = x2 then gd (S.a 28 x4.toNatClampNeg) 4000 ((if o_3.1.a 10 ((S.a 28 x4.toNatClampNeg).toNatClampNeg) = 0 then gd (S.a 28 x4.toNatClampNeg) 4001 (m_rlist_J141 (o_3.1.setA 49 (upd (o_3.1.a 49) ((S.a 28 x4.toNatClampNeg).toNatClampNeg) x3)) x1 x2 (S.a 28 x4.toNatClampNeg) x4) else ob (m_rlist_L89 o_3.1 x1 x2 x3 x4 (S.a 28 x4.toNatClampNeg) x3) (fun b_12 => gd b_12.2.2.2.2.2.2 4001 (gd b_12.2.2.2.2.2.1 4001 (gd b_12.2.2.2.2.2.2 4001 (m_rlist_J141 ((b_12.1.setA 49 (upd (b_12.1.a 49) b_12.2.2.2.2.2.1.toNatClampNeg (b_12.1.a 49 b_12.2.2.2.2.2.2.toNatClampNeg))).setA 49 (upd (upd (b_12.1.a 49) b_12.2.2.2.2.2.1.toNatClampNeg (b_12.1.a 49 b_12.2.2.2.2.2.2.toNatClampNeg)) b_12.2.2.2.2.2.2.toNatClampNeg b_12.2.2.2.2.2.1)) b_12.2.1 b_12.2.2.1 b_12.2.2.2.1 b_12.2.2.2.2.1)))))) else m_rlist_J141 o_3.1 x1 x2 x3 x4))))))))
theorem d_rlist_118 : decode prog_14_method_17_code 118 = .ok (.aload_n 0, 1) := by decide +kernel
theorem d_rlist_119 : decode prog_14_method_17_code 119 = .ok (.getfield 127, 3) := by decide +kernel
theorem d_rlist_122 : decode prog_14_method_17_code 122 = .ok (.iload 5, 2) := by decide +kernel
theorem d_rlist_124 : decode prog_14_method_17_code 124 = .ok (.aload_n 0, 1) := by decide +kernel
theorem d_rlist_125 : decode prog_14_method_17_code 125 = .ok (.getfield 127, 3) := by decide +kernel
theorem d_rlist_128 : decode prog_14_method_17_code 128 = .ok (.iload 6, 2) := by decide +kernel
theorem d_rlist_130 : decode prog_14_method_17_code 130 = .ok (.iaload, 1) := by decide +kernel
theorem d_rlist_131 : decode prog_14_method_17_code 131 = .ok (.iastore, 1) := by decide +kernel
theorem d_rlist_132 : decode prog_14_method_17_code 132 = .ok (.aload_n 0, 1) := by decide +kernel
theorem d_rlist_133 : decode prog_14_method_17_code 133 = .ok (.getfield 127, 3) := by decide +kernel
theorem d_rlist_136 : decode prog_14_method_17_code 136 = .ok (.iload 6, 2) := by decide +kernel
theorem d_rlist_138 : decode prog_14_method_17_code 138 = .ok (.iload 5, 2) := by decide +kernel
theorem d_rlist_140 : decode prog_14_method_17_code 140 = .ok (.iastore, 1) := by decide +kernel
theorem d_rlist_72 : decode prog_14_method_17_code 72 = .ok (.aload_n 0, 1) := by decide +kernel
theorem d_rlist_73 : decode prog_14_method_17_code 73 = .ok (.getfield 127, 3) := by decide +kernel
theorem d_rlist_76 : decode prog_14_method_17_code 76 = .ok (.iload 5, 2) := by decide +kernel
theorem d_rlist_78 : decode prog_14_method_17_code 78 = .ok (.iload_n 3, 1) := by decide +kernel
theorem d_rlist_79 : decode prog_14_method_17_code 79 = .ok (.iastore, 1) := by decide +kernel
theorem d_rlist_80 : decode prog_14_method_17_code 80 = .ok (.iload 5, 2) := by decide +kernel
theorem d_rlist_82 : decode prog_14_method_17_code 82 = .ok (.istore_n 3, 1) := by decide +kernel
theorem d_rlist_83 : decode prog_14_method_17_code 83 = .ok (.goto 58, 3) := by decide +kernel
theorem d_rlist_59 : decode prog_14_method_17_code 59 = .ok (.goto 82, 3) := by decide +kernel
set_option maxHeartbeats 4000000 in
set_option maxRecDepth 100000 in
theorem w_rlist_B10 {p : Program} {l : Launch} {e : Env} {s : State} {m : MethodId} {args : Array Value} {below : List Frame} {meth : Method} {c : Code} {A : Nat → Prop} {D : va_G} {md : Nat → Nat} {mc : Nat → ClassId} {Q : State → Prop} (hC : MCx "JoinedTreesModel" prog_14_method_17_code 7 none p s m args meth c A D mc) {S : MS} {x1 : Int32} {x2 : Int32} {x3 : Int32} {x4 : Int32} {o : ((MS × Int32 × Int32 × Int32 × Int32) ⊕ (MS × Int32))} (Heq : m_rlist_B10 S x1 x2 x3 x4 = some o) (Ka : ∀ b : MS × Int32 × Int32 × Int32 × Int32, o = .inl b → ∀ (H : Heap) (locs : List Loc) (ls : Array Slot), va_P D cls (mw md mc b.1) H → va_D A (mw md mc b.1) → va_S A s.heap H locs → lv_has ls 7 [(0, .ref (md 100)), (1, .int b.2.1), (2, .int b.2.2.1), (3, .int b.2.2.2.1), (4, .int b.2.2.2.2)] → W p l e ({ frames := 2, cells := 0, slots := 0, locals := 45 }) s m args below meth c H locs 0 0 Q (F0 m 10 ls [])) (K0 : ∀ b : MS × Int32, o = .inr b → ∀ (H : Heap) (locs : List Loc) (ls : Array Slot), va_P D cls (mw md mc b.1) H → va_D A (mw md mc b.1) → va_S A s.heap H locs → lv_has ls 7 [(0, .ref (md 100)), (3, .int b.2)] → W p l e ({ frames := 2, cells := 0, slots := 0, locals := 45 }) s m args below meth c H locs 0 0 Q (F0 m 147 ls [])) : ∀ (H : Heap) (locs : List Loc) (ls : Array Slot), va_P D cls (mw md mc S) H → va_D A (mw md mc S) → va_S A s.heap H locs → lv_has ls 7 [(0, .ref (md 100)), (1, .int x1), (2, .int x2), (3, .int x3), (4, .int x4)] → W p l e ({ frames := 2, cells := 0, slots := 0, locals := 45 }) s m args below meth c H locs 0 0 Q (F0 m 10 ls []) := by
  intro H locs ls hP hD hS hl
  obtain ⟨hx, hb, hr, hml, hown, hts, hK, hA⟩ := id hC
  unfold m_rlist_B10 at Heq
  refine lv_iload hx hb d_rlist_10 (lv_at hl 4 rfl) ?_
  refine lv_aload_n hx hb d_rlist_12 rfl (lv_at hl 0 rfl) ?_
  refine va_get (D := D) (ci := 12) (v := .int (S.i 23)) (C := R_MM) (T := F_MM) (N := 77) hx hb hts i_MM hown hK hP 0 rfl rfl 23 (by decide) (hts _ kw_1405) (fun _ h9 => h9) rfl d_rlist_13 ?_
  refine lv_icmp_ge (tgt := 147) hx hb d_rlist_16 (by decide) (fun c_1 => ?_) (fun c_1 => ?_)
  · replace Heq := (if_pos c_1).symm.trans Heq
    exact K0 _ (Option.some.inj Heq).symm _ _ _ hP hD hS (lv_sub hl [0, 3] rfl)
  · replace Heq := (if_neg c_1).symm.trans Heq
    refine lv_aload_n hx hb d_rlist_19 rfl (lv_at hl 0 rfl) ?_
    refine va_get (D := D) (ci := 12) (v := .ref (md 28)) (C := R_MM) (T := F_MM) (N := 77) hx hb hts i_MM hown hK hP 0 rfl rfl 28 (by decide) (hts _ kw_1410) (fun _ h9 => h9) rfl d_rlist_20 ?_
    refine lv_iload hx hb d_rlist_23 (lv_at hl 4 rfl) ?_
    obtain ⟨hi_2, Heq⟩ := gd_some Heq
    refine va_iald hx hb hK hP 21 0 rfl rfl (i := x4) hi_2 d_rlist_25 ?_
    refine w_i (y := S.a 28 x4.toNatClampNeg) rfl ?_
    refine lv_istore (lv' := [(5, .int (S.a 28 x4.toNatClampNeg)), (0, .ref (md 100)), (1, .int x1), (2, .int x2), (3, .int x3), (4, .int x4)]) hx hb d_rlist_26 hl (by decide) rfl (fun ls hl => ?_)
    refine lv_aload_n hx hb d_rlist_28 rfl (lv_at hl 1 rfl) ?_
    refine lv_iload_n hx hb d_rlist_29 rfl (lv_at hl 2 rfl) ?_
    refine lv_iload hx hb d_rlist_30 (lv_at hl 0 rfl) ?_
    obtain ⟨o_3, h_4, Heq⟩ := ob_some Heq
    have hFc := fr_all hD hS hA
    refine va_calli (va_runV (As := [.int x1, .int (S.a 28 x4.toNatClampNeg)]) (rest := []) ⟨hx, hb, hml, hown, hts⟩ (g_rin l D H.size h_4) (cw_v 2 hts kw_1656 kw_1653 kw_1655 kp_33 kw_11 rfl rfl (by decide +kernel) ⟨Nat.le_of_ble_eq_true rfl, Nat.le_of_ble_eq_true rfl⟩) ⟨g_blind, va_recv hK hP (ci := 12) (q0 := 0) rfl rfl, fun U hU hW => g_pre hU hW hP hK hD⟩ rfl rfl hl.1 rfl (lv_room (Nat.le_of_ble_eq_true rfl)) d_rlist_32 ⟨Nat.le_of_ble_eq_true rfl, Nat.le_of_ble_eq_true rfl⟩) hS (fun q _ h => hFc q h) hFc (fun rz u t H1 locs ht hvm hw hB hz1 hk1 hS => ?_)
    obtain ⟨hP, -, hD1⟩ := hB
    rw [ht] at hP
    have hD := hD1.weaken (fun _ q _ h => hFc q.1 h)
    generalize H1 = H at hP hS ⊢
    refine W.cs (cells' := 0) (slots' := 0) rfl rfl ?_
    subst hw
    refine lv_if_eq (tgt := 141) hx hb d_rlist_35 (by decide) (fun c_5 => ?_) (fun c_5 => ?_)
    · replace Heq := (if_pos c_5).symm.trans Heq
      exact w_rlist_J141 hC Heq Ka K0 _ _ _ hP hD hS (lv_sub hl [1, 2, 3, 4, 5] rfl)
    · replace Heq := (if_neg c_5).symm.trans Heq
      refine lv_aload_n hx hb d_rlist_38 rfl (lv_at hl 1 rfl) ?_
      refine va_get (D := D) (ci := 12) (v := .ref (md 20)) (C := R_MM) (T := F_MM) (N := 77) hx hb hts i_MM hown hK hP 0 rfl rfl 20 (by decide) (hts _ kw_1402) (fun _ h9 => h9) rfl d_rlist_39 ?_
      refine lv_iload hx hb d_rlist_42 (lv_at hl 0 rfl) ?_
      obtain ⟨hi_6, Heq⟩ := gd_some Heq
      refine va_zald hx hb hK hP 16 2 rfl rfl (i := S.a 28 x4.toNatClampNeg) hi_6 d_rlist_44 ?_
      refine w_i (y := o_3.1.a 20 ((S.a 28 x4.toNatClampNeg).toNatClampNeg)) rfl ?_
      refine lv_if_eq (tgt := 141) hx hb d_rlist_45 (by decide) (fun c_7 => ?_) (fun c_7 => ?_)
      · replace Heq := (if_pos c_7).symm.trans Heq
        exact w_rlist_J141 hC Heq Ka K0 _ _ _ hP hD hS (lv_sub hl [1, 2, 3, 4, 5] rfl)
      · replace Heq := (if_neg c_7).symm.trans Heq
        refine lv_aload_n hx hb d_rlist_48 rfl (lv_at hl 1 rfl) ?_
        refine va_get (D := D) (ci := 12) (v := .ref (md 9)) (C := R_MM) (T := F_MM) (N := 77) hx hb hts i_MM hown hK hP 0 rfl rfl 9 (by decide) (hts _ kw_1391) (fun _ h9 => h9) rfl d_rlist_49 ?_
        refine lv_iload hx hb d_rlist_52 (lv_at hl 0 rfl) ?_
        obtain ⟨hi_8, Heq⟩ := gd_some Heq
        refine va_iald hx hb hK hP 5 0 rfl rfl (i := S.a 28 x4.toNatClampNeg) hi_8 d_rlist_54 ?_
        refine w_i (y := o_3.1.a 9 ((S.a 28 x4.toNatClampNeg).toNatClampNeg)) rfl ?_
        refine lv_iload_n hx hb d_rlist_55 rfl (lv_at hl 3 rfl) ?_
        refine lv_icmp_eq (tgt := 62) hx hb d_rlist_56 (by decide) (fun c_9 => ?_) (fun c_9 => ?_)
        · replace Heq := (if_pos c_9).symm.trans Heq
          refine lv_aload_n hx hb d_rlist_62 rfl (lv_at hl 1 rfl) ?_
          refine va_get (D := D) (ci := 12) (v := .ref (md 10)) (C := R_MM) (T := F_MM) (N := 77) hx hb hts i_MM hown hK hP 0 rfl rfl 10 (by decide) (hts _ kw_1392) (fun _ h9 => h9) rfl d_rlist_63 ?_
          refine lv_iload hx hb d_rlist_66 (lv_at hl 0 rfl) ?_
          obtain ⟨hi_10, Heq⟩ := gd_some Heq
          refine va_iald hx hb hK hP 6 0 rfl rfl (i := S.a 28 x4.toNatClampNeg) hi_10 d_rlist_68 ?_
          refine w_i (y := o_3.1.a 10 ((S.a 28 x4.toNatClampNeg).toNatClampNeg)) rfl ?_
          refine lv_if_ne (tgt := 86) hx hb d_rlist_69 (by decide) (fun c_11 => ?_) (fun c_11 => ?_)
          · replace Heq := (if_neg c_11).symm.trans Heq
            refine lv_iload_n hx hb d_rlist_86 rfl (lv_at hl 4 rfl) ?_
            refine lv_istore (lv' := [(6, .int x3), (5, .int (S.a 28 x4.toNatClampNeg)), (0, .ref (md 100)), (1, .int x1), (2, .int x2), (3, .int x3), (4, .int x4)]) hx hb d_rlist_87 hl (by decide) rfl (fun ls hl => ?_)
            obtain ⟨b_12, h_13, Heq⟩ := ob_some Heq
            refine w_rlist_L89 hC h_13 (fun b h => ?_) _ _ _ hP hD hS (lv_sub hl [2, 3, 4, 5, 6, 1, 0] rfl)
            subst h
            intro H locs ls hP hD hS hl
            refine lv_aload_n hx hb d_rlist_118 rfl (lv_at hl 0 rfl) ?_
            refine va_get (D := D) (ci := 12) (v := .ref (md 49)) (C := R_MM) (T := F_MM) (N := 77) hx hb hts i_MM hown hK hP 0 rfl rfl 49 (by decide) (hts _ kw_1431) (fun _ h9 => h9) rfl d_rlist_119 ?_
            refine lv_iload hx hb d_rlist_122 (lv_at hl 5 rfl) ?_
            refine lv_aload_n hx hb d_rlist_124 rfl (lv_at hl 0 rfl) ?_
            refine va_get (D := D) (ci := 12) (v := .ref (md 49)) (C := R_MM) (T := F_MM) (N := 77) hx hb hts i_MM hown hK hP 0 rfl rfl 49 (by decide) (hts _ kw_1431) (fun _ h9 => h9) rfl d_rlist_125 ?_
            refine lv_iload hx hb d_rlist_128 (lv_at hl 6 rfl) ?_
            obtain ⟨hi_14, Heq⟩ := gd_some Heq
            refine va_iald hx hb hK hP 33 0 rfl rfl (i := b_12.2.2.2.2.2.2) hi_14 d_rlist_130 ?_
            refine w_i (y := b_12.1.a 49 b_12.2.2.2.2.2.2.toNatClampNeg) rfl ?_
            obtain ⟨hi_15, Heq⟩ := gd_some Heq
            refine va_iast hx hb hK hP hD hS 33 0 rfl rfl (i := b_12.2.2.2.2.2.1) (x := b_12.1.a 49 b_12.2.2.2.2.2.2.toNatClampNeg) hi_15 d_rlist_131 (fun H locs hP hD hS => ?_)
            rw [mw_A49] at hP hD
            refine lv_aload_n hx hb d_rlist_132 rfl (lv_at hl 0 rfl) ?_
            refine va_get (D := D) (ci := 12) (v := .ref (md 49)) (C := R_MM) (T := F_MM) (N := 77) hx hb hts i_MM hown hK hP 0 rfl rfl 49 (by decide) (hts _ kw_1431) (fun _ h9 => h9) rfl d_rlist_133 ?_
            refine lv_iload hx hb d_rlist_136 (lv_at hl 6 rfl) ?_
            refine lv_iload hx hb d_rlist_138 (lv_at hl 5 rfl) ?_
            obtain ⟨hi_16, Heq⟩ := gd_some Heq
            refine va_iast hx hb hK hP hD hS 33 0 rfl rfl (i := b_12.2.2.2.2.2.2) (x := b_12.2.2.2.2.2.1) hi_16 d_rlist_140 (fun H locs hP hD hS => ?_)
            rw [mw_A49] at hP hD
            exact w_rlist_J141 hC Heq Ka K0 _ _ _ hP hD hS (lv_sub hl [0, 1, 2, 3, 4] rfl)
          · replace Heq := (if_pos c_11).symm.trans Heq
            refine lv_aload_n hx hb d_rlist_72 rfl (lv_at hl 1 rfl) ?_
            refine va_get (D := D) (ci := 12) (v := .ref (md 49)) (C := R_MM) (T := F_MM) (N := 77) hx hb hts i_MM hown hK hP 0 rfl rfl 49 (by decide) (hts _ kw_1431) (fun _ h9 => h9) rfl d_rlist_73 ?_
            refine lv_iload hx hb d_rlist_76 (lv_at hl 0 rfl) ?_
            refine lv_iload_n hx hb d_rlist_78 rfl (lv_at hl 4 rfl) ?_
            obtain ⟨hi_17, Heq⟩ := gd_some Heq
            refine va_iast hx hb hK hP hD hS 33 0 rfl rfl (i := S.a 28 x4.toNatClampNeg) (x := x3) hi_17 d_rlist_79 (fun H locs hP hD hS => ?_)
            rw [mw_A49] at hP hD
            refine lv_iload hx hb d_rlist_80 (lv_at hl 0 rfl) ?_
            refine lv_istore_n (lv' := [(3, .int (S.a 28 x4.toNatClampNeg)), (5, .int (S.a 28 x4.toNatClampNeg)), (0, .ref (md 100)), (1, .int x1), (2, .int x2), (4, .int x4)]) hx hb d_rlist_82 rfl hl (by decide) rfl (fun ls hl => ?_)
            refine lv_goto (tgt := 141) hx hb d_rlist_83 (by decide) ?_
            exact w_rlist_J141 hC Heq Ka K0 _ _ _ hP hD hS (lv_sub hl [2, 3, 4, 0, 5] rfl)
        · replace Heq := (if_neg c_9).symm.trans Heq
          refine lv_goto (tgt := 141) hx hb d_rlist_59 (by decide) ?_
          exact w_rlist_J141 hC Heq Ka K0 _ _ _ hP hD hS (lv_sub hl [1, 2, 3, 4, 5] rfl)
def m_rlist_L10 (S : MS) (x1 : Int32) (x2 : Int32) (x3 : Int32) (x4 : Int32) : Option (MS × Int32) := lp (fun a : MS × Int32 × Int32 × Int32 × Int32 => m_rlist_B10 a.1 a.2.1 a.2.2.1 a.2.2.2.1 a.2.2.2.2) FU (S, x1, x2, x3, x4)
theorem w_rlist_L10 {p : Program} {l : Launch} {e : Env} {s : State} {m : MethodId} {args : Array Value} {below : List Frame} {meth : Method} {c : Code} {A : Nat → Prop} {D : va_G} {md : Nat → Nat} {mc : Nat → ClassId} {Q : State → Prop} (hC : MCx "JoinedTreesModel" prog_14_method_17_code 7 none p s m args meth c A D mc) {S : MS} {x1 : Int32} {x2 : Int32} {x3 : Int32} {x4 : Int32} {o : MS × Int32} (Heq : m_rlist_L10 S x1 x2 x3 x4 = some o) (K0 : ∀ b : MS × Int32, o = b → ∀ (H : Heap) (locs : List Loc) (ls : Array Slot), va_P D cls (mw md mc b.1) H → va_D A (mw md mc b.1) → va_S A s.heap H locs → lv_has ls 7 [(0, .ref (md 100)), (3, .int b.2)] → W p l e ({ frames := 2, cells := 0, slots := 0, locals := 45 }) s m args below meth c H locs 0 0 Q (F0 m 147 ls [])) : ∀ (H : Heap) (locs : List Loc) (ls : Array Slot), va_P D cls (mw md mc S) H → va_D A (mw md mc S) → va_S A s.heap H locs → lv_has ls 7 [(0, .ref (md 100)), (1, .int x1), (2, .int x2), (3, .int x3), (4, .int x4)] → W p l e ({ frames := 2, cells := 0, slots := 0, locals := 45 }) s m args below meth c H locs 0 0 Q (F0 m 10 ls []) := by
  refine lp_w (G := fun a : MS × Int32 × Int32 × Int32 × Int32 => ∀ (H : Heap) (locs : List Loc) (ls : Array Slot), va_P D cls (mw md mc a.1) H → va_D A (mw md mc a.1) → va_S A s.heap H locs → lv_has ls 7 [(0, .ref (md 100)), (1, .int a.2.1), (2, .int a.2.2.1), (3, .int a.2.2.2.1), (4, .int a.2.2.2.2)] → W p l e ({ frames := 2, cells := 0, slots := 0, locals := 45 }) s m args below meth c H locs 0 0 Q (F0 m 10 ls [])) ?_ FU (S, x1, x2, x3, x4) Heq
  intro a o1 ho Ka Ke
  exact w_rlist_B10 hC ho (fun b h => Ka b h) (fun b h => K0 b (Ke _ h).symm)
def m_rlist_B155 (S : MS) (x4 : Int32) : Option ((MS × Int32) ⊕ MS) := (if x4 < 0 then some (.inr (S)) else gd (S.i 50) 4000 (gd x4 4001 (some (.inl (((S.setA 48 (upd (S.a 48) ((S.i 50).toNatClampNeg) x4)).setI 50 ((S.i 50) + 1)), (S.a 49 x4.toNatClampNeg))))))
theorem d_rlist_147 : decode prog_14_method_17_code 147 = .ok (.aload_n 0, 1) := by decide +kernel
theorem d_rlist_148 : decode prog_14_method_17_code 148 = .ok (.iconst 0, 1) := by decide +kernel
theorem d_rlist_149 : decode prog_14_method_17_code 149 = .ok (.putfield 220, 3) := by decide +kernel
theorem d_rlist_152 : decode prog_14_method_17_code 152 = .ok (.iload_n 3, 1) := by decide +kernel
theorem d_rlist_153 : decode prog_14_method_17_code 153 = .ok (.istore 4, 2) := by decide +kernel
theorem d_rlist_155 : decode prog_14_method_17_code 155 = .ok (.iload 4, 2) := by decide +kernel
theorem d_rlist_157 : decode prog_14_method_17_code 157 = .ok (.ifCond .lt 36, 3) := by decide +kernel
theorem d_rlist_160 : decode prog_14_method_17_code 160 = .ok (.aload_n 0, 1) := by decide +kernel
theorem d_rlist_161 : decode prog_14_method_17_code 161 = .ok (.getfield 124, 3) := by decide +kernel
theorem d_rlist_164 : decode prog_14_method_17_code 164 = .ok (.aload_n 0, 1) := by decide +kernel
theorem d_rlist_165 : decode prog_14_method_17_code 165 = .ok (.getfield 220, 3) := by decide +kernel
theorem d_rlist_168 : decode prog_14_method_17_code 168 = .ok (.iload 4, 2) := by decide +kernel
theorem d_rlist_170 : decode prog_14_method_17_code 170 = .ok (.iastore, 1) := by decide +kernel
theorem d_rlist_171 : decode prog_14_method_17_code 171 = .ok (.aload_n 0, 1) := by decide +kernel
theorem d_rlist_172 : decode prog_14_method_17_code 172 = .ok (.dup, 1) := by decide +kernel
theorem d_rlist_173 : decode prog_14_method_17_code 173 = .ok (.getfield 220, 3) := by decide +kernel
theorem d_rlist_176 : decode prog_14_method_17_code 176 = .ok (.iconst 1, 1) := by decide +kernel
theorem d_rlist_177 : decode prog_14_method_17_code 177 = .ok (.iadd, 1) := by decide +kernel
theorem d_rlist_178 : decode prog_14_method_17_code 178 = .ok (.putfield 220, 3) := by decide +kernel
theorem d_rlist_181 : decode prog_14_method_17_code 181 = .ok (.aload_n 0, 1) := by decide +kernel
theorem d_rlist_182 : decode prog_14_method_17_code 182 = .ok (.getfield 127, 3) := by decide +kernel
theorem d_rlist_185 : decode prog_14_method_17_code 185 = .ok (.iload 4, 2) := by decide +kernel
theorem d_rlist_187 : decode prog_14_method_17_code 187 = .ok (.iaload, 1) := by decide +kernel
theorem d_rlist_188 : decode prog_14_method_17_code 188 = .ok (.istore 4, 2) := by decide +kernel
theorem d_rlist_190 : decode prog_14_method_17_code 190 = .ok (.goto (-35), 3) := by decide +kernel
set_option maxHeartbeats 4000000 in
set_option maxRecDepth 100000 in
theorem w_rlist_B155 {p : Program} {l : Launch} {e : Env} {s : State} {m : MethodId} {args : Array Value} {below : List Frame} {meth : Method} {c : Code} {A : Nat → Prop} {D : va_G} {md : Nat → Nat} {mc : Nat → ClassId} {Q : State → Prop} (hC : MCx "JoinedTreesModel" prog_14_method_17_code 7 none p s m args meth c A D mc) {S : MS} {x4 : Int32} {o : ((MS × Int32) ⊕ MS)} (Heq : m_rlist_B155 S x4 = some o) (Ka : ∀ b : MS × Int32, o = .inl b → ∀ (H : Heap) (locs : List Loc) (ls : Array Slot), va_P D cls (mw md mc b.1) H → va_D A (mw md mc b.1) → va_S A s.heap H locs → lv_has ls 7 [(0, .ref (md 100)), (4, .int b.2)] → W p l e ({ frames := 2, cells := 0, slots := 0, locals := 45 }) s m args below meth c H locs 0 0 Q (F0 m 155 ls [])) (K0 : ∀ b : MS, o = .inr b → ∀ (H : Heap) (locs : List Loc) (ls : Array Slot), va_P D cls (mw md mc b) H → va_D A (mw md mc b) → va_S A s.heap H locs → lv_has ls 7 [(0, .ref (md 100))] → W p l e ({ frames := 2, cells := 0, slots := 0, locals := 45 }) s m args below meth c H locs 0 0 Q (F0 m 193 ls [])) : ∀ (H : Heap) (locs : List Loc) (ls : Array Slot), va_P D cls (mw md mc S) H → va_D A (mw md mc S) → va_S A s.heap H locs → lv_has ls 7 [(0, .ref (md 100)), (4, .int x4)] → W p l e ({ frames := 2, cells := 0, slots := 0, locals := 45 }) s m args below meth c H locs 0 0 Q (F0 m 155 ls []) := by
  intro H locs ls hP hD hS hl
  obtain ⟨hx, hb, hr, hml, hown, hts, hK, hA⟩ := id hC
  unfold m_rlist_B155 at Heq
  refine lv_iload hx hb d_rlist_155 (lv_at hl 1 rfl) ?_
  refine lv_if_lt (tgt := 193) hx hb d_rlist_157 (by decide) (fun c_1 => ?_) (fun c_1 => ?_)
  · replace Heq := (if_pos c_1).symm.trans Heq
    exact K0 _ (Option.some.inj Heq).symm _ _ _ hP hD hS (lv_sub hl [0] rfl)
  · replace Heq := (if_neg c_1).symm.trans Heq
    refine lv_aload_n hx hb d_rlist_160 rfl (lv_at hl 0 rfl) ?_
    refine va_get (D := D) (ci := 12) (v := .ref (md 48)) (C := R_MM) (T := F_MM) (N := 77) hx hb hts i_MM hown hK hP 0 rfl rfl 48 (by decide) (hts _ kw_1430) (fun _ h9 => h9) rfl d_rlist_161 ?_
    refine lv_aload_n hx hb d_rlist_164 rfl (lv_at hl 0 rfl) ?_
    refine va_get (D := D) (ci := 12) (v := .int (S.i 50)) (C := R_MM) (T := F_MM) (N := 77) hx hb hts i_MM hown hK hP 0 rfl rfl 50 (by decide) (hts _ kw_1432) (fun _ h9 => h9) rfl d_rlist_165 ?_
    refine lv_iload hx hb d_rlist_168 (lv_at hl 1 rfl) ?_
    obtain ⟨hi_2, Heq⟩ := gd_some Heq
    refine va_iast hx hb hK hP hD hS 32 0 rfl rfl (i := S.i 50) (x := x4) hi_2 d_rlist_170 (fun H locs hP hD hS => ?_)
    rw [mw_A48] at hP hD
    refine lv_aload_n hx hb d_rlist_171 rfl (lv_at hl 0 rfl) ?_
    refine lv_dup hx hb d_rlist_172 rfl ?_
    refine va_get (D := D) (ci := 12) (v := .int (S.i 50)) (C := R_MM) (T := F_MM) (N := 77) hx hb hts i_MM hown hK hP 0 rfl rfl 50 (by decide) (hts _ kw_1432) (fun _ h9 => h9) rfl d_rlist_173 ?_
    refine lv_iconst (v := 1) hx hb d_rlist_176 (by decide) ?_
    refine lv_iadd hx hb d_rlist_177 ?_
    refine w_i (y := (S.i 50) + 1) rfl ?_
    refine va_put (D := D) (ci := 12) (v := .int ((S.i 50) + 1)) (ty := .int) (C := R_MM) (T := F_MM) (N := 77) hx hb hts i_MM t_MM t_MM_ok n_MM hown hK hP hD hS 0 rfl rfl 50 (by decide) (hts _ kw_1432) (fun _ h9 => h9) rfl (by decide +kernel) rfl rfl (Nat.le_of_ble_eq_true rfl) d_rlist_178 (fun H locs hP hD hS => ?_)
    rw [mw_I50] at hP hD
    refine lv_aload_n hx hb d_rlist_181 rfl (lv_at hl 0 rfl) ?_
    refine va_get (D := D) (ci := 12) (v := .ref (md 49)) (C := R_MM) (T := F_MM) (N := 77) hx hb hts i_MM hown hK hP 0 rfl rfl 49 (by decide) (hts _ kw_1431) (fun _ h9 => h9) rfl d_rlist_182 ?_
    refine lv_iload hx hb d_rlist_185 (lv_at hl 1 rfl) ?_
    obtain ⟨hi_3, Heq⟩ := gd_some Heq
    refine va_iald hx hb hK hP 33 0 rfl rfl (i := x4) hi_3 d_rlist_187 ?_
    refine w_i (y := S.a 49 x4.toNatClampNeg) rfl ?_
    refine lv_istore (lv' := [(4, .int (S.a 49 x4.toNatClampNeg)), (0, .ref (md 100))]) hx hb d_rlist_188 hl (by decide) rfl (fun ls hl => ?_)
    refine lv_goto (tgt := 155) hx hb d_rlist_190 (by decide) ?_
    exact Ka _ (Option.some.inj Heq).symm _ _ _ hP hD hS (lv_sub hl [1, 0] rfl)
def m_rlist_L155 (S : MS) (x4 : Int32) : Option MS := lp (fun a : MS × Int32 => m_rlist_B155 a.1 a.2) FU (S, x4)
theorem w_rlist_L155 {p : Program} {l : Launch} {e : Env} {s : State} {m : MethodId} {args : Array Value} {below : List Frame} {meth : Method} {c : Code} {A : Nat → Prop} {D : va_G} {md : Nat → Nat} {mc : Nat → ClassId} {Q : State → Prop} (hC : MCx "JoinedTreesModel" prog_14_method_17_code 7 none p s m args meth c A D mc) {S : MS} {x4 : Int32} {o : MS} (Heq : m_rlist_L155 S x4 = some o) (K0 : ∀ b : MS, o = b → ∀ (H : Heap) (locs : List Loc) (ls : Array Slot), va_P D cls (mw md mc b) H → va_D A (mw md mc b) → va_S A s.heap H locs → lv_has ls 7 [(0, .ref (md 100))] → W p l e ({ frames := 2, cells := 0, slots := 0, locals := 45 }) s m args below meth c H locs 0 0 Q (F0 m 193 ls [])) : ∀ (H : Heap) (locs : List Loc) (ls : Array Slot), va_P D cls (mw md mc S) H → va_D A (mw md mc S) → va_S A s.heap H locs → lv_has ls 7 [(0, .ref (md 100)), (4, .int x4)] → W p l e ({ frames := 2, cells := 0, slots := 0, locals := 45 }) s m args below meth c H locs 0 0 Q (F0 m 155 ls []) := by
  refine lp_w (G := fun a : MS × Int32 => ∀ (H : Heap) (locs : List Loc) (ls : Array Slot), va_P D cls (mw md mc a.1) H → va_D A (mw md mc a.1) → va_S A s.heap H locs → lv_has ls 7 [(0, .ref (md 100)), (4, .int a.2)] → W p l e ({ frames := 2, cells := 0, slots := 0, locals := 45 }) s m args below meth c H locs 0 0 Q (F0 m 155 ls [])) ?_ FU (S, x4) Heq
  intro a o1 ho Ka Ke
  exact w_rlist_B155 hC ho (fun b h => Ka b h) (fun b h => K0 b (Ke _ h).symm)
def m_rlist_J0 (S : MS) (x1 : Int32) (x2 : Int32) : Option MS := ob (m_rhide S x1) (fun o_1 => ob (m_rlist_L10 o_1 x1 x2 (-1) 0) (fun b_3 => ob (m_rlist_L155 (b_3.1.setI 50 0) b_3.2) (fun b_5 => some b_5)))
theorem d_rlist_193 : decode prog_14_method_17_code 193 = .ok (.return_, 1) := by decide +kernel
set_option maxHeartbeats 4000000 in
set_option maxRecDepth 100000 in
theorem w_rlist_J0 {p : Program} {l : Launch} {e : Env} {s : State} {m : MethodId} {args : Array Value} {below : List Frame} {meth : Method} {c : Code} {A : Nat → Prop} {D : va_G} {md : Nat → Nat} {mc : Nat → ClassId} {Q : State → Prop} (hC : MCx "JoinedTreesModel" prog_14_method_17_code 7 none p s m args meth c A D mc) {S : MS} {x1 : Int32} {x2 : Int32} {o : MS} (Heq : m_rlist_J0 S x1 x2 = some o) (Kr : ∀ r : MS, o = r → ∀ (pc : Nat) (H : Heap) (locs : List Loc) (ls : Array Slot), decode prog_14_method_17_code pc = .ok (.return_, 1) → va_P D cls (mw md mc r) H → va_D A (mw md mc r) → va_S A s.heap H locs → W p l e ({ frames := 2, cells := 0, slots := 0, locals := 45 }) s m args below meth c H locs 0 0 Q (F0 m pc ls [])) : ∀ (H : Heap) (locs : List Loc) (ls : Array Slot), va_P D cls (mw md mc S) H → va_D A (mw md mc S) → va_S A s.heap H locs → lv_has ls 7 [(0, .ref (md 100)), (1, .int x1), (2, .int x2)] → W p l e ({ frames := 2, cells := 0, slots := 0, locals := 45 }) s m args below meth c H locs 0 0 Q (F0 m 0 ls []) := by
  intro H locs ls hP hD hS hl
  obtain ⟨hx, hb, hr, hml, hown, hts, hK, hA⟩ := id hC
  unfold m_rlist_J0 at Heq
  refine lv_aload_n hx hb d_rlist_0 rfl (lv_at hl 0 rfl) ?_
  refine lv_iload_n hx hb d_rlist_1 rfl (lv_at hl 1 rfl) ?_
  obtain ⟨o_1, h_2, Heq⟩ := ob_some Heq
  have hFc := fr_all hD hS hA
  refine va_callv (va_runV (As := [.int x1]) (rest := []) ⟨hx, hb, hml, hown, hts⟩ (g_rhide l D H.size h_2) (cw_v 1 hts kw_1672 kw_1669 kw_1671 kp_37 kw_11 rfl rfl (by decide +kernel) ⟨Nat.le_of_ble_eq_true rfl, Nat.le_of_ble_eq_true rfl⟩) ⟨g_blind, va_recv hK hP (ci := 12) (q0 := 0) rfl rfl, fun U hU hW => g_pre hU hW hP hK hD⟩ rfl rfl hl.1 rfl (lv_room (Nat.le_of_ble_eq_true rfl)) d_rlist_2 ⟨Nat.le_of_ble_eq_true rfl, Nat.le_of_ble_eq_true rfl⟩) hS (fun q _ h => hFc q h) hFc (fun u t H1 locs ht hvm hw hB hz1 hk1 hS => ?_)
  obtain ⟨hP, -, hD1⟩ := hB
  rw [ht] at hP
  have hD := hD1.weaken (fun _ q _ h => hFc q.1 h)
  generalize H1 = H at hP hS ⊢
  refine W.cs (cells' := 0) (slots' := 0) rfl rfl ?_
  refine lv_iconst (v := (-1)) hx hb d_rlist_5 (by decide) ?_
  refine lv_istore_n (lv' := [(3, .int (-1)), (0, .ref (md 100)), (1, .int x1), (2, .int x2)]) hx hb d_rlist_6 rfl hl (by decide) rfl (fun ls hl => ?_)
  refine lv_iconst (v := 0) hx hb d_rlist_7 (by decide) ?_
  refine lv_istore (lv' := [(4, .int 0), (3, .int (-1)), (0, .ref (md 100)), (1, .int x1), (2, .int x2)]) hx hb d_rlist_8 hl (by decide) rfl (fun ls hl => ?_)
  obtain ⟨b_3, h_4, Heq⟩ := ob_some Heq
  refine w_rlist_L10 hC h_4 (fun b h => ?_) _ _ _ hP hD hS (lv_sub hl [2, 3, 4, 1, 0] rfl)
  subst h
  intro H locs ls hP hD hS hl
  refine lv_aload_n hx hb d_rlist_147 rfl (lv_at hl 0 rfl) ?_
  refine lv_iconst (v := 0) hx hb d_rlist_148 (by decide) ?_
  refine va_put (D := D) (ci := 12) (v := .int 0) (ty := .int) (C := R_MM) (T := F_MM) (N := 77) hx hb hts i_MM t_MM t_MM_ok n_MM hown hK hP hD hS 0 rfl rfl 50 (by decide) (hts _ kw_1432) (fun _ h9 => h9) rfl (by decide +kernel) rfl rfl (Nat.le_of_ble_eq_true rfl) d_rlist_149 (fun H locs hP hD hS => ?_)
  rw [mw_I50] at hP hD
  refine lv_iload_n hx hb d_rlist_152 rfl (lv_at hl 1 rfl) ?_
  refine lv_istore (lv' := [(4, .int b_3.2), (0, .ref (md 100)), (3, .int b_3.2)]) hx hb d_rlist_153 hl (by decide) rfl (fun ls hl => ?_)
  obtain ⟨b_5, h_6, Heq⟩ := ob_some Heq
  refine w_rlist_L155 hC h_6 (fun b h => ?_) _ _ _ hP hD hS (lv_sub hl [1, 0] rfl)
  subst h
  intro H locs ls hP hD hS hl
  exact Kr _ (Option.some.inj Heq).symm 193 _ _ _ d_rlist_193 hP hD hS
def m_rlist (S : MS) (x1 : Int32) (x2 : Int32) : Option MS := m_rlist_J0 S x1 x2
theorem g_rlist (l : Launch) (D : va_G) (sz : Nat) {md : Nat → Nat} {mc : Nat → ClassId} {S : MS} {x1 : Int32} {x2 : Int32} {o : MS} (Heq : m_rlist S x1 x2 = some o) : Met l ⟨"JoinedTreesModel", "list", "(II)V"⟩ (Cond.code ⟨"JoinedTreesModel", "list", "(II)V"⟩ prog_14_method_17_code 7 none :: gb) ({ frames := 2, cells := 0, slots := 0, locals := 45 }) (gPc D (mw md mc S) (mty mc) sz [.ref (md 100), .int x1, .int x2]) (va_Qv (fun _ : Unit => True) (fun _ t => gO D (mw md mc o) (mty mc) (va_A (mw md mc S) sz) t) (va_A (mw md mc S) sz)) 0 0 (va_A (mw md mc S) sz) := by
  refine Met.ofW (cc := prog_14_method_17_code) (maxL := 7) (ret := none) (by decide) rfl ?_
  intro p e s m args below meth c s₁ B hml hv
  obtain ⟨rfl, hsz, hP, hK, hD0⟩ := hv
  have hx := B.exec
  have hb := B.bytes
  have hr := B.returns
  have hts : ∀ w9 ∈ gb, w9.before [.ref (md 100), .int x1, .int x2].toArray s = true := fun w9 h => atoms_spec (ws := Cond.code ⟨"JoinedTreesModel", "list", "(II)V"⟩ prog_14_method_17_code 7 none :: gb) B.pre w9 (List.mem_cons_of_mem _ h)
  have hown : s.vm.findClass "JoinedTreesModel" = some m.cls := findClass_of_methodNamed B.named
  have hlocks := B.notSynchronized
  subst hsz
  have hD := hD0.self (sz := s.heap.size)
  generalize hAe : va_A (mw md mc S) s.heap.size = A at hD ⊢
  have hA : ∀ q : Nat, s.heap.size ≤ q → A q := fun q h => by rw [← hAe]; exact Or.inr h
  have hS : va_S A s.heap s.heap [] := va_S.rf
  have hl := lv_entry ([.ref (md 100), .int x1, .int x2]) (n := 7) (Nat.le_of_ble_eq_true rfl)
  rw [lg_entry_eq]
  generalize (lg_sl ([.ref (md 100), .int x1, .int x2]) ++ List.replicate (7 - (lg_sl ([.ref (md 100), .int x1, .int x2])).length) Slot.unset).toArray = ls at hl ⊢
  have hl : lv_has ls 7 [(0, .ref (md 100)), (1, .int x1), (2, .int x2)] := hl
  refine w_rlist_J0 ⟨hx, hb, hr, hml, hown, hts, hK, hA⟩ Heq (fun r h pc H locs ls hd hP hD hS => ?_) _ _ _ hP hD hS (lv_sub hl [0, 1, 2] rfl)
  subst h
  exact W.vret hx hb hr (fun t ht hW => ⟨⟨(), rfl, trivial, by rw [ht]; exact hP, va_K.moved hW.alike hK, hD⟩, hS.F ht⟩) hS.2.2 hd
def m_rmark_B2 (S : MS) (x1 : Int32) (x2 : Int32) (x3 : Int32) : Option ((MS × Int32 × Int32 × Int32) ⊕ (MS × Int32 × Int32)) := (if S.i 50 ≤ x3 then some (.inr (S, x1, x2)) else gd x3 4000 (some (.inl ((S.setA 51 (upd (S.a 51) x3.toNatClampNeg (vp_nar .boolean 0))), x1, x2, (x3 + 1)))))
theorem d_rmark_0 : decode prog_14_method_18_code 0 = .ok (.iconst 0, 1) := by decide +kernel
theorem d_rmark_1 : decode prog_14_method_18_code 1 = .ok (.istore_n 3, 1) := by decide +kernel
theorem d_rmark_2 : decode prog_14_method_18_code 2 = .ok (.iload_n 3, 1) := by decide +kernel
theorem d_rmark_3 : decode prog_14_method_18_code 3 = .ok (.aload_n 0, 1) := by decide +kernel
theorem d_rmark_4 : decode prog_14_method_18_code 4 = .ok (.getfield 220, 3) := by decide +kernel
theorem d_rmark_7 : decode prog_14_method_18_code 7 = .ok (.if_icmp .ge 16, 3) := by decide +kernel
theorem d_rmark_10 : decode prog_14_method_18_code 10 = .ok (.aload_n 0, 1) := by decide +kernel
theorem d_rmark_11 : decode prog_14_method_18_code 11 = .ok (.getfield 130, 3) := by decide +kernel
theorem d_rmark_14 : decode prog_14_method_18_code 14 = .ok (.iload_n 3, 1) := by decide +kernel
theorem d_rmark_15 : decode prog_14_method_18_code 15 = .ok (.iconst 0, 1) := by decide +kernel
theorem d_rmark_16 : decode prog_14_method_18_code 16 = .ok (.bastore, 1) := by decide +kernel
theorem d_rmark_17 : decode prog_14_method_18_code 17 = .ok (.iinc 3 1, 3) := by decide +kernel
theorem d_rmark_20 : decode prog_14_method_18_code 20 = .ok (.goto (-18), 3) := by decide +kernel
set_option maxHeartbeats 4000000 in
set_option maxRecDepth 100000 in
theorem w_rmark_B2 {p : Program} {l : Launch} {e : Env} {s : State} {m : MethodId} {args : Array Value} {below : List Frame} {meth : Method} {c : Code} {A : Nat → Prop} {D : va_G} {md : Nat → Nat} {mc : Nat → ClassId} {Q : State → Prop} (hC : MCx "JoinedTreesModel" prog_14_method_18_code 6 none p s m args meth c A D mc) {S : MS} {x1 : Int32} {x2 : Int32} {x3 : Int32} {o : ((MS × Int32 × Int32 × Int32) ⊕ (MS × Int32 × Int32))} (Heq : m_rmark_B2 S x1 x2 x3 = some o) (Ka : ∀ b : MS × Int32 × Int32 × Int32, o = .inl b → ∀ (H : Heap) (locs : List Loc) (ls : Array Slot), va_P D cls (mw md mc b.1) H → va_D A (mw md mc b.1) → va_S A s.heap H locs → lv_has ls 6 [(0, .ref (md 100)), (1, .int b.2.1), (2, .int b.2.2.1), (3, .int b.2.2.2)] → W p l e ({ frames := 2, cells := 0, slots := 0, locals := 44 }) s m args below meth c H locs 0 0 Q (F0 m 2 ls [])) (K0 : ∀ b : MS × Int32 × Int32, o = .inr b → ∀ (H : Heap) (locs : List Loc) (ls : Array Slot), va_P D cls (mw md mc b.1) H → va_D A (mw md mc b.1) → va_S A s.heap H locs → lv_has ls 6 [(0, .ref (md 100)), (1, .int b.2.1), (2, .int b.2.2)] → W p l e ({ frames := 2, cells := 0, slots := 0, locals := 44 }) s m args below meth c H locs 0 0 Q (F0 m 23 ls [])) : ∀ (H : Heap) (locs : List Loc) (ls : Array Slot), va_P D cls (mw md mc S) H → va_D A (mw md mc S) → va_S A s.heap H locs → lv_has ls 6 [(0, .ref (md 100)), (1, .int x1), (2, .int x2), (3, .int x3)] → W p l e ({ frames := 2, cells := 0, slots := 0, locals := 44 }) s m args below meth c H locs 0 0 Q (F0 m 2 ls []) := by
  intro H locs ls hP hD hS hl
  obtain ⟨hx, hb, hr, hml, hown, hts, hK, hA⟩ := id hC
  unfold m_rmark_B2 at Heq
  refine lv_iload_n hx hb d_rmark_2 rfl (lv_at hl 3 rfl) ?_
  refine lv_aload_n hx hb d_rmark_3 rfl (lv_at hl 0 rfl) ?_
  refine va_get (D := D) (ci := 12) (v := .int (S.i 50)) (C := R_MM) (T := F_MM) (N := 77) hx hb hts i_MM hown hK hP 0 rfl rfl 50 (by decide) (hts _ kw_1432) (fun _ h9 => h9) rfl d_rmark_4 ?_
  refine lv_icmp_ge (tgt := 23) hx hb d_rmark_7 (by decide) (fun c_1 => ?_) (fun c_1 => ?_)
  · replace Heq := (if_pos c_1).symm.trans Heq
    exact K0 _ (Option.some.inj Heq).symm _ _ _ hP hD hS (lv_sub hl [0, 1, 2] rfl)
  · replace Heq := (if_neg c_1).symm.trans Heq
    refine lv_aload_n hx hb d_rmark_10 rfl (lv_at hl 0 rfl) ?_
    refine va_get (D := D) (ci := 12) (v := .ref (md 51)) (C := R_MM) (T := F_MM) (N := 77) hx hb hts i_MM hown hK hP 0 rfl rfl 51 (by decide) (hts _ kw_1433) (fun _ h9 => h9) rfl d_rmark_11 ?_
    refine lv_iload_n hx hb d_rmark_14 rfl (lv_at hl 3 rfl) ?_
    refine lv_iconst (v := 0) hx hb d_rmark_15 (by decide) ?_
    obtain ⟨hi_2, Heq⟩ := gd_some Heq
    refine va_zast hx hb hK hP hD hS 34 2 rfl rfl (i := x3) (x := 0) hi_2 d_rmark_16 (fun H locs hP hD hS => ?_)
    rw [mw_A51] at hP hD
    refine lv_iinc (v := x3 + 1) (lv' := [(3, .int (x3 + 1)), (0, .ref (md 100)), (1, .int x1), (2, .int x2)]) hx hb d_rmark_17 hl (k := 3) rfl rfl (by decide) rfl (fun ls hl => ?_)
    refine lv_goto (tgt := 2) hx hb d_rmark_20 (by decide) ?_
    exact Ka _ (Option.some.inj Heq).symm _ _ _ hP hD hS (lv_sub hl [1, 2, 3, 0] rfl)
def m_rmark_L2 (S : MS) (x1 : Int32) (x2 : Int32) (x3 : Int32) : Option (MS × Int32 × Int32) := lp (fun a : MS × Int32 × Int32 × Int32 => m_rmark_B2 a.1 a.2.1 a.2.2.1 a.2.2.2) FU (S, x1, x2, x3)
theorem w_rmark_L2 {p : Program} {l : Launch} {e : Env} {s : State} {m : MethodId} {args : Array Value} {below : List Frame} {meth : Method} {c : Code} {A : Nat → Prop} {D : va_G} {md : Nat → Nat} {mc : Nat → ClassId} {Q : State → Prop} (hC : MCx "JoinedTreesModel" prog_14_method_18_code 6 none p s m args meth c A D mc) {S : MS} {x1 : Int32} {x2 : Int32} {x3 : Int32} {o : MS × Int32 × Int32} (Heq : m_rmark_L2 S x1 x2 x3 = some o) (K0 : ∀ b : MS × Int32 × Int32, o = b → ∀ (H : Heap) (locs : List Loc) (ls : Array Slot), va_P D cls (mw md mc b.1) H → va_D A (mw md mc b.1) → va_S A s.heap H locs → lv_has ls 6 [(0, .ref (md 100)), (1, .int b.2.1), (2, .int b.2.2)] → W p l e ({ frames := 2, cells := 0, slots := 0, locals := 44 }) s m args below meth c H locs 0 0 Q (F0 m 23 ls [])) : ∀ (H : Heap) (locs : List Loc) (ls : Array Slot), va_P D cls (mw md mc S) H → va_D A (mw md mc S) → va_S A s.heap H locs → lv_has ls 6 [(0, .ref (md 100)), (1, .int x1), (2, .int x2), (3, .int x3)] → W p l e ({ frames := 2, cells := 0, slots := 0, locals := 44 }) s m args below meth c H locs 0 0 Q (F0 m 2 ls []) := by
  refine lp_w (G := fun a : MS × Int32 × Int32 × Int32 => ∀ (H : Heap) (locs : List Loc) (ls : Array Slot), va_P D cls (mw md mc a.1) H → va_D A (mw md mc a.1) → va_S A s.heap H locs → lv_has ls 6 [(0, .ref (md 100)), (1, .int a.2.1), (2, .int a.2.2.1), (3, .int a.2.2.2)] → W p l e ({ frames := 2, cells := 0, slots := 0, locals := 44 }) s m args below meth c H locs 0 0 Q (F0 m 2 ls [])) ?_ FU (S, x1, x2, x3) Heq
  intro a o1 ho Ka Ke
  exact w_rmark_B2 hC ho (fun b h => Ka b h) (fun b h => K0 b (Ke _ h).symm)
def m_rmark_J133 (S : MS) (x1 : Int32) (x2 : Int32) (x3 : Int32) : Option ((MS × Int32 × Int32 × Int32) ⊕ MS) := some (.inl (S, x1, x2, (x3 + 1)))
theorem d_rmark_23 : decode prog_14_method_18_code 23 = .ok (.iconst 0, 1) := by decide +kernel
theorem d_rmark_24 : decode prog_14_method_18_code 24 = .ok (.istore_n 3, 1) := by decide +kernel
theorem d_rmark_25 : decode prog_14_method_18_code 25 = .ok (.iload_n 3, 1) := by decide +kernel
theorem d_rmark_26 : decode prog_14_method_18_code 26 = .ok (.aload_n 0, 1) := by decide +kernel
theorem d_rmark_27 : decode prog_14_method_18_code 27 = .ok (.getfield 195, 3) := by decide +kernel
theorem d_rmark_30 : decode prog_14_method_18_code 30 = .ok (.if_icmp .ge 109, 3) := by decide +kernel
theorem d_rmark_33 : decode prog_14_method_18_code 33 = .ok (.aload_n 0, 1) := by decide +kernel
theorem d_rmark_34 : decode prog_14_method_18_code 34 = .ok (.iload_n 1, 1) := by decide +kernel
theorem d_rmark_35 : decode prog_14_method_18_code 35 = .ok (.iload_n 3, 1) := by decide +kernel
theorem d_rmark_36 : decode prog_14_method_18_code 36 = .ok (.invokevirtual 213, 3) := by decide +kernel
theorem d_rmark_39 : decode prog_14_method_18_code 39 = .ok (.ifCond .eq 94, 3) := by decide +kernel
theorem d_rmark_133 : decode prog_14_method_18_code 133 = .ok (.iinc 3 1, 3) := by decide +kernel
theorem d_rmark_136 : decode prog_14_method_18_code 136 = .ok (.goto (-111), 3) := by decide +kernel
set_option maxHeartbeats 4000000 in
set_option maxRecDepth 100000 in
theorem w_rmark_J133 {p : Program} {l : Launch} {e : Env} {s : State} {m : MethodId} {args : Array Value} {below : List Frame} {meth : Method} {c : Code} {A : Nat → Prop} {D : va_G} {md : Nat → Nat} {mc : Nat → ClassId} {Q : State → Prop} (hC : MCx "JoinedTreesModel" prog_14_method_18_code 6 none p s m args meth c A D mc) {S : MS} {x1 : Int32} {x2 : Int32} {x3 : Int32} {o : ((MS × Int32 × Int32 × Int32) ⊕ MS)} (Heq : m_rmark_J133 S x1 x2 x3 = some o) (Ka : ∀ b : MS × Int32 × Int32 × Int32, o = .inl b → ∀ (H : Heap) (locs : List Loc) (ls : Array Slot), va_P D cls (mw md mc b.1) H → va_D A (mw md mc b.1) → va_S A s.heap H locs → lv_has ls 6 [(0, .ref (md 100)), (1, .int b.2.1), (2, .int b.2.2.1), (3, .int b.2.2.2)] → W p l e ({ frames := 2, cells := 0, slots := 0, locals := 44 }) s m args below meth c H locs 0 0 Q (F0 m 25 ls [])) (K0 : ∀ b : MS, o = .inr b → ∀ (H : Heap) (locs : List Loc) (ls : Array Slot), va_P D cls (mw md mc b) H → va_D A (mw md mc b) → va_S A s.heap H locs → lv_has ls 6 [(0, .ref (md 100))] → W p l e ({ frames := 2, cells := 0, slots := 0, locals := 44 }) s m args below meth c H locs 0 0 Q (F0 m 139 ls [])) : ∀ (H : Heap) (locs : List Loc) (ls : Array Slot), va_P D cls (mw md mc S) H → va_D A (mw md mc S) → va_S A s.heap H locs → lv_has ls 6 [(0, .ref (md 100)), (1, .int x1), (2, .int x2), (3, .int x3)] → W p l e ({ frames := 2, cells := 0, slots := 0, locals := 44 }) s m args below meth c H locs 0 0 Q (F0 m 133 ls []) := by
  intro H locs ls hP hD hS hl
  obtain ⟨hx, hb, hr, hml, hown, hts, hK, hA⟩ := id hC
  unfold m_rmark_J133 at Heq
  refine lv_iinc (v := x3 + 1) (lv' := [(3, .int (x3 + 1)), (0, .ref (md 100)), (1, .int x1), (2, .int x2)]) hx hb d_rmark_133 hl (k := 3) rfl rfl (by decide) rfl (fun ls hl => ?_)
  refine lv_goto (tgt := 25) hx hb d_rmark_136 (by decide) ?_
  exact Ka _ (Option.some.inj Heq).symm _ _ _ hP hD hS (lv_sub hl [1, 2, 3, 0] rfl)
def m_rmark_J127 (S : MS) (x1 : Int32) (x2 : Int32) (x3 : Int32) (x4 : Int32) (x5 : Int32) : Option ((MS × Int32 × Int32 × Int32 × Int32 × Int32) ⊕ (MS × Int32 × Int32 × Int32)) := some (.inl (S, x1, x2, x3, x4, (x5 + 1)))
theorem d_rmark_42 : decode prog_14_method_18_code 42 = .ok (.aload_n 0, 1) := by decide +kernel
theorem d_rmark_43 : decode prog_14_method_18_code 43 = .ok (.getfield 23, 3) := by decide +kernel
theorem d_rmark_46 : decode prog_14_method_18_code 46 = .ok (.iload_n 3, 1) := by decide +kernel
theorem d_rmark_47 : decode prog_14_method_18_code 47 = .ok (.iaload, 1) := by decide +kernel
theorem d_rmark_48 : decode prog_14_method_18_code 48 = .ok (.iload_n 2, 1) := by decide +kernel
theorem d_rmark_49 : decode prog_14_method_18_code 49 = .ok (.if_icmp .ne 84, 3) := by decide +kernel
theorem d_rmark_52 : decode prog_14_method_18_code 52 = .ok (.aload_n 0, 1) := by decide +kernel
theorem d_rmark_53 : decode prog_14_method_18_code 53 = .ok (.getfield 41, 3) := by decide +kernel
theorem d_rmark_56 : decode prog_14_method_18_code 56 = .ok (.iload_n 3, 1) := by decide +kernel
theorem d_rmark_57 : decode prog_14_method_18_code 57 = .ok (.iaload, 1) := by decide +kernel
theorem d_rmark_58 : decode prog_14_method_18_code 58 = .ok (.ifCond .le 6, 3) := by decide +kernel
theorem d_rmark_64 : decode prog_14_method_18_code 64 = .ok (.aload_n 0, 1) := by decide +kernel
theorem d_rmark_65 : decode prog_14_method_18_code 65 = .ok (.getfield 56, 3) := by decide +kernel
theorem d_rmark_68 : decode prog_14_method_18_code 68 = .ok (.iload_n 3, 1) := by decide +kernel
theorem d_rmark_69 : decode prog_14_method_18_code 69 = .ok (.baload, 1) := by decide +kernel
theorem d_rmark_70 : decode prog_14_method_18_code 70 = .ok (.ifCond .eq 12, 3) := by decide +kernel
theorem d_rmark_82 : decode prog_14_method_18_code 82 = .ok (.aload_n 0, 1) := by decide +kernel
theorem d_rmark_83 : decode prog_14_method_18_code 83 = .ok (.getfield 26, 3) := by decide +kernel
theorem d_rmark_86 : decode prog_14_method_18_code 86 = .ok (.iload_n 3, 1) := by decide +kernel
theorem d_rmark_87 : decode prog_14_method_18_code 87 = .ok (.iaload, 1) := by decide +kernel
theorem d_rmark_88 : decode prog_14_method_18_code 88 = .ok (.istore 4, 2) := by decide +kernel
theorem d_rmark_90 : decode prog_14_method_18_code 90 = .ok (.iconst 0, 1) := by decide +kernel
theorem d_rmark_91 : decode prog_14_method_18_code 91 = .ok (.istore 5, 2) := by decide +kernel
theorem d_rmark_93 : decode prog_14_method_18_code 93 = .ok (.iload 5, 2) := by decide +kernel
theorem d_rmark_95 : decode prog_14_method_18_code 95 = .ok (.aload_n 0, 1) := by decide +kernel
theorem d_rmark_96 : decode prog_14_method_18_code 96 = .ok (.getfield 220, 3) := by decide +kernel
theorem d_rmark_99 : decode prog_14_method_18_code 99 = .ok (.if_icmp .ge 34, 3) := by decide +kernel
theorem d_rmark_102 : decode prog_14_method_18_code 102 = .ok (.aload_n 0, 1) := by decide +kernel
theorem d_rmark_103 : decode prog_14_method_18_code 103 = .ok (.getfield 19, 3) := by decide +kernel
theorem d_rmark_106 : decode prog_14_method_18_code 106 = .ok (.aload_n 0, 1) := by decide +kernel
theorem d_rmark_107 : decode prog_14_method_18_code 107 = .ok (.getfield 124, 3) := by decide +kernel
theorem d_rmark_110 : decode prog_14_method_18_code 110 = .ok (.iload 5, 2) := by decide +kernel
theorem d_rmark_112 : decode prog_14_method_18_code 112 = .ok (.iaload, 1) := by decide +kernel
theorem d_rmark_113 : decode prog_14_method_18_code 113 = .ok (.iaload, 1) := by decide +kernel
theorem d_rmark_114 : decode prog_14_method_18_code 114 = .ok (.iload 4, 2) := by decide +kernel
theorem d_rmark_116 : decode prog_14_method_18_code 116 = .ok (.if_icmp .ne 11, 3) := by decide +kernel
theorem d_rmark_127 : decode prog_14_method_18_code 127 = .ok (.iinc 5 1, 3) := by decide +kernel
theorem d_rmark_130 : decode prog_14_method_18_code 130 = .ok (.goto (-37), 3) := by decide +kernel
set_option maxHeartbeats 4000000 in
set_option maxRecDepth 100000 in
theorem w_rmark_J127 {p : Program} {l : Launch} {e : Env} {s : State} {m : MethodId} {args : Array Value} {below : List Frame} {meth : Method} {c : Code} {A : Nat → Prop} {D : va_G} {md : Nat → Nat} {mc : Nat → ClassId} {Q : State → Prop} (hC : MCx "JoinedTreesModel" prog_14_method_18_code 6 none p s m args meth c A D mc) {S : MS} {x1 : Int32} {x2 : Int32} {x3 : Int32} {x4 : Int32} {x5 : Int32} {o : ((MS × Int32 × Int32 × Int32 × Int32 × Int32) ⊕ (MS × Int32 × Int32 × Int32))} (Heq : m_rmark_J127 S x1 x2 x3 x4 x5 = some o) (Ka : ∀ b : MS × Int32 × Int32 × Int32 × Int32 × Int32, o = .inl b → ∀ (H : Heap) (locs : List Loc) (ls : Array Slot), va_P D cls (mw md mc b.1) H → va_D A (mw md mc b.1) → va_S A s.heap H locs → lv_has ls 6 [(0, .ref (md 100)), (1, .int b.2.1), (2, .int b.2.2.1), (3, .int b.2.2.2.1), (4, .int b.2.2.2.2.1), (5, .int b.2.2.2.2.2)] → W p l e ({ frames := 2, cells := 0, slots := 0, locals := 44 }) s m args below meth c H locs 0 0 Q (F0 m 93 ls [])) (K0 : ∀ b : MS × Int32 × Int32 × Int32, o = .inr b → ∀ (H : Heap) (locs : List Loc) (ls : Array Slot), va_P D cls (mw md mc b.1) H → va_D A (mw md mc b.1) → va_S A s.heap H locs → lv_has ls 6 [(0, .ref (md 100)), (1, .int b.2.1), (2, .int b.2.2.1), (3, .int b.2.2.2)] → W p l e ({ frames := 2, cells := 0, slots := 0, locals := 44 }) s m args below meth c H locs 0 0 Q (F0 m 133 ls [])) : ∀ (H : Heap) (locs : List Loc) (ls : Array Slot), va_P D cls (mw md mc S) H → va_D A (mw md mc S) → va_S A s.heap H locs → lv_has ls 6 [(0, .ref (md 100)), (1, .int x1), (2, .int x2), (3, .int x3), (4, .int x4), (5, .int x5)] → W p l e ({ frames := 2, cells := 0, slots := 0, locals := 44 }) s m args below meth c H locs 0 0 Q (F0 m 127 ls []) := by
  intro H locs ls hP hD hS hl
  obtain ⟨hx, hb, hr, hml, hown, hts, hK, hA⟩ := id hC
  unfold m_rmark_J127 at Heq
  refine lv_iinc (v := x5 + 1) (lv' := [(5, .int (x5 + 1)), (0, .ref (md 100)), (1, .int x1), (2, .int x2), (3, .int x3), (4, .int x4)]) hx hb d_rmark_127 hl (k := 5) rfl rfl (by decide) rfl (fun ls hl => ?_)
  refine lv_goto (tgt := 93) hx hb d_rmark_130 (by decide) ?_
  exact Ka _ (Option.some.inj Heq).symm _ _ _ hP hD hS (lv_sub hl [1, 2, 3, 4, 5, 0] rfl)
def m_rmark_B93 (S : MS) (x1 : Int32) (x2 : Int32) (x3 : Int32) (x4 : Int32) (x5 : Int32) : Option ((MS × Int32 × Int32 × Int32 × Int32 × Int32) ⊕ (MS × Int32 × Int32 × Int32)) := (if S.i 50 ≤ x5 then some (.inr (S, x1, x2, x3)) else gd x5 4000 (gd (S.a 48 x5.toNatClampNeg) 4000 ((if S.a 8 ((S.a 48 x5.toNatClampNeg).toNatClampNeg) = x4 then gd x5 4000 (m_rmark_J127 (S.setA 51 (upd (S.a 51) x5.toNatClampNeg (vp_nar .boolean 1))) x1 x2 x3 x4 x5) else m_rmark_J127 S x1 x2 x3 x4 x5))))
theorem d_rmark_119 : decode prog_14_method_18_code 119 = .ok (.aload_n 0, 1) := by decide +kernel
theorem d_rmark_120 : decode prog_14_method_18_code 120 = .ok (.getfield 130, 3) := by decide +kernel
theorem d_rmark_123 : decode prog_14_method_18_code 123 = .ok (.iload 5, 2) := by decide +kernel
theorem d_rmark_125 : decode prog_14_method_18_code 125 = .ok (.iconst 1, 1) := by decide +kernel
theorem d_rmark_126 : decode prog_14_method_18_code 126 = .ok (.bastore, 1) := by decide +kernel
set_option maxHeartbeats 4000000 in
set_option maxRecDepth 100000 in
theorem w_rmark_B93 {p : Program} {l : Launch} {e : Env} {s : State} {m : MethodId} {args : Array Value} {below : List Frame} {meth : Method} {c : Code} {A : Nat → Prop} {D : va_G} {md : Nat → Nat} {mc : Nat → ClassId} {Q : State → Prop} (hC : MCx "JoinedTreesModel" prog_14_method_18_code 6 none p s m args meth c A D mc) {S : MS} {x1 : Int32} {x2 : Int32} {x3 : Int32} {x4 : Int32} {x5 : Int32} {o : ((MS × Int32 × Int32 × Int32 × Int32 × Int32) ⊕ (MS × Int32 × Int32 × Int32))} (Heq : m_rmark_B93 S x1 x2 x3 x4 x5 = some o) (Ka : ∀ b : MS × Int32 × Int32 × Int32 × Int32 × Int32, o = .inl b → ∀ (H : Heap) (locs : List Loc) (ls : Array Slot), va_P D cls (mw md mc b.1) H → va_D A (mw md mc b.1) → va_S A s.heap H locs → lv_has ls 6 [(0, .ref (md 100)), (1, .int b.2.1), (2, .int b.2.2.1), (3, .int b.2.2.2.1), (4, .int b.2.2.2.2.1), (5, .int b.2.2.2.2.2)] → W p l e ({ frames := 2, cells := 0, slots := 0, locals := 44 }) s m args below meth c H locs 0 0 Q (F0 m 93 ls [])) (K0 : ∀ b : MS × Int32 × Int32 × Int32, o = .inr b → ∀ (H : Heap) (locs : List Loc) (ls : Array Slot), va_P D cls (mw md mc b.1) H → va_D A (mw md mc b.1) → va_S A s.heap H locs → lv_has ls 6 [(0, .ref (md 100)), (1, .int b.2.1), (2, .int b.2.2.1), (3, .int b.2.2.2)] → W p l e ({ frames := 2, cells := 0, slots := 0, locals := 44 }) s m args below meth c H locs 0 0 Q (F0 m 133 ls [])) : ∀ (H : Heap) (locs : List Loc) (ls : Array Slot), va_P D cls (mw md mc S) H → va_D A (mw md mc S) → va_S A s.heap H locs → lv_has ls 6 [(0, .ref (md 100)), (1, .int x1), (2, .int x2), (3, .int x3), (4, .int x4), (5, .int x5)] → W p l e ({ frames := 2, cells := 0, slots := 0, locals := 44 }) s m args below meth c H locs 0 0 Q (F0 m 93 ls []) := by
  intro H locs ls hP hD hS hl
  obtain ⟨hx, hb, hr, hml, hown, hts, hK, hA⟩ := id hC
  unfold m_rmark_B93 at Heq
  refine lv_iload hx hb d_rmark_93 (lv_at hl 5 rfl) ?_
  refine lv_aload_n hx hb d_rmark_95 rfl (lv_at hl 0 rfl) ?_
  refine va_get (D := D) (ci := 12) (v := .int (S.i 50)) (C := R_MM) (T := F_MM) (N := 77) hx hb hts i_MM hown hK hP 0 rfl rfl 50 (by decide) (hts _ kw_1432) (fun _ h9 => h9) rfl d_rmark_96 ?_
  refine lv_icmp_ge (tgt := 133) hx hb d_rmark_99 (by decide) (fun c_1 => ?_) (fun c_1 => ?_)
  · replace Heq := (if_pos c_1).symm.trans Heq
    exact K0 _ (Option.some.inj Heq).symm _ _ _ hP hD hS (lv_sub hl [0, 1, 2, 3] rfl)
  · replace Heq := (if_neg c_1).symm.trans Heq
    refine lv_aload_n hx hb d_rmark_102 rfl (lv_at hl 0 rfl) ?_
    refine va_get (D := D) (ci := 12) (v := .ref (md 8)) (C := R_MM) (T := F_MM) (N := 77) hx hb hts i_MM hown hK hP 0 rfl rfl 8 (by decide) (hts _ kw_1390) (fun _ h9 => h9) rfl d_rmark_103 ?_
    refine lv_aload_n hx hb d_rmark_106 rfl (lv_at hl 0 rfl) ?_
    refine va_get (D := D) (ci := 12) (v := .ref (md 48)) (C := R_MM) (T := F_MM) (N := 77) hx hb hts i_MM hown hK hP 0 rfl rfl 48 (by decide) (hts _ kw_1430) (fun _ h9 => h9) rfl d_rmark_107 ?_
    refine lv_iload hx hb d_rmark_110 (lv_at hl 5 rfl) ?_
    obtain ⟨hi_2, Heq⟩ := gd_some Heq
    refine va_iald hx hb hK hP 32 0 rfl rfl (i := x5) hi_2 d_rmark_112 ?_
    refine w_i (y := S.a 48 x5.toNatClampNeg) rfl ?_
    obtain ⟨hi_3, Heq⟩ := gd_some Heq
    refine va_iald hx hb hK hP 4 0 rfl rfl (i := S.a 48 x5.toNatClampNeg) hi_3 d_rmark_113 ?_
    refine w_i (y := S.a 8 ((S.a 48 x5.toNatClampNeg).toNatClampNeg)) rfl ?_
    refine lv_iload hx hb d_rmark_114 (lv_at hl 4 rfl) ?_
    refine lv_icmp_ne (tgt := 127) hx hb d_rmark_116 (by decide) (fun c_4 => ?_) (fun c_4 => ?_)
    · replace Heq := (if_neg c_4).symm.trans Heq
      exact w_rmark_J127 hC Heq Ka K0 _ _ _ hP hD hS (lv_sub hl [0, 1, 2, 3, 4, 5] rfl)
    · replace Heq := (if_pos c_4).symm.trans Heq
      refine lv_aload_n hx hb d_rmark_119 rfl (lv_at hl 0 rfl) ?_
      refine va_get (D := D) (ci := 12) (v := .ref (md 51)) (C := R_MM) (T := F_MM) (N := 77) hx hb hts i_MM hown hK hP 0 rfl rfl 51 (by decide) (hts _ kw_1433) (fun _ h9 => h9) rfl d_rmark_120 ?_
      refine lv_iload hx hb d_rmark_123 (lv_at hl 5 rfl) ?_
      refine lv_iconst (v := 1) hx hb d_rmark_125 (by decide) ?_
      obtain ⟨hi_5, Heq⟩ := gd_some Heq
      refine va_zast hx hb hK hP hD hS 34 2 rfl rfl (i := x5) (x := 1) hi_5 d_rmark_126 (fun H locs hP hD hS => ?_)
      rw [mw_A51] at hP hD
      exact w_rmark_J127 hC Heq Ka K0 _ _ _ hP hD hS (lv_sub hl [0, 1, 2, 3, 4, 5] rfl)
def m_rmark_L93 (S : MS) (x1 : Int32) (x2 : Int32) (x3 : Int32) (x4 : Int32) (x5 : Int32) : Option (MS × Int32 × Int32 × Int32) := lp (fun a : MS × Int32 × Int32 × Int32 × Int32 × Int32 => m_rmark_B93 a.1 a.2.1 a.2.2.1 a.2.2.2.1 a.2.2.2.2.1 a.2.2.2.2.2) FU (S, x1, x2, x3, x4, x5)
theorem w_rmark_L93 {p : Program} {l : Launch} {e : Env} {s : State} {m : MethodId} {args : Array Value} {below : List Frame} {meth : Method} {c : Code} {A : Nat → Prop} {D : va_G} {md : Nat → Nat} {mc : Nat → ClassId} {Q : State → Prop} (hC : MCx "JoinedTreesModel" prog_14_method_18_code 6 none p s m args meth c A D mc) {S : MS} {x1 : Int32} {x2 : Int32} {x3 : Int32} {x4 : Int32} {x5 : Int32} {o : MS × Int32 × Int32 × Int32} (Heq : m_rmark_L93 S x1 x2 x3 x4 x5 = some o) (K0 : ∀ b : MS × Int32 × Int32 × Int32, o = b → ∀ (H : Heap) (locs : List Loc) (ls : Array Slot), va_P D cls (mw md mc b.1) H → va_D A (mw md mc b.1) → va_S A s.heap H locs → lv_has ls 6 [(0, .ref (md 100)), (1, .int b.2.1), (2, .int b.2.2.1), (3, .int b.2.2.2)] → W p l e ({ frames := 2, cells := 0, slots := 0, locals := 44 }) s m args below meth c H locs 0 0 Q (F0 m 133 ls [])) : ∀ (H : Heap) (locs : List Loc) (ls : Array Slot), va_P D cls (mw md mc S) H → va_D A (mw md mc S) → va_S A s.heap H locs → lv_has ls 6 [(0, .ref (md 100)), (1, .int x1), (2, .int x2), (3, .int x3), (4, .int x4), (5, .int x5)] → W p l e ({ frames := 2, cells := 0, slots := 0, locals := 44 }) s m args below meth c H locs 0 0 Q (F0 m 93 ls []) := by
  refine lp_w (G := fun a : MS × Int32 × Int32 × Int32 × Int32 × Int32 => ∀ (H : Heap) (locs : List Loc) (ls : Array Slot), va_P D cls (mw md mc a.1) H → va_D A (mw md mc a.1) → va_S A s.heap H locs → lv_has ls 6 [(0, .ref (md 100)), (1, .int a.2.1), (2, .int a.2.2.1), (3, .int a.2.2.2.1), (4, .int a.2.2.2.2.1), (5, .int a.2.2.2.2.2)] → W p l e ({ frames := 2, cells := 0, slots := 0, locals := 44 }) s m args below meth c H locs 0 0 Q (F0 m 93 ls [])) ?_ FU (S, x1, x2, x3, x4, x5) Heq
  intro a o1 ho Ka Ke
  exact w_rmark_B93 hC ho (fun b h => Ka b h) (fun b h => K0 b (Ke _ h).symm)
def m_rmark_J88 (S : MS) (x1 : Int32) (x2 : Int32) (x3 : Int32) (t0 : Int32) : Option ((MS × Int32 × Int32 × Int32) ⊕ MS) := ob (m_rmark_L93 S x1 x2 x3 t0 0) (fun b_1 => m_rmark_J133 b_1.1 b_1.2.1 b_1.2.2.1 b_1.2.2.2)
set_option maxHeartbeats 4000000 in
set_option maxRecDepth 100000 in
theorem w_rmark_J88 {p : Program} {l : Launch} {e : Env} {s : State} {m : MethodId} {args : Array Value} {below : List Frame} {meth : Method} {c : Code} {A : Nat → Prop} {D : va_G} {md : Nat → Nat} {mc : Nat → ClassId} {Q : State → Prop} (hC : MCx "JoinedTreesModel" prog_14_method_18_code 6 none p s m args meth c A D mc) {S : MS} {x1 : Int32} {x2 : Int32} {x3 : Int32} {t0 : Int32} {o : ((MS × Int32 × Int32 × Int32) ⊕ MS)} (Heq : m_rmark_J88 S x1 x2 x3 t0 = some o) (Ka : ∀ b : MS × Int32 × Int32 × Int32, o = .inl b → ∀ (H : Heap) (locs : List Loc) (ls : Array Slot), va_P D cls (mw md mc b.1) H → va_D A (mw md mc b.1) → va_S A s.heap H locs → lv_has ls 6 [(0, .ref (md 100)), (1, .int b.2.1), (2, .int b.2.2.1), (3, .int b.2.2.2)] → W p l e ({ frames := 2, cells := 0, slots := 0, locals := 44 }) s m args below meth c H locs 0 0 Q (F0 m 25 ls [])) (K0 : ∀ b : MS, o = .inr b → ∀ (H : Heap) (locs : List Loc) (ls : Array Slot), va_P D cls (mw md mc b) H → va_D A (mw md mc b) → va_S A s.heap H locs → lv_has ls 6 [(0, .ref (md 100))] → W p l e ({ frames := 2, cells := 0, slots := 0, locals := 44 }) s m args below meth c H locs 0 0 Q (F0 m 139 ls [])) : ∀ (H : Heap) (locs : List Loc) (ls : Array Slot), va_P D cls (mw md mc S) H → va_D A (mw md mc S) → va_S A s.heap H locs → lv_has ls 6 [(0, .ref (md 100)), (1, .int x1), (2, .int x2), (3, .int x3)] → W p l e ({ frames := 2, cells := 0, slots := 0, locals := 44 }) s m args below meth c H locs 0 0 Q (F0 m 88 ls [.int t0]) := by
  intro H locs ls hP hD hS hl
  obtain ⟨hx, hb, hr, hml, hown, hts, hK, hA⟩ := id hC
  unfold m_rmark_J88 at Heq
  refine lv_istore (lv' := [(4, .int t0), (0, .ref (md 100)), (1, .int x1), (2, .int x2), (3, .int x3)]) hx hb d_rmark_88 hl (by decide) rfl (fun ls hl => ?_)
  refine lv_iconst (v := 0) hx hb d_rmark_90 (by decide) ?_
  refine lv_istore (lv' := [(5, .int 0), (4, .int t0), (0, .ref (md 100)), (1, .int x1), (2, .int x2), (3, .int x3)]) hx hb d_rmark_91 hl (by decide) rfl (fun ls hl => ?_)
  obtain ⟨b_1, h_2, Heq⟩ := ob_some Heq
  refine w_rmark_L93 hC h_2 (fun b h => ?_) _ _ _ hP hD hS (lv_sub hl [2, 3, 4, 5, 1, 0] rfl)
  subst h
  intro H locs ls hP hD hS hl
  exact w_rmark_J133 hC Heq Ka K0 _ _ _ hP hD hS (lv_sub hl [0, 1, 2, 3] rfl)
def m_rmark_B25 (S : MS) (x1 : Int32) (x2 : Int32) (x3 : Int32) : Option ((MS × Int32 × Int32 × Int32) ⊕ MS) := (if S.i 23 ≤ x3 then some (.inr (S)) else ob (m_rvisible S x1 x3) (fun o_2 => (if o_2.2 = 0 then m_rmark_J133 o_2.1 x1 x2 x3 else gd x3 4000 ((if o_2.1.a 9 x3.toNatClampNeg = x2 then gd x3 4000 ((if o_2.1.a 15 x3.toNatClampNeg ≤ 0 then gd x3 4000 ((if o_2.1.a 20 x3.toNatClampNeg = 0 then gd x3 4000 (m_rmark_J88 o_2.1 x1 x2 x3 (o_2.1.a 10 x3.toNatClampNeg)) else gd x3 4000 (m_rmark_J88 o_2.1 x1 x2 x3 (o_2.1.a 8 x3.toNatClampNeg)))) else m_rmark_J133 o_2.1 x1 x2 x3)) else m_rmark_J133 o_2.1 x1 x2 x3)))))
theorem d_rmark_73 : decode prog_14_method_18_code 73 = .ok (.aload_n 0, 1) := by decide +kernel
theorem d_rmark_74 : decode prog_14_method_18_code 74 = .ok (.getfield 19, 3) := by decide +kernel
theorem d_rmark_77 : decode prog_14_method_18_code 77 = .ok (.iload_n 3, 1) := by decide +kernel
theorem d_rmark_78 : decode prog_14_method_18_code 78 = .ok (.iaload, 1) := by decide +kernel
theorem d_rmark_79 : decode prog_14_method_18_code 79 = .ok (.goto 9, 3) := by decide +kernel
theorem d_rmark_61 : decode prog_14_method_18_code 61 = .ok (.goto 72, 3) := by decide +kernel
set_option maxHeartbeats 4000000 in
set_option maxRecDepth 100000 in
theorem w_rmark_B25 {p : Program} {l : Launch} {e : Env} {s : State} {m : MethodId} {args : Array Value} {below : List Frame} {meth : Method} {c : Code} {A : Nat → Prop} {D : va_G} {md : Nat → Nat} {mc : Nat → ClassId} {Q : State → Prop} (hC : MCx "JoinedTreesModel" prog_14_method_18_code 6 none p s m args meth c A D mc) {S : MS} {x1 : Int32} {x2 : Int32} {x3 : Int32} {o : ((MS × Int32 × Int32 × Int32) ⊕ MS)} (Heq : m_rmark_B25 S x1 x2 x3 = some o) (Ka : ∀ b : MS × Int32 × Int32 × Int32, o = .inl b → ∀ (H : Heap) (locs : List Loc) (ls : Array Slot), va_P D cls (mw md mc b.1) H → va_D A (mw md mc b.1) → va_S A s.heap H locs → lv_has ls 6 [(0, .ref (md 100)), (1, .int b.2.1), (2, .int b.2.2.1), (3, .int b.2.2.2)] → W p l e ({ frames := 2, cells := 0, slots := 0, locals := 44 }) s m args below meth c H locs 0 0 Q (F0 m 25 ls [])) (K0 : ∀ b : MS, o = .inr b → ∀ (H : Heap) (locs : List Loc) (ls : Array Slot), va_P D cls (mw md mc b) H → va_D A (mw md mc b) → va_S A s.heap H locs → lv_has ls 6 [(0, .ref (md 100))] → W p l e ({ frames := 2, cells := 0, slots := 0, locals := 44 }) s m args below meth c H locs 0 0 Q (F0 m 139 ls [])) : ∀ (H : Heap) (locs : List Loc) (ls : Array Slot), va_P D cls (mw md mc S) H → va_D A (mw md mc S) → va_S A s.heap H locs → lv_has ls 6 [(0, .ref (md 100)), (1, .int x1), (2, .int x2), (3, .int x3)] → W p l e ({ frames := 2, cells := 0, slots := 0, locals := 44 }) s m args below meth c H locs 0 0 Q (F0 m 25 ls []) := by
  intro H locs ls hP hD hS hl
  obtain ⟨hx, hb, hr, hml, hown, hts, hK, hA⟩ := id hC
  unfold m_rmark_B25 at Heq
  refine lv_iload_n hx hb d_rmark_25 rfl (lv_at hl 3 rfl) ?_
  refine lv_aload_n hx hb d_rmark_26 rfl (lv_at hl 0 rfl) ?_
  refine va_get (D := D) (ci := 12) (v := .int (S.i 23)) (C := R_MM) (T := F_MM) (N := 77) hx hb hts i_MM hown hK hP 0 rfl rfl 23 (by decide) (hts _ kw_1405) (fun _ h9 => h9) rfl d_rmark_27 ?_
  refine lv_icmp_ge (tgt := 139) hx hb d_rmark_30 (by decide) (fun c_1 => ?_) (fun c_1 => ?_)
  · replace Heq := (if_pos c_1).symm.trans Heq
    exact K0 _ (Option.some.inj Heq).symm _ _ _ hP hD hS (lv_sub hl [0] rfl)
  · replace Heq := (if_neg c_1).symm.trans Heq
    refine lv_aload_n hx hb d_rmark_33 rfl (lv_at hl 0 rfl) ?_
    refine lv_iload_n hx hb d_rmark_34 rfl (lv_at hl 1 rfl) ?_
    refine lv_iload_n hx hb d_rmark_35 rfl (lv_at hl 3 rfl) ?_
    obtain ⟨o_2, h_3, Heq⟩ := ob_some Heq
    have hFc := fr_all hD hS hA
    refine va_calli (va_runV (As := [.int x1, .int x3]) (rest := []) ⟨hx, hb, hml, hown, hts⟩ (g_rvisible l D H.size h_3) (cw_v 2 hts kw_1676 kw_1673 kw_1675 kp_38 kw_11 rfl rfl (by decide +kernel) ⟨Nat.le_of_ble_eq_true rfl, Nat.le_of_ble_eq_true rfl⟩) ⟨g_blind, va_recv hK hP (ci := 12) (q0 := 0) rfl rfl, fun U hU hW => g_pre hU hW hP hK hD⟩ rfl rfl hl.1 rfl (lv_room (Nat.le_of_ble_eq_true rfl)) d_rmark_36 ⟨Nat.le_of_ble_eq_true rfl, Nat.le_of_ble_eq_true rfl⟩) hS (fun q _ h => hFc q h) hFc (fun rz u t H1 locs ht hvm hw hB hz1 hk1 hS => ?_)
    obtain ⟨hP, -, hD1⟩ := hB
    rw [ht] at hP
    have hD := hD1.weaken (fun _ q _ h => hFc q.1 h)
    generalize H1 = H at hP hS ⊢
    refine W.cs (cells' := 0) (slots' := 0) rfl rfl ?_
    subst hw
    refine lv_if_eq (tgt := 133) hx hb d_rmark_39 (by decide) (fun c_4 => ?_) (fun c_4 => ?_)
    · replace Heq := (if_pos c_4).symm.trans Heq
      exact w_rmark_J133 hC Heq Ka K0 _ _ _ hP hD hS (lv_sub hl [0, 1, 2, 3] rfl)
    · replace Heq := (if_neg c_4).symm.trans Heq
      refine lv_aload_n hx hb d_rmark_42 rfl (lv_at hl 0 rfl) ?_
      refine va_get (D := D) (ci := 12) (v := .ref (md 9)) (C := R_MM) (T := F_MM) (N := 77) hx hb hts i_MM hown hK hP 0 rfl rfl 9 (by decide) (hts _ kw_1391) (fun _ h9 => h9) rfl d_rmark_43 ?_
      refine lv_iload_n hx hb d_rmark_46 rfl (lv_at hl 3 rfl) ?_
      obtain ⟨hi_5, Heq⟩ := gd_some Heq
      refine va_iald hx hb hK hP 5 0 rfl rfl (i := x3) hi_5 d_rmark_47 ?_
      refine w_i (y := o_2.1.a 9 x3.toNatClampNeg) rfl ?_
      refine lv_iload_n hx hb d_rmark_48 rfl (lv_at hl 2 rfl) ?_
      refine lv_icmp_ne (tgt := 133) hx hb d_rmark_49 (by decide) (fun c_6 => ?_) (fun c_6 => ?_)
      · replace Heq := (if_neg c_6).symm.trans Heq
        exact w_rmark_J133 hC Heq Ka K0 _ _ _ hP hD hS (lv_sub hl [0, 1, 2, 3] rfl)
      · replace Heq := (if_pos c_6).symm.trans Heq
        refine lv_aload_n hx hb d_rmark_52 rfl (lv_at hl 0 rfl) ?_
        refine va_get (D := D) (ci := 12) (v := .ref (md 15)) (C := R_MM) (T := F_MM) (N := 77) hx hb hts i_MM hown hK hP 0 rfl rfl 15 (by decide) (hts _ kw_1397) (fun _ h9 => h9) rfl d_rmark_53 ?_
        refine lv_iload_n hx hb d_rmark_56 rfl (lv_at hl 3 rfl) ?_
        obtain ⟨hi_7, Heq⟩ := gd_some Heq
        refine va_iald hx hb hK hP 11 0 rfl rfl (i := x3) hi_7 d_rmark_57 ?_
        refine w_i (y := o_2.1.a 15 x3.toNatClampNeg) rfl ?_
        refine lv_if_le (tgt := 64) hx hb d_rmark_58 (by decide) (fun c_8 => ?_) (fun c_8 => ?_)
        · replace Heq := (if_pos c_8).symm.trans Heq
          refine lv_aload_n hx hb d_rmark_64 rfl (lv_at hl 0 rfl) ?_
          refine va_get (D := D) (ci := 12) (v := .ref (md 20)) (C := R_MM) (T := F_MM) (N := 77) hx hb hts i_MM hown hK hP 0 rfl rfl 20 (by decide) (hts _ kw_1402) (fun _ h9 => h9) rfl d_rmark_65 ?_
          refine lv_iload_n hx hb d_rmark_68 rfl (lv_at hl 3 rfl) ?_
          obtain ⟨hi_9, Heq⟩ := gd_some Heq
          refine va_zald hx hb hK hP 16 2 rfl rfl (i := x3) hi_9 d_rmark_69 ?_
          refine w_i (y := o_2.1.a 20 x3.toNatClampNeg) rfl ?_
          refine lv_if_eq (tgt := 82) hx hb d_rmark_70 (by decide) (fun c_10 => ?_) (fun c_10 => ?_)
          · replace Heq := (if_pos c_10).symm.trans Heq
            refine lv_aload_n hx hb d_rmark_82 rfl (lv_at hl 0 rfl) ?_
            refine va_get (D := D) (ci := 12) (v := .ref (md 10)) (C := R_MM) (T := F_MM) (N := 77) hx hb hts i_MM hown hK hP 0 rfl rfl 10 (by decide) (hts _ kw_1392) (fun _ h9 => h9) rfl d_rmark_83 ?_
            refine lv_iload_n hx hb d_rmark_86 rfl (lv_at hl 3 rfl) ?_
            obtain ⟨hi_11, Heq⟩ := gd_some Heq
            refine va_iald hx hb hK hP 6 0 rfl rfl (i := x3) hi_11 d_rmark_87 ?_
            refine w_i (y := o_2.1.a 10 x3.toNatClampNeg) rfl ?_
            exact w_rmark_J88 hC Heq Ka K0 _ _ _ hP hD hS (lv_sub hl [0, 1, 2, 3] rfl)
          · replace Heq := (if_neg c_10).symm.trans Heq
            refine lv_aload_n hx hb d_rmark_73 rfl (lv_at hl 0 rfl) ?_
            refine va_get (D := D) (ci := 12) (v := .ref (md 8)) (C := R_MM) (T := F_MM) (N := 77) hx hb hts i_MM hown hK hP 0 rfl rfl 8 (by decide) (hts _ kw_1390) (fun _ h9 => h9) rfl d_rmark_74 ?_
            refine lv_iload_n hx hb d_rmark_77 rfl (lv_at hl 3 rfl) ?_
            obtain ⟨hi_12, Heq⟩ := gd_some Heq
            refine va_iald hx hb hK hP 4 0 rfl rfl (i := x3) hi_12 d_rmark_78 ?_
            refine w_i (y := o_2.1.a 8 x3.toNatClampNeg) rfl ?_
            refine lv_goto (tgt := 88) hx hb d_rmark_79 (by decide) ?_
            exact w_rmark_J88 hC Heq Ka K0 _ _ _ hP hD hS (lv_sub hl [0, 1, 2, 3] rfl)
        · replace Heq := (if_neg c_8).symm.trans Heq
          refine lv_goto (tgt := 133) hx hb d_rmark_61 (by decide) ?_
          exact w_rmark_J133 hC Heq Ka K0 _ _ _ hP hD hS (lv_sub hl [0, 1, 2, 3] rfl)
def m_rmark_L25 (S : MS) (x1 : Int32) (x2 : Int32) (x3 : Int32) : Option MS := lp (fun a : MS × Int32 × Int32 × Int32 => m_rmark_B25 a.1 a.2.1 a.2.2.1 a.2.2.2) FU (S, x1, x2, x3)
theorem w_rmark_L25 {p : Program} {l : Launch} {e : Env} {s : State} {m : MethodId} {args : Array Value} {below : List Frame} {meth : Method} {c : Code} {A : Nat → Prop} {D : va_G} {md : Nat → Nat} {mc : Nat → ClassId} {Q : State → Prop} (hC : MCx "JoinedTreesModel" prog_14_method_18_code 6 none p s m args meth c A D mc) {S : MS} {x1 : Int32} {x2 : Int32} {x3 : Int32} {o : MS} (Heq : m_rmark_L25 S x1 x2 x3 = some o) (K0 : ∀ b : MS, o = b → ∀ (H : Heap) (locs : List Loc) (ls : Array Slot), va_P D cls (mw md mc b) H → va_D A (mw md mc b) → va_S A s.heap H locs → lv_has ls 6 [(0, .ref (md 100))] → W p l e ({ frames := 2, cells := 0, slots := 0, locals := 44 }) s m args below meth c H locs 0 0 Q (F0 m 139 ls [])) : ∀ (H : Heap) (locs : List Loc) (ls : Array Slot), va_P D cls (mw md mc S) H → va_D A (mw md mc S) → va_S A s.heap H locs → lv_has ls 6 [(0, .ref (md 100)), (1, .int x1), (2, .int x2), (3, .int x3)] → W p l e ({ frames := 2, cells := 0, slots := 0, locals := 44 }) s m args below meth c H locs 0 0 Q (F0 m 25 ls []) := by
  refine lp_w (G := fun a : MS × Int32 × Int32 × Int32 => ∀ (H : Heap) (locs : List Loc) (ls : Array Slot), va_P D cls (mw md mc a.1) H → va_D A (mw md mc a.1) → va_S A s.heap H locs → lv_has ls 6 [(0, .ref (md 100)), (1, .int a.2.1), (2, .int a.2.2.1), (3, .int a.2.2.2)] → W p l e ({ frames := 2, cells := 0, slots := 0, locals := 44 }) s m args below meth c H locs 0 0 Q (F0 m 25 ls [])) ?_ FU (S, x1, x2, x3) Heq
  intro a o1 ho Ka Ke
  exact w_rmark_B25 hC ho (fun b h => Ka b h) (fun b h => K0 b (Ke _ h).symm)
def m_rmark_J0 (S : MS) (x1 : Int32) (x2 : Int32) : Option MS := ob (m_rmark_L2 S x1 x2 0) (fun b_1 => ob (m_rmark_L25 b_1.1 b_1.2.1 b_1.2.2 0) (fun b_3 => some b_3))
theorem d_rmark_139 : decode prog_14_method_18_code 139 = .ok (.return_, 1) := by decide +kernel
set_option maxHeartbeats 4000000 in
set_option maxRecDepth 100000 in
theorem w_rmark_J0 {p : Program} {l : Launch} {e : Env} {s : State} {m : MethodId} {args : Array Value} {below : List Frame} {meth : Method} {c : Code} {A : Nat → Prop} {D : va_G} {md : Nat → Nat} {mc : Nat → ClassId} {Q : State → Prop} (hC : MCx "JoinedTreesModel" prog_14_method_18_code 6 none p s m args meth c A D mc) {S : MS} {x1 : Int32} {x2 : Int32} {o : MS} (Heq : m_rmark_J0 S x1 x2 = some o) (Kr : ∀ r : MS, o = r → ∀ (pc : Nat) (H : Heap) (locs : List Loc) (ls : Array Slot), decode prog_14_method_18_code pc = .ok (.return_, 1) → va_P D cls (mw md mc r) H → va_D A (mw md mc r) → va_S A s.heap H locs → W p l e ({ frames := 2, cells := 0, slots := 0, locals := 44 }) s m args below meth c H locs 0 0 Q (F0 m pc ls [])) : ∀ (H : Heap) (locs : List Loc) (ls : Array Slot), va_P D cls (mw md mc S) H → va_D A (mw md mc S) → va_S A s.heap H locs → lv_has ls 6 [(0, .ref (md 100)), (1, .int x1), (2, .int x2)] → W p l e ({ frames := 2, cells := 0, slots := 0, locals := 44 }) s m args below meth c H locs 0 0 Q (F0 m 0 ls []) := by
  intro H locs ls hP hD hS hl
  obtain ⟨hx, hb, hr, hml, hown, hts, hK, hA⟩ := id hC
  unfold m_rmark_J0 at Heq
  refine lv_iconst (v := 0) hx hb d_rmark_0 (by decide) ?_
  refine lv_istore_n (lv' := [(3, .int 0), (0, .ref (md 100)), (1, .int x1), (2, .int x2)]) hx hb d_rmark_1 rfl hl (by decide) rfl (fun ls hl => ?_)
  obtain ⟨b_1, h_2, Heq⟩ := ob_some Heq
  refine w_rmark_L2 hC h_2 (fun b h => ?_) _ _ _ hP hD hS (lv_sub hl [1, 2, 3, 0] rfl)
  subst h
  intro H locs ls hP hD hS hl
  refine lv_iconst (v := 0) hx hb d_rmark_23 (by decide) ?_
  refine lv_istore_n (lv' := [(3, .int 0), (0, .ref (md 100)), (1, .int b_1.2.1), (2, .int b_1.2.2)]) hx hb d_rmark_24 rfl hl (by decide) rfl (fun ls hl => ?_)
  obtain ⟨b_3, h_4, Heq⟩ := ob_some Heq
  refine w_rmark_L25 hC h_4 (fun b h => ?_) _ _ _ hP hD hS (lv_sub hl [1, 2, 3, 0] rfl)
  subst h
  intro H locs ls hP hD hS hl
  exact Kr _ (Option.some.inj Heq).symm 139 _ _ _ d_rmark_139 hP hD hS
def m_rmark (S : MS) (x1 : Int32) (x2 : Int32) : Option MS := m_rmark_J0 S x1 x2
theorem g_rmark (l : Launch) (D : va_G) (sz : Nat) {md : Nat → Nat} {mc : Nat → ClassId} {S : MS} {x1 : Int32} {x2 : Int32} {o : MS} (Heq : m_rmark S x1 x2 = some o) : Met l ⟨"JoinedTreesModel", "mark", "(II)V"⟩ (Cond.code ⟨"JoinedTreesModel", "mark", "(II)V"⟩ prog_14_method_18_code 6 none :: gb) ({ frames := 2, cells := 0, slots := 0, locals := 44 }) (gPc D (mw md mc S) (mty mc) sz [.ref (md 100), .int x1, .int x2]) (va_Qv (fun _ : Unit => True) (fun _ t => gO D (mw md mc o) (mty mc) (va_A (mw md mc S) sz) t) (va_A (mw md mc S) sz)) 0 0 (va_A (mw md mc S) sz) := by
  refine Met.ofW (cc := prog_14_method_18_code) (maxL := 6) (ret := none) (by decide) rfl ?_
  intro p e s m args below meth c s₁ B hml hv
  obtain ⟨rfl, hsz, hP, hK, hD0⟩ := hv
  have hx := B.exec
  have hb := B.bytes
  have hr := B.returns
  have hts : ∀ w9 ∈ gb, w9.before [.ref (md 100), .int x1, .int x2].toArray s = true := fun w9 h => atoms_spec (ws := Cond.code ⟨"JoinedTreesModel", "mark", "(II)V"⟩ prog_14_method_18_code 6 none :: gb) B.pre w9 (List.mem_cons_of_mem _ h)
  have hown : s.vm.findClass "JoinedTreesModel" = some m.cls := findClass_of_methodNamed B.named
  have hlocks := B.notSynchronized
  subst hsz
  have hD := hD0.self (sz := s.heap.size)
  generalize hAe : va_A (mw md mc S) s.heap.size = A at hD ⊢
  have hA : ∀ q : Nat, s.heap.size ≤ q → A q := fun q h => by rw [← hAe]; exact Or.inr h
  have hS : va_S A s.heap s.heap [] := va_S.rf
  have hl := lv_entry ([.ref (md 100), .int x1, .int x2]) (n := 6) (Nat.le_of_ble_eq_true rfl)
  rw [lg_entry_eq]
  generalize (lg_sl ([.ref (md 100), .int x1, .int x2]) ++ List.replicate (6 - (lg_sl ([.ref (md 100), .int x1, .int x2])).length) Slot.unset).toArray = ls at hl ⊢
  have hl : lv_has ls 6 [(0, .ref (md 100)), (1, .int x1), (2, .int x2)] := hl
  refine w_rmark_J0 ⟨hx, hb, hr, hml, hown, hts, hK, hA⟩ Heq (fun r h pc H locs ls hd hP hD hS => ?_) _ _ _ hP hD hS (lv_sub hl [0, 1, 2] rfl)
  subst h
  exact W.vret hx hb hr (fun t ht hW => ⟨⟨(), rfl, trivial, by rw [ht]; exact hP, va_K.moved hW.alike hK, hD⟩, hS.F ht⟩) hS.2.2 hd
def m_rat_J52 (S : MS) (x3 : Int32) (x4 : Int32) (x5 : Int32) : Option ((MS × Int32 × Int32 × Int32) ⊕ (MS ⊕ (MS × Int32))) := some (.inl (S, x3, x4, (x5 + 1)))
theorem d_rat_0 : decode prog_14_method_19_code 0 = .ok (.aload_n 0, 1) := by decide +kernel
theorem d_rat_1 : decode prog_14_method_19_code 1 = .ok (.iload_n 1, 1) := by decide +kernel
theorem d_rat_2 : decode prog_14_method_19_code 2 = .ok (.iload_n 2, 1) := by decide +kernel
theorem d_rat_3 : decode prog_14_method_19_code 3 = .ok (.invokevirtual 223, 3) := by decide +kernel
theorem d_rat_6 : decode prog_14_method_19_code 6 = .ok (.aload_n 0, 1) := by decide +kernel
theorem d_rat_7 : decode prog_14_method_19_code 7 = .ok (.iload_n 1, 1) := by decide +kernel
theorem d_rat_8 : decode prog_14_method_19_code 8 = .ok (.iload_n 2, 1) := by decide +kernel
theorem d_rat_9 : decode prog_14_method_19_code 9 = .ok (.invokevirtual 227, 3) := by decide +kernel
theorem d_rat_12 : decode prog_14_method_19_code 12 = .ok (.iconst 0, 1) := by decide +kernel
theorem d_rat_13 : decode prog_14_method_19_code 13 = .ok (.istore 4, 2) := by decide +kernel
theorem d_rat_15 : decode prog_14_method_19_code 15 = .ok (.iconst 0, 1) := by decide +kernel
theorem d_rat_16 : decode prog_14_method_19_code 16 = .ok (.istore 5, 2) := by decide +kernel
theorem d_rat_18 : decode prog_14_method_19_code 18 = .ok (.iload 5, 2) := by decide +kernel
theorem d_rat_20 : decode prog_14_method_19_code 20 = .ok (.aload_n 0, 1) := by decide +kernel
theorem d_rat_21 : decode prog_14_method_19_code 21 = .ok (.getfield 220, 3) := by decide +kernel
theorem d_rat_24 : decode prog_14_method_19_code 24 = .ok (.if_icmp .ge 34, 3) := by decide +kernel
theorem d_rat_27 : decode prog_14_method_19_code 27 = .ok (.aload_n 0, 1) := by decide +kernel
theorem d_rat_28 : decode prog_14_method_19_code 28 = .ok (.getfield 130, 3) := by decide +kernel
theorem d_rat_31 : decode prog_14_method_19_code 31 = .ok (.iload 5, 2) := by decide +kernel
theorem d_rat_33 : decode prog_14_method_19_code 33 = .ok (.baload, 1) := by decide +kernel
theorem d_rat_34 : decode prog_14_method_19_code 34 = .ok (.ifCond .ne 6, 3) := by decide +kernel
theorem d_rat_40 : decode prog_14_method_19_code 40 = .ok (.iload 4, 2) := by decide +kernel
theorem d_rat_42 : decode prog_14_method_19_code 42 = .ok (.iload_n 3, 1) := by decide +kernel
theorem d_rat_43 : decode prog_14_method_19_code 43 = .ok (.if_icmp .ne 6, 3) := by decide +kernel
theorem d_rat_49 : decode prog_14_method_19_code 49 = .ok (.iinc 4 1, 3) := by decide +kernel
theorem d_rat_52 : decode prog_14_method_19_code 52 = .ok (.iinc 5 1, 3) := by decide +kernel
theorem d_rat_55 : decode prog_14_method_19_code 55 = .ok (.goto (-37), 3) := by decide +kernel
set_option maxHeartbeats 4000000 in
set_option maxRecDepth 100000 in
theorem w_rat_J52 {p : Program} {l : Launch} {e : Env} {s : State} {m : MethodId} {args : Array Value} {below : List Frame} {meth : Method} {c : Code} {A : Nat → Prop} {D : va_G} {md : Nat → Nat} {mc : Nat → ClassId} {Q : State → Prop} (hC : MCx "JoinedTreesModel" prog_14_method_19_code 6 (some .int) p s m args meth c A D mc) {S : MS} {x3 : Int32} {x4 : Int32} {x5 : Int32} {o : ((MS × Int32 × Int32 × Int32) ⊕ (MS ⊕ (MS × Int32)))} (Heq : m_rat_J52 S x3 x4 x5 = some o) (Ka : ∀ b : MS × Int32 × Int32 × Int32, o = .inl b → ∀ (H : Heap) (locs : List Loc) (ls : Array Slot), va_P D cls (mw md mc b.1) H → va_D A (mw md mc b.1) → va_S A s.heap H locs → lv_has ls 6 [(0, .ref (md 100)), (3, .int b.2.1), (4, .int b.2.2.1), (5, .int b.2.2.2)] → W p l e ({ frames := 3, cells := 0, slots := 0, locals := 71 }) s m args below meth c H locs 0 0 Q (F0 m 18 ls [])) (K0 : ∀ b : MS, o = .inr (.inl b) → ∀ (H : Heap) (locs : List Loc) (ls : Array Slot), va_P D cls (mw md mc b) H → va_D A (mw md mc b) → va_S A s.heap H locs → lv_has ls 6 [(0, .ref (md 100))] → W p l e ({ frames := 3, cells := 0, slots := 0, locals := 71 }) s m args below meth c H locs 0 0 Q (F0 m 58 ls [])) (Kr : ∀ r : MS × Int32, o = .inr (.inr r) → ∀ (pc : Nat) (H : Heap) (locs : List Loc) (ls : Array Slot), decode prog_14_method_19_code pc = .ok (.ireturn, 1) → va_P D cls (mw md mc r.1) H → va_D A (mw md mc r.1) → va_S A s.heap H locs → W p l e ({ frames := 3, cells := 0, slots := 0, locals := 71 }) s m args below meth c H locs 0 0 Q (F0 m pc ls [.int r.2])) : ∀ (H : Heap) (locs : List Loc) (ls : Array Slot), va_P D cls (mw md mc S) H → va_D A (mw md mc S) → va_S A s.heap H locs → lv_has ls 6 [(0, .ref (md 100)), (3, .int x3), (4, .int x4), (5, .int x5)] → W p l e ({ frames := 3, cells := 0, slots := 0, locals := 71 }) s m args below meth c H locs 0 0 Q (F0 m 52 ls []) := by
  intro H locs ls hP hD hS hl
  obtain ⟨hx, hb, hr, hml, hown, hts, hK, hA⟩ := id hC
  unfold m_rat_J52 at Heq
  refine lv_iinc (v := x5 + 1) (lv' := [(5, .int (x5 + 1)), (0, .ref (md 100)), (3, .int x3), (4, .int x4)]) hx hb d_rat_52 hl (k := 3) rfl rfl (by decide) rfl (fun ls hl => ?_)
  refine lv_goto (tgt := 18) hx hb d_rat_55 (by decide) ?_
  exact Ka _ (Option.some.inj Heq).symm _ _ _ hP hD hS (lv_sub hl [1, 2, 3, 0] rfl)
def m_rat_B18 (S : MS) (x3 : Int32) (x4 : Int32) (x5 : Int32) : Option ((MS × Int32 × Int32 × Int32) ⊕ (MS ⊕ (MS × Int32))) := (if S.i 50 ≤ x5 then some (.inr (.inl (S))) else gd x5 4000 ((if S.a 51 x5.toNatClampNeg = 0 then m_rat_J52 S x3 x4 x5 else (if x4 = x3 then some (.inr (.inr (S, x5))) else m_rat_J52 S x3 (x4 + 1) x5))))
theorem d_rat_46 : decode prog_14_method_19_code 46 = .ok (.iload 5, 2) := by decide +kernel
theorem d_rat_48 : decode prog_14_method_19_code 48 = .ok (.ireturn, 1) := by decide +kernel
theorem d_rat_37 : decode prog_14_method_19_code 37 = .ok (.goto 15, 3) := by decide +kernel
set_option maxHeartbeats 4000000 in
set_option maxRecDepth 100000 in
theorem w_rat_B18 {p : Program} {l : Launch} {e : Env} {s : State} {m : MethodId} {args : Array Value} {below : List Frame} {meth : Method} {c : Code} {A : Nat → Prop} {D : va_G} {md : Nat → Nat} {mc : Nat → ClassId} {Q : State → Prop} (hC : MCx "JoinedTreesModel" prog_14_method_19_code 6 (some .int) p s m args meth c A D mc) {S : MS} {x3 : Int32} {x4 : Int32} {x5 : Int32} {o : ((MS × Int32 × Int32 × Int32) ⊕ (MS ⊕ (MS × Int32)))} (Heq : m_rat_B18 S x3 x4 x5 = some o) (Ka : ∀ b : MS × Int32 × Int32 × Int32, o = .inl b → ∀ (H : Heap) (locs : List Loc) (ls : Array Slot), va_P D cls (mw md mc b.1) H → va_D A (mw md mc b.1) → va_S A s.heap H locs → lv_has ls 6 [(0, .ref (md 100)), (3, .int b.2.1), (4, .int b.2.2.1), (5, .int b.2.2.2)] → W p l e ({ frames := 3, cells := 0, slots := 0, locals := 71 }) s m args below meth c H locs 0 0 Q (F0 m 18 ls [])) (K0 : ∀ b : MS, o = .inr (.inl b) → ∀ (H : Heap) (locs : List Loc) (ls : Array Slot), va_P D cls (mw md mc b) H → va_D A (mw md mc b) → va_S A s.heap H locs → lv_has ls 6 [(0, .ref (md 100))] → W p l e ({ frames := 3, cells := 0, slots := 0, locals := 71 }) s m args below meth c H locs 0 0 Q (F0 m 58 ls [])) (Kr : ∀ r : MS × Int32, o = .inr (.inr r) → ∀ (pc : Nat) (H : Heap) (locs : List Loc) (ls : Array Slot), decode prog_14_method_19_code pc = .ok (.ireturn, 1) → va_P D cls (mw md mc r.1) H → va_D A (mw md mc r.1) → va_S A s.heap H locs → W p l e ({ frames := 3, cells := 0, slots := 0, locals := 71 }) s m args below meth c H locs 0 0 Q (F0 m pc ls [.int r.2])) : ∀ (H : Heap) (locs : List Loc) (ls : Array Slot), va_P D cls (mw md mc S) H → va_D A (mw md mc S) → va_S A s.heap H locs → lv_has ls 6 [(0, .ref (md 100)), (3, .int x3), (4, .int x4), (5, .int x5)] → W p l e ({ frames := 3, cells := 0, slots := 0, locals := 71 }) s m args below meth c H locs 0 0 Q (F0 m 18 ls []) := by
  intro H locs ls hP hD hS hl
  obtain ⟨hx, hb, hr, hml, hown, hts, hK, hA⟩ := id hC
  unfold m_rat_B18 at Heq
  refine lv_iload hx hb d_rat_18 (lv_at hl 3 rfl) ?_
  refine lv_aload_n hx hb d_rat_20 rfl (lv_at hl 0 rfl) ?_
  refine va_get (D := D) (ci := 12) (v := .int (S.i 50)) (C := R_MM) (T := F_MM) (N := 77) hx hb hts i_MM hown hK hP 0 rfl rfl 50 (by decide) (hts _ kw_1432) (fun _ h9 => h9) rfl d_rat_21 ?_
  refine lv_icmp_ge (tgt := 58) hx hb d_rat_24 (by decide) (fun c_1 => ?_) (fun c_1 => ?_)
  · replace Heq := (if_pos c_1).symm.trans Heq
    exact K0 _ (Option.some.inj Heq).symm _ _ _ hP hD hS (lv_sub hl [0] rfl)
  · replace Heq := (if_neg c_1).symm.trans Heq
    refine lv_aload_n hx hb d_rat_27 rfl (lv_at hl 0 rfl) ?_
    refine va_get (D := D) (ci := 12) (v := .ref (md 51)) (C := R_MM) (T := F_MM) (N := 77) hx hb hts i_MM hown hK hP 0 rfl rfl 51 (by decide) (hts _ kw_1433) (fun _ h9 => h9) rfl d_rat_28 ?_
    refine lv_iload hx hb d_rat_31 (lv_at hl 3 rfl) ?_
    obtain ⟨hi_2, Heq⟩ := gd_some Heq
    refine va_zald hx hb hK hP 34 2 rfl rfl (i := x5) hi_2 d_rat_33 ?_
    refine w_i (y := S.a 51 x5.toNatClampNeg) rfl ?_
    refine lv_if_ne (tgt := 40) hx hb d_rat_34 (by decide) (fun c_3 => ?_) (fun c_3 => ?_)
    · replace Heq := (if_neg c_3).symm.trans Heq
      refine lv_iload hx hb d_rat_40 (lv_at hl 2 rfl) ?_
      refine lv_iload_n hx hb d_rat_42 rfl (lv_at hl 1 rfl) ?_
      refine lv_icmp_ne (tgt := 49) hx hb d_rat_43 (by decide) (fun c_4 => ?_) (fun c_4 => ?_)
      · replace Heq := (if_neg c_4).symm.trans Heq
        refine lv_iinc (v := x4 + 1) (lv' := [(4, .int (x4 + 1)), (0, .ref (md 100)), (3, .int x3), (5, .int x5)]) hx hb d_rat_49 hl (k := 2) rfl rfl (by decide) rfl (fun ls hl => ?_)
        exact w_rat_J52 hC Heq Ka K0 Kr _ _ _ hP hD hS (lv_sub hl [1, 2, 0, 3] rfl)
      · replace Heq := (if_pos c_4).symm.trans Heq
        refine lv_iload hx hb d_rat_46 (lv_at hl 3 rfl) ?_
        exact Kr _ (Option.some.inj Heq).symm 48 _ _ _ d_rat_48 hP hD hS
    · replace Heq := (if_pos c_3).symm.trans Heq
      refine lv_goto (tgt := 52) hx hb d_rat_37 (by decide) ?_
      exact w_rat_J52 hC Heq Ka K0 Kr _ _ _ hP hD hS (lv_sub hl [0, 1, 2, 3] rfl)
def m_rat_L18 (S : MS) (x3 : Int32) (x4 : Int32) (x5 : Int32) : Option (MS ⊕ (MS × Int32)) := lp (fun a : MS × Int32 × Int32 × Int32 => m_rat_B18 a.1 a.2.1 a.2.2.1 a.2.2.2) FU (S, x3, x4, x5)
theorem w_rat_L18 {p : Program} {l : Launch} {e : Env} {s : State} {m : MethodId} {args : Array Value} {below : List Frame} {meth : Method} {c : Code} {A : Nat → Prop} {D : va_G} {md : Nat → Nat} {mc : Nat → ClassId} {Q : State → Prop} (hC : MCx "JoinedTreesModel" prog_14_method_19_code 6 (some .int) p s m args meth c A D mc) {S : MS} {x3 : Int32} {x4 : Int32} {x5 : Int32} {o : (MS ⊕ (MS × Int32))} (Heq : m_rat_L18 S x3 x4 x5 = some o) (K0 : ∀ b : MS, o = (.inl b) → ∀ (H : Heap) (locs : List Loc) (ls : Array Slot), va_P D cls (mw md mc b) H → va_D A (mw md mc b) → va_S A s.heap H locs → lv_has ls 6 [(0, .ref (md 100))] → W p l e ({ frames := 3, cells := 0, slots := 0, locals := 71 }) s m args below meth c H locs 0 0 Q (F0 m 58 ls [])) (Kr : ∀ r : MS × Int32, o = (.inr r) → ∀ (pc : Nat) (H : Heap) (locs : List Loc) (ls : Array Slot), decode prog_14_method_19_code pc = .ok (.ireturn, 1) → va_P D cls (mw md mc r.1) H → va_D A (mw md mc r.1) → va_S A s.heap H locs → W p l e ({ frames := 3, cells := 0, slots := 0, locals := 71 }) s m args below meth c H locs 0 0 Q (F0 m pc ls [.int r.2])) : ∀ (H : Heap) (locs : List Loc) (ls : Array Slot), va_P D cls (mw md mc S) H → va_D A (mw md mc S) → va_S A s.heap H locs → lv_has ls 6 [(0, .ref (md 100)), (3, .int x3), (4, .int x4), (5, .int x5)] → W p l e ({ frames := 3, cells := 0, slots := 0, locals := 71 }) s m args below meth c H locs 0 0 Q (F0 m 18 ls []) := by
  refine lp_w (G := fun a : MS × Int32 × Int32 × Int32 => ∀ (H : Heap) (locs : List Loc) (ls : Array Slot), va_P D cls (mw md mc a.1) H → va_D A (mw md mc a.1) → va_S A s.heap H locs → lv_has ls 6 [(0, .ref (md 100)), (3, .int a.2.1), (4, .int a.2.2.1), (5, .int a.2.2.2)] → W p l e ({ frames := 3, cells := 0, slots := 0, locals := 71 }) s m args below meth c H locs 0 0 Q (F0 m 18 ls [])) ?_ FU (S, x3, x4, x5) Heq
  intro a o1 ho Ka Ke
  exact w_rat_B18 hC ho (fun b h => Ka b h) (fun b h => K0 b (Ke _ h).symm) (fun r h => Kr r (Ke _ h).symm)
def m_rat_J0 (S : MS) (x1 : Int32) (x2 : Int32) (x3 : Int32) : Option (MS × Int32) := ob (m_rlist S x1 x2) (fun o_1 => ob (m_rmark o_1 x1 x2) (fun o_3 => oe (m_rat_L18 o_3 x3 0 0) (fun b_5 => some (b_5, (-1))) (fun r_7 => some r_7)))
theorem d_rat_58 : decode prog_14_method_19_code 58 = .ok (.iconst (-1), 1) := by decide +kernel
theorem d_rat_59 : decode prog_14_method_19_code 59 = .ok (.ireturn, 1) := by decide +kernel
set_option maxHeartbeats 4000000 in
set_option maxRecDepth 100000 in
theorem w_rat_J0 {p : Program} {l : Launch} {e : Env} {s : State} {m : MethodId} {args : Array Value} {below : List Frame} {meth : Method} {c : Code} {A : Nat → Prop} {D : va_G} {md : Nat → Nat} {mc : Nat → ClassId} {Q : State → Prop} (hC : MCx "JoinedTreesModel" prog_14_method_19_code 6 (some .int) p s m args meth c A D mc) {S : MS} {x1 : Int32} {x2 : Int32} {x3 : Int32} {o : MS × Int32} (Heq : m_rat_J0 S x1 x2 x3 = some o) (Kr : ∀ r : MS × Int32, o = r → ∀ (pc : Nat) (H : Heap) (locs : List Loc) (ls : Array Slot), decode prog_14_method_19_code pc = .ok (.ireturn, 1) → va_P D cls (mw md mc r.1) H → va_D A (mw md mc r.1) → va_S A s.heap H locs → W p l e ({ frames := 3, cells := 0, slots := 0, locals := 71 }) s m args below meth c H locs 0 0 Q (F0 m pc ls [.int r.2])) : ∀ (H : Heap) (locs : List Loc) (ls : Array Slot), va_P D cls (mw md mc S) H → va_D A (mw md mc S) → va_S A s.heap H locs → lv_has ls 6 [(0, .ref (md 100)), (1, .int x1), (2, .int x2), (3, .int x3)] → W p l e ({ frames := 3, cells := 0, slots := 0, locals := 71 }) s m args below meth c H locs 0 0 Q (F0 m 0 ls []) := by
  intro H locs ls hP hD hS hl
  obtain ⟨hx, hb, hr, hml, hown, hts, hK, hA⟩ := id hC
  unfold m_rat_J0 at Heq
  refine lv_aload_n hx hb d_rat_0 rfl (lv_at hl 0 rfl) ?_
  refine lv_iload_n hx hb d_rat_1 rfl (lv_at hl 1 rfl) ?_
  refine lv_iload_n hx hb d_rat_2 rfl (lv_at hl 2 rfl) ?_
  obtain ⟨o_1, h_2, Heq⟩ := ob_some Heq
  have hFc := fr_all hD hS hA
  refine va_callv (va_runV (As := [.int x1, .int x2]) (rest := []) ⟨hx, hb, hml, hown, hts⟩ (g_rlist l D H.size h_2) (cw_v 2 hts kw_1717 kw_1714 kw_1716 kp_47 kw_11 rfl rfl (by decide +kernel) ⟨Nat.le_of_ble_eq_true rfl, Nat.le_of_ble_eq_true rfl⟩) ⟨g_blind, va_recv hK hP (ci := 12) (q0 := 0) rfl rfl, fun U hU hW => g_pre hU hW hP hK hD⟩ rfl rfl hl.1 rfl (lv_room (Nat.le_of_ble_eq_true rfl)) d_rat_3 ⟨Nat.le_of_ble_eq_true rfl, Nat.le_of_ble_eq_true rfl⟩) hS (fun q _ h => hFc q h) hFc (fun u t H1 locs ht hvm hw hB hz1 hk1 hS => ?_)
  obtain ⟨hP, -, hD1⟩ := hB
  rw [ht] at hP
  have hD := hD1.weaken (fun _ q _ h => hFc q.1 h)
  generalize H1 = H at hP hS ⊢
  refine W.cs (cells' := 0) (slots' := 0) rfl rfl ?_
  refine lv_aload_n hx hb d_rat_6 rfl (lv_at hl 0 rfl) ?_
  refine lv_iload_n hx hb d_rat_7 rfl (lv_at hl 1 rfl) ?_
  refine lv_iload_n hx hb d_rat_8 rfl (lv_at hl 2 rfl) ?_
  obtain ⟨o_3, h_4, Heq⟩ := ob_some Heq
  have hFc := fr_all hD hS hA
  refine va_callv (va_runV (As := [.int x1, .int x2]) (rest := []) ⟨hx, hb, hml, hown, hts⟩ (g_rmark l D H.size h_4) (cw_v 2 hts kw_1721 kw_1718 kw_1720 kp_48 kw_11 rfl rfl (by decide +kernel) ⟨Nat.le_of_ble_eq_true rfl, Nat.le_of_ble_eq_true rfl⟩) ⟨g_blind, va_recv hK hP (ci := 12) (q0 := 0) rfl rfl, fun U hU hW => g_pre hU hW hP hK hD⟩ rfl rfl hl.1 rfl (lv_room (Nat.le_of_ble_eq_true rfl)) d_rat_9 ⟨Nat.le_of_ble_eq_true rfl, Nat.le_of_ble_eq_true rfl⟩) hS (fun q _ h => hFc q h) hFc (fun u t H1 locs ht hvm hw hB hz1 hk1 hS => ?_)
  obtain ⟨hP, -, hD1⟩ := hB
  rw [ht] at hP
  have hD := hD1.weaken (fun _ q _ h => hFc q.1 h)
  generalize H1 = H at hP hS ⊢
  refine W.cs (cells' := 0) (slots' := 0) rfl rfl ?_
  refine lv_iconst (v := 0) hx hb d_rat_12 (by decide) ?_
  refine lv_istore (lv' := [(4, .int 0), (0, .ref (md 100)), (1, .int x1), (2, .int x2), (3, .int x3)]) hx hb d_rat_13 hl (by decide) rfl (fun ls hl => ?_)
  refine lv_iconst (v := 0) hx hb d_rat_15 (by decide) ?_
  refine lv_istore (lv' := [(5, .int 0), (4, .int 0), (0, .ref (md 100)), (1, .int x1), (2, .int x2), (3, .int x3)]) hx hb d_rat_16 hl (by decide) rfl (fun ls hl => ?_)
  rcases oe_some Heq with ⟨b_5, h_6, Heq⟩ | ⟨r_7, h_6, Heq⟩
  · refine w_rat_L18 hC h_6 (fun b h => ?_) (fun r h => by cases h) _ _ _ hP hD hS (lv_sub hl [2, 5, 1, 0] rfl)
    cases h
    intro H locs ls hP hD hS hl
    refine lv_iconst (v := (-1)) hx hb d_rat_58 (by decide) ?_
    exact Kr _ (Option.some.inj Heq).symm 59 _ _ _ d_rat_59 hP hD hS
  · refine w_rat_L18 hC h_6 (fun b h => by cases h) (fun r h => ?_) _ _ _ hP hD hS (lv_sub hl [2, 5, 1, 0] rfl)
    cases h
    exact Kr _ (Option.some.inj Heq).symm
def m_rat (S : MS) (x1 : Int32) (x2 : Int32) (x3 : Int32) : Option (MS × Int32) := m_rat_J0 S x1 x2 x3
theorem g_rat (l : Launch) (D : va_G) (sz : Nat) {md : Nat → Nat} {mc : Nat → ClassId} {S : MS} {x1 : Int32} {x2 : Int32} {x3 : Int32} {o : MS × Int32} (Heq : m_rat S x1 x2 x3 = some o) : Met l ⟨"JoinedTreesModel", "at", "(III)I"⟩ (Cond.code ⟨"JoinedTreesModel", "at", "(III)I"⟩ prog_14_method_19_code 6 (some .int) :: gb) ({ frames := 3, cells := 0, slots := 0, locals := 71 }) (gPc D (mw md mc S) (mty mc) sz [.ref (md 100), .int x1, .int x2, .int x3]) (va_Qi (fun (r : Int32) (_ : Unit) => r = o.2) (fun _ t => gO D (mw md mc o.1) (mty mc) (va_A (mw md mc S) sz) t) (va_A (mw md mc S) sz)) 0 0 (va_A (mw md mc S) sz) := by
  refine Met.ofW (cc := prog_14_method_19_code) (maxL := 6) (ret := (some .int)) (by decide) rfl ?_
  intro p e s m args below meth c s₁ B hml hv
  obtain ⟨rfl, hsz, hP, hK, hD0⟩ := hv
  have hx := B.exec
  have hb := B.bytes
  have hr := B.returns
  have hts : ∀ w9 ∈ gb, w9.before [.ref (md 100), .int x1, .int x2, .int x3].toArray s = true := fun w9 h => atoms_spec (ws := Cond.code ⟨"JoinedTreesModel", "at", "(III)I"⟩ prog_14_method_19_code 6 (some .int) :: gb) B.pre w9 (List.mem_cons_of_mem _ h)
  have hown : s.vm.findClass "JoinedTreesModel" = some m.cls := findClass_of_methodNamed B.named
  have hlocks := B.notSynchronized
  subst hsz
  have hD := hD0.self (sz := s.heap.size)
  generalize hAe : va_A (mw md mc S) s.heap.size = A at hD ⊢
  have hA : ∀ q : Nat, s.heap.size ≤ q → A q := fun q h => by rw [← hAe]; exact Or.inr h
  have hS : va_S A s.heap s.heap [] := va_S.rf
  have hl := lv_entry ([.ref (md 100), .int x1, .int x2, .int x3]) (n := 6) (Nat.le_of_ble_eq_true rfl)
  rw [lg_entry_eq]
  generalize (lg_sl ([.ref (md 100), .int x1, .int x2, .int x3]) ++ List.replicate (6 - (lg_sl ([.ref (md 100), .int x1, .int x2, .int x3])).length) Slot.unset).toArray = ls at hl ⊢
  have hl : lv_has ls 6 [(0, .ref (md 100)), (1, .int x1), (2, .int x2), (3, .int x3)] := hl
  refine w_rat_J0 ⟨hx, hb, hr, hml, hown, hts, hK, hA⟩ Heq (fun r h pc H locs ls hd hP hD hS => ?_) _ _ _ hP hD hS (lv_sub hl [0, 1, 2, 3] rfl)
  subst h
  exact W.iret hx hb hr (fun t ht hW => ⟨⟨_, (), rfl, rfl, by rw [ht]; exact hP, va_K.moved hW.alike hK, hD⟩, hS.F ht⟩) hS.2.2 hd
def m_rindices_J39 (S : MS) (x3 : Int32) (x4 : Int32) : Option ((MS × Int32 × Int32) ⊕ (MS × Int32)) := some (.inl (S, x3, (x4 + 1)))
theorem d_rindices_0 : decode prog_14_method_20_code 0 = .ok (.aload_n 0, 1) := by decide +kernel
theorem d_rindices_1 : decode prog_14_method_20_code 1 = .ok (.iload_n 1, 1) := by decide +kernel
theorem d_rindices_2 : decode prog_14_method_20_code 2 = .ok (.iload_n 2, 1) := by decide +kernel
theorem d_rindices_3 : decode prog_14_method_20_code 3 = .ok (.invokevirtual 223, 3) := by decide +kernel
theorem d_rindices_6 : decode prog_14_method_20_code 6 = .ok (.aload_n 0, 1) := by decide +kernel
theorem d_rindices_7 : decode prog_14_method_20_code 7 = .ok (.iload_n 1, 1) := by decide +kernel
theorem d_rindices_8 : decode prog_14_method_20_code 8 = .ok (.iload_n 2, 1) := by decide +kernel
theorem d_rindices_9 : decode prog_14_method_20_code 9 = .ok (.invokevirtual 227, 3) := by decide +kernel
theorem d_rindices_12 : decode prog_14_method_20_code 12 = .ok (.iconst 0, 1) := by decide +kernel
theorem d_rindices_13 : decode prog_14_method_20_code 13 = .ok (.istore_n 3, 1) := by decide +kernel
theorem d_rindices_14 : decode prog_14_method_20_code 14 = .ok (.iconst 0, 1) := by decide +kernel
theorem d_rindices_15 : decode prog_14_method_20_code 15 = .ok (.istore 4, 2) := by decide +kernel
theorem d_rindices_17 : decode prog_14_method_20_code 17 = .ok (.iload 4, 2) := by decide +kernel
theorem d_rindices_19 : decode prog_14_method_20_code 19 = .ok (.aload_n 0, 1) := by decide +kernel
theorem d_rindices_20 : decode prog_14_method_20_code 20 = .ok (.getfield 220, 3) := by decide +kernel
theorem d_rindices_23 : decode prog_14_method_20_code 23 = .ok (.if_icmp .ge 22, 3) := by decide +kernel
theorem d_rindices_26 : decode prog_14_method_20_code 26 = .ok (.aload_n 0, 1) := by decide +kernel
theorem d_rindices_27 : decode prog_14_method_20_code 27 = .ok (.getfield 130, 3) := by decide +kernel
theorem d_rindices_30 : decode prog_14_method_20_code 30 = .ok (.iload 4, 2) := by decide +kernel
theorem d_rindices_32 : decode prog_14_method_20_code 32 = .ok (.baload, 1) := by decide +kernel
theorem d_rindices_33 : decode prog_14_method_20_code 33 = .ok (.ifCond .eq 6, 3) := by decide +kernel
theorem d_rindices_39 : decode prog_14_method_20_code 39 = .ok (.iinc 4 1, 3) := by decide +kernel
theorem d_rindices_42 : decode prog_14_method_20_code 42 = .ok (.goto (-25), 3) := by decide +kernel
set_option maxHeartbeats 4000000 in
set_option maxRecDepth 100000 in
theorem w_rindices_J39 {p : Program} {l : Launch} {e : Env} {s : State} {m : MethodId} {args : Array Value} {below : List Frame} {meth : Method} {c : Code} {A : Nat → Prop} {D : va_G} {md : Nat → Nat} {mc : Nat → ClassId} {Q : State → Prop} (hC : MCx "JoinedTreesModel" prog_14_method_20_code 5 (some .int) p s m args meth c A D mc) {S : MS} {x3 : Int32} {x4 : Int32} {o : ((MS × Int32 × Int32) ⊕ (MS × Int32))} (Heq : m_rindices_J39 S x3 x4 = some o) (Ka : ∀ b : MS × Int32 × Int32, o = .inl b → ∀ (H : Heap) (locs : List Loc) (ls : Array Slot), va_P D cls (mw md mc b.1) H → va_D A (mw md mc b.1) → va_S A s.heap H locs → lv_has ls 5 [(0, .ref (md 100)), (3, .int b.2.1), (4, .int b.2.2)] → W p l e ({ frames := 3, cells := 0, slots := 0, locals := 71 }) s m args below meth c H locs 0 0 Q (F0 m 17 ls [])) (K0 : ∀ b : MS × Int32, o = .inr b → ∀ (H : Heap) (locs : List Loc) (ls : Array Slot), va_P D cls (mw md mc b.1) H → va_D A (mw md mc b.1) → va_S A s.heap H locs → lv_has ls 5 [(0, .ref (md 100)), (3, .int b.2)] → W p l e ({ frames := 3, cells := 0, slots := 0, locals := 71 }) s m args below meth c H locs 0 0 Q (F0 m 45 ls [])) : ∀ (H : Heap) (locs : List Loc) (ls : Array Slot), va_P D cls (mw md mc S) H → va_D A (mw md mc S) → va_S A s.heap H locs → lv_has ls 5 [(0, .ref (md 100)), (3, .int x3), (4, .int x4)] → W p l e ({ frames := 3, cells := 0, slots := 0, locals := 71 }) s m args below meth c H locs 0 0 Q (F0 m 39 ls []) := by
  intro H locs ls hP hD hS hl
  obtain ⟨hx, hb, hr, hml, hown, hts, hK, hA⟩ := id hC
  unfold m_rindices_J39 at Heq
  refine lv_iinc (v := x4 + 1) (lv' := [(4, .int (x4 + 1)), (0, .ref (md 100)), (3, .int x3)]) hx hb d_rindices_39 hl (k := 2) rfl rfl (by decide) rfl (fun ls hl => ?_)
  refine lv_goto (tgt := 17) hx hb d_rindices_42 (by decide) ?_
  exact Ka _ (Option.some.inj Heq).symm _ _ _ hP hD hS (lv_sub hl [1, 2, 0] rfl)
def m_rindices_B17 (S : MS) (x3 : Int32) (x4 : Int32) : Option ((MS × Int32 × Int32) ⊕ (MS × Int32)) := (if S.i 50 ≤ x4 then some (.inr (S, x3)) else gd x4 4000 ((if S.a 51 x4.toNatClampNeg = 0 then m_rindices_J39 S x3 x4 else m_rindices_J39 S (x3 + 1) x4)))
theorem d_rindices_36 : decode prog_14_method_20_code 36 = .ok (.iinc 3 1, 3) := by decide +kernel
set_option maxHeartbeats 4000000 in
set_option maxRecDepth 100000 in
theorem w_rindices_B17 {p : Program} {l : Launch} {e : Env} {s : State} {m : MethodId} {args : Array Value} {below : List Frame} {meth : Method} {c : Code} {A : Nat → Prop} {D : va_G} {md : Nat → Nat} {mc : Nat → ClassId} {Q : State → Prop} (hC : MCx "JoinedTreesModel" prog_14_method_20_code 5 (some .int) p s m args meth c A D mc) {S : MS} {x3 : Int32} {x4 : Int32} {o : ((MS × Int32 × Int32) ⊕ (MS × Int32))} (Heq : m_rindices_B17 S x3 x4 = some o) (Ka : ∀ b : MS × Int32 × Int32, o = .inl b → ∀ (H : Heap) (locs : List Loc) (ls : Array Slot), va_P D cls (mw md mc b.1) H → va_D A (mw md mc b.1) → va_S A s.heap H locs → lv_has ls 5 [(0, .ref (md 100)), (3, .int b.2.1), (4, .int b.2.2)] → W p l e ({ frames := 3, cells := 0, slots := 0, locals := 71 }) s m args below meth c H locs 0 0 Q (F0 m 17 ls [])) (K0 : ∀ b : MS × Int32, o = .inr b → ∀ (H : Heap) (locs : List Loc) (ls : Array Slot), va_P D cls (mw md mc b.1) H → va_D A (mw md mc b.1) → va_S A s.heap H locs → lv_has ls 5 [(0, .ref (md 100)), (3, .int b.2)] → W p l e ({ frames := 3, cells := 0, slots := 0, locals := 71 }) s m args below meth c H locs 0 0 Q (F0 m 45 ls [])) : ∀ (H : Heap) (locs : List Loc) (ls : Array Slot), va_P D cls (mw md mc S) H → va_D A (mw md mc S) → va_S A s.heap H locs → lv_has ls 5 [(0, .ref (md 100)), (3, .int x3), (4, .int x4)] → W p l e ({ frames := 3, cells := 0, slots := 0, locals := 71 }) s m args below meth c H locs 0 0 Q (F0 m 17 ls []) := by
  intro H locs ls hP hD hS hl
  obtain ⟨hx, hb, hr, hml, hown, hts, hK, hA⟩ := id hC
  unfold m_rindices_B17 at Heq
  refine lv_iload hx hb d_rindices_17 (lv_at hl 2 rfl) ?_
  refine lv_aload_n hx hb d_rindices_19 rfl (lv_at hl 0 rfl) ?_
  refine va_get (D := D) (ci := 12) (v := .int (S.i 50)) (C := R_MM) (T := F_MM) (N := 77) hx hb hts i_MM hown hK hP 0 rfl rfl 50 (by decide) (hts _ kw_1432) (fun _ h9 => h9) rfl d_rindices_20 ?_
  refine lv_icmp_ge (tgt := 45) hx hb d_rindices_23 (by decide) (fun c_1 => ?_) (fun c_1 => ?_)
  · replace Heq := (if_pos c_1).symm.trans Heq
    exact K0 _ (Option.some.inj Heq).symm _ _ _ hP hD hS (lv_sub hl [0, 1] rfl)
  · replace Heq := (if_neg c_1).symm.trans Heq
    refine lv_aload_n hx hb d_rindices_26 rfl (lv_at hl 0 rfl) ?_
    refine va_get (D := D) (ci := 12) (v := .ref (md 51)) (C := R_MM) (T := F_MM) (N := 77) hx hb hts i_MM hown hK hP 0 rfl rfl 51 (by decide) (hts _ kw_1433) (fun _ h9 => h9) rfl d_rindices_27 ?_
    refine lv_iload hx hb d_rindices_30 (lv_at hl 2 rfl) ?_
    obtain ⟨hi_2, Heq⟩ := gd_some Heq
    refine va_zald hx hb hK hP 34 2 rfl rfl (i := x4) hi_2 d_rindices_32 ?_
    refine w_i (y := S.a 51 x4.toNatClampNeg) rfl ?_
    refine lv_if_eq (tgt := 39) hx hb d_rindices_33 (by decide) (fun c_3 => ?_) (fun c_3 => ?_)
    · replace Heq := (if_pos c_3).symm.trans Heq
      exact w_rindices_J39 hC Heq Ka K0 _ _ _ hP hD hS (lv_sub hl [0, 1, 2] rfl)
    · replace Heq := (if_neg c_3).symm.trans Heq
      refine lv_iinc (v := x3 + 1) (lv' := [(3, .int (x3 + 1)), (0, .ref (md 100)), (4, .int x4)]) hx hb d_rindices_36 hl (k := 1) rfl rfl (by decide) rfl (fun ls hl => ?_)
      exact w_rindices_J39 hC Heq Ka K0 _ _ _ hP hD hS (lv_sub hl [1, 0, 2] rfl)
def m_rindices_L17 (S : MS) (x3 : Int32) (x4 : Int32) : Option (MS × Int32) := lp (fun a : MS × Int32 × Int32 => m_rindices_B17 a.1 a.2.1 a.2.2) FU (S, x3, x4)
theorem w_rindices_L17 {p : Program} {l : Launch} {e : Env} {s : State} {m : MethodId} {args : Array Value} {below : List Frame} {meth : Method} {c : Code} {A : Nat → Prop} {D : va_G} {md : Nat → Nat} {mc : Nat → ClassId} {Q : State → Prop} (hC : MCx "JoinedTreesModel" prog_14_method_20_code 5 (some .int) p s m args meth c A D mc) {S : MS} {x3 : Int32} {x4 : Int32} {o : MS × Int32} (Heq : m_rindices_L17 S x3 x4 = some o) (K0 : ∀ b : MS × Int32, o = b → ∀ (H : Heap) (locs : List Loc) (ls : Array Slot), va_P D cls (mw md mc b.1) H → va_D A (mw md mc b.1) → va_S A s.heap H locs → lv_has ls 5 [(0, .ref (md 100)), (3, .int b.2)] → W p l e ({ frames := 3, cells := 0, slots := 0, locals := 71 }) s m args below meth c H locs 0 0 Q (F0 m 45 ls [])) : ∀ (H : Heap) (locs : List Loc) (ls : Array Slot), va_P D cls (mw md mc S) H → va_D A (mw md mc S) → va_S A s.heap H locs → lv_has ls 5 [(0, .ref (md 100)), (3, .int x3), (4, .int x4)] → W p l e ({ frames := 3, cells := 0, slots := 0, locals := 71 }) s m args below meth c H locs 0 0 Q (F0 m 17 ls []) := by
  refine lp_w (G := fun a : MS × Int32 × Int32 => ∀ (H : Heap) (locs : List Loc) (ls : Array Slot), va_P D cls (mw md mc a.1) H → va_D A (mw md mc a.1) → va_S A s.heap H locs → lv_has ls 5 [(0, .ref (md 100)), (3, .int a.2.1), (4, .int a.2.2)] → W p l e ({ frames := 3, cells := 0, slots := 0, locals := 71 }) s m args below meth c H locs 0 0 Q (F0 m 17 ls [])) ?_ FU (S, x3, x4) Heq
  intro a o1 ho Ka Ke
  exact w_rindices_B17 hC ho (fun b h => Ka b h) (fun b h => K0 b (Ke _ h).symm)
def m_rindices_J0 (S : MS) (x1 : Int32) (x2 : Int32) : Option (MS × Int32) := ob (m_rlist S x1 x2) (fun o_1 => ob (m_rmark o_1 x1 x2) (fun o_3 => ob (m_rindices_L17 o_3 0 0) (fun b_5 => some (b_5.1, b_5.2))))
theorem d_rindices_45 : decode prog_14_method_20_code 45 = .ok (.iload_n 3, 1) := by decide +kernel
theorem d_rindices_46 : decode prog_14_method_20_code 46 = .ok (.ireturn, 1) := by decide +kernel
set_option maxHeartbeats 4000000 in
set_option maxRecDepth 100000 in
theorem w_rindices_J0 {p : Program} {l : Launch} {e : Env} {s : State} {m : MethodId} {args : Array Value} {below : List Frame} {meth : Method} {c : Code} {A : Nat → Prop} {D : va_G} {md : Nat → Nat} {mc : Nat → ClassId} {Q : State → Prop} (hC : MCx "JoinedTreesModel" prog_14_method_20_code 5 (some .int) p s m args meth c A D mc) {S : MS} {x1 : Int32} {x2 : Int32} {o : MS × Int32} (Heq : m_rindices_J0 S x1 x2 = some o) (Kr : ∀ r : MS × Int32, o = r → ∀ (pc : Nat) (H : Heap) (locs : List Loc) (ls : Array Slot), decode prog_14_method_20_code pc = .ok (.ireturn, 1) → va_P D cls (mw md mc r.1) H → va_D A (mw md mc r.1) → va_S A s.heap H locs → W p l e ({ frames := 3, cells := 0, slots := 0, locals := 71 }) s m args below meth c H locs 0 0 Q (F0 m pc ls [.int r.2])) : ∀ (H : Heap) (locs : List Loc) (ls : Array Slot), va_P D cls (mw md mc S) H → va_D A (mw md mc S) → va_S A s.heap H locs → lv_has ls 5 [(0, .ref (md 100)), (1, .int x1), (2, .int x2)] → W p l e ({ frames := 3, cells := 0, slots := 0, locals := 71 }) s m args below meth c H locs 0 0 Q (F0 m 0 ls []) := by
  intro H locs ls hP hD hS hl
  obtain ⟨hx, hb, hr, hml, hown, hts, hK, hA⟩ := id hC
  unfold m_rindices_J0 at Heq
  refine lv_aload_n hx hb d_rindices_0 rfl (lv_at hl 0 rfl) ?_
  refine lv_iload_n hx hb d_rindices_1 rfl (lv_at hl 1 rfl) ?_
  refine lv_iload_n hx hb d_rindices_2 rfl (lv_at hl 2 rfl) ?_
  obtain ⟨o_1, h_2, Heq⟩ := ob_some Heq
  have hFc := fr_all hD hS hA
  refine va_callv (va_runV (As := [.int x1, .int x2]) (rest := []) ⟨hx, hb, hml, hown, hts⟩ (g_rlist l D H.size h_2) (cw_v 2 hts kw_1717 kw_1714 kw_1716 kp_47 kw_11 rfl rfl (by decide +kernel) ⟨Nat.le_of_ble_eq_true rfl, Nat.le_of_ble_eq_true rfl⟩) ⟨g_blind, va_recv hK hP (ci := 12) (q0 := 0) rfl rfl, fun U hU hW => g_pre hU hW hP hK hD⟩ rfl rfl hl.1 rfl (lv_room (Nat.le_of_ble_eq_true rfl)) d_rindices_3 ⟨Nat.le_of_ble_eq_true rfl, Nat.le_of_ble_eq_true rfl⟩) hS (fun q _ h => hFc q h) hFc (fun u t H1 locs ht hvm hw hB hz1 hk1 hS => ?_)
  obtain ⟨hP, -, hD1⟩ := hB
  rw [ht] at hP
  have hD := hD1.weaken (fun _ q _ h => hFc q.1 h)
  generalize H1 = H at hP hS ⊢
  refine W.cs (cells' := 0) (slots' := 0) rfl rfl ?_
  refine lv_aload_n hx hb d_rindices_6 rfl (lv_at hl 0 rfl) ?_
  refine lv_iload_n hx hb d_rindices_7 rfl (lv_at hl 1 rfl) ?_
  refine lv_iload_n hx hb d_rindices_8 rfl (lv_at hl 2 rfl) ?_
  obtain ⟨o_3, h_4, Heq⟩ := ob_some Heq
  have hFc := fr_all hD hS hA
  refine va_callv (va_runV (As := [.int x1, .int x2]) (rest := []) ⟨hx, hb, hml, hown, hts⟩ (g_rmark l D H.size h_4) (cw_v 2 hts kw_1721 kw_1718 kw_1720 kp_48 kw_11 rfl rfl (by decide +kernel) ⟨Nat.le_of_ble_eq_true rfl, Nat.le_of_ble_eq_true rfl⟩) ⟨g_blind, va_recv hK hP (ci := 12) (q0 := 0) rfl rfl, fun U hU hW => g_pre hU hW hP hK hD⟩ rfl rfl hl.1 rfl (lv_room (Nat.le_of_ble_eq_true rfl)) d_rindices_9 ⟨Nat.le_of_ble_eq_true rfl, Nat.le_of_ble_eq_true rfl⟩) hS (fun q _ h => hFc q h) hFc (fun u t H1 locs ht hvm hw hB hz1 hk1 hS => ?_)
  obtain ⟨hP, -, hD1⟩ := hB
  rw [ht] at hP
  have hD := hD1.weaken (fun _ q _ h => hFc q.1 h)
  generalize H1 = H at hP hS ⊢
  refine W.cs (cells' := 0) (slots' := 0) rfl rfl ?_
  refine lv_iconst (v := 0) hx hb d_rindices_12 (by decide) ?_
  refine lv_istore_n (lv' := [(3, .int 0), (0, .ref (md 100)), (1, .int x1), (2, .int x2)]) hx hb d_rindices_13 rfl hl (by decide) rfl (fun ls hl => ?_)
  refine lv_iconst (v := 0) hx hb d_rindices_14 (by decide) ?_
  refine lv_istore (lv' := [(4, .int 0), (3, .int 0), (0, .ref (md 100)), (1, .int x1), (2, .int x2)]) hx hb d_rindices_15 hl (by decide) rfl (fun ls hl => ?_)
  obtain ⟨b_5, h_6, Heq⟩ := ob_some Heq
  refine w_rindices_L17 hC h_6 (fun b h => ?_) _ _ _ hP hD hS (lv_sub hl [2, 1, 0] rfl)
  subst h
  intro H locs ls hP hD hS hl
  refine lv_iload_n hx hb d_rindices_45 rfl (lv_at hl 1 rfl) ?_
  exact Kr _ (Option.some.inj Heq).symm 46 _ _ _ d_rindices_46 hP hD hS
def m_rindices (S : MS) (x1 : Int32) (x2 : Int32) : Option (MS × Int32) := m_rindices_J0 S x1 x2
theorem g_rindices (l : Launch) (D : va_G) (sz : Nat) {md : Nat → Nat} {mc : Nat → ClassId} {S : MS} {x1 : Int32} {x2 : Int32} {o : MS × Int32} (Heq : m_rindices S x1 x2 = some o) : Met l ⟨"JoinedTreesModel", "indices", "(II)I"⟩ (Cond.code ⟨"JoinedTreesModel", "indices", "(II)I"⟩ prog_14_method_20_code 5 (some .int) :: gb) ({ frames := 3, cells := 0, slots := 0, locals := 71 }) (gPc D (mw md mc S) (mty mc) sz [.ref (md 100), .int x1, .int x2]) (va_Qi (fun (r : Int32) (_ : Unit) => r = o.2) (fun _ t => gO D (mw md mc o.1) (mty mc) (va_A (mw md mc S) sz) t) (va_A (mw md mc S) sz)) 0 0 (va_A (mw md mc S) sz) := by
  refine Met.ofW (cc := prog_14_method_20_code) (maxL := 5) (ret := (some .int)) (by decide) rfl ?_
  intro p e s m args below meth c s₁ B hml hv
  obtain ⟨rfl, hsz, hP, hK, hD0⟩ := hv
  have hx := B.exec
  have hb := B.bytes
  have hr := B.returns
  have hts : ∀ w9 ∈ gb, w9.before [.ref (md 100), .int x1, .int x2].toArray s = true := fun w9 h => atoms_spec (ws := Cond.code ⟨"JoinedTreesModel", "indices", "(II)I"⟩ prog_14_method_20_code 5 (some .int) :: gb) B.pre w9 (List.mem_cons_of_mem _ h)
  have hown : s.vm.findClass "JoinedTreesModel" = some m.cls := findClass_of_methodNamed B.named
  have hlocks := B.notSynchronized
  subst hsz
  have hD := hD0.self (sz := s.heap.size)
  generalize hAe : va_A (mw md mc S) s.heap.size = A at hD ⊢
  have hA : ∀ q : Nat, s.heap.size ≤ q → A q := fun q h => by rw [← hAe]; exact Or.inr h
  have hS : va_S A s.heap s.heap [] := va_S.rf
  have hl := lv_entry ([.ref (md 100), .int x1, .int x2]) (n := 5) (Nat.le_of_ble_eq_true rfl)
  rw [lg_entry_eq]
  generalize (lg_sl ([.ref (md 100), .int x1, .int x2]) ++ List.replicate (5 - (lg_sl ([.ref (md 100), .int x1, .int x2])).length) Slot.unset).toArray = ls at hl ⊢
  have hl : lv_has ls 5 [(0, .ref (md 100)), (1, .int x1), (2, .int x2)] := hl
  refine w_rindices_J0 ⟨hx, hb, hr, hml, hown, hts, hK, hA⟩ Heq (fun r h pc H locs ls hd hP hD hS => ?_) _ _ _ hP hD hS (lv_sub hl [0, 1, 2] rfl)
  subst h
  exact W.iret hx hb hr (fun t ht hW => ⟨⟨_, (), rfl, rfl, by rw [ht]; exact hP, va_K.moved hW.alike hK, hD⟩, hS.F ht⟩) hS.2.2 hd
