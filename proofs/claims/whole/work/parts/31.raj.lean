def m_rdrop_J60 (S : MS) (x1 : Int32) (x2 : Int32) (x3 : Int32) : Option ((MS × Int32 × Int32 × Int32) ⊕ (MS × Int32)) := some (.inl (S, x1, x2, (x3 + 1)))
theorem d_rdrop_0 : decode prog_14_method_54_code 0 = .ok (.iload_n 1, 1) := by decide +kernel
theorem d_rdrop_1 : decode prog_14_method_54_code 1 = .ok (.invokestatic 251, 3) := by decide +kernel
theorem d_rdrop_4 : decode prog_14_method_54_code 4 = .ok (.ifCond .ne 9, 3) := by decide +kernel
theorem d_rdrop_13 : decode prog_14_method_54_code 13 = .ok (.aload_n 0, 1) := by decide +kernel
theorem d_rdrop_14 : decode prog_14_method_54_code 14 = .ok (.iconst 0, 1) := by decide +kernel
theorem d_rdrop_15 : decode prog_14_method_54_code 15 = .ok (.putfield 176, 3) := by decide +kernel
theorem d_rdrop_18 : decode prog_14_method_54_code 18 = .ok (.aload_n 0, 1) := by decide +kernel
theorem d_rdrop_19 : decode prog_14_method_54_code 19 = .ok (.iload_n 1, 1) := by decide +kernel
theorem d_rdrop_20 : decode prog_14_method_54_code 20 = .ok (.invokevirtual 387, 3) := by decide +kernel
theorem d_rdrop_23 : decode prog_14_method_54_code 23 = .ok (.istore_n 2, 1) := by decide +kernel
theorem d_rdrop_24 : decode prog_14_method_54_code 24 = .ok (.iconst 0, 1) := by decide +kernel
theorem d_rdrop_25 : decode prog_14_method_54_code 25 = .ok (.istore_n 3, 1) := by decide +kernel
theorem d_rdrop_26 : decode prog_14_method_54_code 26 = .ok (.iload_n 3, 1) := by decide +kernel
theorem d_rdrop_27 : decode prog_14_method_54_code 27 = .ok (.aload_n 0, 1) := by decide +kernel
theorem d_rdrop_28 : decode prog_14_method_54_code 28 = .ok (.getfield 195, 3) := by decide +kernel
theorem d_rdrop_31 : decode prog_14_method_54_code 31 = .ok (.if_icmp .ge 35, 3) := by decide +kernel
theorem d_rdrop_34 : decode prog_14_method_54_code 34 = .ok (.aload_n 0, 1) := by decide +kernel
theorem d_rdrop_35 : decode prog_14_method_54_code 35 = .ok (.getfield 35, 3) := by decide +kernel
theorem d_rdrop_38 : decode prog_14_method_54_code 38 = .ok (.iload_n 3, 1) := by decide +kernel
theorem d_rdrop_39 : decode prog_14_method_54_code 39 = .ok (.iaload, 1) := by decide +kernel
theorem d_rdrop_40 : decode prog_14_method_54_code 40 = .ok (.ifCond .ge 20, 3) := by decide +kernel
theorem d_rdrop_60 : decode prog_14_method_54_code 60 = .ok (.iinc 3 1, 3) := by decide +kernel
theorem d_rdrop_63 : decode prog_14_method_54_code 63 = .ok (.goto (-37), 3) := by decide +kernel
set_option maxHeartbeats 4000000 in
set_option maxRecDepth 100000 in
theorem w_rdrop_J60 {p : Program} {l : Launch} {e : Env} {s : State} {m : MethodId} {args : Array Value} {below : List Frame} {meth : Method} {c : Code} {A : Nat → Prop} {D : va_G} {md : Nat → Nat} {mc : Nat → ClassId} {Q : State → Prop} (hC : MCx "JoinedTreesModel" prog_14_method_54_code 4 (some .int) p s m args meth c A D mc) {S : MS} {x1 : Int32} {x2 : Int32} {x3 : Int32} {o : ((MS × Int32 × Int32 × Int32) ⊕ (MS × Int32))} (Heq : m_rdrop_J60 S x1 x2 x3 = some o) (Ka : ∀ b : MS × Int32 × Int32 × Int32, o = .inl b → ∀ (H : Heap) (locs : List Loc) (ls : Array Slot), va_P D cls (mw md mc b.1) H → va_D A (mw md mc b.1) → va_S A s.heap H locs → lv_has ls 4 [(0, .ref (md 100)), (1, .int b.2.1), (2, .int b.2.2.1), (3, .int b.2.2.2)] → W p l e ({ frames := 1, cells := 0, slots := 0, locals := 23 }) s m args below meth c H locs 0 0 Q (F0 m 26 ls [])) (K0 : ∀ b : MS × Int32, o = .inr b → ∀ (H : Heap) (locs : List Loc) (ls : Array Slot), va_P D cls (mw md mc b.1) H → va_D A (mw md mc b.1) → va_S A s.heap H locs → lv_has ls 4 [(0, .ref (md 100)), (2, .int b.2)] → W p l e ({ frames := 1, cells := 0, slots := 0, locals := 23 }) s m args below meth c H locs 0 0 Q (F0 m 66 ls [])) : ∀ (H : Heap) (locs : List Loc) (ls : Array Slot), va_P D cls (mw md mc S) H → va_D A (mw md mc S) → va_S A s.heap H locs → lv_has ls 4 [(0, .ref (md 100)), (1, .int x1), (2, .int x2), (3, .int x3)] → W p l e ({ frames := 1, cells := 0, slots := 0, locals := 23 }) s m args below meth c H locs 0 0 Q (F0 m 60 ls []) := by
  intro H locs ls hP hD hS hl
  obtain ⟨hx, hb, hr, hml, hown, hts, hK, hA⟩ := id hC
  unfold m_rdrop_J60 at Heq
  refine lv_iinc (v := x3 + 1) (lv' := [(3, .int (x3 + 1)), (0, .ref (md 100)), (1, .int x1), (2, .int x2)]) hx hb d_rdrop_60 hl (k := 3) rfl rfl (by decide) rfl (fun ls hl => ?_)
  refine lv_goto (tgt := 26) hx hb d_rdrop_63 (by decide) ?_
  exact Ka _ (Option.some.inj Heq).symm _ _ _ hP hD hS (lv_sub hl [1, 2, 3, 0] rfl)
def m_rdrop_B26 (S : MS) (x1 : Int32) (x2 : Int32) (x3 : Int32) : Option ((MS × Int32 × Int32 × Int32) ⊕ (MS × Int32)) := (if S.i 23 ≤ x3 then some (.inr (S, x2)) else gd x3 4000 ((if 0 ≤ S.a 13 x3.toNatClampNeg then m_rdrop_J60 S x1 x2 x3 else gd x3 4000 ((if S.a 12 x3.toNatClampNeg = x1 then gd x3 4000 (m_rdrop_J60 (S.setA 21 (upd (S.a 21) x3.toNatClampNeg (vp_nar .boolean 1))) x1 x2 x3) else m_rdrop_J60 S x1 x2 x3)))))
theorem d_rdrop_43 : decode prog_14_method_54_code 43 = .ok (.aload_n 0, 1) := by decide +kernel
theorem d_rdrop_44 : decode prog_14_method_54_code 44 = .ok (.getfield 32, 3) := by decide +kernel
theorem d_rdrop_47 : decode prog_14_method_54_code 47 = .ok (.iload_n 3, 1) := by decide +kernel
theorem d_rdrop_48 : decode prog_14_method_54_code 48 = .ok (.iaload, 1) := by decide +kernel
theorem d_rdrop_49 : decode prog_14_method_54_code 49 = .ok (.iload_n 1, 1) := by decide +kernel
theorem d_rdrop_50 : decode prog_14_method_54_code 50 = .ok (.if_icmp .ne 10, 3) := by decide +kernel
theorem d_rdrop_53 : decode prog_14_method_54_code 53 = .ok (.aload_n 0, 1) := by decide +kernel
theorem d_rdrop_54 : decode prog_14_method_54_code 54 = .ok (.getfield 60, 3) := by decide +kernel
theorem d_rdrop_57 : decode prog_14_method_54_code 57 = .ok (.iload_n 3, 1) := by decide +kernel
theorem d_rdrop_58 : decode prog_14_method_54_code 58 = .ok (.iconst 1, 1) := by decide +kernel
theorem d_rdrop_59 : decode prog_14_method_54_code 59 = .ok (.bastore, 1) := by decide +kernel
set_option maxHeartbeats 4000000 in
set_option maxRecDepth 100000 in
theorem w_rdrop_B26 {p : Program} {l : Launch} {e : Env} {s : State} {m : MethodId} {args : Array Value} {below : List Frame} {meth : Method} {c : Code} {A : Nat → Prop} {D : va_G} {md : Nat → Nat} {mc : Nat → ClassId} {Q : State → Prop} (hC : MCx "JoinedTreesModel" prog_14_method_54_code 4 (some .int) p s m args meth c A D mc) {S : MS} {x1 : Int32} {x2 : Int32} {x3 : Int32} {o : ((MS × Int32 × Int32 × Int32) ⊕ (MS × Int32))} (Heq : m_rdrop_B26 S x1 x2 x3 = some o) (Ka : ∀ b : MS × Int32 × Int32 × Int32, o = .inl b → ∀ (H : Heap) (locs : List Loc) (ls : Array Slot), va_P D cls (mw md mc b.1) H → va_D A (mw md mc b.1) → va_S A s.heap H locs → lv_has ls 4 [(0, .ref (md 100)), (1, .int b.2.1), (2, .int b.2.2.1), (3, .int b.2.2.2)] → W p l e ({ frames := 1, cells := 0, slots := 0, locals := 23 }) s m args below meth c H locs 0 0 Q (F0 m 26 ls [])) (K0 : ∀ b : MS × Int32, o = .inr b → ∀ (H : Heap) (locs : List Loc) (ls : Array Slot), va_P D cls (mw md mc b.1) H → va_D A (mw md mc b.1) → va_S A s.heap H locs → lv_has ls 4 [(0, .ref (md 100)), (2, .int b.2)] → W p l e ({ frames := 1, cells := 0, slots := 0, locals := 23 }) s m args below meth c H locs 0 0 Q (F0 m 66 ls [])) : ∀ (H : Heap) (locs : List Loc) (ls : Array Slot), va_P D cls (mw md mc S) H → va_D A (mw md mc S) → va_S A s.heap H locs → lv_has ls 4 [(0, .ref (md 100)), (1, .int x1), (2, .int x2), (3, .int x3)] → W p l e ({ frames := 1, cells := 0, slots := 0, locals := 23 }) s m args below meth c H locs 0 0 Q (F0 m 26 ls []) := by
  intro H locs ls hP hD hS hl
  obtain ⟨hx, hb, hr, hml, hown, hts, hK, hA⟩ := id hC
  unfold m_rdrop_B26 at Heq
  refine lv_iload_n hx hb d_rdrop_26 rfl (lv_at hl 3 rfl) ?_
  refine lv_aload_n hx hb d_rdrop_27 rfl (lv_at hl 0 rfl) ?_
  refine va_get (D := D) (ci := 12) (v := .int (S.i 23)) (C := R_MM) (T := F_MM) (N := 77) hx hb hts i_MM hown hK hP 0 rfl rfl 23 (by decide) (hts _ kw_1405) (fun _ h9 => h9) rfl d_rdrop_28 ?_
  refine lv_icmp_ge (tgt := 66) hx hb d_rdrop_31 (by decide) (fun c_1 => ?_) (fun c_1 => ?_)
  · replace Heq := (if_pos c_1).symm.trans Heq
    exact K0 _ (Option.some.inj Heq).symm _ _ _ hP hD hS (lv_sub hl [0, 2] rfl)
  · replace Heq := (if_neg c_1).symm.trans Heq
    refine lv_aload_n hx hb d_rdrop_34 rfl (lv_at hl 0 rfl) ?_
    refine va_get (D := D) (ci := 12) (v := .ref (md 13)) (C := R_MM) (T := F_MM) (N := 77) hx hb hts i_MM hown hK hP 0 rfl rfl 13 (by decide) (hts _ kw_1395) (fun _ h9 => h9) rfl d_rdrop_35 ?_
    refine lv_iload_n hx hb d_rdrop_38 rfl (lv_at hl 3 rfl) ?_
    obtain ⟨hi_2, Heq⟩ := gd_some Heq
    refine va_iald hx hb hK hP 9 0 rfl rfl (i := x3) hi_2 d_rdrop_39 ?_
    refine w_i (y := S.a 13 x3.toNatClampNeg) rfl ?_
    refine lv_if_ge (tgt := 60) hx hb d_rdrop_40 (by decide) (fun c_3 => ?_) (fun c_3 => ?_)
    · replace Heq := (if_pos c_3).symm.trans Heq
      exact w_rdrop_J60 hC Heq Ka K0 _ _ _ hP hD hS (lv_sub hl [0, 1, 2, 3] rfl)
    · replace Heq := (if_neg c_3).symm.trans Heq
      refine lv_aload_n hx hb d_rdrop_43 rfl (lv_at hl 0 rfl) ?_
      refine va_get (D := D) (ci := 12) (v := .ref (md 12)) (C := R_MM) (T := F_MM) (N := 77) hx hb hts i_MM hown hK hP 0 rfl rfl 12 (by decide) (hts _ kw_1394) (fun _ h9 => h9) rfl d_rdrop_44 ?_
      refine lv_iload_n hx hb d_rdrop_47 rfl (lv_at hl 3 rfl) ?_
      obtain ⟨hi_4, Heq⟩ := gd_some Heq
      refine va_iald hx hb hK hP 8 0 rfl rfl (i := x3) hi_4 d_rdrop_48 ?_
      refine w_i (y := S.a 12 x3.toNatClampNeg) rfl ?_
      refine lv_iload_n hx hb d_rdrop_49 rfl (lv_at hl 1 rfl) ?_
      refine lv_icmp_ne (tgt := 60) hx hb d_rdrop_50 (by decide) (fun c_5 => ?_) (fun c_5 => ?_)
      · replace Heq := (if_neg c_5).symm.trans Heq
        exact w_rdrop_J60 hC Heq Ka K0 _ _ _ hP hD hS (lv_sub hl [0, 1, 2, 3] rfl)
      · replace Heq := (if_pos c_5).symm.trans Heq
        refine lv_aload_n hx hb d_rdrop_53 rfl (lv_at hl 0 rfl) ?_
        refine va_get (D := D) (ci := 12) (v := .ref (md 21)) (C := R_MM) (T := F_MM) (N := 77) hx hb hts i_MM hown hK hP 0 rfl rfl 21 (by decide) (hts _ kw_1403) (fun _ h9 => h9) rfl d_rdrop_54 ?_
        refine lv_iload_n hx hb d_rdrop_57 rfl (lv_at hl 3 rfl) ?_
        refine lv_iconst (v := 1) hx hb d_rdrop_58 (by decide) ?_
        obtain ⟨hi_6, Heq⟩ := gd_some Heq
        refine va_zast hx hb hK hP hD hS 17 2 rfl rfl (i := x3) (x := 1) hi_6 d_rdrop_59 (fun H locs hP hD hS => ?_)
        rw [mw_A21] at hP hD
        exact w_rdrop_J60 hC Heq Ka K0 _ _ _ hP hD hS (lv_sub hl [0, 1, 2, 3] rfl)
def m_rdrop_L26 (S : MS) (x1 : Int32) (x2 : Int32) (x3 : Int32) : Option (MS × Int32) := lp (fun a : MS × Int32 × Int32 × Int32 => m_rdrop_B26 a.1 a.2.1 a.2.2.1 a.2.2.2) FU (S, x1, x2, x3)
theorem w_rdrop_L26 {p : Program} {l : Launch} {e : Env} {s : State} {m : MethodId} {args : Array Value} {below : List Frame} {meth : Method} {c : Code} {A : Nat → Prop} {D : va_G} {md : Nat → Nat} {mc : Nat → ClassId} {Q : State → Prop} (hC : MCx "JoinedTreesModel" prog_14_method_54_code 4 (some .int) p s m args meth c A D mc) {S : MS} {x1 : Int32} {x2 : Int32} {x3 : Int32} {o : MS × Int32} (Heq : m_rdrop_L26 S x1 x2 x3 = some o) (K0 : ∀ b : MS × Int32, o = b → ∀ (H : Heap) (locs : List Loc) (ls : Array Slot), va_P D cls (mw md mc b.1) H → va_D A (mw md mc b.1) → va_S A s.heap H locs → lv_has ls 4 [(0, .ref (md 100)), (2, .int b.2)] → W p l e ({ frames := 1, cells := 0, slots := 0, locals := 23 }) s m args below meth c H locs 0 0 Q (F0 m 66 ls [])) : ∀ (H : Heap) (locs : List Loc) (ls : Array Slot), va_P D cls (mw md mc S) H → va_D A (mw md mc S) → va_S A s.heap H locs → lv_has ls 4 [(0, .ref (md 100)), (1, .int x1), (2, .int x2), (3, .int x3)] → W p l e ({ frames := 1, cells := 0, slots := 0, locals := 23 }) s m args below meth c H locs 0 0 Q (F0 m 26 ls []) := by
  refine lp_w (G := fun a : MS × Int32 × Int32 × Int32 => ∀ (H : Heap) (locs : List Loc) (ls : Array Slot), va_P D cls (mw md mc a.1) H → va_D A (mw md mc a.1) → va_S A s.heap H locs → lv_has ls 4 [(0, .ref (md 100)), (1, .int a.2.1), (2, .int a.2.2.1), (3, .int a.2.2.2)] → W p l e ({ frames := 1, cells := 0, slots := 0, locals := 23 }) s m args below meth c H locs 0 0 Q (F0 m 26 ls [])) ?_ FU (S, x1, x2, x3) Heq
  intro a o1 ho Ka Ke
  exact w_rdrop_B26 hC ho (fun b h => Ka b h) (fun b h => K0 b (Ke _ h).symm)
def m_rdrop_J0 (S : MS) (x1 : Int32) : Option (MS × Int32) := ob (m_risReplica S x1) (fun o_1 => (if o_1.2 = 0 then ob (m_rno o_1.1 1) (fun o_8 => some (o_8.1, o_8.2)) else ob (m_ropen (o_1.1.setI 0 0) x1) (fun o_4 => ob (m_rdrop_L26 o_4.1 x1 o_4.2 0) (fun b_6 => some (b_6.1, b_6.2)))))
theorem d_rdrop_66 : decode prog_14_method_54_code 66 = .ok (.iload_n 2, 1) := by decide +kernel
theorem d_rdrop_67 : decode prog_14_method_54_code 67 = .ok (.ireturn, 1) := by decide +kernel
theorem d_rdrop_7 : decode prog_14_method_54_code 7 = .ok (.aload_n 0, 1) := by decide +kernel
theorem d_rdrop_8 : decode prog_14_method_54_code 8 = .ok (.iconst 1, 1) := by decide +kernel
theorem d_rdrop_9 : decode prog_14_method_54_code 9 = .ok (.invokevirtual 191, 3) := by decide +kernel
theorem d_rdrop_12 : decode prog_14_method_54_code 12 = .ok (.ireturn, 1) := by decide +kernel
set_option maxHeartbeats 4000000 in
set_option maxRecDepth 100000 in
theorem w_rdrop_J0 {p : Program} {l : Launch} {e : Env} {s : State} {m : MethodId} {args : Array Value} {below : List Frame} {meth : Method} {c : Code} {A : Nat → Prop} {D : va_G} {md : Nat → Nat} {mc : Nat → ClassId} {Q : State → Prop} (hC : MCx "JoinedTreesModel" prog_14_method_54_code 4 (some .int) p s m args meth c A D mc) {S : MS} {x1 : Int32} {o : MS × Int32} (Heq : m_rdrop_J0 S x1 = some o) (Kr : ∀ r : MS × Int32, o = r → ∀ (pc : Nat) (H : Heap) (locs : List Loc) (ls : Array Slot), decode prog_14_method_54_code pc = .ok (.ireturn, 1) → va_P D cls (mw md mc r.1) H → va_D A (mw md mc r.1) → va_S A s.heap H locs → W p l e ({ frames := 1, cells := 0, slots := 0, locals := 23 }) s m args below meth c H locs 0 0 Q (F0 m pc ls [.int r.2])) : ∀ (H : Heap) (locs : List Loc) (ls : Array Slot), va_P D cls (mw md mc S) H → va_D A (mw md mc S) → va_S A s.heap H locs → lv_has ls 4 [(0, .ref (md 100)), (1, .int x1)] → W p l e ({ frames := 1, cells := 0, slots := 0, locals := 23 }) s m args below meth c H locs 0 0 Q (F0 m 0 ls []) := by
  intro H locs ls hP hD hS hl
  obtain ⟨hx, hb, hr, hml, hown, hts, hK, hA⟩ := id hC
  unfold m_rdrop_J0 at Heq
  refine lv_iload_n hx hb d_rdrop_0 rfl (lv_at hl 1 rfl) ?_
  obtain ⟨o_1, h_2, Heq⟩ := ob_some Heq
  have hFc := fr_all hD hS hA
  refine va_calli (va_runS (As := [.int x1]) (rest := []) ⟨hx, hb, hml, hown, hts⟩ (g_risReplica l D H.size h_2) (cw_s 1 hts kw_1641 kw_1639 kw_1640 kw_11 rfl rfl (by decide +kernel) ⟨Nat.le_of_ble_eq_true rfl, Nat.le_of_ble_eq_true rfl⟩) ⟨g_blind, fun U hU hW => g_pre hU hW hP hK hD⟩ rfl rfl hl.1 rfl (lv_room (Nat.le_of_ble_eq_true rfl)) d_rdrop_1 ⟨Nat.le_of_ble_eq_true rfl, Nat.le_of_ble_eq_true rfl⟩) hS (fun q _ h => hFc q h) hFc (fun rz u t H1 locs ht hvm hw hB hz1 hk1 hS => ?_)
  obtain ⟨hP, -, hD1⟩ := hB
  rw [ht] at hP
  have hD := hD1.weaken (fun _ q _ h => hFc q.1 h)
  generalize H1 = H at hP hS ⊢
  refine W.cs (cells' := 0) (slots' := 0) rfl rfl ?_
  subst hw
  refine lv_if_ne (tgt := 13) hx hb d_rdrop_4 (by decide) (fun c_3 => ?_) (fun c_3 => ?_)
  · replace Heq := (if_neg c_3).symm.trans Heq
    refine lv_aload_n hx hb d_rdrop_13 rfl (lv_at hl 0 rfl) ?_
    refine lv_iconst (v := 0) hx hb d_rdrop_14 (by decide) ?_
    refine va_put (D := D) (ci := 12) (v := .int 0) (ty := .int) (C := R_MM) (T := F_MM) (N := 77) hx hb hts i_MM t_MM t_MM_ok n_MM hown hK hP hD hS 0 rfl rfl 0 (by decide) (hts _ kw_1382) (fun _ h9 => h9) rfl (by decide +kernel) rfl rfl (Nat.le_of_ble_eq_true rfl) d_rdrop_15 (fun H locs hP hD hS => ?_)
    rw [mw_I0] at hP hD
    refine lv_aload_n hx hb d_rdrop_18 rfl (lv_at hl 0 rfl) ?_
    refine lv_iload_n hx hb d_rdrop_19 rfl (lv_at hl 1 rfl) ?_
    obtain ⟨o_4, h_5, Heq⟩ := ob_some Heq
    have hFc := fr_all hD hS hA
    refine va_calli (va_runV (As := [.int x1]) (rest := []) ⟨hx, hb, hml, hown, hts⟩ (g_ropen l D H.size h_5) (cw_v 1 hts kw_1815 kw_1812 kw_1814 kp_63 kw_11 rfl rfl (by decide +kernel) ⟨Nat.le_of_ble_eq_true rfl, Nat.le_of_ble_eq_true rfl⟩) ⟨g_blind, va_recv hK hP (ci := 12) (q0 := 0) rfl rfl, fun U hU hW => g_pre hU hW hP hK hD⟩ rfl rfl hl.1 rfl (lv_room (Nat.le_of_ble_eq_true rfl)) d_rdrop_20 ⟨Nat.le_of_ble_eq_true rfl, Nat.le_of_ble_eq_true rfl⟩) hS (fun q _ h => hFc q h) hFc (fun rz u t H1 locs ht hvm hw hB hz1 hk1 hS => ?_)
    obtain ⟨hP, -, hD1⟩ := hB
    rw [ht] at hP
    have hD := hD1.weaken (fun _ q _ h => hFc q.1 h)
    generalize H1 = H at hP hS ⊢
    refine W.cs (cells' := 0) (slots' := 0) rfl rfl ?_
    subst hw
    refine lv_istore_n (lv' := [(2, .int o_4.2), (0, .ref (md 100)), (1, .int x1)]) hx hb d_rdrop_23 rfl hl (by decide) rfl (fun ls hl => ?_)
    refine lv_iconst (v := 0) hx hb d_rdrop_24 (by decide) ?_
    refine lv_istore_n (lv' := [(3, .int 0), (2, .int o_4.2), (0, .ref (md 100)), (1, .int x1)]) hx hb d_rdrop_25 rfl hl (by decide) rfl (fun ls hl => ?_)
    obtain ⟨b_6, h_7, Heq⟩ := ob_some Heq
    refine w_rdrop_L26 hC h_7 (fun b h => ?_) _ _ _ hP hD hS (lv_sub hl [2, 3, 1, 0] rfl)
    subst h
    intro H locs ls hP hD hS hl
    refine lv_iload_n hx hb d_rdrop_66 rfl (lv_at hl 1 rfl) ?_
    exact Kr _ (Option.some.inj Heq).symm 67 _ _ _ d_rdrop_67 hP hD hS
  · replace Heq := (if_pos c_3).symm.trans Heq
    refine lv_aload_n hx hb d_rdrop_7 rfl (lv_at hl 0 rfl) ?_
    refine lv_iconst (v := 1) hx hb d_rdrop_8 (by decide) ?_
    obtain ⟨o_8, h_9, Heq⟩ := ob_some Heq
    have hFc := fr_all hD hS hA
    refine va_calli (va_runV (As := [.int 1]) (rest := []) ⟨hx, hb, hml, hown, hts⟩ (g_rno l D H.size h_9) (cw_v 1 hts kw_1626 kw_1623 kw_1625 kp_29 kw_11 rfl rfl (by decide +kernel) ⟨Nat.le_of_ble_eq_true rfl, Nat.le_of_ble_eq_true rfl⟩) ⟨g_blind, va_recv hK hP (ci := 12) (q0 := 0) rfl rfl, fun U hU hW => g_pre hU hW hP hK hD⟩ rfl rfl hl.1 rfl (lv_room (Nat.le_of_ble_eq_true rfl)) d_rdrop_9 ⟨Nat.le_of_ble_eq_true rfl, Nat.le_of_ble_eq_true rfl⟩) hS (fun q _ h => hFc q h) hFc (fun rz u t H1 locs ht hvm hw hB hz1 hk1 hS => ?_)
    obtain ⟨hP, -, hD1⟩ := hB
    rw [ht] at hP
    have hD := hD1.weaken (fun _ q _ h => hFc q.1 h)
    generalize H1 = H at hP hS ⊢
    refine W.cs (cells' := 0) (slots' := 0) rfl rfl ?_
    subst hw
    exact Kr _ (Option.some.inj Heq).symm 12 _ _ _ d_rdrop_12 hP hD hS
def m_rdrop (S : MS) (x1 : Int32) : Option (MS × Int32) := m_rdrop_J0 S x1
theorem g_rdrop (l : Launch) (D : va_G) (sz : Nat) {md : Nat → Nat} {mc : Nat → ClassId} {S : MS} {x1 : Int32} {o : MS × Int32} (Heq : m_rdrop S x1 = some o) : Met l ⟨"JoinedTreesModel", "drop", "(I)I"⟩ (Cond.code ⟨"JoinedTreesModel", "drop", "(I)I"⟩ prog_14_method_54_code 4 (some .int) :: gb) ({ frames := 1, cells := 0, slots := 0, locals := 23 }) (gPc D (mw md mc S) (mty mc) sz [.ref (md 100), .int x1]) (va_Qi (fun (r : Int32) (_ : Unit) => r = o.2) (fun _ t => gO D (mw md mc o.1) (mty mc) (va_A (mw md mc S) sz) t) (va_A (mw md mc S) sz)) 0 0 (va_A (mw md mc S) sz) := by
  refine Met.ofW (cc := prog_14_method_54_code) (maxL := 4) (ret := (some .int)) (by decide) rfl ?_
  intro p e s m args below meth c s₁ B hml hv
  obtain ⟨rfl, hsz, hP, hK, hD0⟩ := hv
  have hx := B.exec
  have hb := B.bytes
  have hr := B.returns
  have hts : ∀ w9 ∈ gb, w9.before [.ref (md 100), .int x1].toArray s = true := fun w9 h => atoms_spec (ws := Cond.code ⟨"JoinedTreesModel", "drop", "(I)I"⟩ prog_14_method_54_code 4 (some .int) :: gb) B.pre w9 (List.mem_cons_of_mem _ h)
  have hown : s.vm.findClass "JoinedTreesModel" = some m.cls := findClass_of_methodNamed B.named
  have hlocks := B.notSynchronized
  subst hsz
  have hD := hD0.self (sz := s.heap.size)
  generalize hAe : va_A (mw md mc S) s.heap.size = A at hD ⊢
  have hA : ∀ q : Nat, s.heap.size ≤ q → A q := fun q h => by rw [← hAe]; exact Or.inr h
  have hS : va_S A s.heap s.heap [] := va_S.rf
  have hl := lv_entry ([.ref (md 100), .int x1]) (n := 4) (Nat.le_of_ble_eq_true rfl)
  rw [lg_entry_eq]
  generalize (lg_sl ([.ref (md 100), .int x1]) ++ List.replicate (4 - (lg_sl ([.ref (md 100), .int x1])).length) Slot.unset).toArray = ls at hl ⊢
  have hl : lv_has ls 4 [(0, .ref (md 100)), (1, .int x1)] := hl
  refine w_rdrop_J0 ⟨hx, hb, hr, hml, hown, hts, hK, hA⟩ Heq (fun r h pc H locs ls hd hP hD hS => ?_) _ _ _ hP hD hS (lv_sub hl [0, 1] rfl)
  subst h
  exact W.iret hx hb hr (fun t ht hW => ⟨⟨_, (), rfl, rfl, by rw [ht]; exact hP, va_K.moved hW.alike hK, hD⟩, hS.F ht⟩) hS.2.2 hd
def m_rfind_J32 (S : MS) (x1 : Int32) (x2 : Int32) (x3 : Int32) : Option ((MS × Int32 × Int32 × Int32) ⊕ (MS ⊕ (MS × Int32))) := some (.inl (S, x1, x2, (x3 + 1)))
theorem d_rfind_0 : decode prog_14_method_55_code 0 = .ok (.iconst 0, 1) := by decide +kernel
theorem d_rfind_1 : decode prog_14_method_55_code 1 = .ok (.istore_n 3, 1) := by decide +kernel
theorem d_rfind_2 : decode prog_14_method_55_code 2 = .ok (.iload_n 3, 1) := by decide +kernel
theorem d_rfind_3 : decode prog_14_method_55_code 3 = .ok (.aload_n 0, 1) := by decide +kernel
theorem d_rfind_4 : decode prog_14_method_55_code 4 = .ok (.getfield 384, 3) := by decide +kernel
theorem d_rfind_7 : decode prog_14_method_55_code 7 = .ok (.if_icmp .ge 31, 3) := by decide +kernel
theorem d_rfind_10 : decode prog_14_method_55_code 10 = .ok (.aload_n 0, 1) := by decide +kernel
theorem d_rfind_11 : decode prog_14_method_55_code 11 = .ok (.getfield 78, 3) := by decide +kernel
theorem d_rfind_14 : decode prog_14_method_55_code 14 = .ok (.iload_n 3, 1) := by decide +kernel
theorem d_rfind_15 : decode prog_14_method_55_code 15 = .ok (.iaload, 1) := by decide +kernel
theorem d_rfind_16 : decode prog_14_method_55_code 16 = .ok (.iload_n 1, 1) := by decide +kernel
theorem d_rfind_17 : decode prog_14_method_55_code 17 = .ok (.if_icmp .ne 15, 3) := by decide +kernel
theorem d_rfind_32 : decode prog_14_method_55_code 32 = .ok (.iinc 3 1, 3) := by decide +kernel
theorem d_rfind_35 : decode prog_14_method_55_code 35 = .ok (.goto (-33), 3) := by decide +kernel
set_option maxHeartbeats 4000000 in
set_option maxRecDepth 100000 in
theorem w_rfind_J32 {p : Program} {l : Launch} {e : Env} {s : State} {m : MethodId} {args : Array Value} {below : List Frame} {meth : Method} {c : Code} {A : Nat → Prop} {D : va_G} {md : Nat → Nat} {mc : Nat → ClassId} {Q : State → Prop} (hC : MCx "JoinedTreesModel" prog_14_method_55_code 4 (some .int) p s m args meth c A D mc) {S : MS} {x1 : Int32} {x2 : Int32} {x3 : Int32} {o : ((MS × Int32 × Int32 × Int32) ⊕ (MS ⊕ (MS × Int32)))} (Heq : m_rfind_J32 S x1 x2 x3 = some o) (Ka : ∀ b : MS × Int32 × Int32 × Int32, o = .inl b → ∀ (H : Heap) (locs : List Loc) (ls : Array Slot), va_P D cls (mw md mc b.1) H → va_D A (mw md mc b.1) → va_S A s.heap H locs → lv_has ls 4 [(0, .ref (md 100)), (1, .int b.2.1), (2, .int b.2.2.1), (3, .int b.2.2.2)] → W p l e ({ frames := 0, cells := 0, slots := 0, locals := 0 }) s m args below meth c H locs 0 0 Q (F0 m 2 ls [])) (K0 : ∀ b : MS, o = .inr (.inl b) → ∀ (H : Heap) (locs : List Loc) (ls : Array Slot), va_P D cls (mw md mc b) H → va_D A (mw md mc b) → va_S A s.heap H locs → lv_has ls 4 [(0, .ref (md 100))] → W p l e ({ frames := 0, cells := 0, slots := 0, locals := 0 }) s m args below meth c H locs 0 0 Q (F0 m 38 ls [])) (Kr : ∀ r : MS × Int32, o = .inr (.inr r) → ∀ (pc : Nat) (H : Heap) (locs : List Loc) (ls : Array Slot), decode prog_14_method_55_code pc = .ok (.ireturn, 1) → va_P D cls (mw md mc r.1) H → va_D A (mw md mc r.1) → va_S A s.heap H locs → W p l e ({ frames := 0, cells := 0, slots := 0, locals := 0 }) s m args below meth c H locs 0 0 Q (F0 m pc ls [.int r.2])) : ∀ (H : Heap) (locs : List Loc) (ls : Array Slot), va_P D cls (mw md mc S) H → va_D A (mw md mc S) → va_S A s.heap H locs → lv_has ls 4 [(0, .ref (md 100)), (1, .int x1), (2, .int x2), (3, .int x3)] → W p l e ({ frames := 0, cells := 0, slots := 0, locals := 0 }) s m args below meth c H locs 0 0 Q (F0 m 32 ls []) := by
  intro H locs ls hP hD hS hl
  obtain ⟨hx, hb, hr, hml, hown, hts, hK, hA⟩ := id hC
  unfold m_rfind_J32 at Heq
  refine lv_iinc (v := x3 + 1) (lv' := [(3, .int (x3 + 1)), (0, .ref (md 100)), (1, .int x1), (2, .int x2)]) hx hb d_rfind_32 hl (k := 3) rfl rfl (by decide) rfl (fun ls hl => ?_)
  refine lv_goto (tgt := 2) hx hb d_rfind_35 (by decide) ?_
  exact Ka _ (Option.some.inj Heq).symm _ _ _ hP hD hS (lv_sub hl [1, 2, 3, 0] rfl)
def m_rfind_B2 (S : MS) (x1 : Int32) (x2 : Int32) (x3 : Int32) : Option ((MS × Int32 × Int32 × Int32) ⊕ (MS ⊕ (MS × Int32))) := (if S.i 34 ≤ x3 then some (.inr (.inl (S))) else gd x3 1000 ((if S.a 29 x3.toNatClampNeg = x1 then gd x3 1000 ((if S.a 30 x3.toNatClampNeg = x2 then some (.inr (.inr (S, x3))) else m_rfind_J32 S x1 x2 x3)) else m_rfind_J32 S x1 x2 x3)))
theorem d_rfind_20 : decode prog_14_method_55_code 20 = .ok (.aload_n 0, 1) := by decide +kernel
theorem d_rfind_21 : decode prog_14_method_55_code 21 = .ok (.getfield 81, 3) := by decide +kernel
theorem d_rfind_24 : decode prog_14_method_55_code 24 = .ok (.iload_n 3, 1) := by decide +kernel
theorem d_rfind_25 : decode prog_14_method_55_code 25 = .ok (.iaload, 1) := by decide +kernel
theorem d_rfind_26 : decode prog_14_method_55_code 26 = .ok (.iload_n 2, 1) := by decide +kernel
theorem d_rfind_27 : decode prog_14_method_55_code 27 = .ok (.if_icmp .ne 5, 3) := by decide +kernel
theorem d_rfind_30 : decode prog_14_method_55_code 30 = .ok (.iload_n 3, 1) := by decide +kernel
theorem d_rfind_31 : decode prog_14_method_55_code 31 = .ok (.ireturn, 1) := by decide +kernel
set_option maxHeartbeats 4000000 in
set_option maxRecDepth 100000 in
theorem w_rfind_B2 {p : Program} {l : Launch} {e : Env} {s : State} {m : MethodId} {args : Array Value} {below : List Frame} {meth : Method} {c : Code} {A : Nat → Prop} {D : va_G} {md : Nat → Nat} {mc : Nat → ClassId} {Q : State → Prop} (hC : MCx "JoinedTreesModel" prog_14_method_55_code 4 (some .int) p s m args meth c A D mc) {S : MS} {x1 : Int32} {x2 : Int32} {x3 : Int32} {o : ((MS × Int32 × Int32 × Int32) ⊕ (MS ⊕ (MS × Int32)))} (Heq : m_rfind_B2 S x1 x2 x3 = some o) (Ka : ∀ b : MS × Int32 × Int32 × Int32, o = .inl b → ∀ (H : Heap) (locs : List Loc) (ls : Array Slot), va_P D cls (mw md mc b.1) H → va_D A (mw md mc b.1) → va_S A s.heap H locs → lv_has ls 4 [(0, .ref (md 100)), (1, .int b.2.1), (2, .int b.2.2.1), (3, .int b.2.2.2)] → W p l e ({ frames := 0, cells := 0, slots := 0, locals := 0 }) s m args below meth c H locs 0 0 Q (F0 m 2 ls [])) (K0 : ∀ b : MS, o = .inr (.inl b) → ∀ (H : Heap) (locs : List Loc) (ls : Array Slot), va_P D cls (mw md mc b) H → va_D A (mw md mc b) → va_S A s.heap H locs → lv_has ls 4 [(0, .ref (md 100))] → W p l e ({ frames := 0, cells := 0, slots := 0, locals := 0 }) s m args below meth c H locs 0 0 Q (F0 m 38 ls [])) (Kr : ∀ r : MS × Int32, o = .inr (.inr r) → ∀ (pc : Nat) (H : Heap) (locs : List Loc) (ls : Array Slot), decode prog_14_method_55_code pc = .ok (.ireturn, 1) → va_P D cls (mw md mc r.1) H → va_D A (mw md mc r.1) → va_S A s.heap H locs → W p l e ({ frames := 0, cells := 0, slots := 0, locals := 0 }) s m args below meth c H locs 0 0 Q (F0 m pc ls [.int r.2])) : ∀ (H : Heap) (locs : List Loc) (ls : Array Slot), va_P D cls (mw md mc S) H → va_D A (mw md mc S) → va_S A s.heap H locs → lv_has ls 4 [(0, .ref (md 100)), (1, .int x1), (2, .int x2), (3, .int x3)] → W p l e ({ frames := 0, cells := 0, slots := 0, locals := 0 }) s m args below meth c H locs 0 0 Q (F0 m 2 ls []) := by
  intro H locs ls hP hD hS hl
  obtain ⟨hx, hb, hr, hml, hown, hts, hK, hA⟩ := id hC
  unfold m_rfind_B2 at Heq
  refine lv_iload_n hx hb d_rfind_2 rfl (lv_at hl 3 rfl) ?_
  refine lv_aload_n hx hb d_rfind_3 rfl (lv_at hl 0 rfl) ?_
  refine va_get (D := D) (ci := 12) (v := .int (S.i 34)) (C := R_MM) (T := F_MM) (N := 77) hx hb hts i_MM hown hK hP 0 rfl rfl 34 (by decide) (hts _ kw_1416) (fun _ h9 => h9) rfl d_rfind_4 ?_
  refine lv_icmp_ge (tgt := 38) hx hb d_rfind_7 (by decide) (fun c_1 => ?_) (fun c_1 => ?_)
  · replace Heq := (if_pos c_1).symm.trans Heq
    exact K0 _ (Option.some.inj Heq).symm _ _ _ hP hD hS (lv_sub hl [0] rfl)
  · replace Heq := (if_neg c_1).symm.trans Heq
    refine lv_aload_n hx hb d_rfind_10 rfl (lv_at hl 0 rfl) ?_
    refine va_get (D := D) (ci := 12) (v := .ref (md 29)) (C := R_MM) (T := F_MM) (N := 77) hx hb hts i_MM hown hK hP 0 rfl rfl 29 (by decide) (hts _ kw_1411) (fun _ h9 => h9) rfl d_rfind_11 ?_
    refine lv_iload_n hx hb d_rfind_14 rfl (lv_at hl 3 rfl) ?_
    obtain ⟨hi_2, Heq⟩ := gd_some Heq
    refine va_iald hx hb hK hP 22 0 rfl rfl (i := x3) hi_2 d_rfind_15 ?_
    refine w_i (y := S.a 29 x3.toNatClampNeg) rfl ?_
    refine lv_iload_n hx hb d_rfind_16 rfl (lv_at hl 1 rfl) ?_
    refine lv_icmp_ne (tgt := 32) hx hb d_rfind_17 (by decide) (fun c_3 => ?_) (fun c_3 => ?_)
    · replace Heq := (if_neg c_3).symm.trans Heq
      exact w_rfind_J32 hC Heq Ka K0 Kr _ _ _ hP hD hS (lv_sub hl [0, 1, 2, 3] rfl)
    · replace Heq := (if_pos c_3).symm.trans Heq
      refine lv_aload_n hx hb d_rfind_20 rfl (lv_at hl 0 rfl) ?_
      refine va_get (D := D) (ci := 12) (v := .ref (md 30)) (C := R_MM) (T := F_MM) (N := 77) hx hb hts i_MM hown hK hP 0 rfl rfl 30 (by decide) (hts _ kw_1412) (fun _ h9 => h9) rfl d_rfind_21 ?_
      refine lv_iload_n hx hb d_rfind_24 rfl (lv_at hl 3 rfl) ?_
      obtain ⟨hi_4, Heq⟩ := gd_some Heq
      refine va_iald hx hb hK hP 23 0 rfl rfl (i := x3) hi_4 d_rfind_25 ?_
      refine w_i (y := S.a 30 x3.toNatClampNeg) rfl ?_
      refine lv_iload_n hx hb d_rfind_26 rfl (lv_at hl 2 rfl) ?_
      refine lv_icmp_ne (tgt := 32) hx hb d_rfind_27 (by decide) (fun c_5 => ?_) (fun c_5 => ?_)
      · replace Heq := (if_neg c_5).symm.trans Heq
        exact w_rfind_J32 hC Heq Ka K0 Kr _ _ _ hP hD hS (lv_sub hl [0, 1, 2, 3] rfl)
      · replace Heq := (if_pos c_5).symm.trans Heq
        refine lv_iload_n hx hb d_rfind_30 rfl (lv_at hl 3 rfl) ?_
        exact Kr _ (Option.some.inj Heq).symm 31 _ _ _ d_rfind_31 hP hD hS
def m_rfind_L2 (S : MS) (x1 : Int32) (x2 : Int32) (x3 : Int32) : Option (MS ⊕ (MS × Int32)) := lp (fun a : MS × Int32 × Int32 × Int32 => m_rfind_B2 a.1 a.2.1 a.2.2.1 a.2.2.2) FU (S, x1, x2, x3)
theorem w_rfind_L2 {p : Program} {l : Launch} {e : Env} {s : State} {m : MethodId} {args : Array Value} {below : List Frame} {meth : Method} {c : Code} {A : Nat → Prop} {D : va_G} {md : Nat → Nat} {mc : Nat → ClassId} {Q : State → Prop} (hC : MCx "JoinedTreesModel" prog_14_method_55_code 4 (some .int) p s m args meth c A D mc) {S : MS} {x1 : Int32} {x2 : Int32} {x3 : Int32} {o : (MS ⊕ (MS × Int32))} (Heq : m_rfind_L2 S x1 x2 x3 = some o) (K0 : ∀ b : MS, o = (.inl b) → ∀ (H : Heap) (locs : List Loc) (ls : Array Slot), va_P D cls (mw md mc b) H → va_D A (mw md mc b) → va_S A s.heap H locs → lv_has ls 4 [(0, .ref (md 100))] → W p l e ({ frames := 0, cells := 0, slots := 0, locals := 0 }) s m args below meth c H locs 0 0 Q (F0 m 38 ls [])) (Kr : ∀ r : MS × Int32, o = (.inr r) → ∀ (pc : Nat) (H : Heap) (locs : List Loc) (ls : Array Slot), decode prog_14_method_55_code pc = .ok (.ireturn, 1) → va_P D cls (mw md mc r.1) H → va_D A (mw md mc r.1) → va_S A s.heap H locs → W p l e ({ frames := 0, cells := 0, slots := 0, locals := 0 }) s m args below meth c H locs 0 0 Q (F0 m pc ls [.int r.2])) : ∀ (H : Heap) (locs : List Loc) (ls : Array Slot), va_P D cls (mw md mc S) H → va_D A (mw md mc S) → va_S A s.heap H locs → lv_has ls 4 [(0, .ref (md 100)), (1, .int x1), (2, .int x2), (3, .int x3)] → W p l e ({ frames := 0, cells := 0, slots := 0, locals := 0 }) s m args below meth c H locs 0 0 Q (F0 m 2 ls []) := by
  refine lp_w (G := fun a : MS × Int32 × Int32 × Int32 => ∀ (H : Heap) (locs : List Loc) (ls : Array Slot), va_P D cls (mw md mc a.1) H → va_D A (mw md mc a.1) → va_S A s.heap H locs → lv_has ls 4 [(0, .ref (md 100)), (1, .int a.2.1), (2, .int a.2.2.1), (3, .int a.2.2.2)] → W p l e ({ frames := 0, cells := 0, slots := 0, locals := 0 }) s m args below meth c H locs 0 0 Q (F0 m 2 ls [])) ?_ FU (S, x1, x2, x3) Heq
  intro a o1 ho Ka Ke
  exact w_rfind_B2 hC ho (fun b h => Ka b h) (fun b h => K0 b (Ke _ h).symm) (fun r h => Kr r (Ke _ h).symm)
def m_rfind_J0 (S : MS) (x1 : Int32) (x2 : Int32) : Option (MS × Int32) := oe (m_rfind_L2 S x1 x2 0) (fun b_1 => some (b_1, (-1))) (fun r_3 => some r_3)
theorem d_rfind_38 : decode prog_14_method_55_code 38 = .ok (.iconst (-1), 1) := by decide +kernel
theorem d_rfind_39 : decode prog_14_method_55_code 39 = .ok (.ireturn, 1) := by decide +kernel
set_option maxHeartbeats 4000000 in
set_option maxRecDepth 100000 in
theorem w_rfind_J0 {p : Program} {l : Launch} {e : Env} {s : State} {m : MethodId} {args : Array Value} {below : List Frame} {meth : Method} {c : Code} {A : Nat → Prop} {D : va_G} {md : Nat → Nat} {mc : Nat → ClassId} {Q : State → Prop} (hC : MCx "JoinedTreesModel" prog_14_method_55_code 4 (some .int) p s m args meth c A D mc) {S : MS} {x1 : Int32} {x2 : Int32} {o : MS × Int32} (Heq : m_rfind_J0 S x1 x2 = some o) (Kr : ∀ r : MS × Int32, o = r → ∀ (pc : Nat) (H : Heap) (locs : List Loc) (ls : Array Slot), decode prog_14_method_55_code pc = .ok (.ireturn, 1) → va_P D cls (mw md mc r.1) H → va_D A (mw md mc r.1) → va_S A s.heap H locs → W p l e ({ frames := 0, cells := 0, slots := 0, locals := 0 }) s m args below meth c H locs 0 0 Q (F0 m pc ls [.int r.2])) : ∀ (H : Heap) (locs : List Loc) (ls : Array Slot), va_P D cls (mw md mc S) H → va_D A (mw md mc S) → va_S A s.heap H locs → lv_has ls 4 [(0, .ref (md 100)), (1, .int x1), (2, .int x2)] → W p l e ({ frames := 0, cells := 0, slots := 0, locals := 0 }) s m args below meth c H locs 0 0 Q (F0 m 0 ls []) := by
  intro H locs ls hP hD hS hl
  obtain ⟨hx, hb, hr, hml, hown, hts, hK, hA⟩ := id hC
  unfold m_rfind_J0 at Heq
  refine lv_iconst (v := 0) hx hb d_rfind_0 (by decide) ?_
  refine lv_istore_n (lv' := [(3, .int 0), (0, .ref (md 100)), (1, .int x1), (2, .int x2)]) hx hb d_rfind_1 rfl hl (by decide) rfl (fun ls hl => ?_)
  rcases oe_some Heq with ⟨b_1, h_2, Heq⟩ | ⟨r_3, h_2, Heq⟩
  · refine w_rfind_L2 hC h_2 (fun b h => ?_) (fun r h => by cases h) _ _ _ hP hD hS (lv_sub hl [1, 2, 3, 0] rfl)
    cases h
    intro H locs ls hP hD hS hl
    refine lv_iconst (v := (-1)) hx hb d_rfind_38 (by decide) ?_
    exact Kr _ (Option.some.inj Heq).symm 39 _ _ _ d_rfind_39 hP hD hS
  · refine w_rfind_L2 hC h_2 (fun b h => by cases h) (fun r h => ?_) _ _ _ hP hD hS (lv_sub hl [1, 2, 3, 0] rfl)
    cases h
    exact Kr _ (Option.some.inj Heq).symm
def m_rfind (S : MS) (x1 : Int32) (x2 : Int32) : Option (MS × Int32) := m_rfind_J0 S x1 x2
theorem g_rfind (l : Launch) (D : va_G) (sz : Nat) {md : Nat → Nat} {mc : Nat → ClassId} {S : MS} {x1 : Int32} {x2 : Int32} {o : MS × Int32} (Heq : m_rfind S x1 x2 = some o) : Met l ⟨"JoinedTreesModel", "find", "(II)I"⟩ (Cond.code ⟨"JoinedTreesModel", "find", "(II)I"⟩ prog_14_method_55_code 4 (some .int) :: gb) ({ frames := 0, cells := 0, slots := 0, locals := 0 }) (gPc D (mw md mc S) (mty mc) sz [.ref (md 100), .int x1, .int x2]) (va_Qi (fun (r : Int32) (_ : Unit) => r = o.2) (fun _ t => gO D (mw md mc o.1) (mty mc) (va_A (mw md mc S) sz) t) (va_A (mw md mc S) sz)) 0 0 (va_A (mw md mc S) sz) := by
  refine Met.ofW (cc := prog_14_method_55_code) (maxL := 4) (ret := (some .int)) (by decide) rfl ?_
  intro p e s m args below meth c s₁ B hml hv
  obtain ⟨rfl, hsz, hP, hK, hD0⟩ := hv
  have hx := B.exec
  have hb := B.bytes
  have hr := B.returns
  have hts : ∀ w9 ∈ gb, w9.before [.ref (md 100), .int x1, .int x2].toArray s = true := fun w9 h => atoms_spec (ws := Cond.code ⟨"JoinedTreesModel", "find", "(II)I"⟩ prog_14_method_55_code 4 (some .int) :: gb) B.pre w9 (List.mem_cons_of_mem _ h)
  have hown : s.vm.findClass "JoinedTreesModel" = some m.cls := findClass_of_methodNamed B.named
  have hlocks := B.notSynchronized
  subst hsz
  have hD := hD0.self (sz := s.heap.size)
  generalize hAe : va_A (mw md mc S) s.heap.size = A at hD ⊢
  have hA : ∀ q : Nat, s.heap.size ≤ q → A q := fun q h => by rw [← hAe]; exact Or.inr h
  have hS : va_S A s.heap s.heap [] := va_S.rf
  have hl := lv_entry ([.ref (md 100), .int x1, .int x2]) (n := 4) (Nat.le_of_ble_eq_true rfl)
  rw [lg_entry_eq]
  generalize (lg_sl ([.ref (md 100), .int x1, .int x2]) ++ List.replicate (4 - (lg_sl ([.ref (md 100), .int x1, .int x2])).length) Slot.unset).toArray = ls at hl ⊢
  have hl : lv_has ls 4 [(0, .ref (md 100)), (1, .int x1), (2, .int x2)] := hl
  refine w_rfind_J0 ⟨hx, hb, hr, hml, hown, hts, hK, hA⟩ Heq (fun r h pc H locs ls hd hP hD hS => ?_) _ _ _ hP hD hS (lv_sub hl [0, 1, 2] rfl)
  subst h
  exact W.iret hx hb hr (fun t ht hW => ⟨⟨_, (), rfl, rfl, by rw [ht]; exact hP, va_K.moved hW.alike hK, hD⟩, hS.F ht⟩) hS.2.2 hd
def m_rready_B42 (S : MS) (x1 : Int32) (x2 : Int32) (x3 : Int32) : Option ((MS × Int32 × Int32 × Int32) ⊕ (MS ⊕ (MS × Int32))) := gd x2 1000 ((if S.a 32 x2.toNatClampNeg ≤ x3 then some (.inr (.inl (S))) else gd x1 8 (gd x2 1000 (gd ((S.a 31 x2.toNatClampNeg) + x3) 10000 (gd (S.a 33 (((S.a 31 x2.toNatClampNeg) + x3).toNatClampNeg)) 1000 ((if S.a (101 + x1.toNatClampNeg) ((S.a 33 (((S.a 31 x2.toNatClampNeg) + x3).toNatClampNeg)).toNatClampNeg) = 0 then some (.inr (.inr (S, 0))) else some (.inl (S, x1, x2, (x3 + 1))))))))))
theorem d_rready_0 : decode prog_14_method_56_code 0 = .ok (.aload_n 0, 1) := by decide +kernel
theorem d_rready_1 : decode prog_14_method_56_code 1 = .ok (.getfield 81, 3) := by decide +kernel
theorem d_rready_4 : decode prog_14_method_56_code 4 = .ok (.iload_n 2, 1) := by decide +kernel
theorem d_rready_5 : decode prog_14_method_56_code 5 = .ok (.iaload, 1) := by decide +kernel
theorem d_rready_6 : decode prog_14_method_56_code 6 = .ok (.iconst 1, 1) := by decide +kernel
theorem d_rready_7 : decode prog_14_method_56_code 7 = .ok (.if_icmp .le 33, 3) := by decide +kernel
theorem d_rready_40 : decode prog_14_method_56_code 40 = .ok (.iconst 0, 1) := by decide +kernel
theorem d_rready_41 : decode prog_14_method_56_code 41 = .ok (.istore_n 3, 1) := by decide +kernel
theorem d_rready_42 : decode prog_14_method_56_code 42 = .ok (.iload_n 3, 1) := by decide +kernel
theorem d_rready_43 : decode prog_14_method_56_code 43 = .ok (.aload_n 0, 1) := by decide +kernel
theorem d_rready_44 : decode prog_14_method_56_code 44 = .ok (.getfield 87, 3) := by decide +kernel
theorem d_rready_47 : decode prog_14_method_56_code 47 = .ok (.iload_n 2, 1) := by decide +kernel
theorem d_rready_48 : decode prog_14_method_56_code 48 = .ok (.iaload, 1) := by decide +kernel
theorem d_rready_49 : decode prog_14_method_56_code 49 = .ok (.if_icmp .ge 34, 3) := by decide +kernel
theorem d_rready_52 : decode prog_14_method_56_code 52 = .ok (.aload_n 0, 1) := by decide +kernel
theorem d_rready_53 : decode prog_14_method_56_code 53 = .ok (.getfield 95, 3) := by decide +kernel
theorem d_rready_56 : decode prog_14_method_56_code 56 = .ok (.iload_n 1, 1) := by decide +kernel
theorem d_rready_57 : decode prog_14_method_56_code 57 = .ok (.aaload, 1) := by decide +kernel
theorem d_rready_58 : decode prog_14_method_56_code 58 = .ok (.aload_n 0, 1) := by decide +kernel
theorem d_rready_59 : decode prog_14_method_56_code 59 = .ok (.getfield 90, 3) := by decide +kernel
theorem d_rready_62 : decode prog_14_method_56_code 62 = .ok (.aload_n 0, 1) := by decide +kernel
theorem d_rready_63 : decode prog_14_method_56_code 63 = .ok (.getfield 84, 3) := by decide +kernel
theorem d_rready_66 : decode prog_14_method_56_code 66 = .ok (.iload_n 2, 1) := by decide +kernel
theorem d_rready_67 : decode prog_14_method_56_code 67 = .ok (.iaload, 1) := by decide +kernel
theorem d_rready_68 : decode prog_14_method_56_code 68 = .ok (.iload_n 3, 1) := by decide +kernel
theorem d_rready_69 : decode prog_14_method_56_code 69 = .ok (.iadd, 1) := by decide +kernel
theorem d_rready_70 : decode prog_14_method_56_code 70 = .ok (.iaload, 1) := by decide +kernel
theorem d_rready_71 : decode prog_14_method_56_code 71 = .ok (.baload, 1) := by decide +kernel
theorem d_rready_72 : decode prog_14_method_56_code 72 = .ok (.ifCond .ne 5, 3) := by decide +kernel
theorem d_rready_77 : decode prog_14_method_56_code 77 = .ok (.iinc 3 1, 3) := by decide +kernel
theorem d_rready_80 : decode prog_14_method_56_code 80 = .ok (.goto (-38), 3) := by decide +kernel
theorem d_rready_75 : decode prog_14_method_56_code 75 = .ok (.iconst 0, 1) := by decide +kernel
theorem d_rready_76 : decode prog_14_method_56_code 76 = .ok (.ireturn, 1) := by decide +kernel
set_option maxHeartbeats 4000000 in
set_option maxRecDepth 100000 in
theorem w_rready_B42 {p : Program} {l : Launch} {e : Env} {s : State} {m : MethodId} {args : Array Value} {below : List Frame} {meth : Method} {c : Code} {A : Nat → Prop} {D : va_G} {md : Nat → Nat} {mc : Nat → ClassId} {Q : State → Prop} (hC : MCx "JoinedTreesModel" prog_14_method_56_code 4 (some .boolean) p s m args meth c A D mc) {S : MS} {x1 : Int32} {x2 : Int32} {x3 : Int32} {o : ((MS × Int32 × Int32 × Int32) ⊕ (MS ⊕ (MS × Int32)))} (Heq : m_rready_B42 S x1 x2 x3 = some o) (Ka : ∀ b : MS × Int32 × Int32 × Int32, o = .inl b → ∀ (H : Heap) (locs : List Loc) (ls : Array Slot), va_P D cls (mw md mc b.1) H → va_D A (mw md mc b.1) → va_S A s.heap H locs → lv_has ls 4 [(0, .ref (md 100)), (1, .int b.2.1), (2, .int b.2.2.1), (3, .int b.2.2.2)] → W p l e ({ frames := 1, cells := 0, slots := 0, locals := 23 }) s m args below meth c H locs 0 0 Q (F0 m 42 ls [])) (K0 : ∀ b : MS, o = .inr (.inl b) → ∀ (H : Heap) (locs : List Loc) (ls : Array Slot), va_P D cls (mw md mc b) H → va_D A (mw md mc b) → va_S A s.heap H locs → lv_has ls 4 [(0, .ref (md 100))] → W p l e ({ frames := 1, cells := 0, slots := 0, locals := 23 }) s m args below meth c H locs 0 0 Q (F0 m 83 ls [])) (Kr : ∀ r : MS × Int32, o = .inr (.inr r) → ∀ (pc : Nat) (H : Heap) (locs : List Loc) (ls : Array Slot), decode prog_14_method_56_code pc = .ok (.ireturn, 1) → (r.2 = 0 ∨ r.2 = 1) → va_P D cls (mw md mc r.1) H → va_D A (mw md mc r.1) → va_S A s.heap H locs → W p l e ({ frames := 1, cells := 0, slots := 0, locals := 23 }) s m args below meth c H locs 0 0 Q (F0 m pc ls [.int r.2])) : ∀ (H : Heap) (locs : List Loc) (ls : Array Slot), va_P D cls (mw md mc S) H → va_D A (mw md mc S) → va_S A s.heap H locs → lv_has ls 4 [(0, .ref (md 100)), (1, .int x1), (2, .int x2), (3, .int x3)] → W p l e ({ frames := 1, cells := 0, slots := 0, locals := 23 }) s m args below meth c H locs 0 0 Q (F0 m 42 ls []) := by
  intro H locs ls hP hD hS hl
  obtain ⟨hx, hb, hr, hml, hown, hts, hK, hA⟩ := id hC
  unfold m_rready_B42 at Heq
  refine lv_iload_n hx hb d_rready_42 rfl (lv_at hl 3 rfl) ?_
  refine lv_aload_n hx hb d_rready_43 rfl (lv_at hl 0 rfl) ?_
  refine va_get (D := D) (ci := 12) (v := .ref (md 32)) (C := R_MM) (T := F_MM) (N := 77) hx hb hts i_MM hown hK hP 0 rfl rfl 32 (by decide) (hts _ kw_1414) (fun _ h9 => h9) rfl d_rready_44 ?_
  refine lv_iload_n hx hb d_rready_47 rfl (lv_at hl 2 rfl) ?_
  obtain ⟨hi_1, Heq⟩ := gd_some Heq
  refine va_iald hx hb hK hP 25 0 rfl rfl (i := x2) hi_1 d_rready_48 ?_
  refine w_i (y := S.a 32 x2.toNatClampNeg) rfl ?_
  refine lv_icmp_ge (tgt := 83) hx hb d_rready_49 (by decide) (fun c_2 => ?_) (fun c_2 => ?_)
  · replace Heq := (if_pos c_2).symm.trans Heq
    exact K0 _ (Option.some.inj Heq).symm _ _ _ hP hD hS (lv_sub hl [0] rfl)
  · replace Heq := (if_neg c_2).symm.trans Heq
    refine lv_aload_n hx hb d_rready_52 rfl (lv_at hl 0 rfl) ?_
    refine va_get (D := D) (ci := 12) (v := .ref (md 36)) (C := R_MM) (T := F_MM) (N := 77) hx hb hts i_MM hown hK hP 0 rfl rfl 36 (by decide) (hts _ kw_1418) (fun _ h9 => h9) rfl d_rready_53 ?_
    refine lv_iload_n hx hb d_rready_56 rfl (lv_at hl 1 rfl) ?_
    obtain ⟨hi_3, Heq⟩ := gd_some Heq
    refine tx_ald2 hx hb hK hP 48 4 rfl rfl (i := x1) hi_3 d_rready_57 ?_
    refine w_v (y := .ref (md (101 + x1.toNatClampNeg))) rfl ?_
    refine lv_aload_n hx hb d_rready_58 rfl (lv_at hl 0 rfl) ?_
    refine va_get (D := D) (ci := 12) (v := .ref (md 33)) (C := R_MM) (T := F_MM) (N := 77) hx hb hts i_MM hown hK hP 0 rfl rfl 33 (by decide) (hts _ kw_1415) (fun _ h9 => h9) rfl d_rready_59 ?_
    refine lv_aload_n hx hb d_rready_62 rfl (lv_at hl 0 rfl) ?_
    refine va_get (D := D) (ci := 12) (v := .ref (md 31)) (C := R_MM) (T := F_MM) (N := 77) hx hb hts i_MM hown hK hP 0 rfl rfl 31 (by decide) (hts _ kw_1413) (fun _ h9 => h9) rfl d_rready_63 ?_
    refine lv_iload_n hx hb d_rready_66 rfl (lv_at hl 2 rfl) ?_
    obtain ⟨hi_4, Heq⟩ := gd_some Heq
    refine va_iald hx hb hK hP 24 0 rfl rfl (i := x2) hi_4 d_rready_67 ?_
    refine w_i (y := S.a 31 x2.toNatClampNeg) rfl ?_
    refine lv_iload_n hx hb d_rready_68 rfl (lv_at hl 3 rfl) ?_
    refine lv_iadd hx hb d_rready_69 ?_
    refine w_i (y := (S.a 31 x2.toNatClampNeg) + x3) rfl ?_
    obtain ⟨hi_5, Heq⟩ := gd_some Heq
    refine va_iald hx hb hK hP 26 0 rfl rfl (i := (S.a 31 x2.toNatClampNeg) + x3) hi_5 d_rready_70 ?_
    refine w_i (y := S.a 33 (((S.a 31 x2.toNatClampNeg) + x3).toNatClampNeg)) rfl ?_
    obtain ⟨hi_6, Heq⟩ := gd_some Heq
    refine va_zald hx hb hK hP (51 + x1.toNatClampNeg) 2 (mp_R101 (vp_in.lt hi_3)) rfl (i := S.a 33 (((S.a 31 x2.toNatClampNeg) + x3).toNatClampNeg)) hi_6 d_rready_71 ?_
    refine w_i (y := S.a (101 + x1.toNatClampNeg) ((S.a 33 (((S.a 31 x2.toNatClampNeg) + x3).toNatClampNeg)).toNatClampNeg)) rfl ?_
    refine lv_if_ne (tgt := 77) hx hb d_rready_72 (by decide) (fun c_7 => ?_) (fun c_7 => ?_)
    · replace Heq := (if_neg c_7).symm.trans Heq
      refine lv_iinc (v := x3 + 1) (lv' := [(3, .int (x3 + 1)), (0, .ref (md 100)), (1, .int x1), (2, .int x2)]) hx hb d_rready_77 hl (k := 3) rfl rfl (by decide) rfl (fun ls hl => ?_)
      refine lv_goto (tgt := 42) hx hb d_rready_80 (by decide) ?_
      exact Ka _ (Option.some.inj Heq).symm _ _ _ hP hD hS (lv_sub hl [1, 2, 3, 0] rfl)
    · replace Heq := (if_pos c_7).symm.trans Heq
      refine lv_iconst (v := 0) hx hb d_rready_75 (by decide) ?_
      exact Kr _ (Option.some.inj Heq).symm 76 _ _ _ d_rready_76 (Or.inl rfl) hP hD hS
def m_rready_L42 (S : MS) (x1 : Int32) (x2 : Int32) (x3 : Int32) : Option (MS ⊕ (MS × Int32)) := lp (fun a : MS × Int32 × Int32 × Int32 => m_rready_B42 a.1 a.2.1 a.2.2.1 a.2.2.2) FU (S, x1, x2, x3)
theorem w_rready_L42 {p : Program} {l : Launch} {e : Env} {s : State} {m : MethodId} {args : Array Value} {below : List Frame} {meth : Method} {c : Code} {A : Nat → Prop} {D : va_G} {md : Nat → Nat} {mc : Nat → ClassId} {Q : State → Prop} (hC : MCx "JoinedTreesModel" prog_14_method_56_code 4 (some .boolean) p s m args meth c A D mc) {S : MS} {x1 : Int32} {x2 : Int32} {x3 : Int32} {o : (MS ⊕ (MS × Int32))} (Heq : m_rready_L42 S x1 x2 x3 = some o) (K0 : ∀ b : MS, o = (.inl b) → ∀ (H : Heap) (locs : List Loc) (ls : Array Slot), va_P D cls (mw md mc b) H → va_D A (mw md mc b) → va_S A s.heap H locs → lv_has ls 4 [(0, .ref (md 100))] → W p l e ({ frames := 1, cells := 0, slots := 0, locals := 23 }) s m args below meth c H locs 0 0 Q (F0 m 83 ls [])) (Kr : ∀ r : MS × Int32, o = (.inr r) → ∀ (pc : Nat) (H : Heap) (locs : List Loc) (ls : Array Slot), decode prog_14_method_56_code pc = .ok (.ireturn, 1) → (r.2 = 0 ∨ r.2 = 1) → va_P D cls (mw md mc r.1) H → va_D A (mw md mc r.1) → va_S A s.heap H locs → W p l e ({ frames := 1, cells := 0, slots := 0, locals := 23 }) s m args below meth c H locs 0 0 Q (F0 m pc ls [.int r.2])) : ∀ (H : Heap) (locs : List Loc) (ls : Array Slot), va_P D cls (mw md mc S) H → va_D A (mw md mc S) → va_S A s.heap H locs → lv_has ls 4 [(0, .ref (md 100)), (1, .int x1), (2, .int x2), (3, .int x3)] → W p l e ({ frames := 1, cells := 0, slots := 0, locals := 23 }) s m args below meth c H locs 0 0 Q (F0 m 42 ls []) := by
  refine lp_w (G := fun a : MS × Int32 × Int32 × Int32 => ∀ (H : Heap) (locs : List Loc) (ls : Array Slot), va_P D cls (mw md mc a.1) H → va_D A (mw md mc a.1) → va_S A s.heap H locs → lv_has ls 4 [(0, .ref (md 100)), (1, .int a.2.1), (2, .int a.2.2.1), (3, .int a.2.2.2)] → W p l e ({ frames := 1, cells := 0, slots := 0, locals := 23 }) s m args below meth c H locs 0 0 Q (F0 m 42 ls [])) ?_ FU (S, x1, x2, x3) Heq
  intro a o1 ho Ka Ke
  exact w_rready_B42 hC ho (fun b h => Ka b h) (fun b h => K0 b (Ke _ h).symm) (fun r h => Kr r (Ke _ h).symm)
def m_rready_J40 (S : MS) (x1 : Int32) (x2 : Int32) : Option (MS × Int32) := oe (m_rready_L42 S x1 x2 0) (fun b_1 => some (b_1, 1)) (fun r_3 => some r_3)
theorem d_rready_83 : decode prog_14_method_56_code 83 = .ok (.iconst 1, 1) := by decide +kernel
theorem d_rready_84 : decode prog_14_method_56_code 84 = .ok (.ireturn, 1) := by decide +kernel
set_option maxHeartbeats 4000000 in
set_option maxRecDepth 100000 in
theorem w_rready_J40 {p : Program} {l : Launch} {e : Env} {s : State} {m : MethodId} {args : Array Value} {below : List Frame} {meth : Method} {c : Code} {A : Nat → Prop} {D : va_G} {md : Nat → Nat} {mc : Nat → ClassId} {Q : State → Prop} (hC : MCx "JoinedTreesModel" prog_14_method_56_code 4 (some .boolean) p s m args meth c A D mc) {S : MS} {x1 : Int32} {x2 : Int32} {o : MS × Int32} (Heq : m_rready_J40 S x1 x2 = some o) (Kr : ∀ r : MS × Int32, o = r → ∀ (pc : Nat) (H : Heap) (locs : List Loc) (ls : Array Slot), decode prog_14_method_56_code pc = .ok (.ireturn, 1) → (r.2 = 0 ∨ r.2 = 1) → va_P D cls (mw md mc r.1) H → va_D A (mw md mc r.1) → va_S A s.heap H locs → W p l e ({ frames := 1, cells := 0, slots := 0, locals := 23 }) s m args below meth c H locs 0 0 Q (F0 m pc ls [.int r.2])) : ∀ (H : Heap) (locs : List Loc) (ls : Array Slot), va_P D cls (mw md mc S) H → va_D A (mw md mc S) → va_S A s.heap H locs → lv_has ls 4 [(0, .ref (md 100)), (1, .int x1), (2, .int x2)] → W p l e ({ frames := 1, cells := 0, slots := 0, locals := 23 }) s m args below meth c H locs 0 0 Q (F0 m 40 ls []) := by
  intro H locs ls hP hD hS hl
  obtain ⟨hx, hb, hr, hml, hown, hts, hK, hA⟩ := id hC
  unfold m_rready_J40 at Heq
  refine lv_iconst (v := 0) hx hb d_rready_40 (by decide) ?_
  refine lv_istore_n (lv' := [(3, .int 0), (0, .ref (md 100)), (1, .int x1), (2, .int x2)]) hx hb d_rready_41 rfl hl (by decide) rfl (fun ls hl => ?_)
  rcases oe_some Heq with ⟨b_1, h_2, Heq⟩ | ⟨r_3, h_2, Heq⟩
  · refine w_rready_L42 hC h_2 (fun b h => ?_) (fun r h => by cases h) _ _ _ hP hD hS (lv_sub hl [1, 2, 3, 0] rfl)
    cases h
    intro H locs ls hP hD hS hl
    refine lv_iconst (v := 1) hx hb d_rready_83 (by decide) ?_
    exact Kr _ (Option.some.inj Heq).symm 84 _ _ _ d_rready_84 (Or.inr rfl) hP hD hS
  · refine w_rready_L42 hC h_2 (fun b h => by cases h) (fun r h => ?_) _ _ _ hP hD hS (lv_sub hl [1, 2, 3, 0] rfl)
    cases h
    exact Kr _ (Option.some.inj Heq).symm
def m_rready_J0 (S : MS) (x1 : Int32) (x2 : Int32) : Option (MS × Int32) := gd x2 1000 ((if S.a 30 x2.toNatClampNeg ≤ 1 then m_rready_J40 S x1 x2 else gd x1 8 (gd x2 1000 (gd x2 1000 (ob (m_rfind S (S.a 29 x2.toNatClampNeg) ((S.a 30 x2.toNatClampNeg) - 1)) (fun o_6 => gd o_6.2 1000 ((if o_6.1.a (101 + x1.toNatClampNeg) o_6.2.toNatClampNeg = 0 then some (o_6.1, 0) else m_rready_J40 o_6.1 x1 x2))))))))
theorem d_rready_10 : decode prog_14_method_56_code 10 = .ok (.aload_n 0, 1) := by decide +kernel
theorem d_rready_11 : decode prog_14_method_56_code 11 = .ok (.getfield 95, 3) := by decide +kernel
theorem d_rready_14 : decode prog_14_method_56_code 14 = .ok (.iload_n 1, 1) := by decide +kernel
theorem d_rready_15 : decode prog_14_method_56_code 15 = .ok (.aaload, 1) := by decide +kernel
theorem d_rready_16 : decode prog_14_method_56_code 16 = .ok (.aload_n 0, 1) := by decide +kernel
theorem d_rready_17 : decode prog_14_method_56_code 17 = .ok (.aload_n 0, 1) := by decide +kernel
theorem d_rready_18 : decode prog_14_method_56_code 18 = .ok (.getfield 78, 3) := by decide +kernel
theorem d_rready_21 : decode prog_14_method_56_code 21 = .ok (.iload_n 2, 1) := by decide +kernel
theorem d_rready_22 : decode prog_14_method_56_code 22 = .ok (.iaload, 1) := by decide +kernel
theorem d_rready_23 : decode prog_14_method_56_code 23 = .ok (.aload_n 0, 1) := by decide +kernel
theorem d_rready_24 : decode prog_14_method_56_code 24 = .ok (.getfield 81, 3) := by decide +kernel
theorem d_rready_27 : decode prog_14_method_56_code 27 = .ok (.iload_n 2, 1) := by decide +kernel
theorem d_rready_28 : decode prog_14_method_56_code 28 = .ok (.iaload, 1) := by decide +kernel
theorem d_rready_29 : decode prog_14_method_56_code 29 = .ok (.iconst 1, 1) := by decide +kernel
theorem d_rready_30 : decode prog_14_method_56_code 30 = .ok (.isub, 1) := by decide +kernel
theorem d_rready_31 : decode prog_14_method_56_code 31 = .ok (.invokevirtual 399, 3) := by decide +kernel
theorem d_rready_34 : decode prog_14_method_56_code 34 = .ok (.baload, 1) := by decide +kernel
theorem d_rready_35 : decode prog_14_method_56_code 35 = .ok (.ifCond .ne 5, 3) := by decide +kernel
theorem d_rready_38 : decode prog_14_method_56_code 38 = .ok (.iconst 0, 1) := by decide +kernel
theorem d_rready_39 : decode prog_14_method_56_code 39 = .ok (.ireturn, 1) := by decide +kernel
set_option maxHeartbeats 4000000 in
set_option maxRecDepth 100000 in
theorem w_rready_J0 {p : Program} {l : Launch} {e : Env} {s : State} {m : MethodId} {args : Array Value} {below : List Frame} {meth : Method} {c : Code} {A : Nat → Prop} {D : va_G} {md : Nat → Nat} {mc : Nat → ClassId} {Q : State → Prop} (hC : MCx "JoinedTreesModel" prog_14_method_56_code 4 (some .boolean) p s m args meth c A D mc) {S : MS} {x1 : Int32} {x2 : Int32} {o : MS × Int32} (Heq : m_rready_J0 S x1 x2 = some o) (Kr : ∀ r : MS × Int32, o = r → ∀ (pc : Nat) (H : Heap) (locs : List Loc) (ls : Array Slot), decode prog_14_method_56_code pc = .ok (.ireturn, 1) → (r.2 = 0 ∨ r.2 = 1) → va_P D cls (mw md mc r.1) H → va_D A (mw md mc r.1) → va_S A s.heap H locs → W p l e ({ frames := 1, cells := 0, slots := 0, locals := 23 }) s m args below meth c H locs 0 0 Q (F0 m pc ls [.int r.2])) : ∀ (H : Heap) (locs : List Loc) (ls : Array Slot), va_P D cls (mw md mc S) H → va_D A (mw md mc S) → va_S A s.heap H locs → lv_has ls 4 [(0, .ref (md 100)), (1, .int x1), (2, .int x2)] → W p l e ({ frames := 1, cells := 0, slots := 0, locals := 23 }) s m args below meth c H locs 0 0 Q (F0 m 0 ls []) := by
  intro H locs ls hP hD hS hl
  obtain ⟨hx, hb, hr, hml, hown, hts, hK, hA⟩ := id hC
  unfold m_rready_J0 at Heq
  refine lv_aload_n hx hb d_rready_0 rfl (lv_at hl 0 rfl) ?_
  refine va_get (D := D) (ci := 12) (v := .ref (md 30)) (C := R_MM) (T := F_MM) (N := 77) hx hb hts i_MM hown hK hP 0 rfl rfl 30 (by decide) (hts _ kw_1412) (fun _ h9 => h9) rfl d_rready_1 ?_
  refine lv_iload_n hx hb d_rready_4 rfl (lv_at hl 2 rfl) ?_
  obtain ⟨hi_1, Heq⟩ := gd_some Heq
  refine va_iald hx hb hK hP 23 0 rfl rfl (i := x2) hi_1 d_rready_5 ?_
  refine w_i (y := S.a 30 x2.toNatClampNeg) rfl ?_
  refine lv_iconst (v := 1) hx hb d_rready_6 (by decide) ?_
  refine lv_icmp_le (tgt := 40) hx hb d_rready_7 (by decide) (fun c_2 => ?_) (fun c_2 => ?_)
  · replace Heq := (if_pos c_2).symm.trans Heq
    exact w_rready_J40 hC Heq Kr _ _ _ hP hD hS (lv_sub hl [0, 1, 2] rfl)
  · replace Heq := (if_neg c_2).symm.trans Heq
    refine lv_aload_n hx hb d_rready_10 rfl (lv_at hl 0 rfl) ?_
    refine va_get (D := D) (ci := 12) (v := .ref (md 36)) (C := R_MM) (T := F_MM) (N := 77) hx hb hts i_MM hown hK hP 0 rfl rfl 36 (by decide) (hts _ kw_1418) (fun _ h9 => h9) rfl d_rready_11 ?_
    refine lv_iload_n hx hb d_rready_14 rfl (lv_at hl 1 rfl) ?_
    obtain ⟨hi_3, Heq⟩ := gd_some Heq
    refine tx_ald2 hx hb hK hP 48 4 rfl rfl (i := x1) hi_3 d_rready_15 ?_
    refine w_v (y := .ref (md (101 + x1.toNatClampNeg))) rfl ?_
    refine lv_aload_n hx hb d_rready_16 rfl (lv_at hl 0 rfl) ?_
    refine lv_aload_n hx hb d_rready_17 rfl (lv_at hl 0 rfl) ?_
    refine va_get (D := D) (ci := 12) (v := .ref (md 29)) (C := R_MM) (T := F_MM) (N := 77) hx hb hts i_MM hown hK hP 0 rfl rfl 29 (by decide) (hts _ kw_1411) (fun _ h9 => h9) rfl d_rready_18 ?_
    refine lv_iload_n hx hb d_rready_21 rfl (lv_at hl 2 rfl) ?_
    obtain ⟨hi_4, Heq⟩ := gd_some Heq
    refine va_iald hx hb hK hP 22 0 rfl rfl (i := x2) hi_4 d_rready_22 ?_
    refine w_i (y := S.a 29 x2.toNatClampNeg) rfl ?_
    refine lv_aload_n hx hb d_rready_23 rfl (lv_at hl 0 rfl) ?_
    refine va_get (D := D) (ci := 12) (v := .ref (md 30)) (C := R_MM) (T := F_MM) (N := 77) hx hb hts i_MM hown hK hP 0 rfl rfl 30 (by decide) (hts _ kw_1412) (fun _ h9 => h9) rfl d_rready_24 ?_
    refine lv_iload_n hx hb d_rready_27 rfl (lv_at hl 2 rfl) ?_
    obtain ⟨hi_5, Heq⟩ := gd_some Heq
    refine va_iald hx hb hK hP 23 0 rfl rfl (i := x2) hi_5 d_rready_28 ?_
    refine w_i (y := S.a 30 x2.toNatClampNeg) rfl ?_
    refine lv_iconst (v := 1) hx hb d_rready_29 (by decide) ?_
    refine lv_isub hx hb d_rready_30 ?_
    refine w_i (y := (S.a 30 x2.toNatClampNeg) - 1) rfl ?_
    obtain ⟨o_6, h_7, Heq⟩ := ob_some Heq
    have hFc := fr_all hD hS hA
    refine va_calli (va_runV (As := [.int (S.a 29 x2.toNatClampNeg), .int ((S.a 30 x2.toNatClampNeg) - 1)]) (rest := [.ref (md (101 + x1.toNatClampNeg))]) ⟨hx, hb, hml, hown, hts⟩ (g_rfind l D H.size h_7) (cw_v 2 hts kw_1835 kw_1832 kw_1834 kp_66 kw_11 rfl rfl (by decide +kernel) ⟨Nat.le_of_ble_eq_true rfl, Nat.le_of_ble_eq_true rfl⟩) ⟨g_blind, va_recv hK hP (ci := 12) (q0 := 0) rfl rfl, fun U hU hW => g_pre hU hW hP hK hD⟩ rfl rfl hl.1 rfl (lv_room (Nat.le_of_ble_eq_true rfl)) d_rready_31 ⟨Nat.le_of_ble_eq_true rfl, Nat.le_of_ble_eq_true rfl⟩) hS (fun q _ h => hFc q h) hFc (fun rz u t H1 locs ht hvm hw hB hz1 hk1 hS => ?_)
    obtain ⟨hP, -, hD1⟩ := hB
    rw [ht] at hP
    have hD := hD1.weaken (fun _ q _ h => hFc q.1 h)
    generalize H1 = H at hP hS ⊢
    refine W.cs (cells' := 0) (slots' := 0) rfl rfl ?_
    subst hw
    obtain ⟨hi_8, Heq⟩ := gd_some Heq
    refine va_zald hx hb hK hP (51 + x1.toNatClampNeg) 2 (mp_R101 (vp_in.lt hi_3)) rfl (i := o_6.2) hi_8 d_rready_34 ?_
    refine w_i (y := o_6.1.a (101 + x1.toNatClampNeg) o_6.2.toNatClampNeg) rfl ?_
    refine lv_if_ne (tgt := 40) hx hb d_rready_35 (by decide) (fun c_9 => ?_) (fun c_9 => ?_)
    · replace Heq := (if_neg c_9).symm.trans Heq
      exact w_rready_J40 hC Heq Kr _ _ _ hP hD hS (lv_sub hl [0, 1, 2] rfl)
    · replace Heq := (if_pos c_9).symm.trans Heq
      refine lv_iconst (v := 0) hx hb d_rready_38 (by decide) ?_
      exact Kr _ (Option.some.inj Heq).symm 39 _ _ _ d_rready_39 (Or.inl rfl) hP hD hS
def m_rready (S : MS) (x1 : Int32) (x2 : Int32) : Option (MS × Int32) := m_rready_J0 S x1 x2
theorem g_rready (l : Launch) (D : va_G) (sz : Nat) {md : Nat → Nat} {mc : Nat → ClassId} {S : MS} {x1 : Int32} {x2 : Int32} {o : MS × Int32} (Heq : m_rready S x1 x2 = some o) : Met l ⟨"JoinedTreesModel", "ready", "(II)Z"⟩ (Cond.code ⟨"JoinedTreesModel", "ready", "(II)Z"⟩ prog_14_method_56_code 4 (some .boolean) :: gb) ({ frames := 1, cells := 0, slots := 0, locals := 23 }) (gPc D (mw md mc S) (mty mc) sz [.ref (md 100), .int x1, .int x2]) (va_Qi (fun (r : Int32) (_ : Unit) => r = o.2) (fun _ t => gO D (mw md mc o.1) (mty mc) (va_A (mw md mc S) sz) t) (va_A (mw md mc S) sz)) 0 0 (va_A (mw md mc S) sz) := by
  refine Met.ofW (cc := prog_14_method_56_code) (maxL := 4) (ret := (some .boolean)) (by decide) rfl ?_
  intro p e s m args below meth c s₁ B hml hv
  obtain ⟨rfl, hsz, hP, hK, hD0⟩ := hv
  have hx := B.exec
  have hb := B.bytes
  have hr := B.returns
  have hts : ∀ w9 ∈ gb, w9.before [.ref (md 100), .int x1, .int x2].toArray s = true := fun w9 h => atoms_spec (ws := Cond.code ⟨"JoinedTreesModel", "ready", "(II)Z"⟩ prog_14_method_56_code 4 (some .boolean) :: gb) B.pre w9 (List.mem_cons_of_mem _ h)
  have hown : s.vm.findClass "JoinedTreesModel" = some m.cls := findClass_of_methodNamed B.named
  have hlocks := B.notSynchronized
  subst hsz
  have hD := hD0.self (sz := s.heap.size)
  generalize hAe : va_A (mw md mc S) s.heap.size = A at hD ⊢
  have hA : ∀ q : Nat, s.heap.size ≤ q → A q := fun q h => by rw [← hAe]; exact Or.inr h
  have hS : va_S A s.heap s.heap [] := va_S.rf
  have hl := lv_entry ([.ref (md 100), .int x1, .int x2]) (n := 4) (Nat.le_of_ble_eq_true rfl)
  rw [lg_entry_eq]
  generalize (lg_sl ([.ref (md 100), .int x1, .int x2]) ++ List.replicate (4 - (lg_sl ([.ref (md 100), .int x1, .int x2])).length) Slot.unset).toArray = ls at hl ⊢
  have hl : lv_has ls 4 [(0, .ref (md 100)), (1, .int x1), (2, .int x2)] := hl
  refine w_rready_J0 ⟨hx, hb, hr, hml, hown, hts, hK, hA⟩ Heq (fun r h pc H locs ls hd hz hP hD hS => ?_) _ _ _ hP hD hS (lv_sub hl [0, 1, 2] rfl)
  subst h
  exact W.zret (ty := .boolean) hx hb hr (by rcases hz with hz | hz <;> rw [hz] <;> rfl) (fun t ht hW => ⟨⟨_, (), rfl, rfl, by rw [ht]; exact hP, va_K.moved hW.alike hK, hD⟩, hS.F ht⟩) hS.2.2 hd
def m_rsettle_J56 (S : MS) (x1 : Int32) (x2 : Int32) (x3 : Int32) : Option ((MS × Int32 × Int32 × Int32) ⊕ (MS × Int32)) := some (.inl (S, x1, x2, (x3 + 1)))
theorem d_rsettle_0 : decode prog_14_method_57_code 0 = .ok (.iconst 0, 1) := by decide +kernel
theorem d_rsettle_1 : decode prog_14_method_57_code 1 = .ok (.istore_n 2, 1) := by decide +kernel
theorem d_rsettle_2 : decode prog_14_method_57_code 2 = .ok (.iconst 0, 1) := by decide +kernel
theorem d_rsettle_3 : decode prog_14_method_57_code 3 = .ok (.istore_n 3, 1) := by decide +kernel
theorem d_rsettle_4 : decode prog_14_method_57_code 4 = .ok (.iload_n 3, 1) := by decide +kernel
theorem d_rsettle_5 : decode prog_14_method_57_code 5 = .ok (.aload_n 0, 1) := by decide +kernel
theorem d_rsettle_6 : decode prog_14_method_57_code 6 = .ok (.getfield 384, 3) := by decide +kernel
theorem d_rsettle_9 : decode prog_14_method_57_code 9 = .ok (.if_icmp .ge 53, 3) := by decide +kernel
theorem d_rsettle_12 : decode prog_14_method_57_code 12 = .ok (.aload_n 0, 1) := by decide +kernel
theorem d_rsettle_13 : decode prog_14_method_57_code 13 = .ok (.getfield 98, 3) := by decide +kernel
theorem d_rsettle_16 : decode prog_14_method_57_code 16 = .ok (.iload_n 1, 1) := by decide +kernel
theorem d_rsettle_17 : decode prog_14_method_57_code 17 = .ok (.aaload, 1) := by decide +kernel
theorem d_rsettle_18 : decode prog_14_method_57_code 18 = .ok (.iload_n 3, 1) := by decide +kernel
theorem d_rsettle_19 : decode prog_14_method_57_code 19 = .ok (.baload, 1) := by decide +kernel
theorem d_rsettle_20 : decode prog_14_method_57_code 20 = .ok (.ifCond .eq 36, 3) := by decide +kernel
theorem d_rsettle_56 : decode prog_14_method_57_code 56 = .ok (.iinc 3 1, 3) := by decide +kernel
theorem d_rsettle_59 : decode prog_14_method_57_code 59 = .ok (.goto (-55), 3) := by decide +kernel
set_option maxHeartbeats 4000000 in
set_option maxRecDepth 100000 in
theorem w_rsettle_J56 {p : Program} {l : Launch} {e : Env} {s : State} {m : MethodId} {args : Array Value} {below : List Frame} {meth : Method} {c : Code} {A : Nat → Prop} {D : va_G} {md : Nat → Nat} {mc : Nat → ClassId} {Q : State → Prop} (hC : MCx "JoinedTreesModel" prog_14_method_57_code 4 (some .int) p s m args meth c A D mc) {S : MS} {x1 : Int32} {x2 : Int32} {x3 : Int32} {o : ((MS × Int32 × Int32 × Int32) ⊕ (MS × Int32))} (Heq : m_rsettle_J56 S x1 x2 x3 = some o) (Ka : ∀ b : MS × Int32 × Int32 × Int32, o = .inl b → ∀ (H : Heap) (locs : List Loc) (ls : Array Slot), va_P D cls (mw md mc b.1) H → va_D A (mw md mc b.1) → va_S A s.heap H locs → lv_has ls 4 [(0, .ref (md 100)), (1, .int b.2.1), (2, .int b.2.2.1), (3, .int b.2.2.2)] → W p l e ({ frames := 2, cells := 0, slots := 0, locals := 46 }) s m args below meth c H locs 0 0 Q (F0 m 4 ls [])) (K0 : ∀ b : MS × Int32, o = .inr b → ∀ (H : Heap) (locs : List Loc) (ls : Array Slot), va_P D cls (mw md mc b.1) H → va_D A (mw md mc b.1) → va_S A s.heap H locs → lv_has ls 4 [(0, .ref (md 100)), (2, .int b.2)] → W p l e ({ frames := 2, cells := 0, slots := 0, locals := 46 }) s m args below meth c H locs 0 0 Q (F0 m 62 ls [])) : ∀ (H : Heap) (locs : List Loc) (ls : Array Slot), va_P D cls (mw md mc S) H → va_D A (mw md mc S) → va_S A s.heap H locs → lv_has ls 4 [(0, .ref (md 100)), (1, .int x1), (2, .int x2), (3, .int x3)] → W p l e ({ frames := 2, cells := 0, slots := 0, locals := 46 }) s m args below meth c H locs 0 0 Q (F0 m 56 ls []) := by
  intro H locs ls hP hD hS hl
  obtain ⟨hx, hb, hr, hml, hown, hts, hK, hA⟩ := id hC
  unfold m_rsettle_J56 at Heq
  refine lv_iinc (v := x3 + 1) (lv' := [(3, .int (x3 + 1)), (0, .ref (md 100)), (1, .int x1), (2, .int x2)]) hx hb d_rsettle_56 hl (k := 3) rfl rfl (by decide) rfl (fun ls hl => ?_)
  refine lv_goto (tgt := 4) hx hb d_rsettle_59 (by decide) ?_
  exact Ka _ (Option.some.inj Heq).symm _ _ _ hP hD hS (lv_sub hl [1, 2, 3, 0] rfl)
def m_rsettle_B4 (S : MS) (x1 : Int32) (x2 : Int32) (x3 : Int32) : Option ((MS × Int32 × Int32 × Int32) ⊕ (MS × Int32)) := (if S.i 34 ≤ x3 then some (.inr (S, x2)) else gd x1 8 (gd x3 1000 ((if S.a (109 + x1.toNatClampNeg) x3.toNatClampNeg = 0 then m_rsettle_J56 S x1 x2 x3 else ob (m_rready S x1 x3) (fun o_5 => (if o_5.2 = 0 then m_rsettle_J56 o_5.1 x1 x2 x3 else gd x1 8 (gd x3 1000 (gd x1 8 (gd x3 1000 (m_rsettle_J56 ((o_5.1.setA (109 + x1.toNatClampNeg) (upd (o_5.1.a (109 + x1.toNatClampNeg)) x3.toNatClampNeg (vp_nar .boolean 0))).setA (101 + x1.toNatClampNeg) (upd ((o_5.1.setA (109 + x1.toNatClampNeg) (upd (o_5.1.a (109 + x1.toNatClampNeg)) x3.toNatClampNeg (vp_nar .boolean 0))).a (101 + x1.toNatClampNeg)) x3.toNatClampNeg (vp_nar .boolean 1))) x1 (x2 + 1) x3))))))))))
theorem d_rsettle_23 : decode prog_14_method_57_code 23 = .ok (.aload_n 0, 1) := by decide +kernel
theorem d_rsettle_24 : decode prog_14_method_57_code 24 = .ok (.iload_n 1, 1) := by decide +kernel
theorem d_rsettle_25 : decode prog_14_method_57_code 25 = .ok (.iload_n 3, 1) := by decide +kernel
theorem d_rsettle_26 : decode prog_14_method_57_code 26 = .ok (.invokevirtual 402, 3) := by decide +kernel
theorem d_rsettle_29 : decode prog_14_method_57_code 29 = .ok (.ifCond .ne 6, 3) := by decide +kernel
theorem d_rsettle_35 : decode prog_14_method_57_code 35 = .ok (.aload_n 0, 1) := by decide +kernel
theorem d_rsettle_36 : decode prog_14_method_57_code 36 = .ok (.getfield 98, 3) := by decide +kernel
theorem d_rsettle_39 : decode prog_14_method_57_code 39 = .ok (.iload_n 1, 1) := by decide +kernel
theorem d_rsettle_40 : decode prog_14_method_57_code 40 = .ok (.aaload, 1) := by decide +kernel
theorem d_rsettle_41 : decode prog_14_method_57_code 41 = .ok (.iload_n 3, 1) := by decide +kernel
theorem d_rsettle_42 : decode prog_14_method_57_code 42 = .ok (.iconst 0, 1) := by decide +kernel
theorem d_rsettle_43 : decode prog_14_method_57_code 43 = .ok (.bastore, 1) := by decide +kernel
theorem d_rsettle_44 : decode prog_14_method_57_code 44 = .ok (.aload_n 0, 1) := by decide +kernel
theorem d_rsettle_45 : decode prog_14_method_57_code 45 = .ok (.getfield 95, 3) := by decide +kernel
theorem d_rsettle_48 : decode prog_14_method_57_code 48 = .ok (.iload_n 1, 1) := by decide +kernel
theorem d_rsettle_49 : decode prog_14_method_57_code 49 = .ok (.aaload, 1) := by decide +kernel
theorem d_rsettle_50 : decode prog_14_method_57_code 50 = .ok (.iload_n 3, 1) := by decide +kernel
theorem d_rsettle_51 : decode prog_14_method_57_code 51 = .ok (.iconst 1, 1) := by decide +kernel
theorem d_rsettle_52 : decode prog_14_method_57_code 52 = .ok (.bastore, 1) := by decide +kernel
theorem d_rsettle_53 : decode prog_14_method_57_code 53 = .ok (.iinc 2 1, 3) := by decide +kernel
theorem d_rsettle_32 : decode prog_14_method_57_code 32 = .ok (.goto 24, 3) := by decide +kernel
set_option maxHeartbeats 4000000 in
set_option maxRecDepth 100000 in
theorem w_rsettle_B4 {p : Program} {l : Launch} {e : Env} {s : State} {m : MethodId} {args : Array Value} {below : List Frame} {meth : Method} {c : Code} {A : Nat → Prop} {D : va_G} {md : Nat → Nat} {mc : Nat → ClassId} {Q : State → Prop} (hC : MCx "JoinedTreesModel" prog_14_method_57_code 4 (some .int) p s m args meth c A D mc) {S : MS} {x1 : Int32} {x2 : Int32} {x3 : Int32} {o : ((MS × Int32 × Int32 × Int32) ⊕ (MS × Int32))} (Heq : m_rsettle_B4 S x1 x2 x3 = some o) (Ka : ∀ b : MS × Int32 × Int32 × Int32, o = .inl b → ∀ (H : Heap) (locs : List Loc) (ls : Array Slot), va_P D cls (mw md mc b.1) H → va_D A (mw md mc b.1) → va_S A s.heap H locs → lv_has ls 4 [(0, .ref (md 100)), (1, .int b.2.1), (2, .int b.2.2.1), (3, .int b.2.2.2)] → W p l e ({ frames := 2, cells := 0, slots := 0, locals := 46 }) s m args below meth c H locs 0 0 Q (F0 m 4 ls [])) (K0 : ∀ b : MS × Int32, o = .inr b → ∀ (H : Heap) (locs : List Loc) (ls : Array Slot), va_P D cls (mw md mc b.1) H → va_D A (mw md mc b.1) → va_S A s.heap H locs → lv_has ls 4 [(0, .ref (md 100)), (2, .int b.2)] → W p l e ({ frames := 2, cells := 0, slots := 0, locals := 46 }) s m args below meth c H locs 0 0 Q (F0 m 62 ls [])) : ∀ (H : Heap) (locs : List Loc) (ls : Array Slot), va_P D cls (mw md mc S) H → va_D A (mw md mc S) → va_S A s.heap H locs → lv_has ls 4 [(0, .ref (md 100)), (1, .int x1), (2, .int x2), (3, .int x3)] → W p l e ({ frames := 2, cells := 0, slots := 0, locals := 46 }) s m args below meth c H locs 0 0 Q (F0 m 4 ls []) := by
  intro H locs ls hP hD hS hl
  obtain ⟨hx, hb, hr, hml, hown, hts, hK, hA⟩ := id hC
  unfold m_rsettle_B4 at Heq
  refine lv_iload_n hx hb d_rsettle_4 rfl (lv_at hl 3 rfl) ?_
  refine lv_aload_n hx hb d_rsettle_5 rfl (lv_at hl 0 rfl) ?_
  refine va_get (D := D) (ci := 12) (v := .int (S.i 34)) (C := R_MM) (T := F_MM) (N := 77) hx hb hts i_MM hown hK hP 0 rfl rfl 34 (by decide) (hts _ kw_1416) (fun _ h9 => h9) rfl d_rsettle_6 ?_
  refine lv_icmp_ge (tgt := 62) hx hb d_rsettle_9 (by decide) (fun c_1 => ?_) (fun c_1 => ?_)
  · replace Heq := (if_pos c_1).symm.trans Heq
    exact K0 _ (Option.some.inj Heq).symm _ _ _ hP hD hS (lv_sub hl [0, 2] rfl)
  · replace Heq := (if_neg c_1).symm.trans Heq
    refine lv_aload_n hx hb d_rsettle_12 rfl (lv_at hl 0 rfl) ?_
    refine va_get (D := D) (ci := 12) (v := .ref (md 37)) (C := R_MM) (T := F_MM) (N := 77) hx hb hts i_MM hown hK hP 0 rfl rfl 37 (by decide) (hts _ kw_1419) (fun _ h9 => h9) rfl d_rsettle_13 ?_
    refine lv_iload_n hx hb d_rsettle_16 rfl (lv_at hl 1 rfl) ?_
    obtain ⟨hi_2, Heq⟩ := gd_some Heq
    refine tx_ald2 hx hb hK hP 49 4 rfl rfl (i := x1) hi_2 d_rsettle_17 ?_
    refine w_v (y := .ref (md (109 + x1.toNatClampNeg))) rfl ?_
    refine lv_iload_n hx hb d_rsettle_18 rfl (lv_at hl 3 rfl) ?_
    obtain ⟨hi_3, Heq⟩ := gd_some Heq
    refine va_zald hx hb hK hP (59 + x1.toNatClampNeg) 2 (mp_R109 (vp_in.lt hi_2)) rfl (i := x3) hi_3 d_rsettle_19 ?_
    refine w_i (y := S.a (109 + x1.toNatClampNeg) x3.toNatClampNeg) rfl ?_
    refine lv_if_eq (tgt := 56) hx hb d_rsettle_20 (by decide) (fun c_4 => ?_) (fun c_4 => ?_)
    · replace Heq := (if_pos c_4).symm.trans Heq
      exact w_rsettle_J56 hC Heq Ka K0 _ _ _ hP hD hS (lv_sub hl [0, 1, 2, 3] rfl)
    · replace Heq := (if_neg c_4).symm.trans Heq
      refine lv_aload_n hx hb d_rsettle_23 rfl (lv_at hl 0 rfl) ?_
      refine lv_iload_n hx hb d_rsettle_24 rfl (lv_at hl 1 rfl) ?_
      refine lv_iload_n hx hb d_rsettle_25 rfl (lv_at hl 3 rfl) ?_
      obtain ⟨o_5, h_6, Heq⟩ := ob_some Heq
      have hFc := fr_all hD hS hA
      refine va_calli (va_runV (As := [.int x1, .int x3]) (rest := []) ⟨hx, hb, hml, hown, hts⟩ (g_rready l D H.size h_6) (cw_v 2 hts kw_1843 kw_1840 kw_1842 kp_68 kw_11 rfl rfl (by decide +kernel) ⟨Nat.le_of_ble_eq_true rfl, Nat.le_of_ble_eq_true rfl⟩) ⟨g_blind, va_recv hK hP (ci := 12) (q0 := 0) rfl rfl, fun U hU hW => g_pre hU hW hP hK hD⟩ rfl rfl hl.1 rfl (lv_room (Nat.le_of_ble_eq_true rfl)) d_rsettle_26 ⟨Nat.le_of_ble_eq_true rfl, Nat.le_of_ble_eq_true rfl⟩) hS (fun q _ h => hFc q h) hFc (fun rz u t H1 locs ht hvm hw hB hz1 hk1 hS => ?_)
      obtain ⟨hP, -, hD1⟩ := hB
      rw [ht] at hP
      have hD := hD1.weaken (fun _ q _ h => hFc q.1 h)
      generalize H1 = H at hP hS ⊢
      refine W.cs (cells' := 0) (slots' := 0) rfl rfl ?_
      subst hw
      refine lv_if_ne (tgt := 35) hx hb d_rsettle_29 (by decide) (fun c_7 => ?_) (fun c_7 => ?_)
      · replace Heq := (if_neg c_7).symm.trans Heq
        refine lv_aload_n hx hb d_rsettle_35 rfl (lv_at hl 0 rfl) ?_
        refine va_get (D := D) (ci := 12) (v := .ref (md 37)) (C := R_MM) (T := F_MM) (N := 77) hx hb hts i_MM hown hK hP 0 rfl rfl 37 (by decide) (hts _ kw_1419) (fun _ h9 => h9) rfl d_rsettle_36 ?_
        refine lv_iload_n hx hb d_rsettle_39 rfl (lv_at hl 1 rfl) ?_
        obtain ⟨hi_8, Heq⟩ := gd_some Heq
        refine tx_ald2 hx hb hK hP 49 4 rfl rfl (i := x1) hi_8 d_rsettle_40 ?_
        refine w_v (y := .ref (md (109 + x1.toNatClampNeg))) rfl ?_
        refine lv_iload_n hx hb d_rsettle_41 rfl (lv_at hl 3 rfl) ?_
        refine lv_iconst (v := 0) hx hb d_rsettle_42 (by decide) ?_
        obtain ⟨hi_9, Heq⟩ := gd_some Heq
        refine va_zast hx hb hK hP hD hS (59 + x1.toNatClampNeg) 2 (mp_R109 (vp_in.lt hi_8)) rfl (i := x3) (x := 0) hi_9 d_rsettle_43 (fun H locs hP hD hS => ?_)
        rw [(mw_R109 (vp_in.lt hi_8))] at hP hD
        refine lv_aload_n hx hb d_rsettle_44 rfl (lv_at hl 0 rfl) ?_
        refine va_get (D := D) (ci := 12) (v := .ref (md 36)) (C := R_MM) (T := F_MM) (N := 77) hx hb hts i_MM hown hK hP 0 rfl rfl 36 (by decide) (hts _ kw_1418) (fun _ h9 => h9) rfl d_rsettle_45 ?_
        refine lv_iload_n hx hb d_rsettle_48 rfl (lv_at hl 1 rfl) ?_
        obtain ⟨hi_10, Heq⟩ := gd_some Heq
        refine tx_ald2 hx hb hK hP 48 4 rfl rfl (i := x1) hi_10 d_rsettle_49 ?_
        refine w_v (y := .ref (md (101 + x1.toNatClampNeg))) rfl ?_
        refine lv_iload_n hx hb d_rsettle_50 rfl (lv_at hl 3 rfl) ?_
        refine lv_iconst (v := 1) hx hb d_rsettle_51 (by decide) ?_
        obtain ⟨hi_11, Heq⟩ := gd_some Heq
        refine va_zast hx hb hK hP hD hS (51 + x1.toNatClampNeg) 2 (mp_R101 (vp_in.lt hi_10)) rfl (i := x3) (x := 1) hi_11 d_rsettle_52 (fun H locs hP hD hS => ?_)
        rw [(mw_R101 (vp_in.lt hi_10))] at hP hD
        refine lv_iinc (v := x2 + 1) (lv' := [(2, .int (x2 + 1)), (0, .ref (md 100)), (1, .int x1), (3, .int x3)]) hx hb d_rsettle_53 hl (k := 2) rfl rfl (by decide) rfl (fun ls hl => ?_)
        exact w_rsettle_J56 hC Heq Ka K0 _ _ _ hP hD hS (lv_sub hl [1, 2, 0, 3] rfl)
      · replace Heq := (if_pos c_7).symm.trans Heq
        refine lv_goto (tgt := 56) hx hb d_rsettle_32 (by decide) ?_
        exact w_rsettle_J56 hC Heq Ka K0 _ _ _ hP hD hS (lv_sub hl [0, 1, 2, 3] rfl)
def m_rsettle_L4 (S : MS) (x1 : Int32) (x2 : Int32) (x3 : Int32) : Option (MS × Int32) := lp (fun a : MS × Int32 × Int32 × Int32 => m_rsettle_B4 a.1 a.2.1 a.2.2.1 a.2.2.2) FU (S, x1, x2, x3)
theorem w_rsettle_L4 {p : Program} {l : Launch} {e : Env} {s : State} {m : MethodId} {args : Array Value} {below : List Frame} {meth : Method} {c : Code} {A : Nat → Prop} {D : va_G} {md : Nat → Nat} {mc : Nat → ClassId} {Q : State → Prop} (hC : MCx "JoinedTreesModel" prog_14_method_57_code 4 (some .int) p s m args meth c A D mc) {S : MS} {x1 : Int32} {x2 : Int32} {x3 : Int32} {o : MS × Int32} (Heq : m_rsettle_L4 S x1 x2 x3 = some o) (K0 : ∀ b : MS × Int32, o = b → ∀ (H : Heap) (locs : List Loc) (ls : Array Slot), va_P D cls (mw md mc b.1) H → va_D A (mw md mc b.1) → va_S A s.heap H locs → lv_has ls 4 [(0, .ref (md 100)), (2, .int b.2)] → W p l e ({ frames := 2, cells := 0, slots := 0, locals := 46 }) s m args below meth c H locs 0 0 Q (F0 m 62 ls [])) : ∀ (H : Heap) (locs : List Loc) (ls : Array Slot), va_P D cls (mw md mc S) H → va_D A (mw md mc S) → va_S A s.heap H locs → lv_has ls 4 [(0, .ref (md 100)), (1, .int x1), (2, .int x2), (3, .int x3)] → W p l e ({ frames := 2, cells := 0, slots := 0, locals := 46 }) s m args below meth c H locs 0 0 Q (F0 m 4 ls []) := by
  refine lp_w (G := fun a : MS × Int32 × Int32 × Int32 => ∀ (H : Heap) (locs : List Loc) (ls : Array Slot), va_P D cls (mw md mc a.1) H → va_D A (mw md mc a.1) → va_S A s.heap H locs → lv_has ls 4 [(0, .ref (md 100)), (1, .int a.2.1), (2, .int a.2.2.1), (3, .int a.2.2.2)] → W p l e ({ frames := 2, cells := 0, slots := 0, locals := 46 }) s m args below meth c H locs 0 0 Q (F0 m 4 ls [])) ?_ FU (S, x1, x2, x3) Heq
  intro a o1 ho Ka Ke
  exact w_rsettle_B4 hC ho (fun b h => Ka b h) (fun b h => K0 b (Ke _ h).symm)
def m_rsettle_J0 (S : MS) (x1 : Int32) : Option (MS × Int32) := ob (m_rsettle_L4 S x1 0 0) (fun b_1 => some (b_1.1, b_1.2))
theorem d_rsettle_62 : decode prog_14_method_57_code 62 = .ok (.iload_n 2, 1) := by decide +kernel
theorem d_rsettle_63 : decode prog_14_method_57_code 63 = .ok (.ireturn, 1) := by decide +kernel
set_option maxHeartbeats 4000000 in
set_option maxRecDepth 100000 in
theorem w_rsettle_J0 {p : Program} {l : Launch} {e : Env} {s : State} {m : MethodId} {args : Array Value} {below : List Frame} {meth : Method} {c : Code} {A : Nat → Prop} {D : va_G} {md : Nat → Nat} {mc : Nat → ClassId} {Q : State → Prop} (hC : MCx "JoinedTreesModel" prog_14_method_57_code 4 (some .int) p s m args meth c A D mc) {S : MS} {x1 : Int32} {o : MS × Int32} (Heq : m_rsettle_J0 S x1 = some o) (Kr : ∀ r : MS × Int32, o = r → ∀ (pc : Nat) (H : Heap) (locs : List Loc) (ls : Array Slot), decode prog_14_method_57_code pc = .ok (.ireturn, 1) → va_P D cls (mw md mc r.1) H → va_D A (mw md mc r.1) → va_S A s.heap H locs → W p l e ({ frames := 2, cells := 0, slots := 0, locals := 46 }) s m args below meth c H locs 0 0 Q (F0 m pc ls [.int r.2])) : ∀ (H : Heap) (locs : List Loc) (ls : Array Slot), va_P D cls (mw md mc S) H → va_D A (mw md mc S) → va_S A s.heap H locs → lv_has ls 4 [(0, .ref (md 100)), (1, .int x1)] → W p l e ({ frames := 2, cells := 0, slots := 0, locals := 46 }) s m args below meth c H locs 0 0 Q (F0 m 0 ls []) := by
  intro H locs ls hP hD hS hl
  obtain ⟨hx, hb, hr, hml, hown, hts, hK, hA⟩ := id hC
  unfold m_rsettle_J0 at Heq
  refine lv_iconst (v := 0) hx hb d_rsettle_0 (by decide) ?_
  refine lv_istore_n (lv' := [(2, .int 0), (0, .ref (md 100)), (1, .int x1)]) hx hb d_rsettle_1 rfl hl (by decide) rfl (fun ls hl => ?_)
  refine lv_iconst (v := 0) hx hb d_rsettle_2 (by decide) ?_
  refine lv_istore_n (lv' := [(3, .int 0), (2, .int 0), (0, .ref (md 100)), (1, .int x1)]) hx hb d_rsettle_3 rfl hl (by decide) rfl (fun ls hl => ?_)
  obtain ⟨b_1, h_2, Heq⟩ := ob_some Heq
  refine w_rsettle_L4 hC h_2 (fun b h => ?_) _ _ _ hP hD hS (lv_sub hl [2, 3, 1, 0] rfl)
  subst h
  intro H locs ls hP hD hS hl
  refine lv_iload_n hx hb d_rsettle_62 rfl (lv_at hl 1 rfl) ?_
  exact Kr _ (Option.some.inj Heq).symm 63 _ _ _ d_rsettle_63 hP hD hS
def m_rsettle (S : MS) (x1 : Int32) : Option (MS × Int32) := m_rsettle_J0 S x1
theorem g_rsettle (l : Launch) (D : va_G) (sz : Nat) {md : Nat → Nat} {mc : Nat → ClassId} {S : MS} {x1 : Int32} {o : MS × Int32} (Heq : m_rsettle S x1 = some o) : Met l ⟨"JoinedTreesModel", "settle", "(I)I"⟩ (Cond.code ⟨"JoinedTreesModel", "settle", "(I)I"⟩ prog_14_method_57_code 4 (some .int) :: gb) ({ frames := 2, cells := 0, slots := 0, locals := 46 }) (gPc D (mw md mc S) (mty mc) sz [.ref (md 100), .int x1]) (va_Qi (fun (r : Int32) (_ : Unit) => r = o.2) (fun _ t => gO D (mw md mc o.1) (mty mc) (va_A (mw md mc S) sz) t) (va_A (mw md mc S) sz)) 0 0 (va_A (mw md mc S) sz) := by
  refine Met.ofW (cc := prog_14_method_57_code) (maxL := 4) (ret := (some .int)) (by decide) rfl ?_
  intro p e s m args below meth c s₁ B hml hv
  obtain ⟨rfl, hsz, hP, hK, hD0⟩ := hv
  have hx := B.exec
  have hb := B.bytes
  have hr := B.returns
  have hts : ∀ w9 ∈ gb, w9.before [.ref (md 100), .int x1].toArray s = true := fun w9 h => atoms_spec (ws := Cond.code ⟨"JoinedTreesModel", "settle", "(I)I"⟩ prog_14_method_57_code 4 (some .int) :: gb) B.pre w9 (List.mem_cons_of_mem _ h)
  have hown : s.vm.findClass "JoinedTreesModel" = some m.cls := findClass_of_methodNamed B.named
  have hlocks := B.notSynchronized
  subst hsz
  have hD := hD0.self (sz := s.heap.size)
  generalize hAe : va_A (mw md mc S) s.heap.size = A at hD ⊢
  have hA : ∀ q : Nat, s.heap.size ≤ q → A q := fun q h => by rw [← hAe]; exact Or.inr h
  have hS : va_S A s.heap s.heap [] := va_S.rf
  have hl := lv_entry ([.ref (md 100), .int x1]) (n := 4) (Nat.le_of_ble_eq_true rfl)
  rw [lg_entry_eq]
  generalize (lg_sl ([.ref (md 100), .int x1]) ++ List.replicate (4 - (lg_sl ([.ref (md 100), .int x1])).length) Slot.unset).toArray = ls at hl ⊢
  have hl : lv_has ls 4 [(0, .ref (md 100)), (1, .int x1)] := hl
  refine w_rsettle_J0 ⟨hx, hb, hr, hml, hown, hts, hK, hA⟩ Heq (fun r h pc H locs ls hd hP hD hS => ?_) _ _ _ hP hD hS (lv_sub hl [0, 1] rfl)
  subst h
  exact W.iret hx hb hr (fun t ht hW => ⟨⟨_, (), rfl, rfl, by rw [ht]; exact hP, va_K.moved hW.alike hK, hD⟩, hS.F ht⟩) hS.2.2 hd
def m_rsend_J21 (S : MS) : Option (MS × Int32) := ob (m_rno S 1) (fun o_1 => some (o_1.1, o_1.2))
theorem d_rsend_0 : decode prog_14_method_58_code 0 = .ok (.iload_n 1, 1) := by decide +kernel
theorem d_rsend_1 : decode prog_14_method_58_code 1 = .ok (.invokestatic 251, 3) := by decide +kernel
theorem d_rsend_4 : decode prog_14_method_58_code 4 = .ok (.ifCond .eq 17, 3) := by decide +kernel
theorem d_rsend_21 : decode prog_14_method_58_code 21 = .ok (.aload_n 0, 1) := by decide +kernel
theorem d_rsend_22 : decode prog_14_method_58_code 22 = .ok (.iconst 1, 1) := by decide +kernel
theorem d_rsend_23 : decode prog_14_method_58_code 23 = .ok (.invokevirtual 191, 3) := by decide +kernel
theorem d_rsend_26 : decode prog_14_method_58_code 26 = .ok (.ireturn, 1) := by decide +kernel
set_option maxHeartbeats 4000000 in
set_option maxRecDepth 100000 in
theorem w_rsend_J21 {p : Program} {l : Launch} {e : Env} {s : State} {m : MethodId} {args : Array Value} {below : List Frame} {meth : Method} {c : Code} {A : Nat → Prop} {D : va_G} {md : Nat → Nat} {mc : Nat → ClassId} {Q : State → Prop} (hC : MCx "JoinedTreesModel" prog_14_method_58_code 6 (some .int) p s m args meth c A D mc) {S : MS} {o : MS × Int32} (Heq : m_rsend_J21 S = some o) (Kr : ∀ r : MS × Int32, o = r → ∀ (pc : Nat) (H : Heap) (locs : List Loc) (ls : Array Slot), decode prog_14_method_58_code pc = .ok (.ireturn, 1) → va_P D cls (mw md mc r.1) H → va_D A (mw md mc r.1) → va_S A s.heap H locs → W p l e ({ frames := 3, cells := 0, slots := 0, locals := 69 }) s m args below meth c H locs 0 0 Q (F0 m pc ls [.int r.2])) : ∀ (H : Heap) (locs : List Loc) (ls : Array Slot), va_P D cls (mw md mc S) H → va_D A (mw md mc S) → va_S A s.heap H locs → lv_has ls 6 [(0, .ref (md 100))] → W p l e ({ frames := 3, cells := 0, slots := 0, locals := 69 }) s m args below meth c H locs 0 0 Q (F0 m 21 ls []) := by
  intro H locs ls hP hD hS hl
  obtain ⟨hx, hb, hr, hml, hown, hts, hK, hA⟩ := id hC
  unfold m_rsend_J21 at Heq
  refine lv_aload_n hx hb d_rsend_21 rfl (lv_at hl 0 rfl) ?_
  refine lv_iconst (v := 1) hx hb d_rsend_22 (by decide) ?_
  obtain ⟨o_1, h_2, Heq⟩ := ob_some Heq
  have hFc := fr_all hD hS hA
  refine va_calli (va_runV (As := [.int 1]) (rest := []) ⟨hx, hb, hml, hown, hts⟩ (g_rno l D H.size h_2) (cw_v 1 hts kw_1626 kw_1623 kw_1625 kp_29 kw_11 rfl rfl (by decide +kernel) ⟨Nat.le_of_ble_eq_true rfl, Nat.le_of_ble_eq_true rfl⟩) ⟨g_blind, va_recv hK hP (ci := 12) (q0 := 0) rfl rfl, fun U hU hW => g_pre hU hW hP hK hD⟩ rfl rfl hl.1 rfl (lv_room (Nat.le_of_ble_eq_true rfl)) d_rsend_23 ⟨Nat.le_of_ble_eq_true rfl, Nat.le_of_ble_eq_true rfl⟩) hS (fun q _ h => hFc q h) hFc (fun rz u t H1 locs ht hvm hw hB hz1 hk1 hS => ?_)
  obtain ⟨hP, -, hD1⟩ := hB
  rw [ht] at hP
  have hD := hD1.weaken (fun _ q _ h => hFc q.1 h)
  generalize H1 = H at hP hS ⊢
  refine W.cs (cells' := 0) (slots' := 0) rfl rfl ?_
  subst hw
  exact Kr _ (Option.some.inj Heq).symm 26 _ _ _ d_rsend_26 hP hD hS
def m_rsend_J53 (S : MS) : Option (MS × Int32) := ob (m_rno S 3) (fun o_1 => some (o_1.1, o_1.2))
theorem d_rsend_7 : decode prog_14_method_58_code 7 = .ok (.iload_n 2, 1) := by decide +kernel
theorem d_rsend_8 : decode prog_14_method_58_code 8 = .ok (.invokestatic 251, 3) := by decide +kernel
theorem d_rsend_11 : decode prog_14_method_58_code 11 = .ok (.ifCond .eq 10, 3) := by decide +kernel
theorem d_rsend_14 : decode prog_14_method_58_code 14 = .ok (.iload_n 3, 1) := by decide +kernel
theorem d_rsend_15 : decode prog_14_method_58_code 15 = .ok (.invokestatic 251, 3) := by decide +kernel
theorem d_rsend_18 : decode prog_14_method_58_code 18 = .ok (.ifCond .ne 9, 3) := by decide +kernel
theorem d_rsend_27 : decode prog_14_method_58_code 27 = .ok (.aload_n 0, 1) := by decide +kernel
theorem d_rsend_28 : decode prog_14_method_58_code 28 = .ok (.iload_n 3, 1) := by decide +kernel
theorem d_rsend_29 : decode prog_14_method_58_code 29 = .ok (.iload 4, 2) := by decide +kernel
theorem d_rsend_31 : decode prog_14_method_58_code 31 = .ok (.invokevirtual 399, 3) := by decide +kernel
theorem d_rsend_34 : decode prog_14_method_58_code 34 = .ok (.istore 5, 2) := by decide +kernel
theorem d_rsend_36 : decode prog_14_method_58_code 36 = .ok (.iload 5, 2) := by decide +kernel
theorem d_rsend_38 : decode prog_14_method_58_code 38 = .ok (.ifCond .lt 15, 3) := by decide +kernel
theorem d_rsend_53 : decode prog_14_method_58_code 53 = .ok (.aload_n 0, 1) := by decide +kernel
theorem d_rsend_54 : decode prog_14_method_58_code 54 = .ok (.iconst 3, 1) := by decide +kernel
theorem d_rsend_55 : decode prog_14_method_58_code 55 = .ok (.invokevirtual 191, 3) := by decide +kernel
theorem d_rsend_58 : decode prog_14_method_58_code 58 = .ok (.ireturn, 1) := by decide +kernel
set_option maxHeartbeats 4000000 in
set_option maxRecDepth 100000 in
theorem w_rsend_J53 {p : Program} {l : Launch} {e : Env} {s : State} {m : MethodId} {args : Array Value} {below : List Frame} {meth : Method} {c : Code} {A : Nat → Prop} {D : va_G} {md : Nat → Nat} {mc : Nat → ClassId} {Q : State → Prop} (hC : MCx "JoinedTreesModel" prog_14_method_58_code 6 (some .int) p s m args meth c A D mc) {S : MS} {o : MS × Int32} (Heq : m_rsend_J53 S = some o) (Kr : ∀ r : MS × Int32, o = r → ∀ (pc : Nat) (H : Heap) (locs : List Loc) (ls : Array Slot), decode prog_14_method_58_code pc = .ok (.ireturn, 1) → va_P D cls (mw md mc r.1) H → va_D A (mw md mc r.1) → va_S A s.heap H locs → W p l e ({ frames := 3, cells := 0, slots := 0, locals := 69 }) s m args below meth c H locs 0 0 Q (F0 m pc ls [.int r.2])) : ∀ (H : Heap) (locs : List Loc) (ls : Array Slot), va_P D cls (mw md mc S) H → va_D A (mw md mc S) → va_S A s.heap H locs → lv_has ls 6 [(0, .ref (md 100))] → W p l e ({ frames := 3, cells := 0, slots := 0, locals := 69 }) s m args below meth c H locs 0 0 Q (F0 m 53 ls []) := by
  intro H locs ls hP hD hS hl
  obtain ⟨hx, hb, hr, hml, hown, hts, hK, hA⟩ := id hC
  unfold m_rsend_J53 at Heq
  refine lv_aload_n hx hb d_rsend_53 rfl (lv_at hl 0 rfl) ?_
  refine lv_iconst (v := 3) hx hb d_rsend_54 (by decide) ?_
  obtain ⟨o_1, h_2, Heq⟩ := ob_some Heq
  have hFc := fr_all hD hS hA
  refine va_calli (va_runV (As := [.int 3]) (rest := []) ⟨hx, hb, hml, hown, hts⟩ (g_rno l D H.size h_2) (cw_v 1 hts kw_1626 kw_1623 kw_1625 kp_29 kw_11 rfl rfl (by decide +kernel) ⟨Nat.le_of_ble_eq_true rfl, Nat.le_of_ble_eq_true rfl⟩) ⟨g_blind, va_recv hK hP (ci := 12) (q0 := 0) rfl rfl, fun U hU hW => g_pre hU hW hP hK hD⟩ rfl rfl hl.1 rfl (lv_room (Nat.le_of_ble_eq_true rfl)) d_rsend_55 ⟨Nat.le_of_ble_eq_true rfl, Nat.le_of_ble_eq_true rfl⟩) hS (fun q _ h => hFc q h) hFc (fun rz u t H1 locs ht hvm hw hB hz1 hk1 hS => ?_)
  obtain ⟨hP, -, hD1⟩ := hB
  rw [ht] at hP
  have hD := hD1.weaken (fun _ q _ h => hFc q.1 h)
  generalize H1 = H at hP hS ⊢
  refine W.cs (cells' := 0) (slots' := 0) rfl rfl ?_
  subst hw
  exact Kr _ (Option.some.inj Heq).symm 58 _ _ _ d_rsend_58 hP hD hS
def m_rsend_J100 (S : MS) (x2 : Int32) : Option (MS × Int32) := ob (m_rsettle S x2) (fun o_1 => some (o_1.1, o_1.2))
theorem d_rsend_41 : decode prog_14_method_58_code 41 = .ok (.aload_n 0, 1) := by decide +kernel
theorem d_rsend_42 : decode prog_14_method_58_code 42 = .ok (.getfield 95, 3) := by decide +kernel
theorem d_rsend_45 : decode prog_14_method_58_code 45 = .ok (.iload_n 1, 1) := by decide +kernel
theorem d_rsend_46 : decode prog_14_method_58_code 46 = .ok (.aaload, 1) := by decide +kernel
theorem d_rsend_47 : decode prog_14_method_58_code 47 = .ok (.iload 5, 2) := by decide +kernel
theorem d_rsend_49 : decode prog_14_method_58_code 49 = .ok (.baload, 1) := by decide +kernel
theorem d_rsend_50 : decode prog_14_method_58_code 50 = .ok (.ifCond .ne 9, 3) := by decide +kernel
theorem d_rsend_59 : decode prog_14_method_58_code 59 = .ok (.aload_n 0, 1) := by decide +kernel
theorem d_rsend_60 : decode prog_14_method_58_code 60 = .ok (.iload_n 2, 1) := by decide +kernel
theorem d_rsend_61 : decode prog_14_method_58_code 61 = .ok (.invokevirtual 387, 3) := by decide +kernel
theorem d_rsend_64 : decode prog_14_method_58_code 64 = .ok (.ifCond .le 9, 3) := by decide +kernel
theorem d_rsend_73 : decode prog_14_method_58_code 73 = .ok (.aload_n 0, 1) := by decide +kernel
theorem d_rsend_74 : decode prog_14_method_58_code 74 = .ok (.iconst 0, 1) := by decide +kernel
theorem d_rsend_75 : decode prog_14_method_58_code 75 = .ok (.putfield 176, 3) := by decide +kernel
theorem d_rsend_78 : decode prog_14_method_58_code 78 = .ok (.aload_n 0, 1) := by decide +kernel
theorem d_rsend_79 : decode prog_14_method_58_code 79 = .ok (.getfield 95, 3) := by decide +kernel
theorem d_rsend_82 : decode prog_14_method_58_code 82 = .ok (.iload_n 2, 1) := by decide +kernel
theorem d_rsend_83 : decode prog_14_method_58_code 83 = .ok (.aaload, 1) := by decide +kernel
theorem d_rsend_84 : decode prog_14_method_58_code 84 = .ok (.iload 5, 2) := by decide +kernel
theorem d_rsend_86 : decode prog_14_method_58_code 86 = .ok (.baload, 1) := by decide +kernel
theorem d_rsend_87 : decode prog_14_method_58_code 87 = .ok (.ifCond .ne 13, 3) := by decide +kernel
theorem d_rsend_100 : decode prog_14_method_58_code 100 = .ok (.aload_n 0, 1) := by decide +kernel
theorem d_rsend_101 : decode prog_14_method_58_code 101 = .ok (.iload_n 2, 1) := by decide +kernel
theorem d_rsend_102 : decode prog_14_method_58_code 102 = .ok (.invokevirtual 405, 3) := by decide +kernel
theorem d_rsend_105 : decode prog_14_method_58_code 105 = .ok (.ireturn, 1) := by decide +kernel
set_option maxHeartbeats 4000000 in
set_option maxRecDepth 100000 in
theorem w_rsend_J100 {p : Program} {l : Launch} {e : Env} {s : State} {m : MethodId} {args : Array Value} {below : List Frame} {meth : Method} {c : Code} {A : Nat → Prop} {D : va_G} {md : Nat → Nat} {mc : Nat → ClassId} {Q : State → Prop} (hC : MCx "JoinedTreesModel" prog_14_method_58_code 6 (some .int) p s m args meth c A D mc) {S : MS} {x2 : Int32} {o : MS × Int32} (Heq : m_rsend_J100 S x2 = some o) (Kr : ∀ r : MS × Int32, o = r → ∀ (pc : Nat) (H : Heap) (locs : List Loc) (ls : Array Slot), decode prog_14_method_58_code pc = .ok (.ireturn, 1) → va_P D cls (mw md mc r.1) H → va_D A (mw md mc r.1) → va_S A s.heap H locs → W p l e ({ frames := 3, cells := 0, slots := 0, locals := 69 }) s m args below meth c H locs 0 0 Q (F0 m pc ls [.int r.2])) : ∀ (H : Heap) (locs : List Loc) (ls : Array Slot), va_P D cls (mw md mc S) H → va_D A (mw md mc S) → va_S A s.heap H locs → lv_has ls 6 [(0, .ref (md 100)), (2, .int x2)] → W p l e ({ frames := 3, cells := 0, slots := 0, locals := 69 }) s m args below meth c H locs 0 0 Q (F0 m 100 ls []) := by
  intro H locs ls hP hD hS hl
  obtain ⟨hx, hb, hr, hml, hown, hts, hK, hA⟩ := id hC
  unfold m_rsend_J100 at Heq
  refine lv_aload_n hx hb d_rsend_100 rfl (lv_at hl 0 rfl) ?_
  refine lv_iload_n hx hb d_rsend_101 rfl (lv_at hl 1 rfl) ?_
  obtain ⟨o_1, h_2, Heq⟩ := ob_some Heq
  have hFc := fr_all hD hS hA
  refine va_calli (va_runV (As := [.int x2]) (rest := []) ⟨hx, hb, hml, hown, hts⟩ (g_rsettle l D H.size h_2) (cw_v 1 hts kw_1839 kw_1836 kw_1838 kp_67 kw_11 rfl rfl (by decide +kernel) ⟨Nat.le_of_ble_eq_true rfl, Nat.le_of_ble_eq_true rfl⟩) ⟨g_blind, va_recv hK hP (ci := 12) (q0 := 0) rfl rfl, fun U hU hW => g_pre hU hW hP hK hD⟩ rfl rfl hl.1 rfl (lv_room (Nat.le_of_ble_eq_true rfl)) d_rsend_102 ⟨Nat.le_of_ble_eq_true rfl, Nat.le_of_ble_eq_true rfl⟩) hS (fun q _ h => hFc q h) hFc (fun rz u t H1 locs ht hvm hw hB hz1 hk1 hS => ?_)
  obtain ⟨hP, -, hD1⟩ := hB
  rw [ht] at hP
  have hD := hD1.weaken (fun _ q _ h => hFc q.1 h)
  generalize H1 = H at hP hS ⊢
  refine W.cs (cells' := 0) (slots' := 0) rfl rfl ?_
  subst hw
  exact Kr _ (Option.some.inj Heq).symm 105 _ _ _ d_rsend_105 hP hD hS
def m_rsend_J0 (S : MS) (x1 : Int32) (x2 : Int32) (x3 : Int32) (x4 : Int32) : Option (MS × Int32) := ob (m_risReplica S x1) (fun o_1 => (if o_1.2 = 0 then m_rsend_J21 o_1.1 else ob (m_risReplica o_1.1 x2) (fun o_4 => (if o_4.2 = 0 then m_rsend_J21 o_4.1 else ob (m_risReplica o_4.1 x3) (fun o_7 => (if o_7.2 = 0 then m_rsend_J21 o_7.1 else ob (m_rfind o_7.1 x3 x4) (fun o_10 => (if o_10.2 < 0 then m_rsend_J53 o_10.1 else gd x1 8 (gd o_10.2 1000 ((if o_10.1.a (101 + x1.toNatClampNeg) o_10.2.toNatClampNeg = 0 then m_rsend_J53 o_10.1 else ob (m_ropen o_10.1 x2) (fun o_16 => (if o_16.2 ≤ 0 then gd x2 8 (gd o_10.2 1000 ((if o_16.1.a (101 + x2.toNatClampNeg) o_10.2.toNatClampNeg = 0 then gd x2 8 (gd o_10.2 1000 (m_rsend_J100 ((o_16.1.setI 0 0).setA (109 + x2.toNatClampNeg) (upd (o_16.1.a (109 + x2.toNatClampNeg)) o_10.2.toNatClampNeg (vp_nar .boolean 1))) x2)) else m_rsend_J100 (o_16.1.setI 0 0) x2))) else ob (m_rno o_16.1 2) (fun o_24 => some (o_24.1, o_24.2)))))))))))))))
theorem d_rsend_90 : decode prog_14_method_58_code 90 = .ok (.aload_n 0, 1) := by decide +kernel
theorem d_rsend_91 : decode prog_14_method_58_code 91 = .ok (.getfield 98, 3) := by decide +kernel
theorem d_rsend_94 : decode prog_14_method_58_code 94 = .ok (.iload_n 2, 1) := by decide +kernel
theorem d_rsend_95 : decode prog_14_method_58_code 95 = .ok (.aaload, 1) := by decide +kernel
theorem d_rsend_96 : decode prog_14_method_58_code 96 = .ok (.iload 5, 2) := by decide +kernel
theorem d_rsend_98 : decode prog_14_method_58_code 98 = .ok (.iconst 1, 1) := by decide +kernel
theorem d_rsend_99 : decode prog_14_method_58_code 99 = .ok (.bastore, 1) := by decide +kernel
theorem d_rsend_67 : decode prog_14_method_58_code 67 = .ok (.aload_n 0, 1) := by decide +kernel
theorem d_rsend_68 : decode prog_14_method_58_code 68 = .ok (.iconst 2, 1) := by decide +kernel
theorem d_rsend_69 : decode prog_14_method_58_code 69 = .ok (.invokevirtual 191, 3) := by decide +kernel
theorem d_rsend_72 : decode prog_14_method_58_code 72 = .ok (.ireturn, 1) := by decide +kernel
set_option maxHeartbeats 4000000 in
set_option maxRecDepth 100000 in
theorem w_rsend_J0 {p : Program} {l : Launch} {e : Env} {s : State} {m : MethodId} {args : Array Value} {below : List Frame} {meth : Method} {c : Code} {A : Nat → Prop} {D : va_G} {md : Nat → Nat} {mc : Nat → ClassId} {Q : State → Prop} (hC : MCx "JoinedTreesModel" prog_14_method_58_code 6 (some .int) p s m args meth c A D mc) {S : MS} {x1 : Int32} {x2 : Int32} {x3 : Int32} {x4 : Int32} {o : MS × Int32} (Heq : m_rsend_J0 S x1 x2 x3 x4 = some o) (Kr : ∀ r : MS × Int32, o = r → ∀ (pc : Nat) (H : Heap) (locs : List Loc) (ls : Array Slot), decode prog_14_method_58_code pc = .ok (.ireturn, 1) → va_P D cls (mw md mc r.1) H → va_D A (mw md mc r.1) → va_S A s.heap H locs → W p l e ({ frames := 3, cells := 0, slots := 0, locals := 69 }) s m args below meth c H locs 0 0 Q (F0 m pc ls [.int r.2])) : ∀ (H : Heap) (locs : List Loc) (ls : Array Slot), va_P D cls (mw md mc S) H → va_D A (mw md mc S) → va_S A s.heap H locs → lv_has ls 6 [(0, .ref (md 100)), (1, .int x1), (2, .int x2), (3, .int x3), (4, .int x4)] → W p l e ({ frames := 3, cells := 0, slots := 0, locals := 69 }) s m args below meth c H locs 0 0 Q (F0 m 0 ls []) := by
  intro H locs ls hP hD hS hl
  obtain ⟨hx, hb, hr, hml, hown, hts, hK, hA⟩ := id hC
  unfold m_rsend_J0 at Heq
  refine lv_iload_n hx hb d_rsend_0 rfl (lv_at hl 1 rfl) ?_
  obtain ⟨o_1, h_2, Heq⟩ := ob_some Heq
  have hFc := fr_all hD hS hA
  refine va_calli (va_runS (As := [.int x1]) (rest := []) ⟨hx, hb, hml, hown, hts⟩ (g_risReplica l D H.size h_2) (cw_s 1 hts kw_1641 kw_1639 kw_1640 kw_11 rfl rfl (by decide +kernel) ⟨Nat.le_of_ble_eq_true rfl, Nat.le_of_ble_eq_true rfl⟩) ⟨g_blind, fun U hU hW => g_pre hU hW hP hK hD⟩ rfl rfl hl.1 rfl (lv_room (Nat.le_of_ble_eq_true rfl)) d_rsend_1 ⟨Nat.le_of_ble_eq_true rfl, Nat.le_of_ble_eq_true rfl⟩) hS (fun q _ h => hFc q h) hFc (fun rz u t H1 locs ht hvm hw hB hz1 hk1 hS => ?_)
  obtain ⟨hP, -, hD1⟩ := hB
  rw [ht] at hP
  have hD := hD1.weaken (fun _ q _ h => hFc q.1 h)
  generalize H1 = H at hP hS ⊢
  refine W.cs (cells' := 0) (slots' := 0) rfl rfl ?_
  subst hw
  refine lv_if_eq (tgt := 21) hx hb d_rsend_4 (by decide) (fun c_3 => ?_) (fun c_3 => ?_)
  · replace Heq := (if_pos c_3).symm.trans Heq
    exact w_rsend_J21 hC Heq Kr _ _ _ hP hD hS (lv_sub hl [0] rfl)
  · replace Heq := (if_neg c_3).symm.trans Heq
    refine lv_iload_n hx hb d_rsend_7 rfl (lv_at hl 2 rfl) ?_
    obtain ⟨o_4, h_5, Heq⟩ := ob_some Heq
    have hFc := fr_all hD hS hA
    refine va_calli (va_runS (As := [.int x2]) (rest := []) ⟨hx, hb, hml, hown, hts⟩ (g_risReplica l D H.size h_5) (cw_s 1 hts kw_1641 kw_1639 kw_1640 kw_11 rfl rfl (by decide +kernel) ⟨Nat.le_of_ble_eq_true rfl, Nat.le_of_ble_eq_true rfl⟩) ⟨g_blind, fun U hU hW => g_pre hU hW hP hK hD⟩ rfl rfl hl.1 rfl (lv_room (Nat.le_of_ble_eq_true rfl)) d_rsend_8 ⟨Nat.le_of_ble_eq_true rfl, Nat.le_of_ble_eq_true rfl⟩) hS (fun q _ h => hFc q h) hFc (fun rz u t H1 locs ht hvm hw hB hz1 hk1 hS => ?_)
    obtain ⟨hP, -, hD1⟩ := hB
    rw [ht] at hP
    have hD := hD1.weaken (fun _ q _ h => hFc q.1 h)
    generalize H1 = H at hP hS ⊢
    refine W.cs (cells' := 0) (slots' := 0) rfl rfl ?_
    subst hw
    refine lv_if_eq (tgt := 21) hx hb d_rsend_11 (by decide) (fun c_6 => ?_) (fun c_6 => ?_)
    · replace Heq := (if_pos c_6).symm.trans Heq
      exact w_rsend_J21 hC Heq Kr _ _ _ hP hD hS (lv_sub hl [0] rfl)
    · replace Heq := (if_neg c_6).symm.trans Heq
      refine lv_iload_n hx hb d_rsend_14 rfl (lv_at hl 3 rfl) ?_
      obtain ⟨o_7, h_8, Heq⟩ := ob_some Heq
      have hFc := fr_all hD hS hA
      refine va_calli (va_runS (As := [.int x3]) (rest := []) ⟨hx, hb, hml, hown, hts⟩ (g_risReplica l D H.size h_8) (cw_s 1 hts kw_1641 kw_1639 kw_1640 kw_11 rfl rfl (by decide +kernel) ⟨Nat.le_of_ble_eq_true rfl, Nat.le_of_ble_eq_true rfl⟩) ⟨g_blind, fun U hU hW => g_pre hU hW hP hK hD⟩ rfl rfl hl.1 rfl (lv_room (Nat.le_of_ble_eq_true rfl)) d_rsend_15 ⟨Nat.le_of_ble_eq_true rfl, Nat.le_of_ble_eq_true rfl⟩) hS (fun q _ h => hFc q h) hFc (fun rz u t H1 locs ht hvm hw hB hz1 hk1 hS => ?_)
      obtain ⟨hP, -, hD1⟩ := hB
      rw [ht] at hP
      have hD := hD1.weaken (fun _ q _ h => hFc q.1 h)
      generalize H1 = H at hP hS ⊢
      refine W.cs (cells' := 0) (slots' := 0) rfl rfl ?_
      subst hw
      refine lv_if_ne (tgt := 27) hx hb d_rsend_18 (by decide) (fun c_9 => ?_) (fun c_9 => ?_)
      · replace Heq := (if_neg c_9).symm.trans Heq
        refine lv_aload_n hx hb d_rsend_27 rfl (lv_at hl 0 rfl) ?_
        refine lv_iload_n hx hb d_rsend_28 rfl (lv_at hl 3 rfl) ?_
        refine lv_iload hx hb d_rsend_29 (lv_at hl 4 rfl) ?_
        obtain ⟨o_10, h_11, Heq⟩ := ob_some Heq
        have hFc := fr_all hD hS hA
        refine va_calli (va_runV (As := [.int x3, .int x4]) (rest := []) ⟨hx, hb, hml, hown, hts⟩ (g_rfind l D H.size h_11) (cw_v 2 hts kw_1835 kw_1832 kw_1834 kp_66 kw_11 rfl rfl (by decide +kernel) ⟨Nat.le_of_ble_eq_true rfl, Nat.le_of_ble_eq_true rfl⟩) ⟨g_blind, va_recv hK hP (ci := 12) (q0 := 0) rfl rfl, fun U hU hW => g_pre hU hW hP hK hD⟩ rfl rfl hl.1 rfl (lv_room (Nat.le_of_ble_eq_true rfl)) d_rsend_31 ⟨Nat.le_of_ble_eq_true rfl, Nat.le_of_ble_eq_true rfl⟩) hS (fun q _ h => hFc q h) hFc (fun rz u t H1 locs ht hvm hw hB hz1 hk1 hS => ?_)
        obtain ⟨hP, -, hD1⟩ := hB
        rw [ht] at hP
        have hD := hD1.weaken (fun _ q _ h => hFc q.1 h)
        generalize H1 = H at hP hS ⊢
        refine W.cs (cells' := 0) (slots' := 0) rfl rfl ?_
        subst hw
        refine lv_istore (lv' := [(5, .int o_10.2), (0, .ref (md 100)), (1, .int x1), (2, .int x2), (3, .int x3), (4, .int x4)]) hx hb d_rsend_34 hl (by decide) rfl (fun ls hl => ?_)
        refine lv_iload hx hb d_rsend_36 (lv_at hl 0 rfl) ?_
        refine lv_if_lt (tgt := 53) hx hb d_rsend_38 (by decide) (fun c_12 => ?_) (fun c_12 => ?_)
        · replace Heq := (if_pos c_12).symm.trans Heq
          exact w_rsend_J53 hC Heq Kr _ _ _ hP hD hS (lv_sub hl [1] rfl)
        · replace Heq := (if_neg c_12).symm.trans Heq
          refine lv_aload_n hx hb d_rsend_41 rfl (lv_at hl 1 rfl) ?_
          refine va_get (D := D) (ci := 12) (v := .ref (md 36)) (C := R_MM) (T := F_MM) (N := 77) hx hb hts i_MM hown hK hP 0 rfl rfl 36 (by decide) (hts _ kw_1418) (fun _ h9 => h9) rfl d_rsend_42 ?_
          refine lv_iload_n hx hb d_rsend_45 rfl (lv_at hl 2 rfl) ?_
          obtain ⟨hi_13, Heq⟩ := gd_some Heq
          refine tx_ald2 hx hb hK hP 48 4 rfl rfl (i := x1) hi_13 d_rsend_46 ?_
          refine w_v (y := .ref (md (101 + x1.toNatClampNeg))) rfl ?_
          refine lv_iload hx hb d_rsend_47 (lv_at hl 0 rfl) ?_
          obtain ⟨hi_14, Heq⟩ := gd_some Heq
          refine va_zald hx hb hK hP (51 + x1.toNatClampNeg) 2 (mp_R101 (vp_in.lt hi_13)) rfl (i := o_10.2) hi_14 d_rsend_49 ?_
          refine w_i (y := o_10.1.a (101 + x1.toNatClampNeg) o_10.2.toNatClampNeg) rfl ?_
          refine lv_if_ne (tgt := 59) hx hb d_rsend_50 (by decide) (fun c_15 => ?_) (fun c_15 => ?_)
          · replace Heq := (if_neg c_15).symm.trans Heq
            refine lv_aload_n hx hb d_rsend_59 rfl (lv_at hl 1 rfl) ?_
            refine lv_iload_n hx hb d_rsend_60 rfl (lv_at hl 3 rfl) ?_
            obtain ⟨o_16, h_17, Heq⟩ := ob_some Heq
            have hFc := fr_all hD hS hA
            refine va_calli (va_runV (As := [.int x2]) (rest := []) ⟨hx, hb, hml, hown, hts⟩ (g_ropen l D H.size h_17) (cw_v 1 hts kw_1815 kw_1812 kw_1814 kp_63 kw_11 rfl rfl (by decide +kernel) ⟨Nat.le_of_ble_eq_true rfl, Nat.le_of_ble_eq_true rfl⟩) ⟨g_blind, va_recv hK hP (ci := 12) (q0 := 0) rfl rfl, fun U hU hW => g_pre hU hW hP hK hD⟩ rfl rfl hl.1 rfl (lv_room (Nat.le_of_ble_eq_true rfl)) d_rsend_61 ⟨Nat.le_of_ble_eq_true rfl, Nat.le_of_ble_eq_true rfl⟩) hS (fun q _ h => hFc q h) hFc (fun rz u t H1 locs ht hvm hw hB hz1 hk1 hS => ?_)
            obtain ⟨hP, -, hD1⟩ := hB
            rw [ht] at hP
            have hD := hD1.weaken (fun _ q _ h => hFc q.1 h)
            generalize H1 = H at hP hS ⊢
            refine W.cs (cells' := 0) (slots' := 0) rfl rfl ?_
            subst hw
            refine lv_if_le (tgt := 73) hx hb d_rsend_64 (by decide) (fun c_18 => ?_) (fun c_18 => ?_)
            · replace Heq := (if_pos c_18).symm.trans Heq
              refine lv_aload_n hx hb d_rsend_73 rfl (lv_at hl 1 rfl) ?_
              refine lv_iconst (v := 0) hx hb d_rsend_74 (by decide) ?_
              refine va_put (D := D) (ci := 12) (v := .int 0) (ty := .int) (C := R_MM) (T := F_MM) (N := 77) hx hb hts i_MM t_MM t_MM_ok n_MM hown hK hP hD hS 0 rfl rfl 0 (by decide) (hts _ kw_1382) (fun _ h9 => h9) rfl (by decide +kernel) rfl rfl (Nat.le_of_ble_eq_true rfl) d_rsend_75 (fun H locs hP hD hS => ?_)
              rw [mw_I0] at hP hD
              refine lv_aload_n hx hb d_rsend_78 rfl (lv_at hl 1 rfl) ?_
              refine va_get (D := D) (ci := 12) (v := .ref (md 36)) (C := R_MM) (T := F_MM) (N := 77) hx hb hts i_MM hown hK hP 0 rfl rfl 36 (by decide) (hts _ kw_1418) (fun _ h9 => h9) rfl d_rsend_79 ?_
              refine lv_iload_n hx hb d_rsend_82 rfl (lv_at hl 3 rfl) ?_
              obtain ⟨hi_19, Heq⟩ := gd_some Heq
              refine tx_ald2 hx hb hK hP 48 4 rfl rfl (i := x2) hi_19 d_rsend_83 ?_
              refine w_v (y := .ref (md (101 + x2.toNatClampNeg))) rfl ?_
              refine lv_iload hx hb d_rsend_84 (lv_at hl 0 rfl) ?_
              obtain ⟨hi_20, Heq⟩ := gd_some Heq
              refine va_zald hx hb hK hP (51 + x2.toNatClampNeg) 2 (mp_R101 (vp_in.lt hi_19)) rfl (i := o_10.2) hi_20 d_rsend_86 ?_
              refine w_i (y := o_16.1.a (101 + x2.toNatClampNeg) o_10.2.toNatClampNeg) rfl ?_
              refine lv_if_ne (tgt := 100) hx hb d_rsend_87 (by decide) (fun c_21 => ?_) (fun c_21 => ?_)
              · replace Heq := (if_neg c_21).symm.trans Heq
                exact w_rsend_J100 hC Heq Kr _ _ _ hP hD hS (lv_sub hl [1, 3] rfl)
              · replace Heq := (if_pos c_21).symm.trans Heq
                refine lv_aload_n hx hb d_rsend_90 rfl (lv_at hl 1 rfl) ?_
                refine va_get (D := D) (ci := 12) (v := .ref (md 37)) (C := R_MM) (T := F_MM) (N := 77) hx hb hts i_MM hown hK hP 0 rfl rfl 37 (by decide) (hts _ kw_1419) (fun _ h9 => h9) rfl d_rsend_91 ?_
                refine lv_iload_n hx hb d_rsend_94 rfl (lv_at hl 3 rfl) ?_
                obtain ⟨hi_22, Heq⟩ := gd_some Heq
                refine tx_ald2 hx hb hK hP 49 4 rfl rfl (i := x2) hi_22 d_rsend_95 ?_
                refine w_v (y := .ref (md (109 + x2.toNatClampNeg))) rfl ?_
                refine lv_iload hx hb d_rsend_96 (lv_at hl 0 rfl) ?_
                refine lv_iconst (v := 1) hx hb d_rsend_98 (by decide) ?_
                obtain ⟨hi_23, Heq⟩ := gd_some Heq
                refine va_zast hx hb hK hP hD hS (59 + x2.toNatClampNeg) 2 (mp_R109 (vp_in.lt hi_22)) rfl (i := o_10.2) (x := 1) hi_23 d_rsend_99 (fun H locs hP hD hS => ?_)
                rw [(mw_R109 (vp_in.lt hi_22))] at hP hD
                exact w_rsend_J100 hC Heq Kr _ _ _ hP hD hS (lv_sub hl [1, 3] rfl)
            · replace Heq := (if_neg c_18).symm.trans Heq
              refine lv_aload_n hx hb d_rsend_67 rfl (lv_at hl 1 rfl) ?_
              refine lv_iconst (v := 2) hx hb d_rsend_68 (by decide) ?_
              obtain ⟨o_24, h_25, Heq⟩ := ob_some Heq
              have hFc := fr_all hD hS hA
              refine va_calli (va_runV (As := [.int 2]) (rest := []) ⟨hx, hb, hml, hown, hts⟩ (g_rno l D H.size h_25) (cw_v 1 hts kw_1626 kw_1623 kw_1625 kp_29 kw_11 rfl rfl (by decide +kernel) ⟨Nat.le_of_ble_eq_true rfl, Nat.le_of_ble_eq_true rfl⟩) ⟨g_blind, va_recv hK hP (ci := 12) (q0 := 0) rfl rfl, fun U hU hW => g_pre hU hW hP hK hD⟩ rfl rfl hl.1 rfl (lv_room (Nat.le_of_ble_eq_true rfl)) d_rsend_69 ⟨Nat.le_of_ble_eq_true rfl, Nat.le_of_ble_eq_true rfl⟩) hS (fun q _ h => hFc q h) hFc (fun rz u t H1 locs ht hvm hw hB hz1 hk1 hS => ?_)
              obtain ⟨hP, -, hD1⟩ := hB
              rw [ht] at hP
              have hD := hD1.weaken (fun _ q _ h => hFc q.1 h)
              generalize H1 = H at hP hS ⊢
              refine W.cs (cells' := 0) (slots' := 0) rfl rfl ?_
              subst hw
              exact Kr _ (Option.some.inj Heq).symm 72 _ _ _ d_rsend_72 hP hD hS
          · replace Heq := (if_pos c_15).symm.trans Heq
            exact w_rsend_J53 hC Heq Kr _ _ _ hP hD hS (lv_sub hl [1] rfl)
      · replace Heq := (if_pos c_9).symm.trans Heq
        exact w_rsend_J21 hC Heq Kr _ _ _ hP hD hS (lv_sub hl [0] rfl)
def m_rsend (S : MS) (x1 : Int32) (x2 : Int32) (x3 : Int32) (x4 : Int32) : Option (MS × Int32) := m_rsend_J0 S x1 x2 x3 x4
theorem g_rsend (l : Launch) (D : va_G) (sz : Nat) {md : Nat → Nat} {mc : Nat → ClassId} {S : MS} {x1 : Int32} {x2 : Int32} {x3 : Int32} {x4 : Int32} {o : MS × Int32} (Heq : m_rsend S x1 x2 x3 x4 = some o) : Met l ⟨"JoinedTreesModel", "send", "(IIII)I"⟩ (Cond.code ⟨"JoinedTreesModel", "send", "(IIII)I"⟩ prog_14_method_58_code 6 (some .int) :: gb) ({ frames := 3, cells := 0, slots := 0, locals := 69 }) (gPc D (mw md mc S) (mty mc) sz [.ref (md 100), .int x1, .int x2, .int x3, .int x4]) (va_Qi (fun (r : Int32) (_ : Unit) => r = o.2) (fun _ t => gO D (mw md mc o.1) (mty mc) (va_A (mw md mc S) sz) t) (va_A (mw md mc S) sz)) 0 0 (va_A (mw md mc S) sz) := by
  refine Met.ofW (cc := prog_14_method_58_code) (maxL := 6) (ret := (some .int)) (by decide) rfl ?_
  intro p e s m args below meth c s₁ B hml hv
  obtain ⟨rfl, hsz, hP, hK, hD0⟩ := hv
  have hx := B.exec
  have hb := B.bytes
  have hr := B.returns
  have hts : ∀ w9 ∈ gb, w9.before [.ref (md 100), .int x1, .int x2, .int x3, .int x4].toArray s = true := fun w9 h => atoms_spec (ws := Cond.code ⟨"JoinedTreesModel", "send", "(IIII)I"⟩ prog_14_method_58_code 6 (some .int) :: gb) B.pre w9 (List.mem_cons_of_mem _ h)
  have hown : s.vm.findClass "JoinedTreesModel" = some m.cls := findClass_of_methodNamed B.named
  have hlocks := B.notSynchronized
  subst hsz
  have hD := hD0.self (sz := s.heap.size)
  generalize hAe : va_A (mw md mc S) s.heap.size = A at hD ⊢
  have hA : ∀ q : Nat, s.heap.size ≤ q → A q := fun q h => by rw [← hAe]; exact Or.inr h
  have hS : va_S A s.heap s.heap [] := va_S.rf
  have hl := lv_entry ([.ref (md 100), .int x1, .int x2, .int x3, .int x4]) (n := 6) (Nat.le_of_ble_eq_true rfl)
  rw [lg_entry_eq]
  generalize (lg_sl ([.ref (md 100), .int x1, .int x2, .int x3, .int x4]) ++ List.replicate (6 - (lg_sl ([.ref (md 100), .int x1, .int x2, .int x3, .int x4])).length) Slot.unset).toArray = ls at hl ⊢
  have hl : lv_has ls 6 [(0, .ref (md 100)), (1, .int x1), (2, .int x2), (3, .int x3), (4, .int x4)] := hl
  refine w_rsend_J0 ⟨hx, hb, hr, hml, hown, hts, hK, hA⟩ Heq (fun r h pc H locs ls hd hP hD hS => ?_) _ _ _ hP hD hS (lv_sub hl [0, 1, 2, 3, 4] rfl)
  subst h
  exact W.iret hx hb hr (fun t ht hW => ⟨⟨_, (), rfl, rfl, by rw [ht]; exact hP, va_K.moved hW.alike hK, hD⟩, hS.F ht⟩) hS.2.2 hd
def m_rjoin_J14 (S : MS) : Option (MS × Int32) := ob (m_rno S 1) (fun o_1 => some (o_1.1, o_1.2))
theorem d_rjoin_0 : decode prog_14_method_59_code 0 = .ok (.iload_n 1, 1) := by decide +kernel
theorem d_rjoin_1 : decode prog_14_method_59_code 1 = .ok (.invokestatic 251, 3) := by decide +kernel
theorem d_rjoin_4 : decode prog_14_method_59_code 4 = .ok (.ifCond .eq 10, 3) := by decide +kernel
theorem d_rjoin_14 : decode prog_14_method_59_code 14 = .ok (.aload_n 0, 1) := by decide +kernel
theorem d_rjoin_15 : decode prog_14_method_59_code 15 = .ok (.iconst 1, 1) := by decide +kernel
theorem d_rjoin_16 : decode prog_14_method_59_code 16 = .ok (.invokevirtual 191, 3) := by decide +kernel
theorem d_rjoin_19 : decode prog_14_method_59_code 19 = .ok (.ireturn, 1) := by decide +kernel
set_option maxHeartbeats 4000000 in
set_option maxRecDepth 100000 in
theorem w_rjoin_J14 {p : Program} {l : Launch} {e : Env} {s : State} {m : MethodId} {args : Array Value} {below : List Frame} {meth : Method} {c : Code} {A : Nat → Prop} {D : va_G} {md : Nat → Nat} {mc : Nat → ClassId} {Q : State → Prop} (hC : MCx "JoinedTreesModel" prog_14_method_59_code 4 (some .int) p s m args meth c A D mc) {S : MS} {o : MS × Int32} (Heq : m_rjoin_J14 S = some o) (Kr : ∀ r : MS × Int32, o = r → ∀ (pc : Nat) (H : Heap) (locs : List Loc) (ls : Array Slot), decode prog_14_method_59_code pc = .ok (.ireturn, 1) → va_P D cls (mw md mc r.1) H → va_D A (mw md mc r.1) → va_S A s.heap H locs → W p l e ({ frames := 3, cells := 0, slots := 0, locals := 69 }) s m args below meth c H locs 0 0 Q (F0 m pc ls [.int r.2])) : ∀ (H : Heap) (locs : List Loc) (ls : Array Slot), va_P D cls (mw md mc S) H → va_D A (mw md mc S) → va_S A s.heap H locs → lv_has ls 4 [(0, .ref (md 100))] → W p l e ({ frames := 3, cells := 0, slots := 0, locals := 69 }) s m args below meth c H locs 0 0 Q (F0 m 14 ls []) := by
  intro H locs ls hP hD hS hl
  obtain ⟨hx, hb, hr, hml, hown, hts, hK, hA⟩ := id hC
  unfold m_rjoin_J14 at Heq
  refine lv_aload_n hx hb d_rjoin_14 rfl (lv_at hl 0 rfl) ?_
  refine lv_iconst (v := 1) hx hb d_rjoin_15 (by decide) ?_
  obtain ⟨o_1, h_2, Heq⟩ := ob_some Heq
  have hFc := fr_all hD hS hA
  refine va_calli (va_runV (As := [.int 1]) (rest := []) ⟨hx, hb, hml, hown, hts⟩ (g_rno l D H.size h_2) (cw_v 1 hts kw_1626 kw_1623 kw_1625 kp_29 kw_11 rfl rfl (by decide +kernel) ⟨Nat.le_of_ble_eq_true rfl, Nat.le_of_ble_eq_true rfl⟩) ⟨g_blind, va_recv hK hP (ci := 12) (q0 := 0) rfl rfl, fun U hU hW => g_pre hU hW hP hK hD⟩ rfl rfl hl.1 rfl (lv_room (Nat.le_of_ble_eq_true rfl)) d_rjoin_16 ⟨Nat.le_of_ble_eq_true rfl, Nat.le_of_ble_eq_true rfl⟩) hS (fun q _ h => hFc q h) hFc (fun rz u t H1 locs ht hvm hw hB hz1 hk1 hS => ?_)
  obtain ⟨hP, -, hD1⟩ := hB
  rw [ht] at hP
  have hD := hD1.weaken (fun _ q _ h => hFc q.1 h)
  generalize H1 = H at hP hS ⊢
  refine W.cs (cells' := 0) (slots' := 0) rfl rfl ?_
  subst hw
  exact Kr _ (Option.some.inj Heq).symm 19 _ _ _ d_rjoin_19 hP hD hS
def m_rjoin_J91 (S : MS) (x1 : Int32) (x2 : Int32) (x3 : Int32) : Option ((MS × Int32 × Int32 × Int32) ⊕ (MS × Int32)) := some (.inl (S, x1, x2, (x3 + 1)))
theorem d_rjoin_7 : decode prog_14_method_59_code 7 = .ok (.iload_n 2, 1) := by decide +kernel
theorem d_rjoin_8 : decode prog_14_method_59_code 8 = .ok (.invokestatic 251, 3) := by decide +kernel
theorem d_rjoin_11 : decode prog_14_method_59_code 11 = .ok (.ifCond .ne 9, 3) := by decide +kernel
theorem d_rjoin_20 : decode prog_14_method_59_code 20 = .ok (.aload_n 0, 1) := by decide +kernel
theorem d_rjoin_21 : decode prog_14_method_59_code 21 = .ok (.iload_n 2, 1) := by decide +kernel
theorem d_rjoin_22 : decode prog_14_method_59_code 22 = .ok (.invokevirtual 387, 3) := by decide +kernel
theorem d_rjoin_25 : decode prog_14_method_59_code 25 = .ok (.ifCond .le 9, 3) := by decide +kernel
theorem d_rjoin_34 : decode prog_14_method_59_code 34 = .ok (.aload_n 0, 1) := by decide +kernel
theorem d_rjoin_35 : decode prog_14_method_59_code 35 = .ok (.iconst 0, 1) := by decide +kernel
theorem d_rjoin_36 : decode prog_14_method_59_code 36 = .ok (.putfield 176, 3) := by decide +kernel
theorem d_rjoin_39 : decode prog_14_method_59_code 39 = .ok (.iconst 0, 1) := by decide +kernel
theorem d_rjoin_40 : decode prog_14_method_59_code 40 = .ok (.istore_n 3, 1) := by decide +kernel
theorem d_rjoin_41 : decode prog_14_method_59_code 41 = .ok (.iload_n 3, 1) := by decide +kernel
theorem d_rjoin_42 : decode prog_14_method_59_code 42 = .ok (.aload_n 0, 1) := by decide +kernel
theorem d_rjoin_43 : decode prog_14_method_59_code 43 = .ok (.getfield 384, 3) := by decide +kernel
theorem d_rjoin_46 : decode prog_14_method_59_code 46 = .ok (.if_icmp .ge 51, 3) := by decide +kernel
theorem d_rjoin_49 : decode prog_14_method_59_code 49 = .ok (.aload_n 0, 1) := by decide +kernel
theorem d_rjoin_50 : decode prog_14_method_59_code 50 = .ok (.getfield 95, 3) := by decide +kernel
theorem d_rjoin_53 : decode prog_14_method_59_code 53 = .ok (.iload_n 1, 1) := by decide +kernel
theorem d_rjoin_54 : decode prog_14_method_59_code 54 = .ok (.aaload, 1) := by decide +kernel
theorem d_rjoin_55 : decode prog_14_method_59_code 55 = .ok (.iload_n 3, 1) := by decide +kernel
theorem d_rjoin_56 : decode prog_14_method_59_code 56 = .ok (.baload, 1) := by decide +kernel
theorem d_rjoin_57 : decode prog_14_method_59_code 57 = .ok (.ifCond .ne 14, 3) := by decide +kernel
theorem d_rjoin_71 : decode prog_14_method_59_code 71 = .ok (.aload_n 0, 1) := by decide +kernel
theorem d_rjoin_72 : decode prog_14_method_59_code 72 = .ok (.getfield 95, 3) := by decide +kernel
theorem d_rjoin_75 : decode prog_14_method_59_code 75 = .ok (.iload_n 2, 1) := by decide +kernel
theorem d_rjoin_76 : decode prog_14_method_59_code 76 = .ok (.aaload, 1) := by decide +kernel
theorem d_rjoin_77 : decode prog_14_method_59_code 77 = .ok (.iload_n 3, 1) := by decide +kernel
theorem d_rjoin_78 : decode prog_14_method_59_code 78 = .ok (.baload, 1) := by decide +kernel
theorem d_rjoin_79 : decode prog_14_method_59_code 79 = .ok (.ifCond .ne 12, 3) := by decide +kernel
theorem d_rjoin_91 : decode prog_14_method_59_code 91 = .ok (.iinc 3 1, 3) := by decide +kernel
theorem d_rjoin_94 : decode prog_14_method_59_code 94 = .ok (.goto (-53), 3) := by decide +kernel
set_option maxHeartbeats 4000000 in
set_option maxRecDepth 100000 in
theorem w_rjoin_J91 {p : Program} {l : Launch} {e : Env} {s : State} {m : MethodId} {args : Array Value} {below : List Frame} {meth : Method} {c : Code} {A : Nat → Prop} {D : va_G} {md : Nat → Nat} {mc : Nat → ClassId} {Q : State → Prop} (hC : MCx "JoinedTreesModel" prog_14_method_59_code 4 (some .int) p s m args meth c A D mc) {S : MS} {x1 : Int32} {x2 : Int32} {x3 : Int32} {o : ((MS × Int32 × Int32 × Int32) ⊕ (MS × Int32))} (Heq : m_rjoin_J91 S x1 x2 x3 = some o) (Ka : ∀ b : MS × Int32 × Int32 × Int32, o = .inl b → ∀ (H : Heap) (locs : List Loc) (ls : Array Slot), va_P D cls (mw md mc b.1) H → va_D A (mw md mc b.1) → va_S A s.heap H locs → lv_has ls 4 [(0, .ref (md 100)), (1, .int b.2.1), (2, .int b.2.2.1), (3, .int b.2.2.2)] → W p l e ({ frames := 3, cells := 0, slots := 0, locals := 69 }) s m args below meth c H locs 0 0 Q (F0 m 41 ls [])) (K0 : ∀ b : MS × Int32, o = .inr b → ∀ (H : Heap) (locs : List Loc) (ls : Array Slot), va_P D cls (mw md mc b.1) H → va_D A (mw md mc b.1) → va_S A s.heap H locs → lv_has ls 4 [(0, .ref (md 100)), (2, .int b.2)] → W p l e ({ frames := 3, cells := 0, slots := 0, locals := 69 }) s m args below meth c H locs 0 0 Q (F0 m 97 ls [])) : ∀ (H : Heap) (locs : List Loc) (ls : Array Slot), va_P D cls (mw md mc S) H → va_D A (mw md mc S) → va_S A s.heap H locs → lv_has ls 4 [(0, .ref (md 100)), (1, .int x1), (2, .int x2), (3, .int x3)] → W p l e ({ frames := 3, cells := 0, slots := 0, locals := 69 }) s m args below meth c H locs 0 0 Q (F0 m 91 ls []) := by
  intro H locs ls hP hD hS hl
  obtain ⟨hx, hb, hr, hml, hown, hts, hK, hA⟩ := id hC
  unfold m_rjoin_J91 at Heq
  refine lv_iinc (v := x3 + 1) (lv' := [(3, .int (x3 + 1)), (0, .ref (md 100)), (1, .int x1), (2, .int x2)]) hx hb d_rjoin_91 hl (k := 3) rfl rfl (by decide) rfl (fun ls hl => ?_)
  refine lv_goto (tgt := 41) hx hb d_rjoin_94 (by decide) ?_
  exact Ka _ (Option.some.inj Heq).symm _ _ _ hP hD hS (lv_sub hl [1, 2, 3, 0] rfl)
def m_rjoin_J71 (S : MS) (x1 : Int32) (x2 : Int32) (x3 : Int32) : Option ((MS × Int32 × Int32 × Int32) ⊕ (MS × Int32)) := gd x2 8 (gd x3 1000 ((if S.a (101 + x2.toNatClampNeg) x3.toNatClampNeg = 0 then gd x2 8 (gd x3 1000 (m_rjoin_J91 (S.setA (109 + x2.toNatClampNeg) (upd (S.a (109 + x2.toNatClampNeg)) x3.toNatClampNeg (vp_nar .boolean 1))) x1 x2 x3)) else m_rjoin_J91 S x1 x2 x3)))
theorem d_rjoin_82 : decode prog_14_method_59_code 82 = .ok (.aload_n 0, 1) := by decide +kernel
theorem d_rjoin_83 : decode prog_14_method_59_code 83 = .ok (.getfield 98, 3) := by decide +kernel
theorem d_rjoin_86 : decode prog_14_method_59_code 86 = .ok (.iload_n 2, 1) := by decide +kernel
theorem d_rjoin_87 : decode prog_14_method_59_code 87 = .ok (.aaload, 1) := by decide +kernel
theorem d_rjoin_88 : decode prog_14_method_59_code 88 = .ok (.iload_n 3, 1) := by decide +kernel
theorem d_rjoin_89 : decode prog_14_method_59_code 89 = .ok (.iconst 1, 1) := by decide +kernel
theorem d_rjoin_90 : decode prog_14_method_59_code 90 = .ok (.bastore, 1) := by decide +kernel
set_option maxHeartbeats 4000000 in
set_option maxRecDepth 100000 in
theorem w_rjoin_J71 {p : Program} {l : Launch} {e : Env} {s : State} {m : MethodId} {args : Array Value} {below : List Frame} {meth : Method} {c : Code} {A : Nat → Prop} {D : va_G} {md : Nat → Nat} {mc : Nat → ClassId} {Q : State → Prop} (hC : MCx "JoinedTreesModel" prog_14_method_59_code 4 (some .int) p s m args meth c A D mc) {S : MS} {x1 : Int32} {x2 : Int32} {x3 : Int32} {o : ((MS × Int32 × Int32 × Int32) ⊕ (MS × Int32))} (Heq : m_rjoin_J71 S x1 x2 x3 = some o) (Ka : ∀ b : MS × Int32 × Int32 × Int32, o = .inl b → ∀ (H : Heap) (locs : List Loc) (ls : Array Slot), va_P D cls (mw md mc b.1) H → va_D A (mw md mc b.1) → va_S A s.heap H locs → lv_has ls 4 [(0, .ref (md 100)), (1, .int b.2.1), (2, .int b.2.2.1), (3, .int b.2.2.2)] → W p l e ({ frames := 3, cells := 0, slots := 0, locals := 69 }) s m args below meth c H locs 0 0 Q (F0 m 41 ls [])) (K0 : ∀ b : MS × Int32, o = .inr b → ∀ (H : Heap) (locs : List Loc) (ls : Array Slot), va_P D cls (mw md mc b.1) H → va_D A (mw md mc b.1) → va_S A s.heap H locs → lv_has ls 4 [(0, .ref (md 100)), (2, .int b.2)] → W p l e ({ frames := 3, cells := 0, slots := 0, locals := 69 }) s m args below meth c H locs 0 0 Q (F0 m 97 ls [])) : ∀ (H : Heap) (locs : List Loc) (ls : Array Slot), va_P D cls (mw md mc S) H → va_D A (mw md mc S) → va_S A s.heap H locs → lv_has ls 4 [(0, .ref (md 100)), (1, .int x1), (2, .int x2), (3, .int x3)] → W p l e ({ frames := 3, cells := 0, slots := 0, locals := 69 }) s m args below meth c H locs 0 0 Q (F0 m 71 ls []) := by
  intro H locs ls hP hD hS hl
  obtain ⟨hx, hb, hr, hml, hown, hts, hK, hA⟩ := id hC
  unfold m_rjoin_J71 at Heq
  refine lv_aload_n hx hb d_rjoin_71 rfl (lv_at hl 0 rfl) ?_
  refine va_get (D := D) (ci := 12) (v := .ref (md 36)) (C := R_MM) (T := F_MM) (N := 77) hx hb hts i_MM hown hK hP 0 rfl rfl 36 (by decide) (hts _ kw_1418) (fun _ h9 => h9) rfl d_rjoin_72 ?_
  refine lv_iload_n hx hb d_rjoin_75 rfl (lv_at hl 2 rfl) ?_
  obtain ⟨hi_1, Heq⟩ := gd_some Heq
  refine tx_ald2 hx hb hK hP 48 4 rfl rfl (i := x2) hi_1 d_rjoin_76 ?_
  refine w_v (y := .ref (md (101 + x2.toNatClampNeg))) rfl ?_
  refine lv_iload_n hx hb d_rjoin_77 rfl (lv_at hl 3 rfl) ?_
  obtain ⟨hi_2, Heq⟩ := gd_some Heq
  refine va_zald hx hb hK hP (51 + x2.toNatClampNeg) 2 (mp_R101 (vp_in.lt hi_1)) rfl (i := x3) hi_2 d_rjoin_78 ?_
  refine w_i (y := S.a (101 + x2.toNatClampNeg) x3.toNatClampNeg) rfl ?_
  refine lv_if_ne (tgt := 91) hx hb d_rjoin_79 (by decide) (fun c_3 => ?_) (fun c_3 => ?_)
  · replace Heq := (if_neg c_3).symm.trans Heq
    exact w_rjoin_J91 hC Heq Ka K0 _ _ _ hP hD hS (lv_sub hl [0, 1, 2, 3] rfl)
  · replace Heq := (if_pos c_3).symm.trans Heq
    refine lv_aload_n hx hb d_rjoin_82 rfl (lv_at hl 0 rfl) ?_
    refine va_get (D := D) (ci := 12) (v := .ref (md 37)) (C := R_MM) (T := F_MM) (N := 77) hx hb hts i_MM hown hK hP 0 rfl rfl 37 (by decide) (hts _ kw_1419) (fun _ h9 => h9) rfl d_rjoin_83 ?_
    refine lv_iload_n hx hb d_rjoin_86 rfl (lv_at hl 2 rfl) ?_
    obtain ⟨hi_4, Heq⟩ := gd_some Heq
    refine tx_ald2 hx hb hK hP 49 4 rfl rfl (i := x2) hi_4 d_rjoin_87 ?_
    refine w_v (y := .ref (md (109 + x2.toNatClampNeg))) rfl ?_
    refine lv_iload_n hx hb d_rjoin_88 rfl (lv_at hl 3 rfl) ?_
    refine lv_iconst (v := 1) hx hb d_rjoin_89 (by decide) ?_
    obtain ⟨hi_5, Heq⟩ := gd_some Heq
    refine va_zast hx hb hK hP hD hS (59 + x2.toNatClampNeg) 2 (mp_R109 (vp_in.lt hi_4)) rfl (i := x3) (x := 1) hi_5 d_rjoin_90 (fun H locs hP hD hS => ?_)
    rw [(mw_R109 (vp_in.lt hi_4))] at hP hD
    exact w_rjoin_J91 hC Heq Ka K0 _ _ _ hP hD hS (lv_sub hl [0, 1, 2, 3] rfl)
def m_rjoin_B41 (S : MS) (x1 : Int32) (x2 : Int32) (x3 : Int32) : Option ((MS × Int32 × Int32 × Int32) ⊕ (MS × Int32)) := (if S.i 34 ≤ x3 then some (.inr (S, x2)) else gd x1 8 (gd x3 1000 ((if S.a (101 + x1.toNatClampNeg) x3.toNatClampNeg = 0 then gd x1 8 (gd x3 1000 ((if S.a (109 + x1.toNatClampNeg) x3.toNatClampNeg = 0 then m_rjoin_J91 S x1 x2 x3 else m_rjoin_J71 S x1 x2 x3))) else m_rjoin_J71 S x1 x2 x3))))
theorem d_rjoin_60 : decode prog_14_method_59_code 60 = .ok (.aload_n 0, 1) := by decide +kernel
theorem d_rjoin_61 : decode prog_14_method_59_code 61 = .ok (.getfield 98, 3) := by decide +kernel
theorem d_rjoin_64 : decode prog_14_method_59_code 64 = .ok (.iload_n 1, 1) := by decide +kernel
theorem d_rjoin_65 : decode prog_14_method_59_code 65 = .ok (.aaload, 1) := by decide +kernel
theorem d_rjoin_66 : decode prog_14_method_59_code 66 = .ok (.iload_n 3, 1) := by decide +kernel
theorem d_rjoin_67 : decode prog_14_method_59_code 67 = .ok (.baload, 1) := by decide +kernel
theorem d_rjoin_68 : decode prog_14_method_59_code 68 = .ok (.ifCond .eq 23, 3) := by decide +kernel
set_option maxHeartbeats 4000000 in
set_option maxRecDepth 100000 in
theorem w_rjoin_B41 {p : Program} {l : Launch} {e : Env} {s : State} {m : MethodId} {args : Array Value} {below : List Frame} {meth : Method} {c : Code} {A : Nat → Prop} {D : va_G} {md : Nat → Nat} {mc : Nat → ClassId} {Q : State → Prop} (hC : MCx "JoinedTreesModel" prog_14_method_59_code 4 (some .int) p s m args meth c A D mc) {S : MS} {x1 : Int32} {x2 : Int32} {x3 : Int32} {o : ((MS × Int32 × Int32 × Int32) ⊕ (MS × Int32))} (Heq : m_rjoin_B41 S x1 x2 x3 = some o) (Ka : ∀ b : MS × Int32 × Int32 × Int32, o = .inl b → ∀ (H : Heap) (locs : List Loc) (ls : Array Slot), va_P D cls (mw md mc b.1) H → va_D A (mw md mc b.1) → va_S A s.heap H locs → lv_has ls 4 [(0, .ref (md 100)), (1, .int b.2.1), (2, .int b.2.2.1), (3, .int b.2.2.2)] → W p l e ({ frames := 3, cells := 0, slots := 0, locals := 69 }) s m args below meth c H locs 0 0 Q (F0 m 41 ls [])) (K0 : ∀ b : MS × Int32, o = .inr b → ∀ (H : Heap) (locs : List Loc) (ls : Array Slot), va_P D cls (mw md mc b.1) H → va_D A (mw md mc b.1) → va_S A s.heap H locs → lv_has ls 4 [(0, .ref (md 100)), (2, .int b.2)] → W p l e ({ frames := 3, cells := 0, slots := 0, locals := 69 }) s m args below meth c H locs 0 0 Q (F0 m 97 ls [])) : ∀ (H : Heap) (locs : List Loc) (ls : Array Slot), va_P D cls (mw md mc S) H → va_D A (mw md mc S) → va_S A s.heap H locs → lv_has ls 4 [(0, .ref (md 100)), (1, .int x1), (2, .int x2), (3, .int x3)] → W p l e ({ frames := 3, cells := 0, slots := 0, locals := 69 }) s m args below meth c H locs 0 0 Q (F0 m 41 ls []) := by
  intro H locs ls hP hD hS hl
  obtain ⟨hx, hb, hr, hml, hown, hts, hK, hA⟩ := id hC
  unfold m_rjoin_B41 at Heq
  refine lv_iload_n hx hb d_rjoin_41 rfl (lv_at hl 3 rfl) ?_
  refine lv_aload_n hx hb d_rjoin_42 rfl (lv_at hl 0 rfl) ?_
  refine va_get (D := D) (ci := 12) (v := .int (S.i 34)) (C := R_MM) (T := F_MM) (N := 77) hx hb hts i_MM hown hK hP 0 rfl rfl 34 (by decide) (hts _ kw_1416) (fun _ h9 => h9) rfl d_rjoin_43 ?_
  refine lv_icmp_ge (tgt := 97) hx hb d_rjoin_46 (by decide) (fun c_1 => ?_) (fun c_1 => ?_)
  · replace Heq := (if_pos c_1).symm.trans Heq
    exact K0 _ (Option.some.inj Heq).symm _ _ _ hP hD hS (lv_sub hl [0, 2] rfl)
  · replace Heq := (if_neg c_1).symm.trans Heq
    refine lv_aload_n hx hb d_rjoin_49 rfl (lv_at hl 0 rfl) ?_
    refine va_get (D := D) (ci := 12) (v := .ref (md 36)) (C := R_MM) (T := F_MM) (N := 77) hx hb hts i_MM hown hK hP 0 rfl rfl 36 (by decide) (hts _ kw_1418) (fun _ h9 => h9) rfl d_rjoin_50 ?_
    refine lv_iload_n hx hb d_rjoin_53 rfl (lv_at hl 1 rfl) ?_
    obtain ⟨hi_2, Heq⟩ := gd_some Heq
    refine tx_ald2 hx hb hK hP 48 4 rfl rfl (i := x1) hi_2 d_rjoin_54 ?_
    refine w_v (y := .ref (md (101 + x1.toNatClampNeg))) rfl ?_
    refine lv_iload_n hx hb d_rjoin_55 rfl (lv_at hl 3 rfl) ?_
    obtain ⟨hi_3, Heq⟩ := gd_some Heq
    refine va_zald hx hb hK hP (51 + x1.toNatClampNeg) 2 (mp_R101 (vp_in.lt hi_2)) rfl (i := x3) hi_3 d_rjoin_56 ?_
    refine w_i (y := S.a (101 + x1.toNatClampNeg) x3.toNatClampNeg) rfl ?_
    refine lv_if_ne (tgt := 71) hx hb d_rjoin_57 (by decide) (fun c_4 => ?_) (fun c_4 => ?_)
    · replace Heq := (if_neg c_4).symm.trans Heq
      exact w_rjoin_J71 hC Heq Ka K0 _ _ _ hP hD hS (lv_sub hl [0, 1, 2, 3] rfl)
    · replace Heq := (if_pos c_4).symm.trans Heq
      refine lv_aload_n hx hb d_rjoin_60 rfl (lv_at hl 0 rfl) ?_
      refine va_get (D := D) (ci := 12) (v := .ref (md 37)) (C := R_MM) (T := F_MM) (N := 77) hx hb hts i_MM hown hK hP 0 rfl rfl 37 (by decide) (hts _ kw_1419) (fun _ h9 => h9) rfl d_rjoin_61 ?_
      refine lv_iload_n hx hb d_rjoin_64 rfl (lv_at hl 1 rfl) ?_
      obtain ⟨hi_5, Heq⟩ := gd_some Heq
      refine tx_ald2 hx hb hK hP 49 4 rfl rfl (i := x1) hi_5 d_rjoin_65 ?_
      refine w_v (y := .ref (md (109 + x1.toNatClampNeg))) rfl ?_
      refine lv_iload_n hx hb d_rjoin_66 rfl (lv_at hl 3 rfl) ?_
      obtain ⟨hi_6, Heq⟩ := gd_some Heq
      refine va_zald hx hb hK hP (59 + x1.toNatClampNeg) 2 (mp_R109 (vp_in.lt hi_5)) rfl (i := x3) hi_6 d_rjoin_67 ?_
      refine w_i (y := S.a (109 + x1.toNatClampNeg) x3.toNatClampNeg) rfl ?_
      refine lv_if_eq (tgt := 91) hx hb d_rjoin_68 (by decide) (fun c_7 => ?_) (fun c_7 => ?_)
      · replace Heq := (if_pos c_7).symm.trans Heq
        exact w_rjoin_J91 hC Heq Ka K0 _ _ _ hP hD hS (lv_sub hl [0, 1, 2, 3] rfl)
      · replace Heq := (if_neg c_7).symm.trans Heq
        exact w_rjoin_J71 hC Heq Ka K0 _ _ _ hP hD hS (lv_sub hl [0, 1, 2, 3] rfl)
def m_rjoin_L41 (S : MS) (x1 : Int32) (x2 : Int32) (x3 : Int32) : Option (MS × Int32) := lp (fun a : MS × Int32 × Int32 × Int32 => m_rjoin_B41 a.1 a.2.1 a.2.2.1 a.2.2.2) FU (S, x1, x2, x3)
theorem w_rjoin_L41 {p : Program} {l : Launch} {e : Env} {s : State} {m : MethodId} {args : Array Value} {below : List Frame} {meth : Method} {c : Code} {A : Nat → Prop} {D : va_G} {md : Nat → Nat} {mc : Nat → ClassId} {Q : State → Prop} (hC : MCx "JoinedTreesModel" prog_14_method_59_code 4 (some .int) p s m args meth c A D mc) {S : MS} {x1 : Int32} {x2 : Int32} {x3 : Int32} {o : MS × Int32} (Heq : m_rjoin_L41 S x1 x2 x3 = some o) (K0 : ∀ b : MS × Int32, o = b → ∀ (H : Heap) (locs : List Loc) (ls : Array Slot), va_P D cls (mw md mc b.1) H → va_D A (mw md mc b.1) → va_S A s.heap H locs → lv_has ls 4 [(0, .ref (md 100)), (2, .int b.2)] → W p l e ({ frames := 3, cells := 0, slots := 0, locals := 69 }) s m args below meth c H locs 0 0 Q (F0 m 97 ls [])) : ∀ (H : Heap) (locs : List Loc) (ls : Array Slot), va_P D cls (mw md mc S) H → va_D A (mw md mc S) → va_S A s.heap H locs → lv_has ls 4 [(0, .ref (md 100)), (1, .int x1), (2, .int x2), (3, .int x3)] → W p l e ({ frames := 3, cells := 0, slots := 0, locals := 69 }) s m args below meth c H locs 0 0 Q (F0 m 41 ls []) := by
  refine lp_w (G := fun a : MS × Int32 × Int32 × Int32 => ∀ (H : Heap) (locs : List Loc) (ls : Array Slot), va_P D cls (mw md mc a.1) H → va_D A (mw md mc a.1) → va_S A s.heap H locs → lv_has ls 4 [(0, .ref (md 100)), (1, .int a.2.1), (2, .int a.2.2.1), (3, .int a.2.2.2)] → W p l e ({ frames := 3, cells := 0, slots := 0, locals := 69 }) s m args below meth c H locs 0 0 Q (F0 m 41 ls [])) ?_ FU (S, x1, x2, x3) Heq
  intro a o1 ho Ka Ke
  exact w_rjoin_B41 hC ho (fun b h => Ka b h) (fun b h => K0 b (Ke _ h).symm)
def m_rjoin_J0 (S : MS) (x1 : Int32) (x2 : Int32) : Option (MS × Int32) := ob (m_risReplica S x1) (fun o_1 => (if o_1.2 = 0 then m_rjoin_J14 o_1.1 else ob (m_risReplica o_1.1 x2) (fun o_4 => (if o_4.2 = 0 then m_rjoin_J14 o_4.1 else ob (m_ropen o_4.1 x2) (fun o_7 => (if o_7.2 ≤ 0 then ob (m_rjoin_L41 (o_7.1.setI 0 0) x1 x2 0) (fun b_10 => ob (m_rsettle b_10.1 b_10.2) (fun o_12 => some (o_12.1, o_12.2))) else ob (m_rno o_7.1 2) (fun o_14 => some (o_14.1, o_14.2))))))))
theorem d_rjoin_97 : decode prog_14_method_59_code 97 = .ok (.aload_n 0, 1) := by decide +kernel
theorem d_rjoin_98 : decode prog_14_method_59_code 98 = .ok (.iload_n 2, 1) := by decide +kernel
theorem d_rjoin_99 : decode prog_14_method_59_code 99 = .ok (.invokevirtual 405, 3) := by decide +kernel
theorem d_rjoin_102 : decode prog_14_method_59_code 102 = .ok (.ireturn, 1) := by decide +kernel
theorem d_rjoin_28 : decode prog_14_method_59_code 28 = .ok (.aload_n 0, 1) := by decide +kernel
theorem d_rjoin_29 : decode prog_14_method_59_code 29 = .ok (.iconst 2, 1) := by decide +kernel
theorem d_rjoin_30 : decode prog_14_method_59_code 30 = .ok (.invokevirtual 191, 3) := by decide +kernel
theorem d_rjoin_33 : decode prog_14_method_59_code 33 = .ok (.ireturn, 1) := by decide +kernel
set_option maxHeartbeats 4000000 in
set_option maxRecDepth 100000 in
theorem w_rjoin_J0 {p : Program} {l : Launch} {e : Env} {s : State} {m : MethodId} {args : Array Value} {below : List Frame} {meth : Method} {c : Code} {A : Nat → Prop} {D : va_G} {md : Nat → Nat} {mc : Nat → ClassId} {Q : State → Prop} (hC : MCx "JoinedTreesModel" prog_14_method_59_code 4 (some .int) p s m args meth c A D mc) {S : MS} {x1 : Int32} {x2 : Int32} {o : MS × Int32} (Heq : m_rjoin_J0 S x1 x2 = some o) (Kr : ∀ r : MS × Int32, o = r → ∀ (pc : Nat) (H : Heap) (locs : List Loc) (ls : Array Slot), decode prog_14_method_59_code pc = .ok (.ireturn, 1) → va_P D cls (mw md mc r.1) H → va_D A (mw md mc r.1) → va_S A s.heap H locs → W p l e ({ frames := 3, cells := 0, slots := 0, locals := 69 }) s m args below meth c H locs 0 0 Q (F0 m pc ls [.int r.2])) : ∀ (H : Heap) (locs : List Loc) (ls : Array Slot), va_P D cls (mw md mc S) H → va_D A (mw md mc S) → va_S A s.heap H locs → lv_has ls 4 [(0, .ref (md 100)), (1, .int x1), (2, .int x2)] → W p l e ({ frames := 3, cells := 0, slots := 0, locals := 69 }) s m args below meth c H locs 0 0 Q (F0 m 0 ls []) := by
  intro H locs ls hP hD hS hl
  obtain ⟨hx, hb, hr, hml, hown, hts, hK, hA⟩ := id hC
  unfold m_rjoin_J0 at Heq
  refine lv_iload_n hx hb d_rjoin_0 rfl (lv_at hl 1 rfl) ?_
  obtain ⟨o_1, h_2, Heq⟩ := ob_some Heq
  have hFc := fr_all hD hS hA
  refine va_calli (va_runS (As := [.int x1]) (rest := []) ⟨hx, hb, hml, hown, hts⟩ (g_risReplica l D H.size h_2) (cw_s 1 hts kw_1641 kw_1639 kw_1640 kw_11 rfl rfl (by decide +kernel) ⟨Nat.le_of_ble_eq_true rfl, Nat.le_of_ble_eq_true rfl⟩) ⟨g_blind, fun U hU hW => g_pre hU hW hP hK hD⟩ rfl rfl hl.1 rfl (lv_room (Nat.le_of_ble_eq_true rfl)) d_rjoin_1 ⟨Nat.le_of_ble_eq_true rfl, Nat.le_of_ble_eq_true rfl⟩) hS (fun q _ h => hFc q h) hFc (fun rz u t H1 locs ht hvm hw hB hz1 hk1 hS => ?_)
  obtain ⟨hP, -, hD1⟩ := hB
  rw [ht] at hP
  have hD := hD1.weaken (fun _ q _ h => hFc q.1 h)
  generalize H1 = H at hP hS ⊢
  refine W.cs (cells' := 0) (slots' := 0) rfl rfl ?_
  subst hw
  refine lv_if_eq (tgt := 14) hx hb d_rjoin_4 (by decide) (fun c_3 => ?_) (fun c_3 => ?_)
  · replace Heq := (if_pos c_3).symm.trans Heq
    exact w_rjoin_J14 hC Heq Kr _ _ _ hP hD hS (lv_sub hl [0] rfl)
  · replace Heq := (if_neg c_3).symm.trans Heq
    refine lv_iload_n hx hb d_rjoin_7 rfl (lv_at hl 2 rfl) ?_
    obtain ⟨o_4, h_5, Heq⟩ := ob_some Heq
    have hFc := fr_all hD hS hA
    refine va_calli (va_runS (As := [.int x2]) (rest := []) ⟨hx, hb, hml, hown, hts⟩ (g_risReplica l D H.size h_5) (cw_s 1 hts kw_1641 kw_1639 kw_1640 kw_11 rfl rfl (by decide +kernel) ⟨Nat.le_of_ble_eq_true rfl, Nat.le_of_ble_eq_true rfl⟩) ⟨g_blind, fun U hU hW => g_pre hU hW hP hK hD⟩ rfl rfl hl.1 rfl (lv_room (Nat.le_of_ble_eq_true rfl)) d_rjoin_8 ⟨Nat.le_of_ble_eq_true rfl, Nat.le_of_ble_eq_true rfl⟩) hS (fun q _ h => hFc q h) hFc (fun rz u t H1 locs ht hvm hw hB hz1 hk1 hS => ?_)
    obtain ⟨hP, -, hD1⟩ := hB
    rw [ht] at hP
    have hD := hD1.weaken (fun _ q _ h => hFc q.1 h)
    generalize H1 = H at hP hS ⊢
    refine W.cs (cells' := 0) (slots' := 0) rfl rfl ?_
    subst hw
    refine lv_if_ne (tgt := 20) hx hb d_rjoin_11 (by decide) (fun c_6 => ?_) (fun c_6 => ?_)
    · replace Heq := (if_neg c_6).symm.trans Heq
      refine lv_aload_n hx hb d_rjoin_20 rfl (lv_at hl 0 rfl) ?_
      refine lv_iload_n hx hb d_rjoin_21 rfl (lv_at hl 2 rfl) ?_
      obtain ⟨o_7, h_8, Heq⟩ := ob_some Heq
      have hFc := fr_all hD hS hA
      refine va_calli (va_runV (As := [.int x2]) (rest := []) ⟨hx, hb, hml, hown, hts⟩ (g_ropen l D H.size h_8) (cw_v 1 hts kw_1815 kw_1812 kw_1814 kp_63 kw_11 rfl rfl (by decide +kernel) ⟨Nat.le_of_ble_eq_true rfl, Nat.le_of_ble_eq_true rfl⟩) ⟨g_blind, va_recv hK hP (ci := 12) (q0 := 0) rfl rfl, fun U hU hW => g_pre hU hW hP hK hD⟩ rfl rfl hl.1 rfl (lv_room (Nat.le_of_ble_eq_true rfl)) d_rjoin_22 ⟨Nat.le_of_ble_eq_true rfl, Nat.le_of_ble_eq_true rfl⟩) hS (fun q _ h => hFc q h) hFc (fun rz u t H1 locs ht hvm hw hB hz1 hk1 hS => ?_)
      obtain ⟨hP, -, hD1⟩ := hB
      rw [ht] at hP
      have hD := hD1.weaken (fun _ q _ h => hFc q.1 h)
      generalize H1 = H at hP hS ⊢
      refine W.cs (cells' := 0) (slots' := 0) rfl rfl ?_
      subst hw
      refine lv_if_le (tgt := 34) hx hb d_rjoin_25 (by decide) (fun c_9 => ?_) (fun c_9 => ?_)
      · replace Heq := (if_pos c_9).symm.trans Heq
        refine lv_aload_n hx hb d_rjoin_34 rfl (lv_at hl 0 rfl) ?_
        refine lv_iconst (v := 0) hx hb d_rjoin_35 (by decide) ?_
        refine va_put (D := D) (ci := 12) (v := .int 0) (ty := .int) (C := R_MM) (T := F_MM) (N := 77) hx hb hts i_MM t_MM t_MM_ok n_MM hown hK hP hD hS 0 rfl rfl 0 (by decide) (hts _ kw_1382) (fun _ h9 => h9) rfl (by decide +kernel) rfl rfl (Nat.le_of_ble_eq_true rfl) d_rjoin_36 (fun H locs hP hD hS => ?_)
        rw [mw_I0] at hP hD
        refine lv_iconst (v := 0) hx hb d_rjoin_39 (by decide) ?_
        refine lv_istore_n (lv' := [(3, .int 0), (0, .ref (md 100)), (1, .int x1), (2, .int x2)]) hx hb d_rjoin_40 rfl hl (by decide) rfl (fun ls hl => ?_)
        obtain ⟨b_10, h_11, Heq⟩ := ob_some Heq
        refine w_rjoin_L41 hC h_11 (fun b h => ?_) _ _ _ hP hD hS (lv_sub hl [1, 2, 3, 0] rfl)
        subst h
        intro H locs ls hP hD hS hl
        refine lv_aload_n hx hb d_rjoin_97 rfl (lv_at hl 0 rfl) ?_
        refine lv_iload_n hx hb d_rjoin_98 rfl (lv_at hl 1 rfl) ?_
        obtain ⟨o_12, h_13, Heq⟩ := ob_some Heq
        have hFc := fr_all hD hS hA
        refine va_calli (va_runV (As := [.int b_10.2]) (rest := []) ⟨hx, hb, hml, hown, hts⟩ (g_rsettle l D H.size h_13) (cw_v 1 hts kw_1839 kw_1836 kw_1838 kp_67 kw_11 rfl rfl (by decide +kernel) ⟨Nat.le_of_ble_eq_true rfl, Nat.le_of_ble_eq_true rfl⟩) ⟨g_blind, va_recv hK hP (ci := 12) (q0 := 0) rfl rfl, fun U hU hW => g_pre hU hW hP hK hD⟩ rfl rfl hl.1 rfl (lv_room (Nat.le_of_ble_eq_true rfl)) d_rjoin_99 ⟨Nat.le_of_ble_eq_true rfl, Nat.le_of_ble_eq_true rfl⟩) hS (fun q _ h => hFc q h) hFc (fun rz u t H1 locs ht hvm hw hB hz1 hk1 hS => ?_)
        obtain ⟨hP, -, hD1⟩ := hB
        rw [ht] at hP
        have hD := hD1.weaken (fun _ q _ h => hFc q.1 h)
        generalize H1 = H at hP hS ⊢
        refine W.cs (cells' := 0) (slots' := 0) rfl rfl ?_
        subst hw
        exact Kr _ (Option.some.inj Heq).symm 102 _ _ _ d_rjoin_102 hP hD hS
      · replace Heq := (if_neg c_9).symm.trans Heq
        refine lv_aload_n hx hb d_rjoin_28 rfl (lv_at hl 0 rfl) ?_
        refine lv_iconst (v := 2) hx hb d_rjoin_29 (by decide) ?_
        obtain ⟨o_14, h_15, Heq⟩ := ob_some Heq
        have hFc := fr_all hD hS hA
        refine va_calli (va_runV (As := [.int 2]) (rest := []) ⟨hx, hb, hml, hown, hts⟩ (g_rno l D H.size h_15) (cw_v 1 hts kw_1626 kw_1623 kw_1625 kp_29 kw_11 rfl rfl (by decide +kernel) ⟨Nat.le_of_ble_eq_true rfl, Nat.le_of_ble_eq_true rfl⟩) ⟨g_blind, va_recv hK hP (ci := 12) (q0 := 0) rfl rfl, fun U hU hW => g_pre hU hW hP hK hD⟩ rfl rfl hl.1 rfl (lv_room (Nat.le_of_ble_eq_true rfl)) d_rjoin_30 ⟨Nat.le_of_ble_eq_true rfl, Nat.le_of_ble_eq_true rfl⟩) hS (fun q _ h => hFc q h) hFc (fun rz u t H1 locs ht hvm hw hB hz1 hk1 hS => ?_)
        obtain ⟨hP, -, hD1⟩ := hB
        rw [ht] at hP
        have hD := hD1.weaken (fun _ q _ h => hFc q.1 h)
        generalize H1 = H at hP hS ⊢
        refine W.cs (cells' := 0) (slots' := 0) rfl rfl ?_
        subst hw
        exact Kr _ (Option.some.inj Heq).symm 33 _ _ _ d_rjoin_33 hP hD hS
    · replace Heq := (if_pos c_6).symm.trans Heq
      exact w_rjoin_J14 hC Heq Kr _ _ _ hP hD hS (lv_sub hl [0] rfl)
def m_rjoin (S : MS) (x1 : Int32) (x2 : Int32) : Option (MS × Int32) := m_rjoin_J0 S x1 x2
theorem g_rjoin (l : Launch) (D : va_G) (sz : Nat) {md : Nat → Nat} {mc : Nat → ClassId} {S : MS} {x1 : Int32} {x2 : Int32} {o : MS × Int32} (Heq : m_rjoin S x1 x2 = some o) : Met l ⟨"JoinedTreesModel", "join", "(II)I"⟩ (Cond.code ⟨"JoinedTreesModel", "join", "(II)I"⟩ prog_14_method_59_code 4 (some .int) :: gb) ({ frames := 3, cells := 0, slots := 0, locals := 69 }) (gPc D (mw md mc S) (mty mc) sz [.ref (md 100), .int x1, .int x2]) (va_Qi (fun (r : Int32) (_ : Unit) => r = o.2) (fun _ t => gO D (mw md mc o.1) (mty mc) (va_A (mw md mc S) sz) t) (va_A (mw md mc S) sz)) 0 0 (va_A (mw md mc S) sz) := by
  refine Met.ofW (cc := prog_14_method_59_code) (maxL := 4) (ret := (some .int)) (by decide) rfl ?_
  intro p e s m args below meth c s₁ B hml hv
  obtain ⟨rfl, hsz, hP, hK, hD0⟩ := hv
  have hx := B.exec
  have hb := B.bytes
  have hr := B.returns
  have hts : ∀ w9 ∈ gb, w9.before [.ref (md 100), .int x1, .int x2].toArray s = true := fun w9 h => atoms_spec (ws := Cond.code ⟨"JoinedTreesModel", "join", "(II)I"⟩ prog_14_method_59_code 4 (some .int) :: gb) B.pre w9 (List.mem_cons_of_mem _ h)
  have hown : s.vm.findClass "JoinedTreesModel" = some m.cls := findClass_of_methodNamed B.named
  have hlocks := B.notSynchronized
  subst hsz
  have hD := hD0.self (sz := s.heap.size)
  generalize hAe : va_A (mw md mc S) s.heap.size = A at hD ⊢
  have hA : ∀ q : Nat, s.heap.size ≤ q → A q := fun q h => by rw [← hAe]; exact Or.inr h
  have hS : va_S A s.heap s.heap [] := va_S.rf
  have hl := lv_entry ([.ref (md 100), .int x1, .int x2]) (n := 4) (Nat.le_of_ble_eq_true rfl)
  rw [lg_entry_eq]
  generalize (lg_sl ([.ref (md 100), .int x1, .int x2]) ++ List.replicate (4 - (lg_sl ([.ref (md 100), .int x1, .int x2])).length) Slot.unset).toArray = ls at hl ⊢
  have hl : lv_has ls 4 [(0, .ref (md 100)), (1, .int x1), (2, .int x2)] := hl
  refine w_rjoin_J0 ⟨hx, hb, hr, hml, hown, hts, hK, hA⟩ Heq (fun r h pc H locs ls hd hP hD hS => ?_) _ _ _ hP hD hS (lv_sub hl [0, 1, 2] rfl)
  subst h
  exact W.iret hx hb hr (fun t ht hW => ⟨⟨_, (), rfl, rfl, by rw [ht]; exact hP, va_K.moved hW.alike hK, hD⟩, hS.F ht⟩) hS.2.2 hd
