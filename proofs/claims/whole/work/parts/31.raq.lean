def m_rload_J28 (S : MS) : Option (MS × Int32) := ob (m_rno S 2) (fun o_1 => some (o_1.1, o_1.2))
theorem d_rload_0 : decode prog_14_method_92_code 0 = .ok (.iload_n 1, 1) := by decide +kernel
theorem d_rload_1 : decode prog_14_method_92_code 1 = .ok (.invokestatic 251, 3) := by decide +kernel
theorem d_rload_4 : decode prog_14_method_92_code 4 = .ok (.ifCond .ne 9, 3) := by decide +kernel
theorem d_rload_13 : decode prog_14_method_92_code 13 = .ok (.aload_n 0, 1) := by decide +kernel
theorem d_rload_14 : decode prog_14_method_92_code 14 = .ok (.iload_n 1, 1) := by decide +kernel
theorem d_rload_15 : decode prog_14_method_92_code 15 = .ok (.invokevirtual 387, 3) := by decide +kernel
theorem d_rload_18 : decode prog_14_method_92_code 18 = .ok (.ifCond .gt 10, 3) := by decide +kernel
theorem d_rload_28 : decode prog_14_method_92_code 28 = .ok (.aload_n 0, 1) := by decide +kernel
theorem d_rload_29 : decode prog_14_method_92_code 29 = .ok (.iconst 2, 1) := by decide +kernel
theorem d_rload_30 : decode prog_14_method_92_code 30 = .ok (.invokevirtual 191, 3) := by decide +kernel
theorem d_rload_33 : decode prog_14_method_92_code 33 = .ok (.ireturn, 1) := by decide +kernel
set_option maxHeartbeats 4000000 in
set_option maxRecDepth 100000 in
theorem w_rload_J28 {p : Program} {l : Launch} {e : Env} {s : State} {m : MethodId} {args : Array Value} {below : List Frame} {meth : Method} {c : Code} {A : Nat → Prop} {D : va_G} {md : Nat → Nat} {mc : Nat → ClassId} {Q : State → Prop} (hC : MCx "JoinedTreesModel" prog_14_method_92_code 4 (some .int) p s m args meth c A D mc) {S : MS} {o : MS × Int32} (Heq : m_rload_J28 S = some o) (Kr : ∀ r : MS × Int32, o = r → ∀ (pc : Nat) (H : Heap) (locs : List Loc) (ls : Array Slot), decode prog_14_method_92_code pc = .ok (.ireturn, 1) → va_P D cls (mw md mc r.1) H → va_D A (mw md mc r.1) → va_S A s.heap H locs → W p l e ({ frames := 6, cells := 0, slots := 0, locals := 146 }) s m args below meth c H locs 0 0 Q (F0 m pc ls [.int r.2])) : ∀ (H : Heap) (locs : List Loc) (ls : Array Slot), va_P D cls (mw md mc S) H → va_D A (mw md mc S) → va_S A s.heap H locs → lv_has ls 4 [(0, .ref (md 100))] → W p l e ({ frames := 6, cells := 0, slots := 0, locals := 146 }) s m args below meth c H locs 0 0 Q (F0 m 28 ls []) := by
  intro H locs ls hP hD hS hl
  obtain ⟨hx, hb, hr, hml, hown, hts, hK, hA⟩ := id hC
  unfold m_rload_J28 at Heq
  refine lv_aload_n hx hb d_rload_28 rfl (lv_at hl 0 rfl) ?_
  refine lv_iconst (v := 2) hx hb d_rload_29 (by decide) ?_
  obtain ⟨o_1, h_2, Heq⟩ := ob_some Heq
  have hFc := fr_all hD hS hA
  refine va_calli (va_runV (As := [.int 2]) (rest := []) ⟨hx, hb, hml, hown, hts⟩ (g_rno l D H.size h_2) (cw_v 1 hts kw_1626 kw_1623 kw_1625 kp_29 kw_11 rfl rfl (by decide +kernel) ⟨Nat.le_of_ble_eq_true rfl, Nat.le_of_ble_eq_true rfl⟩) ⟨g_blind, va_recv hK hP (ci := 12) (q0 := 0) rfl rfl, fun U hU hW => g_pre hU hW hP hK hD⟩ rfl rfl hl.1 rfl (lv_room (Nat.le_of_ble_eq_true rfl)) d_rload_30 ⟨Nat.le_of_ble_eq_true rfl, Nat.le_of_ble_eq_true rfl⟩) hS (fun q _ h => hFc q h) hFc (fun rz u t H1 locs ht hvm hw hB hz1 hk1 hS => ?_)
  obtain ⟨hP, -, hD1⟩ := hB
  rw [ht] at hP
  have hD := hD1.weaken (fun _ q _ h => hFc q.1 h)
  generalize H1 = H at hP hS ⊢
  refine W.cs (cells' := 0) (slots' := 0) rfl rfl ?_
  subst hw
  exact Kr _ (Option.some.inj Heq).symm 33 _ _ _ d_rload_33 hP hD hS
def m_rload_J109 (S : MS) (x1 : Int32) (x3 : Int32) : Option ((MS × Int32 × Int32) ⊕ (MS × Int32)) := some (.inl (S, x1, (x3 + 1)))
theorem d_rload_21 : decode prog_14_method_92_code 21 = .ok (.aload_n 0, 1) := by decide +kernel
theorem d_rload_22 : decode prog_14_method_92_code 22 = .ok (.getfield 465, 3) := by decide +kernel
theorem d_rload_25 : decode prog_14_method_92_code 25 = .ok (.ifCond .ne 9, 3) := by decide +kernel
theorem d_rload_34 : decode prog_14_method_92_code 34 = .ok (.aload_n 0, 1) := by decide +kernel
theorem d_rload_35 : decode prog_14_method_92_code 35 = .ok (.aload_n 0, 1) := by decide +kernel
theorem d_rload_36 : decode prog_14_method_92_code 36 = .ok (.getfield 433, 3) := by decide +kernel
theorem d_rload_39 : decode prog_14_method_92_code 39 = .ok (.putfield 499, 3) := by decide +kernel
theorem d_rload_42 : decode prog_14_method_92_code 42 = .ok (.aload_n 0, 1) := by decide +kernel
theorem d_rload_43 : decode prog_14_method_92_code 43 = .ok (.invokevirtual 508, 3) := by decide +kernel
theorem d_rload_46 : decode prog_14_method_92_code 46 = .ok (.istore_n 2, 1) := by decide +kernel
theorem d_rload_47 : decode prog_14_method_92_code 47 = .ok (.aload_n 0, 1) := by decide +kernel
theorem d_rload_48 : decode prog_14_method_92_code 48 = .ok (.aload_n 0, 1) := by decide +kernel
theorem d_rload_49 : decode prog_14_method_92_code 49 = .ok (.getfield 499, 3) := by decide +kernel
theorem d_rload_52 : decode prog_14_method_92_code 52 = .ok (.putfield 433, 3) := by decide +kernel
theorem d_rload_55 : decode prog_14_method_92_code 55 = .ok (.iload_n 2, 1) := by decide +kernel
theorem d_rload_56 : decode prog_14_method_92_code 56 = .ok (.ifCond .ne 9, 3) := by decide +kernel
theorem d_rload_65 : decode prog_14_method_92_code 65 = .ok (.aload_n 0, 1) := by decide +kernel
theorem d_rload_66 : decode prog_14_method_92_code 66 = .ok (.iconst 0, 1) := by decide +kernel
theorem d_rload_67 : decode prog_14_method_92_code 67 = .ok (.putfield 176, 3) := by decide +kernel
theorem d_rload_70 : decode prog_14_method_92_code 70 = .ok (.iconst 0, 1) := by decide +kernel
theorem d_rload_71 : decode prog_14_method_92_code 71 = .ok (.istore_n 3, 1) := by decide +kernel
theorem d_rload_72 : decode prog_14_method_92_code 72 = .ok (.iload_n 3, 1) := by decide +kernel
theorem d_rload_73 : decode prog_14_method_92_code 73 = .ok (.aload_n 0, 1) := by decide +kernel
theorem d_rload_74 : decode prog_14_method_92_code 74 = .ok (.getfield 384, 3) := by decide +kernel
theorem d_rload_77 : decode prog_14_method_92_code 77 = .ok (.if_icmp .ge 38, 3) := by decide +kernel
theorem d_rload_80 : decode prog_14_method_92_code 80 = .ok (.aload_n 0, 1) := by decide +kernel
theorem d_rload_81 : decode prog_14_method_92_code 81 = .ok (.getfield 115, 3) := by decide +kernel
theorem d_rload_84 : decode prog_14_method_92_code 84 = .ok (.iload_n 3, 1) := by decide +kernel
theorem d_rload_85 : decode prog_14_method_92_code 85 = .ok (.baload, 1) := by decide +kernel
theorem d_rload_86 : decode prog_14_method_92_code 86 = .ok (.ifCond .eq 23, 3) := by decide +kernel
theorem d_rload_109 : decode prog_14_method_92_code 109 = .ok (.iinc 3 1, 3) := by decide +kernel
theorem d_rload_112 : decode prog_14_method_92_code 112 = .ok (.goto (-40), 3) := by decide +kernel
set_option maxHeartbeats 4000000 in
set_option maxRecDepth 100000 in
theorem w_rload_J109 {p : Program} {l : Launch} {e : Env} {s : State} {m : MethodId} {args : Array Value} {below : List Frame} {meth : Method} {c : Code} {A : Nat → Prop} {D : va_G} {md : Nat → Nat} {mc : Nat → ClassId} {Q : State → Prop} (hC : MCx "JoinedTreesModel" prog_14_method_92_code 4 (some .int) p s m args meth c A D mc) {S : MS} {x1 : Int32} {x3 : Int32} {o : ((MS × Int32 × Int32) ⊕ (MS × Int32))} (Heq : m_rload_J109 S x1 x3 = some o) (Ka : ∀ b : MS × Int32 × Int32, o = .inl b → ∀ (H : Heap) (locs : List Loc) (ls : Array Slot), va_P D cls (mw md mc b.1) H → va_D A (mw md mc b.1) → va_S A s.heap H locs → lv_has ls 4 [(0, .ref (md 100)), (1, .int b.2.1), (3, .int b.2.2)] → W p l e ({ frames := 6, cells := 0, slots := 0, locals := 146 }) s m args below meth c H locs 0 0 Q (F0 m 72 ls [])) (K0 : ∀ b : MS × Int32, o = .inr b → ∀ (H : Heap) (locs : List Loc) (ls : Array Slot), va_P D cls (mw md mc b.1) H → va_D A (mw md mc b.1) → va_S A s.heap H locs → lv_has ls 4 [(0, .ref (md 100)), (1, .int b.2)] → W p l e ({ frames := 6, cells := 0, slots := 0, locals := 146 }) s m args below meth c H locs 0 0 Q (F0 m 115 ls [])) : ∀ (H : Heap) (locs : List Loc) (ls : Array Slot), va_P D cls (mw md mc S) H → va_D A (mw md mc S) → va_S A s.heap H locs → lv_has ls 4 [(0, .ref (md 100)), (1, .int x1), (3, .int x3)] → W p l e ({ frames := 6, cells := 0, slots := 0, locals := 146 }) s m args below meth c H locs 0 0 Q (F0 m 109 ls []) := by
  intro H locs ls hP hD hS hl
  obtain ⟨hx, hb, hr, hml, hown, hts, hK, hA⟩ := id hC
  unfold m_rload_J109 at Heq
  refine lv_iinc (v := x3 + 1) (lv' := [(3, .int (x3 + 1)), (0, .ref (md 100)), (1, .int x1)]) hx hb d_rload_109 hl (k := 2) rfl rfl (by decide) rfl (fun ls hl => ?_)
  refine lv_goto (tgt := 72) hx hb d_rload_112 (by decide) ?_
  exact Ka _ (Option.some.inj Heq).symm _ _ _ hP hD hS (lv_sub hl [1, 2, 0] rfl)
def m_rload_B72 (S : MS) (x1 : Int32) (x3 : Int32) : Option ((MS × Int32 × Int32) ⊕ (MS × Int32)) := (if S.i 34 ≤ x3 then some (.inr (S, x1)) else gd x3 1000 ((if S.a 44 x3.toNatClampNeg = 0 then m_rload_J109 S x1 x3 else gd x1 8 (gd x3 1000 ((if S.a (101 + x1.toNatClampNeg) x3.toNatClampNeg = 0 then gd x1 8 (gd x3 1000 (m_rload_J109 (S.setA (109 + x1.toNatClampNeg) (upd (S.a (109 + x1.toNatClampNeg)) x3.toNatClampNeg (vp_nar .boolean 1))) x1 x3)) else m_rload_J109 S x1 x3))))))
theorem d_rload_89 : decode prog_14_method_92_code 89 = .ok (.aload_n 0, 1) := by decide +kernel
theorem d_rload_90 : decode prog_14_method_92_code 90 = .ok (.getfield 95, 3) := by decide +kernel
theorem d_rload_93 : decode prog_14_method_92_code 93 = .ok (.iload_n 1, 1) := by decide +kernel
theorem d_rload_94 : decode prog_14_method_92_code 94 = .ok (.aaload, 1) := by decide +kernel
theorem d_rload_95 : decode prog_14_method_92_code 95 = .ok (.iload_n 3, 1) := by decide +kernel
theorem d_rload_96 : decode prog_14_method_92_code 96 = .ok (.baload, 1) := by decide +kernel
theorem d_rload_97 : decode prog_14_method_92_code 97 = .ok (.ifCond .ne 12, 3) := by decide +kernel
theorem d_rload_100 : decode prog_14_method_92_code 100 = .ok (.aload_n 0, 1) := by decide +kernel
theorem d_rload_101 : decode prog_14_method_92_code 101 = .ok (.getfield 98, 3) := by decide +kernel
theorem d_rload_104 : decode prog_14_method_92_code 104 = .ok (.iload_n 1, 1) := by decide +kernel
theorem d_rload_105 : decode prog_14_method_92_code 105 = .ok (.aaload, 1) := by decide +kernel
theorem d_rload_106 : decode prog_14_method_92_code 106 = .ok (.iload_n 3, 1) := by decide +kernel
theorem d_rload_107 : decode prog_14_method_92_code 107 = .ok (.iconst 1, 1) := by decide +kernel
theorem d_rload_108 : decode prog_14_method_92_code 108 = .ok (.bastore, 1) := by decide +kernel
set_option maxHeartbeats 4000000 in
set_option maxRecDepth 100000 in
theorem w_rload_B72 {p : Program} {l : Launch} {e : Env} {s : State} {m : MethodId} {args : Array Value} {below : List Frame} {meth : Method} {c : Code} {A : Nat → Prop} {D : va_G} {md : Nat → Nat} {mc : Nat → ClassId} {Q : State → Prop} (hC : MCx "JoinedTreesModel" prog_14_method_92_code 4 (some .int) p s m args meth c A D mc) {S : MS} {x1 : Int32} {x3 : Int32} {o : ((MS × Int32 × Int32) ⊕ (MS × Int32))} (Heq : m_rload_B72 S x1 x3 = some o) (Ka : ∀ b : MS × Int32 × Int32, o = .inl b → ∀ (H : Heap) (locs : List Loc) (ls : Array Slot), va_P D cls (mw md mc b.1) H → va_D A (mw md mc b.1) → va_S A s.heap H locs → lv_has ls 4 [(0, .ref (md 100)), (1, .int b.2.1), (3, .int b.2.2)] → W p l e ({ frames := 6, cells := 0, slots := 0, locals := 146 }) s m args below meth c H locs 0 0 Q (F0 m 72 ls [])) (K0 : ∀ b : MS × Int32, o = .inr b → ∀ (H : Heap) (locs : List Loc) (ls : Array Slot), va_P D cls (mw md mc b.1) H → va_D A (mw md mc b.1) → va_S A s.heap H locs → lv_has ls 4 [(0, .ref (md 100)), (1, .int b.2)] → W p l e ({ frames := 6, cells := 0, slots := 0, locals := 146 }) s m args below meth c H locs 0 0 Q (F0 m 115 ls [])) : ∀ (H : Heap) (locs : List Loc) (ls : Array Slot), va_P D cls (mw md mc S) H → va_D A (mw md mc S) → va_S A s.heap H locs → lv_has ls 4 [(0, .ref (md 100)), (1, .int x1), (3, .int x3)] → W p l e ({ frames := 6, cells := 0, slots := 0, locals := 146 }) s m args below meth c H locs 0 0 Q (F0 m 72 ls []) := by
  intro H locs ls hP hD hS hl
  obtain ⟨hx, hb, hr, hml, hown, hts, hK, hA⟩ := id hC
  unfold m_rload_B72 at Heq
  refine lv_iload_n hx hb d_rload_72 rfl (lv_at hl 2 rfl) ?_
  refine lv_aload_n hx hb d_rload_73 rfl (lv_at hl 0 rfl) ?_
  refine va_get (D := D) (ci := 12) (v := .int (S.i 34)) (C := R_MM) (T := F_MM) (N := 77) hx hb hts i_MM hown hK hP 0 rfl rfl 34 (by decide) (hts _ kw_1416) (fun _ h9 => h9) rfl d_rload_74 ?_
  refine lv_icmp_ge (tgt := 115) hx hb d_rload_77 (by decide) (fun c_1 => ?_) (fun c_1 => ?_)
  · replace Heq := (if_pos c_1).symm.trans Heq
    exact K0 _ (Option.some.inj Heq).symm _ _ _ hP hD hS (lv_sub hl [0, 1] rfl)
  · replace Heq := (if_neg c_1).symm.trans Heq
    refine lv_aload_n hx hb d_rload_80 rfl (lv_at hl 0 rfl) ?_
    refine va_get (D := D) (ci := 12) (v := .ref (md 44)) (C := R_MM) (T := F_MM) (N := 77) hx hb hts i_MM hown hK hP 0 rfl rfl 44 (by decide) (hts _ kw_1426) (fun _ h9 => h9) rfl d_rload_81 ?_
    refine lv_iload_n hx hb d_rload_84 rfl (lv_at hl 2 rfl) ?_
    obtain ⟨hi_2, Heq⟩ := gd_some Heq
    refine va_zald hx hb hK hP 29 2 rfl rfl (i := x3) hi_2 d_rload_85 ?_
    refine w_i (y := S.a 44 x3.toNatClampNeg) rfl ?_
    refine lv_if_eq (tgt := 109) hx hb d_rload_86 (by decide) (fun c_3 => ?_) (fun c_3 => ?_)
    · replace Heq := (if_pos c_3).symm.trans Heq
      exact w_rload_J109 hC Heq Ka K0 _ _ _ hP hD hS (lv_sub hl [0, 1, 2] rfl)
    · replace Heq := (if_neg c_3).symm.trans Heq
      refine lv_aload_n hx hb d_rload_89 rfl (lv_at hl 0 rfl) ?_
      refine va_get (D := D) (ci := 12) (v := .ref (md 36)) (C := R_MM) (T := F_MM) (N := 77) hx hb hts i_MM hown hK hP 0 rfl rfl 36 (by decide) (hts _ kw_1418) (fun _ h9 => h9) rfl d_rload_90 ?_
      refine lv_iload_n hx hb d_rload_93 rfl (lv_at hl 1 rfl) ?_
      obtain ⟨hi_4, Heq⟩ := gd_some Heq
      refine tx_ald2 hx hb hK hP 48 4 rfl rfl (i := x1) hi_4 d_rload_94 ?_
      refine w_v (y := .ref (md (101 + x1.toNatClampNeg))) rfl ?_
      refine lv_iload_n hx hb d_rload_95 rfl (lv_at hl 2 rfl) ?_
      obtain ⟨hi_5, Heq⟩ := gd_some Heq
      refine va_zald hx hb hK hP (51 + x1.toNatClampNeg) 2 (mp_R101 (vp_in.lt hi_4)) rfl (i := x3) hi_5 d_rload_96 ?_
      refine w_i (y := S.a (101 + x1.toNatClampNeg) x3.toNatClampNeg) rfl ?_
      refine lv_if_ne (tgt := 109) hx hb d_rload_97 (by decide) (fun c_6 => ?_) (fun c_6 => ?_)
      · replace Heq := (if_neg c_6).symm.trans Heq
        exact w_rload_J109 hC Heq Ka K0 _ _ _ hP hD hS (lv_sub hl [0, 1, 2] rfl)
      · replace Heq := (if_pos c_6).symm.trans Heq
        refine lv_aload_n hx hb d_rload_100 rfl (lv_at hl 0 rfl) ?_
        refine va_get (D := D) (ci := 12) (v := .ref (md 37)) (C := R_MM) (T := F_MM) (N := 77) hx hb hts i_MM hown hK hP 0 rfl rfl 37 (by decide) (hts _ kw_1419) (fun _ h9 => h9) rfl d_rload_101 ?_
        refine lv_iload_n hx hb d_rload_104 rfl (lv_at hl 1 rfl) ?_
        obtain ⟨hi_7, Heq⟩ := gd_some Heq
        refine tx_ald2 hx hb hK hP 49 4 rfl rfl (i := x1) hi_7 d_rload_105 ?_
        refine w_v (y := .ref (md (109 + x1.toNatClampNeg))) rfl ?_
        refine lv_iload_n hx hb d_rload_106 rfl (lv_at hl 2 rfl) ?_
        refine lv_iconst (v := 1) hx hb d_rload_107 (by decide) ?_
        obtain ⟨hi_8, Heq⟩ := gd_some Heq
        refine va_zast hx hb hK hP hD hS (59 + x1.toNatClampNeg) 2 (mp_R109 (vp_in.lt hi_7)) rfl (i := x3) (x := 1) hi_8 d_rload_108 (fun H locs hP hD hS => ?_)
        rw [(mw_R109 (vp_in.lt hi_7))] at hP hD
        exact w_rload_J109 hC Heq Ka K0 _ _ _ hP hD hS (lv_sub hl [0, 1, 2] rfl)
def m_rload_L72 (S : MS) (x1 : Int32) (x3 : Int32) : Option (MS × Int32) := lp (fun a : MS × Int32 × Int32 => m_rload_B72 a.1 a.2.1 a.2.2) FU (S, x1, x3)
theorem w_rload_L72 {p : Program} {l : Launch} {e : Env} {s : State} {m : MethodId} {args : Array Value} {below : List Frame} {meth : Method} {c : Code} {A : Nat → Prop} {D : va_G} {md : Nat → Nat} {mc : Nat → ClassId} {Q : State → Prop} (hC : MCx "JoinedTreesModel" prog_14_method_92_code 4 (some .int) p s m args meth c A D mc) {S : MS} {x1 : Int32} {x3 : Int32} {o : MS × Int32} (Heq : m_rload_L72 S x1 x3 = some o) (K0 : ∀ b : MS × Int32, o = b → ∀ (H : Heap) (locs : List Loc) (ls : Array Slot), va_P D cls (mw md mc b.1) H → va_D A (mw md mc b.1) → va_S A s.heap H locs → lv_has ls 4 [(0, .ref (md 100)), (1, .int b.2)] → W p l e ({ frames := 6, cells := 0, slots := 0, locals := 146 }) s m args below meth c H locs 0 0 Q (F0 m 115 ls [])) : ∀ (H : Heap) (locs : List Loc) (ls : Array Slot), va_P D cls (mw md mc S) H → va_D A (mw md mc S) → va_S A s.heap H locs → lv_has ls 4 [(0, .ref (md 100)), (1, .int x1), (3, .int x3)] → W p l e ({ frames := 6, cells := 0, slots := 0, locals := 146 }) s m args below meth c H locs 0 0 Q (F0 m 72 ls []) := by
  refine lp_w (G := fun a : MS × Int32 × Int32 => ∀ (H : Heap) (locs : List Loc) (ls : Array Slot), va_P D cls (mw md mc a.1) H → va_D A (mw md mc a.1) → va_S A s.heap H locs → lv_has ls 4 [(0, .ref (md 100)), (1, .int a.2.1), (3, .int a.2.2)] → W p l e ({ frames := 6, cells := 0, slots := 0, locals := 146 }) s m args below meth c H locs 0 0 Q (F0 m 72 ls [])) ?_ FU (S, x1, x3) Heq
  intro a o1 ho Ka Ke
  exact w_rload_B72 hC ho (fun b h => Ka b h) (fun b h => K0 b (Ke _ h).symm)
def m_rload_J0 (S : MS) (x1 : Int32) : Option (MS × Int32) := ob (m_risReplica S x1) (fun o_1 => (if o_1.2 = 0 then ob (m_rno o_1.1 1) (fun o_17 => some (o_17.1, o_17.2)) else ob (m_ropen o_1.1 x1) (fun o_4 => (if 0 < o_4.2 then m_rload_J28 o_4.1 else (if o_4.1.i 43 = 0 then m_rload_J28 o_4.1 else ob (m_risSaved (o_4.1.setI 76 (o_4.1.i 41))) (fun o_8 => (if o_8.2 = 0 then ob (m_rno (o_8.1.setI 41 (o_8.1.i 76)) 3) (fun o_15 => some (o_15.1, o_15.2)) else ob (m_rload_L72 ((o_8.1.setI 41 (o_8.1.i 76)).setI 0 0) x1 0) (fun b_11 => ob (m_rsettle b_11.1 b_11.2) (fun o_13 => some (o_13.1, o_13.2))))))))))
theorem d_rload_115 : decode prog_14_method_92_code 115 = .ok (.aload_n 0, 1) := by decide +kernel
theorem d_rload_116 : decode prog_14_method_92_code 116 = .ok (.iload_n 1, 1) := by decide +kernel
theorem d_rload_117 : decode prog_14_method_92_code 117 = .ok (.invokevirtual 405, 3) := by decide +kernel
theorem d_rload_120 : decode prog_14_method_92_code 120 = .ok (.ireturn, 1) := by decide +kernel
theorem d_rload_59 : decode prog_14_method_92_code 59 = .ok (.aload_n 0, 1) := by decide +kernel
theorem d_rload_60 : decode prog_14_method_92_code 60 = .ok (.iconst 3, 1) := by decide +kernel
theorem d_rload_61 : decode prog_14_method_92_code 61 = .ok (.invokevirtual 191, 3) := by decide +kernel
theorem d_rload_64 : decode prog_14_method_92_code 64 = .ok (.ireturn, 1) := by decide +kernel
theorem d_rload_7 : decode prog_14_method_92_code 7 = .ok (.aload_n 0, 1) := by decide +kernel
theorem d_rload_8 : decode prog_14_method_92_code 8 = .ok (.iconst 1, 1) := by decide +kernel
theorem d_rload_9 : decode prog_14_method_92_code 9 = .ok (.invokevirtual 191, 3) := by decide +kernel
theorem d_rload_12 : decode prog_14_method_92_code 12 = .ok (.ireturn, 1) := by decide +kernel
set_option maxHeartbeats 4000000 in
set_option maxRecDepth 100000 in
theorem w_rload_J0 {p : Program} {l : Launch} {e : Env} {s : State} {m : MethodId} {args : Array Value} {below : List Frame} {meth : Method} {c : Code} {A : Nat → Prop} {D : va_G} {md : Nat → Nat} {mc : Nat → ClassId} {Q : State → Prop} (hC : MCx "JoinedTreesModel" prog_14_method_92_code 4 (some .int) p s m args meth c A D mc) {S : MS} {x1 : Int32} {o : MS × Int32} (Heq : m_rload_J0 S x1 = some o) (Kr : ∀ r : MS × Int32, o = r → ∀ (pc : Nat) (H : Heap) (locs : List Loc) (ls : Array Slot), decode prog_14_method_92_code pc = .ok (.ireturn, 1) → va_P D cls (mw md mc r.1) H → va_D A (mw md mc r.1) → va_S A s.heap H locs → W p l e ({ frames := 6, cells := 0, slots := 0, locals := 146 }) s m args below meth c H locs 0 0 Q (F0 m pc ls [.int r.2])) : ∀ (H : Heap) (locs : List Loc) (ls : Array Slot), va_P D cls (mw md mc S) H → va_D A (mw md mc S) → va_S A s.heap H locs → lv_has ls 4 [(0, .ref (md 100)), (1, .int x1)] → W p l e ({ frames := 6, cells := 0, slots := 0, locals := 146 }) s m args below meth c H locs 0 0 Q (F0 m 0 ls []) := by
  intro H locs ls hP hD hS hl
  obtain ⟨hx, hb, hr, hml, hown, hts, hK, hA⟩ := id hC
  unfold m_rload_J0 at Heq
  refine lv_iload_n hx hb d_rload_0 rfl (lv_at hl 1 rfl) ?_
  obtain ⟨o_1, h_2, Heq⟩ := ob_some Heq
  have hFc := fr_all hD hS hA
  refine va_calli (va_runS (As := [.int x1]) (rest := []) ⟨hx, hb, hml, hown, hts⟩ (g_risReplica l D H.size h_2) (cw_s 1 hts kw_1641 kw_1639 kw_1640 kw_11 rfl rfl (by decide +kernel) ⟨Nat.le_of_ble_eq_true rfl, Nat.le_of_ble_eq_true rfl⟩) ⟨g_blind, fun U hU hW => g_pre hU hW hP hK hD⟩ rfl rfl hl.1 rfl (lv_room (Nat.le_of_ble_eq_true rfl)) d_rload_1 ⟨Nat.le_of_ble_eq_true rfl, Nat.le_of_ble_eq_true rfl⟩) hS (fun q _ h => hFc q h) hFc (fun rz u t H1 locs ht hvm hw hB hz1 hk1 hS => ?_)
  obtain ⟨hP, -, hD1⟩ := hB
  rw [ht] at hP
  have hD := hD1.weaken (fun _ q _ h => hFc q.1 h)
  generalize H1 = H at hP hS ⊢
  refine W.cs (cells' := 0) (slots' := 0) rfl rfl ?_
  subst hw
  refine lv_if_ne (tgt := 13) hx hb d_rload_4 (by decide) (fun c_3 => ?_) (fun c_3 => ?_)
  · replace Heq := (if_neg c_3).symm.trans Heq
    refine lv_aload_n hx hb d_rload_13 rfl (lv_at hl 0 rfl) ?_
    refine lv_iload_n hx hb d_rload_14 rfl (lv_at hl 1 rfl) ?_
    obtain ⟨o_4, h_5, Heq⟩ := ob_some Heq
    have hFc := fr_all hD hS hA
    refine va_calli (va_runV (As := [.int x1]) (rest := []) ⟨hx, hb, hml, hown, hts⟩ (g_ropen l D H.size h_5) (cw_v 1 hts kw_1815 kw_1812 kw_1814 kp_63 kw_11 rfl rfl (by decide +kernel) ⟨Nat.le_of_ble_eq_true rfl, Nat.le_of_ble_eq_true rfl⟩) ⟨g_blind, va_recv hK hP (ci := 12) (q0 := 0) rfl rfl, fun U hU hW => g_pre hU hW hP hK hD⟩ rfl rfl hl.1 rfl (lv_room (Nat.le_of_ble_eq_true rfl)) d_rload_15 ⟨Nat.le_of_ble_eq_true rfl, Nat.le_of_ble_eq_true rfl⟩) hS (fun q _ h => hFc q h) hFc (fun rz u t H1 locs ht hvm hw hB hz1 hk1 hS => ?_)
    obtain ⟨hP, -, hD1⟩ := hB
    rw [ht] at hP
    have hD := hD1.weaken (fun _ q _ h => hFc q.1 h)
    generalize H1 = H at hP hS ⊢
    refine W.cs (cells' := 0) (slots' := 0) rfl rfl ?_
    subst hw
    refine lv_if_gt (tgt := 28) hx hb d_rload_18 (by decide) (fun c_6 => ?_) (fun c_6 => ?_)
    · replace Heq := (if_pos c_6).symm.trans Heq
      exact w_rload_J28 hC Heq Kr _ _ _ hP hD hS (lv_sub hl [0] rfl)
    · replace Heq := (if_neg c_6).symm.trans Heq
      refine lv_aload_n hx hb d_rload_21 rfl (lv_at hl 0 rfl) ?_
      refine va_get (D := D) (ci := 12) (v := .int (o_4.1.i 43)) (C := R_MM) (T := F_MM) (N := 77) hx hb hts i_MM hown hK hP 0 rfl rfl 43 (by decide) (hts _ kw_1425) (fun _ h9 => h9) rfl d_rload_22 ?_
      refine lv_if_ne (tgt := 34) hx hb d_rload_25 (by decide) (fun c_7 => ?_) (fun c_7 => ?_)
      · replace Heq := (if_neg c_7).symm.trans Heq
        refine lv_aload_n hx hb d_rload_34 rfl (lv_at hl 0 rfl) ?_
        refine lv_aload_n hx hb d_rload_35 rfl (lv_at hl 0 rfl) ?_
        refine va_get (D := D) (ci := 12) (v := .int (o_4.1.i 41)) (C := R_MM) (T := F_MM) (N := 77) hx hb hts i_MM hown hK hP 0 rfl rfl 41 (by decide) (hts _ kw_1423) (fun _ h9 => h9) rfl d_rload_36 ?_
        refine va_put (D := D) (ci := 12) (v := .int (o_4.1.i 41)) (ty := .int) (C := R_MM) (T := F_MM) (N := 77) hx hb hts i_MM t_MM t_MM_ok n_MM hown hK hP hD hS 0 rfl rfl 76 (by decide) (hts _ kw_1458) (fun _ h9 => h9) rfl (by decide +kernel) rfl rfl (Nat.le_of_ble_eq_true rfl) d_rload_39 (fun H locs hP hD hS => ?_)
        rw [mw_I76] at hP hD
        refine lv_aload_n hx hb d_rload_42 rfl (lv_at hl 0 rfl) ?_
        obtain ⟨o_8, h_9, Heq⟩ := ob_some Heq
        have hFc := fr_all hD hS hA
        refine va_calli (va_runV (As := []) (rest := []) ⟨hx, hb, hml, hown, hts⟩ (g_risSaved l D H.size h_9) (cw_v 0 hts kw_1982 kw_1979 kw_1981 kp_87 kw_11 rfl rfl (by decide +kernel) ⟨Nat.le_of_ble_eq_true rfl, Nat.le_of_ble_eq_true rfl⟩) ⟨g_blind, va_recv hK hP (ci := 12) (q0 := 0) rfl rfl, fun U hU hW => g_pre hU hW hP hK hD⟩ rfl rfl hl.1 rfl (lv_room (Nat.le_of_ble_eq_true rfl)) d_rload_43 ⟨Nat.le_of_ble_eq_true rfl, Nat.le_of_ble_eq_true rfl⟩) hS (fun q _ h => hFc q h) hFc (fun rz u t H1 locs ht hvm hw hB hz1 hk1 hS => ?_)
        obtain ⟨hP, -, hD1⟩ := hB
        rw [ht] at hP
        have hD := hD1.weaken (fun _ q _ h => hFc q.1 h)
        generalize H1 = H at hP hS ⊢
        refine W.cs (cells' := 0) (slots' := 0) rfl rfl ?_
        subst hw
        refine lv_istore_n (lv' := [(2, .int o_8.2), (0, .ref (md 100)), (1, .int x1)]) hx hb d_rload_46 rfl hl (by decide) rfl (fun ls hl => ?_)
        refine lv_aload_n hx hb d_rload_47 rfl (lv_at hl 1 rfl) ?_
        refine lv_aload_n hx hb d_rload_48 rfl (lv_at hl 1 rfl) ?_
        refine va_get (D := D) (ci := 12) (v := .int (o_8.1.i 76)) (C := R_MM) (T := F_MM) (N := 77) hx hb hts i_MM hown hK hP 0 rfl rfl 76 (by decide) (hts _ kw_1458) (fun _ h9 => h9) rfl d_rload_49 ?_
        refine va_put (D := D) (ci := 12) (v := .int (o_8.1.i 76)) (ty := .int) (C := R_MM) (T := F_MM) (N := 77) hx hb hts i_MM t_MM t_MM_ok n_MM hown hK hP hD hS 0 rfl rfl 41 (by decide) (hts _ kw_1423) (fun _ h9 => h9) rfl (by decide +kernel) rfl rfl (Nat.le_of_ble_eq_true rfl) d_rload_52 (fun H locs hP hD hS => ?_)
        rw [mw_I41] at hP hD
        refine lv_iload_n hx hb d_rload_55 rfl (lv_at hl 0 rfl) ?_
        refine lv_if_ne (tgt := 65) hx hb d_rload_56 (by decide) (fun c_10 => ?_) (fun c_10 => ?_)
        · replace Heq := (if_neg c_10).symm.trans Heq
          refine lv_aload_n hx hb d_rload_65 rfl (lv_at hl 1 rfl) ?_
          refine lv_iconst (v := 0) hx hb d_rload_66 (by decide) ?_
          refine va_put (D := D) (ci := 12) (v := .int 0) (ty := .int) (C := R_MM) (T := F_MM) (N := 77) hx hb hts i_MM t_MM t_MM_ok n_MM hown hK hP hD hS 0 rfl rfl 0 (by decide) (hts _ kw_1382) (fun _ h9 => h9) rfl (by decide +kernel) rfl rfl (Nat.le_of_ble_eq_true rfl) d_rload_67 (fun H locs hP hD hS => ?_)
          rw [mw_I0] at hP hD
          refine lv_iconst (v := 0) hx hb d_rload_70 (by decide) ?_
          refine lv_istore_n (lv' := [(3, .int 0), (2, .int o_8.2), (0, .ref (md 100)), (1, .int x1)]) hx hb d_rload_71 rfl hl (by decide) rfl (fun ls hl => ?_)
          obtain ⟨b_11, h_12, Heq⟩ := ob_some Heq
          refine w_rload_L72 hC h_12 (fun b h => ?_) _ _ _ hP hD hS (lv_sub hl [2, 3, 0] rfl)
          subst h
          intro H locs ls hP hD hS hl
          refine lv_aload_n hx hb d_rload_115 rfl (lv_at hl 0 rfl) ?_
          refine lv_iload_n hx hb d_rload_116 rfl (lv_at hl 1 rfl) ?_
          obtain ⟨o_13, h_14, Heq⟩ := ob_some Heq
          have hFc := fr_all hD hS hA
          refine va_calli (va_runV (As := [.int b_11.2]) (rest := []) ⟨hx, hb, hml, hown, hts⟩ (g_rsettle l D H.size h_14) (cw_v 1 hts kw_1839 kw_1836 kw_1838 kp_67 kw_11 rfl rfl (by decide +kernel) ⟨Nat.le_of_ble_eq_true rfl, Nat.le_of_ble_eq_true rfl⟩) ⟨g_blind, va_recv hK hP (ci := 12) (q0 := 0) rfl rfl, fun U hU hW => g_pre hU hW hP hK hD⟩ rfl rfl hl.1 rfl (lv_room (Nat.le_of_ble_eq_true rfl)) d_rload_117 ⟨Nat.le_of_ble_eq_true rfl, Nat.le_of_ble_eq_true rfl⟩) hS (fun q _ h => hFc q h) hFc (fun rz u t H1 locs ht hvm hw hB hz1 hk1 hS => ?_)
          obtain ⟨hP, -, hD1⟩ := hB
          rw [ht] at hP
          have hD := hD1.weaken (fun _ q _ h => hFc q.1 h)
          generalize H1 = H at hP hS ⊢
          refine W.cs (cells' := 0) (slots' := 0) rfl rfl ?_
          subst hw
          exact Kr _ (Option.some.inj Heq).symm 120 _ _ _ d_rload_120 hP hD hS
        · replace Heq := (if_pos c_10).symm.trans Heq
          refine lv_aload_n hx hb d_rload_59 rfl (lv_at hl 1 rfl) ?_
          refine lv_iconst (v := 3) hx hb d_rload_60 (by decide) ?_
          obtain ⟨o_15, h_16, Heq⟩ := ob_some Heq
          have hFc := fr_all hD hS hA
          refine va_calli (va_runV (As := [.int 3]) (rest := []) ⟨hx, hb, hml, hown, hts⟩ (g_rno l D H.size h_16) (cw_v 1 hts kw_1626 kw_1623 kw_1625 kp_29 kw_11 rfl rfl (by decide +kernel) ⟨Nat.le_of_ble_eq_true rfl, Nat.le_of_ble_eq_true rfl⟩) ⟨g_blind, va_recv hK hP (ci := 12) (q0 := 0) rfl rfl, fun U hU hW => g_pre hU hW hP hK hD⟩ rfl rfl hl.1 rfl (lv_room (Nat.le_of_ble_eq_true rfl)) d_rload_61 ⟨Nat.le_of_ble_eq_true rfl, Nat.le_of_ble_eq_true rfl⟩) hS (fun q _ h => hFc q h) hFc (fun rz u t H1 locs ht hvm hw hB hz1 hk1 hS => ?_)
          obtain ⟨hP, -, hD1⟩ := hB
          rw [ht] at hP
          have hD := hD1.weaken (fun _ q _ h => hFc q.1 h)
          generalize H1 = H at hP hS ⊢
          refine W.cs (cells' := 0) (slots' := 0) rfl rfl ?_
          subst hw
          exact Kr _ (Option.some.inj Heq).symm 64 _ _ _ d_rload_64 hP hD hS
      · replace Heq := (if_pos c_7).symm.trans Heq
        exact w_rload_J28 hC Heq Kr _ _ _ hP hD hS (lv_sub hl [0] rfl)
  · replace Heq := (if_pos c_3).symm.trans Heq
    refine lv_aload_n hx hb d_rload_7 rfl (lv_at hl 0 rfl) ?_
    refine lv_iconst (v := 1) hx hb d_rload_8 (by decide) ?_
    obtain ⟨o_17, h_18, Heq⟩ := ob_some Heq
    have hFc := fr_all hD hS hA
    refine va_calli (va_runV (As := [.int 1]) (rest := []) ⟨hx, hb, hml, hown, hts⟩ (g_rno l D H.size h_18) (cw_v 1 hts kw_1626 kw_1623 kw_1625 kp_29 kw_11 rfl rfl (by decide +kernel) ⟨Nat.le_of_ble_eq_true rfl, Nat.le_of_ble_eq_true rfl⟩) ⟨g_blind, va_recv hK hP (ci := 12) (q0 := 0) rfl rfl, fun U hU hW => g_pre hU hW hP hK hD⟩ rfl rfl hl.1 rfl (lv_room (Nat.le_of_ble_eq_true rfl)) d_rload_9 ⟨Nat.le_of_ble_eq_true rfl, Nat.le_of_ble_eq_true rfl⟩) hS (fun q _ h => hFc q h) hFc (fun rz u t H1 locs ht hvm hw hB hz1 hk1 hS => ?_)
    obtain ⟨hP, -, hD1⟩ := hB
    rw [ht] at hP
    have hD := hD1.weaken (fun _ q _ h => hFc q.1 h)
    generalize H1 = H at hP hS ⊢
    refine W.cs (cells' := 0) (slots' := 0) rfl rfl ?_
    subst hw
    exact Kr _ (Option.some.inj Heq).symm 12 _ _ _ d_rload_12 hP hD hS
def m_rload (S : MS) (x1 : Int32) : Option (MS × Int32) := m_rload_J0 S x1
theorem g_rload (l : Launch) (D : va_G) (sz : Nat) {md : Nat → Nat} {mc : Nat → ClassId} {S : MS} {x1 : Int32} {o : MS × Int32} (Heq : m_rload S x1 = some o) : Met l ⟨"JoinedTreesModel", "load", "(I)I"⟩ (Cond.code ⟨"JoinedTreesModel", "load", "(I)I"⟩ prog_14_method_92_code 4 (some .int) :: gb) ({ frames := 6, cells := 0, slots := 0, locals := 146 }) (gPc D (mw md mc S) (mty mc) sz [.ref (md 100), .int x1]) (va_Qi (fun (r : Int32) (_ : Unit) => r = o.2) (fun _ t => gO D (mw md mc o.1) (mty mc) (va_A (mw md mc S) sz) t) (va_A (mw md mc S) sz)) 0 0 (va_A (mw md mc S) sz) := by
  refine Met.ofW (cc := prog_14_method_92_code) (maxL := 4) (ret := (some .int)) (by decide) rfl ?_
  intro p e s m args below meth c s₁ B hml hv
  obtain ⟨rfl, hsz, hP, hK, hD0⟩ := hv
  have hx := B.exec
  have hb := B.bytes
  have hr := B.returns
  have hts : ∀ w9 ∈ gb, w9.before [.ref (md 100), .int x1].toArray s = true := fun w9 h => atoms_spec (ws := Cond.code ⟨"JoinedTreesModel", "load", "(I)I"⟩ prog_14_method_92_code 4 (some .int) :: gb) B.pre w9 (List.mem_cons_of_mem _ h)
  have hown : s.vm.findClass "JoinedTreesModel" = some m.cls := findClass_of_methodNamed B.named
  have hlocks := B.notSynchronized
  subst hsz
  have hD := hD0.self (sz := s.heap.size)
  generalize hAe : va_A (mw md mc S) s.heap.size = A at hD ⊢
  have hA : ∀ q : Nat, s.heap.size ≤ q → A q := fun q h => by rw [← hAe]; exact Or.inr h
  have hS : va_S A s.heap s.heap [] := va_S.rf
  have hl := lv_entry ([.ref (md 100), .int x1]) (n := 4) (Nat.le_of_ble_eq_true rfl)
  rw [lg_entry_eq]
  generalize (lg_sl ([.ref (md 100), .int x1]) ++ List.replicate (4 - (lg_sl ([.ref (md 100), .int x1])).length) Slot.unset).toArray = ls at hl ⊢
  have hl : lv_has ls 4 [(0, .ref (md 100)), (1, .int x1)] := hl
  refine w_rload_J0 ⟨hx, hb, hr, hml, hown, hts, hK, hA⟩ Heq (fun r h pc H locs ls hd hP hD hS => ?_) _ _ _ hP hD hS (lv_sub hl [0, 1] rfl)
  subst h
  exact W.iret hx hb hr (fun t ht hW => ⟨⟨_, (), rfl, rfl, by rw [ht]; exact hP, va_K.moved hW.alike hK, hD⟩, hS.F ht⟩) hS.2.2 hd
def m_rharm_J10 (S : MS) : Option MS := some (S.setI 0 1)
theorem d_rharm_0 : decode prog_14_method_93_code 0 = .ok (.iload_n 2, 1) := by decide +kernel
theorem d_rharm_1 : decode prog_14_method_93_code 1 = .ok (.ifCond .lt 9, 3) := by decide +kernel
theorem d_rharm_10 : decode prog_14_method_93_code 10 = .ok (.aload_n 0, 1) := by decide +kernel
theorem d_rharm_11 : decode prog_14_method_93_code 11 = .ok (.iconst 1, 1) := by decide +kernel
theorem d_rharm_12 : decode prog_14_method_93_code 12 = .ok (.putfield 176, 3) := by decide +kernel
theorem d_rharm_15 : decode prog_14_method_93_code 15 = .ok (.return_, 1) := by decide +kernel
set_option maxHeartbeats 4000000 in
set_option maxRecDepth 100000 in
theorem w_rharm_J10 {p : Program} {l : Launch} {e : Env} {s : State} {m : MethodId} {args : Array Value} {below : List Frame} {meth : Method} {c : Code} {A : Nat → Prop} {D : va_G} {md : Nat → Nat} {mc : Nat → ClassId} {Q : State → Prop} (hC : MCx "JoinedTreesModel" prog_14_method_93_code 3 none p s m args meth c A D mc) {S : MS} {o : MS} (Heq : m_rharm_J10 S = some o) (Kr : ∀ r : MS, o = r → ∀ (pc : Nat) (H : Heap) (locs : List Loc) (ls : Array Slot), decode prog_14_method_93_code pc = .ok (.return_, 1) → va_P D cls (mw md mc r) H → va_D A (mw md mc r) → va_S A s.heap H locs → W p l e ({ frames := 0, cells := 0, slots := 0, locals := 0 }) s m args below meth c H locs 0 0 Q (F0 m pc ls [])) : ∀ (H : Heap) (locs : List Loc) (ls : Array Slot), va_P D cls (mw md mc S) H → va_D A (mw md mc S) → va_S A s.heap H locs → lv_has ls 3 [(0, .ref (md 100))] → W p l e ({ frames := 0, cells := 0, slots := 0, locals := 0 }) s m args below meth c H locs 0 0 Q (F0 m 10 ls []) := by
  intro H locs ls hP hD hS hl
  obtain ⟨hx, hb, hr, hml, hown, hts, hK, hA⟩ := id hC
  unfold m_rharm_J10 at Heq
  refine lv_aload_n hx hb d_rharm_10 rfl (lv_at hl 0 rfl) ?_
  refine lv_iconst (v := 1) hx hb d_rharm_11 (by decide) ?_
  refine va_put (D := D) (ci := 12) (v := .int 1) (ty := .int) (C := R_MM) (T := F_MM) (N := 77) hx hb hts i_MM t_MM t_MM_ok n_MM hown hK hP hD hS 0 rfl rfl 0 (by decide) (hts _ kw_1382) (fun _ h9 => h9) rfl (by decide +kernel) rfl rfl (Nat.le_of_ble_eq_true rfl) d_rharm_12 (fun H locs hP hD hS => ?_)
  rw [mw_I0] at hP hD
  exact Kr _ (Option.some.inj Heq).symm 15 _ _ _ d_rharm_15 hP hD hS
def m_rharm_J28 (S : MS) : Option MS := some (S.setI 0 2)
theorem d_rharm_4 : decode prog_14_method_93_code 4 = .ok (.iload_n 2, 1) := by decide +kernel
theorem d_rharm_5 : decode prog_14_method_93_code 5 = .ok (.bipush 7, 2) := by decide +kernel
theorem d_rharm_7 : decode prog_14_method_93_code 7 = .ok (.if_icmp .le 9, 3) := by decide +kernel
theorem d_rharm_16 : decode prog_14_method_93_code 16 = .ok (.iload_n 1, 1) := by decide +kernel
theorem d_rharm_17 : decode prog_14_method_93_code 17 = .ok (.ifCond .lt 11, 3) := by decide +kernel
theorem d_rharm_28 : decode prog_14_method_93_code 28 = .ok (.aload_n 0, 1) := by decide +kernel
theorem d_rharm_29 : decode prog_14_method_93_code 29 = .ok (.iconst 2, 1) := by decide +kernel
theorem d_rharm_30 : decode prog_14_method_93_code 30 = .ok (.putfield 176, 3) := by decide +kernel
theorem d_rharm_33 : decode prog_14_method_93_code 33 = .ok (.return_, 1) := by decide +kernel
set_option maxHeartbeats 4000000 in
set_option maxRecDepth 100000 in
theorem w_rharm_J28 {p : Program} {l : Launch} {e : Env} {s : State} {m : MethodId} {args : Array Value} {below : List Frame} {meth : Method} {c : Code} {A : Nat → Prop} {D : va_G} {md : Nat → Nat} {mc : Nat → ClassId} {Q : State → Prop} (hC : MCx "JoinedTreesModel" prog_14_method_93_code 3 none p s m args meth c A D mc) {S : MS} {o : MS} (Heq : m_rharm_J28 S = some o) (Kr : ∀ r : MS, o = r → ∀ (pc : Nat) (H : Heap) (locs : List Loc) (ls : Array Slot), decode prog_14_method_93_code pc = .ok (.return_, 1) → va_P D cls (mw md mc r) H → va_D A (mw md mc r) → va_S A s.heap H locs → W p l e ({ frames := 0, cells := 0, slots := 0, locals := 0 }) s m args below meth c H locs 0 0 Q (F0 m pc ls [])) : ∀ (H : Heap) (locs : List Loc) (ls : Array Slot), va_P D cls (mw md mc S) H → va_D A (mw md mc S) → va_S A s.heap H locs → lv_has ls 3 [(0, .ref (md 100))] → W p l e ({ frames := 0, cells := 0, slots := 0, locals := 0 }) s m args below meth c H locs 0 0 Q (F0 m 28 ls []) := by
  intro H locs ls hP hD hS hl
  obtain ⟨hx, hb, hr, hml, hown, hts, hK, hA⟩ := id hC
  unfold m_rharm_J28 at Heq
  refine lv_aload_n hx hb d_rharm_28 rfl (lv_at hl 0 rfl) ?_
  refine lv_iconst (v := 2) hx hb d_rharm_29 (by decide) ?_
  refine va_put (D := D) (ci := 12) (v := .int 2) (ty := .int) (C := R_MM) (T := F_MM) (N := 77) hx hb hts i_MM t_MM t_MM_ok n_MM hown hK hP hD hS 0 rfl rfl 0 (by decide) (hts _ kw_1382) (fun _ h9 => h9) rfl (by decide +kernel) rfl rfl (Nat.le_of_ble_eq_true rfl) d_rharm_30 (fun H locs hP hD hS => ?_)
  rw [mw_I0] at hP hD
  exact Kr _ (Option.some.inj Heq).symm 33 _ _ _ d_rharm_33 hP hD hS
def m_rharm_J0 (S : MS) (x1 : Int32) (x2 : Int32) : Option MS := (if x2 < 0 then m_rharm_J10 S else (if x2 ≤ 7 then (if x1 < 0 then m_rharm_J28 S else (if x1 < S.i 41 then gd x1 800000 (gd x1 800000 (some ((S.setI 0 0).setA 40 (upd (S.a 40) x1.toNatClampNeg (vp_nar .byte (((S.a 40 x1.toNatClampNeg) ^^^ ((1 <<< (x2 &&& 31)).toInt8.toInt32)).toInt8.toInt32)))))) else m_rharm_J28 S)) else m_rharm_J10 S))
theorem d_rharm_20 : decode prog_14_method_93_code 20 = .ok (.iload_n 1, 1) := by decide +kernel
theorem d_rharm_21 : decode prog_14_method_93_code 21 = .ok (.aload_n 0, 1) := by decide +kernel
theorem d_rharm_22 : decode prog_14_method_93_code 22 = .ok (.getfield 433, 3) := by decide +kernel
theorem d_rharm_25 : decode prog_14_method_93_code 25 = .ok (.if_icmp .lt 9, 3) := by decide +kernel
theorem d_rharm_34 : decode prog_14_method_93_code 34 = .ok (.aload_n 0, 1) := by decide +kernel
theorem d_rharm_35 : decode prog_14_method_93_code 35 = .ok (.iconst 0, 1) := by decide +kernel
theorem d_rharm_36 : decode prog_14_method_93_code 36 = .ok (.putfield 176, 3) := by decide +kernel
theorem d_rharm_39 : decode prog_14_method_93_code 39 = .ok (.aload_n 0, 1) := by decide +kernel
theorem d_rharm_40 : decode prog_14_method_93_code 40 = .ok (.getfield 108, 3) := by decide +kernel
theorem d_rharm_43 : decode prog_14_method_93_code 43 = .ok (.iload_n 1, 1) := by decide +kernel
theorem d_rharm_44 : decode prog_14_method_93_code 44 = .ok (.dup2, 1) := by decide +kernel
theorem d_rharm_45 : decode prog_14_method_93_code 45 = .ok (.baload, 1) := by decide +kernel
theorem d_rharm_46 : decode prog_14_method_93_code 46 = .ok (.iconst 1, 1) := by decide +kernel
theorem d_rharm_47 : decode prog_14_method_93_code 47 = .ok (.iload_n 2, 1) := by decide +kernel
theorem d_rharm_48 : decode prog_14_method_93_code 48 = .ok (.ishl, 1) := by decide +kernel
theorem d_rharm_49 : decode prog_14_method_93_code 49 = .ok (.i2b, 1) := by decide +kernel
theorem d_rharm_50 : decode prog_14_method_93_code 50 = .ok (.ixor, 1) := by decide +kernel
theorem d_rharm_51 : decode prog_14_method_93_code 51 = .ok (.i2b, 1) := by decide +kernel
theorem d_rharm_52 : decode prog_14_method_93_code 52 = .ok (.bastore, 1) := by decide +kernel
theorem d_rharm_53 : decode prog_14_method_93_code 53 = .ok (.return_, 1) := by decide +kernel
set_option maxHeartbeats 4000000 in
set_option maxRecDepth 100000 in
theorem w_rharm_J0 {p : Program} {l : Launch} {e : Env} {s : State} {m : MethodId} {args : Array Value} {below : List Frame} {meth : Method} {c : Code} {A : Nat → Prop} {D : va_G} {md : Nat → Nat} {mc : Nat → ClassId} {Q : State → Prop} (hC : MCx "JoinedTreesModel" prog_14_method_93_code 3 none p s m args meth c A D mc) {S : MS} {x1 : Int32} {x2 : Int32} {o : MS} (Heq : m_rharm_J0 S x1 x2 = some o) (Kr : ∀ r : MS, o = r → ∀ (pc : Nat) (H : Heap) (locs : List Loc) (ls : Array Slot), decode prog_14_method_93_code pc = .ok (.return_, 1) → va_P D cls (mw md mc r) H → va_D A (mw md mc r) → va_S A s.heap H locs → W p l e ({ frames := 0, cells := 0, slots := 0, locals := 0 }) s m args below meth c H locs 0 0 Q (F0 m pc ls [])) : ∀ (H : Heap) (locs : List Loc) (ls : Array Slot), va_P D cls (mw md mc S) H → va_D A (mw md mc S) → va_S A s.heap H locs → lv_has ls 3 [(0, .ref (md 100)), (1, .int x1), (2, .int x2)] → W p l e ({ frames := 0, cells := 0, slots := 0, locals := 0 }) s m args below meth c H locs 0 0 Q (F0 m 0 ls []) := by
  intro H locs ls hP hD hS hl
  obtain ⟨hx, hb, hr, hml, hown, hts, hK, hA⟩ := id hC
  unfold m_rharm_J0 at Heq
  refine lv_iload_n hx hb d_rharm_0 rfl (lv_at hl 2 rfl) ?_
  refine lv_if_lt (tgt := 10) hx hb d_rharm_1 (by decide) (fun c_1 => ?_) (fun c_1 => ?_)
  · replace Heq := (if_pos c_1).symm.trans Heq
    exact w_rharm_J10 hC Heq Kr _ _ _ hP hD hS (lv_sub hl [0] rfl)
  · replace Heq := (if_neg c_1).symm.trans Heq
    refine lv_iload_n hx hb d_rharm_4 rfl (lv_at hl 2 rfl) ?_
    refine lv_bipush (v := 7) hx hb d_rharm_5 (by decide) ?_
    refine lv_icmp_le (tgt := 16) hx hb d_rharm_7 (by decide) (fun c_2 => ?_) (fun c_2 => ?_)
    · replace Heq := (if_pos c_2).symm.trans Heq
      refine lv_iload_n hx hb d_rharm_16 rfl (lv_at hl 1 rfl) ?_
      refine lv_if_lt (tgt := 28) hx hb d_rharm_17 (by decide) (fun c_3 => ?_) (fun c_3 => ?_)
      · replace Heq := (if_pos c_3).symm.trans Heq
        exact w_rharm_J28 hC Heq Kr _ _ _ hP hD hS (lv_sub hl [0] rfl)
      · replace Heq := (if_neg c_3).symm.trans Heq
        refine lv_iload_n hx hb d_rharm_20 rfl (lv_at hl 1 rfl) ?_
        refine lv_aload_n hx hb d_rharm_21 rfl (lv_at hl 0 rfl) ?_
        refine va_get (D := D) (ci := 12) (v := .int (S.i 41)) (C := R_MM) (T := F_MM) (N := 77) hx hb hts i_MM hown hK hP 0 rfl rfl 41 (by decide) (hts _ kw_1423) (fun _ h9 => h9) rfl d_rharm_22 ?_
        refine lv_icmp_lt (tgt := 34) hx hb d_rharm_25 (by decide) (fun c_4 => ?_) (fun c_4 => ?_)
        · replace Heq := (if_pos c_4).symm.trans Heq
          refine lv_aload_n hx hb d_rharm_34 rfl (lv_at hl 0 rfl) ?_
          refine lv_iconst (v := 0) hx hb d_rharm_35 (by decide) ?_
          refine va_put (D := D) (ci := 12) (v := .int 0) (ty := .int) (C := R_MM) (T := F_MM) (N := 77) hx hb hts i_MM t_MM t_MM_ok n_MM hown hK hP hD hS 0 rfl rfl 0 (by decide) (hts _ kw_1382) (fun _ h9 => h9) rfl (by decide +kernel) rfl rfl (Nat.le_of_ble_eq_true rfl) d_rharm_36 (fun H locs hP hD hS => ?_)
          rw [mw_I0] at hP hD
          refine lv_aload_n hx hb d_rharm_39 rfl (lv_at hl 0 rfl) ?_
          refine va_get (D := D) (ci := 12) (v := .ref (md 40)) (C := R_MM) (T := F_MM) (N := 77) hx hb hts i_MM hown hK hP 0 rfl rfl 40 (by decide) (hts _ kw_1422) (fun _ h9 => h9) rfl d_rharm_40 ?_
          refine lv_iload_n hx hb d_rharm_43 rfl (lv_at hl 1 rfl) ?_
          refine lv_dup2_11 hx hb d_rharm_44 rfl rfl ?_
          obtain ⟨hi_5, Heq⟩ := gd_some Heq
          refine va_bald hx hb hK hP 28 1 rfl rfl (i := x1) hi_5 d_rharm_45 ?_
          refine w_i (y := S.a 40 x1.toNatClampNeg) rfl ?_
          refine lv_iconst (v := 1) hx hb d_rharm_46 (by decide) ?_
          refine lv_iload_n hx hb d_rharm_47 rfl (lv_at hl 2 rfl) ?_
          refine lv_ishl hx hb d_rharm_48 ?_
          refine w_i (y := 1 <<< (x2 &&& 31)) rfl ?_
          refine lv_i2b hx hb d_rharm_49 rfl ?_
          refine w_i (y := (1 <<< (x2 &&& 31)).toInt8.toInt32) rfl ?_
          refine lv_ixor hx hb d_rharm_50 ?_
          refine w_i (y := (S.a 40 x1.toNatClampNeg) ^^^ ((1 <<< (x2 &&& 31)).toInt8.toInt32)) rfl ?_
          refine lv_i2b hx hb d_rharm_51 rfl ?_
          refine w_i (y := ((S.a 40 x1.toNatClampNeg) ^^^ ((1 <<< (x2 &&& 31)).toInt8.toInt32)).toInt8.toInt32) rfl ?_
          obtain ⟨hi_6, Heq⟩ := gd_some Heq
          refine va_bast hx hb hK hP hD hS 28 1 rfl rfl (i := x1) (x := ((S.a 40 x1.toNatClampNeg) ^^^ ((1 <<< (x2 &&& 31)).toInt8.toInt32)).toInt8.toInt32) hi_6 d_rharm_52 (fun H locs hP hD hS => ?_)
          rw [mw_A40] at hP hD
          exact Kr _ (Option.some.inj Heq).symm 53 _ _ _ d_rharm_53 hP hD hS
        · replace Heq := (if_neg c_4).symm.trans Heq
          exact w_rharm_J28 hC Heq Kr _ _ _ hP hD hS (lv_sub hl [0] rfl)
    · replace Heq := (if_neg c_2).symm.trans Heq
      exact w_rharm_J10 hC Heq Kr _ _ _ hP hD hS (lv_sub hl [0] rfl)
def m_rharm (S : MS) (x1 : Int32) (x2 : Int32) : Option MS := m_rharm_J0 S x1 x2
theorem g_rharm (l : Launch) (D : va_G) (sz : Nat) {md : Nat → Nat} {mc : Nat → ClassId} {S : MS} {x1 : Int32} {x2 : Int32} {o : MS} (Heq : m_rharm S x1 x2 = some o) : Met l ⟨"JoinedTreesModel", "harm", "(II)V"⟩ (Cond.code ⟨"JoinedTreesModel", "harm", "(II)V"⟩ prog_14_method_93_code 3 none :: gb) ({ frames := 0, cells := 0, slots := 0, locals := 0 }) (gPc D (mw md mc S) (mty mc) sz [.ref (md 100), .int x1, .int x2]) (va_Qv (fun _ : Unit => True) (fun _ t => gO D (mw md mc o) (mty mc) (va_A (mw md mc S) sz) t) (va_A (mw md mc S) sz)) 0 0 (va_A (mw md mc S) sz) := by
  refine Met.ofW (cc := prog_14_method_93_code) (maxL := 3) (ret := none) (by decide) rfl ?_
  intro p e s m args below meth c s₁ B hml hv
  obtain ⟨rfl, hsz, hP, hK, hD0⟩ := hv
  have hx := B.exec
  have hb := B.bytes
  have hr := B.returns
  have hts : ∀ w9 ∈ gb, w9.before [.ref (md 100), .int x1, .int x2].toArray s = true := fun w9 h => atoms_spec (ws := Cond.code ⟨"JoinedTreesModel", "harm", "(II)V"⟩ prog_14_method_93_code 3 none :: gb) B.pre w9 (List.mem_cons_of_mem _ h)
  have hown : s.vm.findClass "JoinedTreesModel" = some m.cls := findClass_of_methodNamed B.named
  have hlocks := B.notSynchronized
  subst hsz
  have hD := hD0.self (sz := s.heap.size)
  generalize hAe : va_A (mw md mc S) s.heap.size = A at hD ⊢
  have hA : ∀ q : Nat, s.heap.size ≤ q → A q := fun q h => by rw [← hAe]; exact Or.inr h
  have hS : va_S A s.heap s.heap [] := va_S.rf
  have hl := lv_entry ([.ref (md 100), .int x1, .int x2]) (n := 3) (Nat.le_of_ble_eq_true rfl)
  rw [lg_entry_eq]
  generalize (lg_sl ([.ref (md 100), .int x1, .int x2]) ++ List.replicate (3 - (lg_sl ([.ref (md 100), .int x1, .int x2])).length) Slot.unset).toArray = ls at hl ⊢
  have hl : lv_has ls 3 [(0, .ref (md 100)), (1, .int x1), (2, .int x2)] := hl
  refine w_rharm_J0 ⟨hx, hb, hr, hml, hown, hts, hK, hA⟩ Heq (fun r h pc H locs ls hd hP hD hS => ?_) _ _ _ hP hD hS (lv_sub hl [0, 1, 2] rfl)
  subst h
  exact W.vret hx hb hr (fun t ht hW => ⟨⟨(), rfl, trivial, by rw [ht]; exact hP, va_K.moved hW.alike hK, hD⟩, hS.F ht⟩) hS.2.2 hd
def m_rout_J11 (S : MS) : Option (MS × Int64) := ob (m_rno S 1) (fun o_1 => some (o_1.1, o_1.2.toInt64))
theorem d_rout_0 : decode prog_14_method_94_code 0 = .ok (.iload_n 1, 1) := by decide +kernel
theorem d_rout_1 : decode prog_14_method_94_code 1 = .ok (.ifCond .lt 10, 3) := by decide +kernel
theorem d_rout_11 : decode prog_14_method_94_code 11 = .ok (.aload_n 0, 1) := by decide +kernel
theorem d_rout_12 : decode prog_14_method_94_code 12 = .ok (.iconst 1, 1) := by decide +kernel
theorem d_rout_13 : decode prog_14_method_94_code 13 = .ok (.invokevirtual 191, 3) := by decide +kernel
theorem d_rout_16 : decode prog_14_method_94_code 16 = .ok (.i2l, 1) := by decide +kernel
theorem d_rout_17 : decode prog_14_method_94_code 17 = .ok (.lreturn, 1) := by decide +kernel
set_option maxHeartbeats 4000000 in
set_option maxRecDepth 100000 in
theorem w_rout_J11 {p : Program} {l : Launch} {e : Env} {s : State} {m : MethodId} {args : Array Value} {below : List Frame} {meth : Method} {c : Code} {A : Nat → Prop} {D : va_G} {md : Nat → Nat} {mc : Nat → ClassId} {Q : State → Prop} (hC : MCx "JoinedTreesModel" prog_14_method_94_code 5 (some .long) p s m args meth c A D mc) {S : MS} {o : MS × Int64} (Heq : m_rout_J11 S = some o) (Kr : ∀ r : MS × Int64, o = r → ∀ (pc : Nat) (H : Heap) (locs : List Loc) (ls : Array Slot), decode prog_14_method_94_code pc = .ok (.lreturn, 1) → va_P D cls (mw md mc r.1) H → va_D A (mw md mc r.1) → va_S A s.heap H locs → W p l e ({ frames := 1, cells := 0, slots := 0, locals := 21 }) s m args below meth c H locs 0 0 Q (F0 m pc ls [.long r.2])) : ∀ (H : Heap) (locs : List Loc) (ls : Array Slot), va_P D cls (mw md mc S) H → va_D A (mw md mc S) → va_S A s.heap H locs → lv_has ls 5 [(0, .ref (md 100))] → W p l e ({ frames := 1, cells := 0, slots := 0, locals := 21 }) s m args below meth c H locs 0 0 Q (F0 m 11 ls []) := by
  intro H locs ls hP hD hS hl
  obtain ⟨hx, hb, hr, hml, hown, hts, hK, hA⟩ := id hC
  unfold m_rout_J11 at Heq
  refine lv_aload_n hx hb d_rout_11 rfl (lv_at hl 0 rfl) ?_
  refine lv_iconst (v := 1) hx hb d_rout_12 (by decide) ?_
  obtain ⟨o_1, h_2, Heq⟩ := ob_some Heq
  have hFc := fr_all hD hS hA
  refine va_calli (va_runV (As := [.int 1]) (rest := []) ⟨hx, hb, hml, hown, hts⟩ (g_rno l D H.size h_2) (cw_v 1 hts kw_1626 kw_1623 kw_1625 kp_29 kw_11 rfl rfl (by decide +kernel) ⟨Nat.le_of_ble_eq_true rfl, Nat.le_of_ble_eq_true rfl⟩) ⟨g_blind, va_recv hK hP (ci := 12) (q0 := 0) rfl rfl, fun U hU hW => g_pre hU hW hP hK hD⟩ rfl rfl hl.1 rfl (lv_room (Nat.le_of_ble_eq_true rfl)) d_rout_13 ⟨Nat.le_of_ble_eq_true rfl, Nat.le_of_ble_eq_true rfl⟩) hS (fun q _ h => hFc q h) hFc (fun rz u t H1 locs ht hvm hw hB hz1 hk1 hS => ?_)
  obtain ⟨hP, -, hD1⟩ := hB
  rw [ht] at hP
  have hD := hD1.weaken (fun _ q _ h => hFc q.1 h)
  generalize H1 = H at hP hS ⊢
  refine W.cs (cells' := 0) (slots' := 0) rfl rfl ?_
  subst hw
  refine lv_i2l hx hb d_rout_16 rfl ?_
  refine w_l (y := o_1.2.toInt64) rfl ?_
  exact Kr _ (Option.some.inj Heq).symm 17 _ _ _ d_rout_17 hP hD hS
def m_rout_J71 (S : MS) (x1 : Int32) (x4 : Int32) (t0 : Int32) (t1 : Int64) : Option ((MS × Int32 × Int64 × Int32) ⊕ (MS × Int64)) := some (.inl (S, x1, (t1 ||| t0.toInt64), (x4 + 1)))
theorem d_rout_4 : decode prog_14_method_94_code 4 = .ok (.iload_n 1, 1) := by decide +kernel
theorem d_rout_5 : decode prog_14_method_94_code 5 = .ok (.sipush 8191, 3) := by decide +kernel
theorem d_rout_8 : decode prog_14_method_94_code 8 = .ok (.if_icmp .le 10, 3) := by decide +kernel
theorem d_rout_18 : decode prog_14_method_94_code 18 = .ok (.aload_n 0, 1) := by decide +kernel
theorem d_rout_19 : decode prog_14_method_94_code 19 = .ok (.iconst 0, 1) := by decide +kernel
theorem d_rout_20 : decode prog_14_method_94_code 20 = .ok (.putfield 176, 3) := by decide +kernel
theorem d_rout_23 : decode prog_14_method_94_code 23 = .ok (.lconst 0, 1) := by decide +kernel
theorem d_rout_24 : decode prog_14_method_94_code 24 = .ok (.lstore_n 2, 1) := by decide +kernel
theorem d_rout_25 : decode prog_14_method_94_code 25 = .ok (.bipush 8, 2) := by decide +kernel
theorem d_rout_27 : decode prog_14_method_94_code 27 = .ok (.iload_n 1, 1) := by decide +kernel
theorem d_rout_28 : decode prog_14_method_94_code 28 = .ok (.imul, 1) := by decide +kernel
theorem d_rout_29 : decode prog_14_method_94_code 29 = .ok (.istore 4, 2) := by decide +kernel
theorem d_rout_31 : decode prog_14_method_94_code 31 = .ok (.iload 4, 2) := by decide +kernel
theorem d_rout_33 : decode prog_14_method_94_code 33 = .ok (.bipush 8, 2) := by decide +kernel
theorem d_rout_35 : decode prog_14_method_94_code 35 = .ok (.iload_n 1, 1) := by decide +kernel
theorem d_rout_36 : decode prog_14_method_94_code 36 = .ok (.imul, 1) := by decide +kernel
theorem d_rout_37 : decode prog_14_method_94_code 37 = .ok (.bipush 8, 2) := by decide +kernel
theorem d_rout_39 : decode prog_14_method_94_code 39 = .ok (.iadd, 1) := by decide +kernel
theorem d_rout_40 : decode prog_14_method_94_code 40 = .ok (.if_icmp .ge 40, 3) := by decide +kernel
theorem d_rout_43 : decode prog_14_method_94_code 43 = .ok (.lload_n 2, 1) := by decide +kernel
theorem d_rout_44 : decode prog_14_method_94_code 44 = .ok (.bipush 8, 2) := by decide +kernel
theorem d_rout_46 : decode prog_14_method_94_code 46 = .ok (.lshl, 1) := by decide +kernel
theorem d_rout_47 : decode prog_14_method_94_code 47 = .ok (.iload 4, 2) := by decide +kernel
theorem d_rout_49 : decode prog_14_method_94_code 49 = .ok (.aload_n 0, 1) := by decide +kernel
theorem d_rout_50 : decode prog_14_method_94_code 50 = .ok (.getfield 433, 3) := by decide +kernel
theorem d_rout_53 : decode prog_14_method_94_code 53 = .ok (.if_icmp .ge 17, 3) := by decide +kernel
theorem d_rout_70 : decode prog_14_method_94_code 70 = .ok (.iconst 0, 1) := by decide +kernel
theorem d_rout_71 : decode prog_14_method_94_code 71 = .ok (.i2l, 1) := by decide +kernel
theorem d_rout_72 : decode prog_14_method_94_code 72 = .ok (.lor, 1) := by decide +kernel
theorem d_rout_73 : decode prog_14_method_94_code 73 = .ok (.lstore_n 2, 1) := by decide +kernel
theorem d_rout_74 : decode prog_14_method_94_code 74 = .ok (.iinc 4 1, 3) := by decide +kernel
theorem d_rout_77 : decode prog_14_method_94_code 77 = .ok (.goto (-46), 3) := by decide +kernel
set_option maxHeartbeats 4000000 in
set_option maxRecDepth 100000 in
theorem w_rout_J71 {p : Program} {l : Launch} {e : Env} {s : State} {m : MethodId} {args : Array Value} {below : List Frame} {meth : Method} {c : Code} {A : Nat → Prop} {D : va_G} {md : Nat → Nat} {mc : Nat → ClassId} {Q : State → Prop} (hC : MCx "JoinedTreesModel" prog_14_method_94_code 5 (some .long) p s m args meth c A D mc) {S : MS} {x1 : Int32} {x4 : Int32} {t0 : Int32} {t1 : Int64} {o : ((MS × Int32 × Int64 × Int32) ⊕ (MS × Int64))} (Heq : m_rout_J71 S x1 x4 t0 t1 = some o) (Ka : ∀ b : MS × Int32 × Int64 × Int32, o = .inl b → ∀ (H : Heap) (locs : List Loc) (ls : Array Slot), va_P D cls (mw md mc b.1) H → va_D A (mw md mc b.1) → va_S A s.heap H locs → lv_has ls 5 [(0, .ref (md 100)), (1, .int b.2.1), (2, .long b.2.2.1), (4, .int b.2.2.2)] → W p l e ({ frames := 1, cells := 0, slots := 0, locals := 21 }) s m args below meth c H locs 0 0 Q (F0 m 31 ls [])) (K0 : ∀ b : MS × Int64, o = .inr b → ∀ (H : Heap) (locs : List Loc) (ls : Array Slot), va_P D cls (mw md mc b.1) H → va_D A (mw md mc b.1) → va_S A s.heap H locs → lv_has ls 5 [(0, .ref (md 100)), (2, .long b.2)] → W p l e ({ frames := 1, cells := 0, slots := 0, locals := 21 }) s m args below meth c H locs 0 0 Q (F0 m 80 ls [])) : ∀ (H : Heap) (locs : List Loc) (ls : Array Slot), va_P D cls (mw md mc S) H → va_D A (mw md mc S) → va_S A s.heap H locs → lv_has ls 5 [(0, .ref (md 100)), (1, .int x1), (4, .int x4)] → W p l e ({ frames := 1, cells := 0, slots := 0, locals := 21 }) s m args below meth c H locs 0 0 Q (F0 m 71 ls [.int t0, .long t1]) := by
  intro H locs ls hP hD hS hl
  obtain ⟨hx, hb, hr, hml, hown, hts, hK, hA⟩ := id hC
  unfold m_rout_J71 at Heq
  refine lv_i2l hx hb d_rout_71 rfl ?_
  refine w_l (y := t0.toInt64) rfl ?_
  refine lv_lor hx hb d_rout_72 ?_
  refine w_l (y := t1 ||| t0.toInt64) rfl ?_
  refine lv_lstore_n (lv' := [(2, .long (t1 ||| t0.toInt64)), (0, .ref (md 100)), (1, .int x1), (4, .int x4)]) hx hb d_rout_73 rfl hl (by decide) rfl (fun ls hl => ?_)
  refine lv_iinc (v := x4 + 1) (lv' := [(4, .int (x4 + 1)), (2, .long (t1 ||| t0.toInt64)), (0, .ref (md 100)), (1, .int x1)]) hx hb d_rout_74 hl (k := 3) rfl rfl (by decide) rfl (fun ls hl => ?_)
  refine lv_goto (tgt := 31) hx hb d_rout_77 (by decide) ?_
  exact Ka _ (Option.some.inj Heq).symm _ _ _ hP hD hS (lv_sub hl [2, 3, 1, 0] rfl)
def m_rout_B31 (S : MS) (x1 : Int32) (x2 : Int64) (x4 : Int32) : Option ((MS × Int32 × Int64 × Int32) ⊕ (MS × Int64)) := (if (8 * x1) + 8 ≤ x4 then some (.inr (S, x2)) else (if S.i 41 ≤ x4 then m_rout_J71 S x1 x4 0 (x2 <<< ((8 : Int32).toInt64 &&& 63)) else gd x4 800000 (m_rout_J71 S x1 x4 ((S.a 40 x4.toNatClampNeg) &&& 255) (x2 <<< ((8 : Int32).toInt64 &&& 63)))))
theorem d_rout_56 : decode prog_14_method_94_code 56 = .ok (.aload_n 0, 1) := by decide +kernel
theorem d_rout_57 : decode prog_14_method_94_code 57 = .ok (.getfield 108, 3) := by decide +kernel
theorem d_rout_60 : decode prog_14_method_94_code 60 = .ok (.iload 4, 2) := by decide +kernel
theorem d_rout_62 : decode prog_14_method_94_code 62 = .ok (.baload, 1) := by decide +kernel
theorem d_rout_63 : decode prog_14_method_94_code 63 = .ok (.sipush 255, 3) := by decide +kernel
theorem d_rout_66 : decode prog_14_method_94_code 66 = .ok (.iand, 1) := by decide +kernel
theorem d_rout_67 : decode prog_14_method_94_code 67 = .ok (.goto 4, 3) := by decide +kernel
set_option maxHeartbeats 4000000 in
set_option maxRecDepth 100000 in
theorem w_rout_B31 {p : Program} {l : Launch} {e : Env} {s : State} {m : MethodId} {args : Array Value} {below : List Frame} {meth : Method} {c : Code} {A : Nat → Prop} {D : va_G} {md : Nat → Nat} {mc : Nat → ClassId} {Q : State → Prop} (hC : MCx "JoinedTreesModel" prog_14_method_94_code 5 (some .long) p s m args meth c A D mc) {S : MS} {x1 : Int32} {x2 : Int64} {x4 : Int32} {o : ((MS × Int32 × Int64 × Int32) ⊕ (MS × Int64))} (Heq : m_rout_B31 S x1 x2 x4 = some o) (Ka : ∀ b : MS × Int32 × Int64 × Int32, o = .inl b → ∀ (H : Heap) (locs : List Loc) (ls : Array Slot), va_P D cls (mw md mc b.1) H → va_D A (mw md mc b.1) → va_S A s.heap H locs → lv_has ls 5 [(0, .ref (md 100)), (1, .int b.2.1), (2, .long b.2.2.1), (4, .int b.2.2.2)] → W p l e ({ frames := 1, cells := 0, slots := 0, locals := 21 }) s m args below meth c H locs 0 0 Q (F0 m 31 ls [])) (K0 : ∀ b : MS × Int64, o = .inr b → ∀ (H : Heap) (locs : List Loc) (ls : Array Slot), va_P D cls (mw md mc b.1) H → va_D A (mw md mc b.1) → va_S A s.heap H locs → lv_has ls 5 [(0, .ref (md 100)), (2, .long b.2)] → W p l e ({ frames := 1, cells := 0, slots := 0, locals := 21 }) s m args below meth c H locs 0 0 Q (F0 m 80 ls [])) : ∀ (H : Heap) (locs : List Loc) (ls : Array Slot), va_P D cls (mw md mc S) H → va_D A (mw md mc S) → va_S A s.heap H locs → lv_has ls 5 [(0, .ref (md 100)), (1, .int x1), (2, .long x2), (4, .int x4)] → W p l e ({ frames := 1, cells := 0, slots := 0, locals := 21 }) s m args below meth c H locs 0 0 Q (F0 m 31 ls []) := by
  intro H locs ls hP hD hS hl
  obtain ⟨hx, hb, hr, hml, hown, hts, hK, hA⟩ := id hC
  unfold m_rout_B31 at Heq
  refine lv_iload hx hb d_rout_31 (lv_at hl 3 rfl) ?_
  refine lv_bipush (v := 8) hx hb d_rout_33 (by decide) ?_
  refine lv_iload_n hx hb d_rout_35 rfl (lv_at hl 1 rfl) ?_
  refine lv_imul hx hb d_rout_36 ?_
  refine w_i (y := 8 * x1) rfl ?_
  refine lv_bipush (v := 8) hx hb d_rout_37 (by decide) ?_
  refine lv_iadd hx hb d_rout_39 ?_
  refine w_i (y := (8 * x1) + 8) rfl ?_
  refine lv_icmp_ge (tgt := 80) hx hb d_rout_40 (by decide) (fun c_1 => ?_) (fun c_1 => ?_)
  · replace Heq := (if_pos c_1).symm.trans Heq
    exact K0 _ (Option.some.inj Heq).symm _ _ _ hP hD hS (lv_sub hl [0, 2] rfl)
  · replace Heq := (if_neg c_1).symm.trans Heq
    refine lv_lload_n hx hb d_rout_43 rfl (lv_at hl 2 rfl) ?_
    refine lv_bipush (v := 8) hx hb d_rout_44 (by decide) ?_
    refine lv_lshl hx hb d_rout_46 rfl ?_
    refine w_l (y := x2 <<< ((8 : Int32).toInt64 &&& 63)) rfl ?_
    refine lv_iload hx hb d_rout_47 (lv_at hl 3 rfl) ?_
    refine lv_aload_n hx hb d_rout_49 rfl (lv_at hl 0 rfl) ?_
    refine va_get (D := D) (ci := 12) (v := .int (S.i 41)) (C := R_MM) (T := F_MM) (N := 77) hx hb hts i_MM hown hK hP 0 rfl rfl 41 (by decide) (hts _ kw_1423) (fun _ h9 => h9) rfl d_rout_50 ?_
    refine lv_icmp_ge (tgt := 70) hx hb d_rout_53 (by decide) (fun c_2 => ?_) (fun c_2 => ?_)
    · replace Heq := (if_pos c_2).symm.trans Heq
      refine lv_iconst (v := 0) hx hb d_rout_70 (by decide) ?_
      exact w_rout_J71 hC Heq Ka K0 _ _ _ hP hD hS (lv_sub hl [0, 1, 3] rfl)
    · replace Heq := (if_neg c_2).symm.trans Heq
      refine lv_aload_n hx hb d_rout_56 rfl (lv_at hl 0 rfl) ?_
      refine va_get (D := D) (ci := 12) (v := .ref (md 40)) (C := R_MM) (T := F_MM) (N := 77) hx hb hts i_MM hown hK hP 0 rfl rfl 40 (by decide) (hts _ kw_1422) (fun _ h9 => h9) rfl d_rout_57 ?_
      refine lv_iload hx hb d_rout_60 (lv_at hl 3 rfl) ?_
      obtain ⟨hi_3, Heq⟩ := gd_some Heq
      refine va_bald hx hb hK hP 28 1 rfl rfl (i := x4) hi_3 d_rout_62 ?_
      refine w_i (y := S.a 40 x4.toNatClampNeg) rfl ?_
      refine lv_sipush (v := 255) hx hb d_rout_63 (by decide) ?_
      refine lv_iand hx hb d_rout_66 ?_
      refine w_i (y := (S.a 40 x4.toNatClampNeg) &&& 255) rfl ?_
      refine lv_goto (tgt := 71) hx hb d_rout_67 (by decide) ?_
      exact w_rout_J71 hC Heq Ka K0 _ _ _ hP hD hS (lv_sub hl [0, 1, 3] rfl)
def m_rout_L31 (S : MS) (x1 : Int32) (x2 : Int64) (x4 : Int32) : Option (MS × Int64) := lp (fun a : MS × Int32 × Int64 × Int32 => m_rout_B31 a.1 a.2.1 a.2.2.1 a.2.2.2) FU (S, x1, x2, x4)
theorem w_rout_L31 {p : Program} {l : Launch} {e : Env} {s : State} {m : MethodId} {args : Array Value} {below : List Frame} {meth : Method} {c : Code} {A : Nat → Prop} {D : va_G} {md : Nat → Nat} {mc : Nat → ClassId} {Q : State → Prop} (hC : MCx "JoinedTreesModel" prog_14_method_94_code 5 (some .long) p s m args meth c A D mc) {S : MS} {x1 : Int32} {x2 : Int64} {x4 : Int32} {o : MS × Int64} (Heq : m_rout_L31 S x1 x2 x4 = some o) (K0 : ∀ b : MS × Int64, o = b → ∀ (H : Heap) (locs : List Loc) (ls : Array Slot), va_P D cls (mw md mc b.1) H → va_D A (mw md mc b.1) → va_S A s.heap H locs → lv_has ls 5 [(0, .ref (md 100)), (2, .long b.2)] → W p l e ({ frames := 1, cells := 0, slots := 0, locals := 21 }) s m args below meth c H locs 0 0 Q (F0 m 80 ls [])) : ∀ (H : Heap) (locs : List Loc) (ls : Array Slot), va_P D cls (mw md mc S) H → va_D A (mw md mc S) → va_S A s.heap H locs → lv_has ls 5 [(0, .ref (md 100)), (1, .int x1), (2, .long x2), (4, .int x4)] → W p l e ({ frames := 1, cells := 0, slots := 0, locals := 21 }) s m args below meth c H locs 0 0 Q (F0 m 31 ls []) := by
  refine lp_w (G := fun a : MS × Int32 × Int64 × Int32 => ∀ (H : Heap) (locs : List Loc) (ls : Array Slot), va_P D cls (mw md mc a.1) H → va_D A (mw md mc a.1) → va_S A s.heap H locs → lv_has ls 5 [(0, .ref (md 100)), (1, .int a.2.1), (2, .long a.2.2.1), (4, .int a.2.2.2)] → W p l e ({ frames := 1, cells := 0, slots := 0, locals := 21 }) s m args below meth c H locs 0 0 Q (F0 m 31 ls [])) ?_ FU (S, x1, x2, x4) Heq
  intro a o1 ho Ka Ke
  exact w_rout_B31 hC ho (fun b h => Ka b h) (fun b h => K0 b (Ke _ h).symm)
def m_rout_J0 (S : MS) (x1 : Int32) : Option (MS × Int64) := (if x1 < 0 then m_rout_J11 S else (if x1 ≤ 8191 then ob (m_rout_L31 (S.setI 0 0) x1 0 (8 * x1)) (fun b_3 => some (b_3.1, b_3.2)) else m_rout_J11 S))
theorem d_rout_80 : decode prog_14_method_94_code 80 = .ok (.lload_n 2, 1) := by decide +kernel
theorem d_rout_81 : decode prog_14_method_94_code 81 = .ok (.lreturn, 1) := by decide +kernel
set_option maxHeartbeats 4000000 in
set_option maxRecDepth 100000 in
theorem w_rout_J0 {p : Program} {l : Launch} {e : Env} {s : State} {m : MethodId} {args : Array Value} {below : List Frame} {meth : Method} {c : Code} {A : Nat → Prop} {D : va_G} {md : Nat → Nat} {mc : Nat → ClassId} {Q : State → Prop} (hC : MCx "JoinedTreesModel" prog_14_method_94_code 5 (some .long) p s m args meth c A D mc) {S : MS} {x1 : Int32} {o : MS × Int64} (Heq : m_rout_J0 S x1 = some o) (Kr : ∀ r : MS × Int64, o = r → ∀ (pc : Nat) (H : Heap) (locs : List Loc) (ls : Array Slot), decode prog_14_method_94_code pc = .ok (.lreturn, 1) → va_P D cls (mw md mc r.1) H → va_D A (mw md mc r.1) → va_S A s.heap H locs → W p l e ({ frames := 1, cells := 0, slots := 0, locals := 21 }) s m args below meth c H locs 0 0 Q (F0 m pc ls [.long r.2])) : ∀ (H : Heap) (locs : List Loc) (ls : Array Slot), va_P D cls (mw md mc S) H → va_D A (mw md mc S) → va_S A s.heap H locs → lv_has ls 5 [(0, .ref (md 100)), (1, .int x1)] → W p l e ({ frames := 1, cells := 0, slots := 0, locals := 21 }) s m args below meth c H locs 0 0 Q (F0 m 0 ls []) := by
  intro H locs ls hP hD hS hl
  obtain ⟨hx, hb, hr, hml, hown, hts, hK, hA⟩ := id hC
  unfold m_rout_J0 at Heq
  refine lv_iload_n hx hb d_rout_0 rfl (lv_at hl 1 rfl) ?_
  refine lv_if_lt (tgt := 11) hx hb d_rout_1 (by decide) (fun c_1 => ?_) (fun c_1 => ?_)
  · replace Heq := (if_pos c_1).symm.trans Heq
    exact w_rout_J11 hC Heq Kr _ _ _ hP hD hS (lv_sub hl [0] rfl)
  · replace Heq := (if_neg c_1).symm.trans Heq
    refine lv_iload_n hx hb d_rout_4 rfl (lv_at hl 1 rfl) ?_
    refine lv_sipush (v := 8191) hx hb d_rout_5 (by decide) ?_
    refine lv_icmp_le (tgt := 18) hx hb d_rout_8 (by decide) (fun c_2 => ?_) (fun c_2 => ?_)
    · replace Heq := (if_pos c_2).symm.trans Heq
      refine lv_aload_n hx hb d_rout_18 rfl (lv_at hl 0 rfl) ?_
      refine lv_iconst (v := 0) hx hb d_rout_19 (by decide) ?_
      refine va_put (D := D) (ci := 12) (v := .int 0) (ty := .int) (C := R_MM) (T := F_MM) (N := 77) hx hb hts i_MM t_MM t_MM_ok n_MM hown hK hP hD hS 0 rfl rfl 0 (by decide) (hts _ kw_1382) (fun _ h9 => h9) rfl (by decide +kernel) rfl rfl (Nat.le_of_ble_eq_true rfl) d_rout_20 (fun H locs hP hD hS => ?_)
      rw [mw_I0] at hP hD
      refine lv_lconst (v := 0) hx hb d_rout_23 (by decide) ?_
      refine lv_lstore_n (lv' := [(2, .long 0), (0, .ref (md 100)), (1, .int x1)]) hx hb d_rout_24 rfl hl (by decide) rfl (fun ls hl => ?_)
      refine lv_bipush (v := 8) hx hb d_rout_25 (by decide) ?_
      refine lv_iload_n hx hb d_rout_27 rfl (lv_at hl 2 rfl) ?_
      refine lv_imul hx hb d_rout_28 ?_
      refine w_i (y := 8 * x1) rfl ?_
      refine lv_istore (lv' := [(4, .int (8 * x1)), (2, .long 0), (0, .ref (md 100)), (1, .int x1)]) hx hb d_rout_29 hl (by decide) rfl (fun ls hl => ?_)
      obtain ⟨b_3, h_4, Heq⟩ := ob_some Heq
      refine w_rout_L31 hC h_4 (fun b h => ?_) _ _ _ hP hD hS (lv_sub hl [2, 3, 1, 0] rfl)
      subst h
      intro H locs ls hP hD hS hl
      refine lv_lload_n hx hb d_rout_80 rfl (lv_at hl 1 rfl) ?_
      exact Kr _ (Option.some.inj Heq).symm 81 _ _ _ d_rout_81 hP hD hS
    · replace Heq := (if_neg c_2).symm.trans Heq
      exact w_rout_J11 hC Heq Kr _ _ _ hP hD hS (lv_sub hl [0] rfl)
def m_rout (S : MS) (x1 : Int32) : Option (MS × Int64) := m_rout_J0 S x1
theorem g_rout (l : Launch) (D : va_G) (sz : Nat) {md : Nat → Nat} {mc : Nat → ClassId} {S : MS} {x1 : Int32} {o : MS × Int64} (Heq : m_rout S x1 = some o) : Met l ⟨"JoinedTreesModel", "out", "(I)J"⟩ (Cond.code ⟨"JoinedTreesModel", "out", "(I)J"⟩ prog_14_method_94_code 5 (some .long) :: gb) ({ frames := 1, cells := 0, slots := 0, locals := 21 }) (gPc D (mw md mc S) (mty mc) sz [.ref (md 100), .int x1]) (va_Ql (fun (r : Int64) (_ : Unit) => r = o.2) (fun _ t => gO D (mw md mc o.1) (mty mc) (va_A (mw md mc S) sz) t) (va_A (mw md mc S) sz)) 0 0 (va_A (mw md mc S) sz) := by
  refine Met.ofW (cc := prog_14_method_94_code) (maxL := 5) (ret := (some .long)) (by decide) rfl ?_
  intro p e s m args below meth c s₁ B hml hv
  obtain ⟨rfl, hsz, hP, hK, hD0⟩ := hv
  have hx := B.exec
  have hb := B.bytes
  have hr := B.returns
  have hts : ∀ w9 ∈ gb, w9.before [.ref (md 100), .int x1].toArray s = true := fun w9 h => atoms_spec (ws := Cond.code ⟨"JoinedTreesModel", "out", "(I)J"⟩ prog_14_method_94_code 5 (some .long) :: gb) B.pre w9 (List.mem_cons_of_mem _ h)
  have hown : s.vm.findClass "JoinedTreesModel" = some m.cls := findClass_of_methodNamed B.named
  have hlocks := B.notSynchronized
  subst hsz
  have hD := hD0.self (sz := s.heap.size)
  generalize hAe : va_A (mw md mc S) s.heap.size = A at hD ⊢
  have hA : ∀ q : Nat, s.heap.size ≤ q → A q := fun q h => by rw [← hAe]; exact Or.inr h
  have hS : va_S A s.heap s.heap [] := va_S.rf
  have hl := lv_entry ([.ref (md 100), .int x1]) (n := 5) (Nat.le_of_ble_eq_true rfl)
  rw [lg_entry_eq]
  generalize (lg_sl ([.ref (md 100), .int x1]) ++ List.replicate (5 - (lg_sl ([.ref (md 100), .int x1])).length) Slot.unset).toArray = ls at hl ⊢
  have hl : lv_has ls 5 [(0, .ref (md 100)), (1, .int x1)] := hl
  refine w_rout_J0 ⟨hx, hb, hr, hml, hown, hts, hK, hA⟩ Heq (fun r h pc H locs ls hd hP hD hS => ?_) _ _ _ hP hD hS (lv_sub hl [0, 1] rfl)
  subst h
  exact W.lret hx hb hr (fun t ht hW => ⟨⟨_, (), rfl, rfl, by rw [ht]; exact hP, va_K.moved hW.alike hK, hD⟩, hS.F ht⟩) hS.2.2 hd
def m_rcount_J91 (S : MS) (x1 : Int32) (x3 : Int32) (x4 : Int32) : Option ((MS × Int32 × Int32 × Int32) ⊕ (MS × Int32)) := some (.inl (S, x1, x3, (x4 + 1)))
theorem d_rcount_0 : decode prog_14_method_95_code 0 = .ok (.iload_n 1, 1) := by decide +kernel
theorem d_rcount_1 : decode prog_14_method_95_code 1 = .ok (.invokestatic 251, 3) := by decide +kernel
theorem d_rcount_4 : decode prog_14_method_95_code 4 = .ok (.ifCond .ne 9, 3) := by decide +kernel
theorem d_rcount_13 : decode prog_14_method_95_code 13 = .ok (.aload_n 0, 1) := by decide +kernel
theorem d_rcount_14 : decode prog_14_method_95_code 14 = .ok (.iconst 0, 1) := by decide +kernel
theorem d_rcount_15 : decode prog_14_method_95_code 15 = .ok (.putfield 176, 3) := by decide +kernel
theorem d_rcount_18 : decode prog_14_method_95_code 18 = .ok (.iconst 0, 1) := by decide +kernel
theorem d_rcount_19 : decode prog_14_method_95_code 19 = .ok (.istore_n 3, 1) := by decide +kernel
theorem d_rcount_20 : decode prog_14_method_95_code 20 = .ok (.iload_n 2, 1) := by decide +kernel
theorem d_rcount_21 : decode prog_14_method_95_code 21 = .ok (.tableswitch 197 0 6 #[43, 78, 113, 146, 152, 185, 191], 43) := by decide +kernel
theorem d_rcount_64 : decode prog_14_method_95_code 64 = .ok (.iconst 0, 1) := by decide +kernel
theorem d_rcount_65 : decode prog_14_method_95_code 65 = .ok (.istore 4, 2) := by decide +kernel
theorem d_rcount_67 : decode prog_14_method_95_code 67 = .ok (.iload 4, 2) := by decide +kernel
theorem d_rcount_69 : decode prog_14_method_95_code 69 = .ok (.aload_n 0, 1) := by decide +kernel
theorem d_rcount_70 : decode prog_14_method_95_code 70 = .ok (.getfield 384, 3) := by decide +kernel
theorem d_rcount_73 : decode prog_14_method_95_code 73 = .ok (.if_icmp .ge 24, 3) := by decide +kernel
theorem d_rcount_76 : decode prog_14_method_95_code 76 = .ok (.aload_n 0, 1) := by decide +kernel
theorem d_rcount_77 : decode prog_14_method_95_code 77 = .ok (.getfield 95, 3) := by decide +kernel
theorem d_rcount_80 : decode prog_14_method_95_code 80 = .ok (.iload_n 1, 1) := by decide +kernel
theorem d_rcount_81 : decode prog_14_method_95_code 81 = .ok (.aaload, 1) := by decide +kernel
theorem d_rcount_82 : decode prog_14_method_95_code 82 = .ok (.iload 4, 2) := by decide +kernel
theorem d_rcount_84 : decode prog_14_method_95_code 84 = .ok (.baload, 1) := by decide +kernel
theorem d_rcount_85 : decode prog_14_method_95_code 85 = .ok (.ifCond .eq 6, 3) := by decide +kernel
theorem d_rcount_91 : decode prog_14_method_95_code 91 = .ok (.iinc 4 1, 3) := by decide +kernel
theorem d_rcount_94 : decode prog_14_method_95_code 94 = .ok (.goto (-27), 3) := by decide +kernel
set_option maxHeartbeats 4000000 in
set_option maxRecDepth 100000 in
theorem w_rcount_J91 {p : Program} {l : Launch} {e : Env} {s : State} {m : MethodId} {args : Array Value} {below : List Frame} {meth : Method} {c : Code} {A : Nat → Prop} {D : va_G} {md : Nat → Nat} {mc : Nat → ClassId} {Q : State → Prop} (hC : MCx "JoinedTreesModel" prog_14_method_95_code 5 (some .int) p s m args meth c A D mc) {S : MS} {x1 : Int32} {x3 : Int32} {x4 : Int32} {o : ((MS × Int32 × Int32 × Int32) ⊕ (MS × Int32))} (Heq : m_rcount_J91 S x1 x3 x4 = some o) (Ka : ∀ b : MS × Int32 × Int32 × Int32, o = .inl b → ∀ (H : Heap) (locs : List Loc) (ls : Array Slot), va_P D cls (mw md mc b.1) H → va_D A (mw md mc b.1) → va_S A s.heap H locs → lv_has ls 5 [(0, .ref (md 100)), (1, .int b.2.1), (3, .int b.2.2.1), (4, .int b.2.2.2)] → W p l e ({ frames := 2, cells := 0, slots := 0, locals := 47 }) s m args below meth c H locs 0 0 Q (F0 m 67 ls [])) (K0 : ∀ b : MS × Int32, o = .inr b → ∀ (H : Heap) (locs : List Loc) (ls : Array Slot), va_P D cls (mw md mc b.1) H → va_D A (mw md mc b.1) → va_S A s.heap H locs → lv_has ls 5 [(0, .ref (md 100)), (3, .int b.2)] → W p l e ({ frames := 2, cells := 0, slots := 0, locals := 47 }) s m args below meth c H locs 0 0 Q (F0 m 97 ls [])) : ∀ (H : Heap) (locs : List Loc) (ls : Array Slot), va_P D cls (mw md mc S) H → va_D A (mw md mc S) → va_S A s.heap H locs → lv_has ls 5 [(0, .ref (md 100)), (1, .int x1), (3, .int x3), (4, .int x4)] → W p l e ({ frames := 2, cells := 0, slots := 0, locals := 47 }) s m args below meth c H locs 0 0 Q (F0 m 91 ls []) := by
  intro H locs ls hP hD hS hl
  obtain ⟨hx, hb, hr, hml, hown, hts, hK, hA⟩ := id hC
  unfold m_rcount_J91 at Heq
  refine lv_iinc (v := x4 + 1) (lv' := [(4, .int (x4 + 1)), (0, .ref (md 100)), (1, .int x1), (3, .int x3)]) hx hb d_rcount_91 hl (k := 3) rfl rfl (by decide) rfl (fun ls hl => ?_)
  refine lv_goto (tgt := 67) hx hb d_rcount_94 (by decide) ?_
  exact Ka _ (Option.some.inj Heq).symm _ _ _ hP hD hS (lv_sub hl [1, 2, 3, 0] rfl)
def m_rcount_B67 (S : MS) (x1 : Int32) (x3 : Int32) (x4 : Int32) : Option ((MS × Int32 × Int32 × Int32) ⊕ (MS × Int32)) := (if S.i 34 ≤ x4 then some (.inr (S, x3)) else gd x1 8 (gd x4 1000 ((if S.a (101 + x1.toNatClampNeg) x4.toNatClampNeg = 0 then m_rcount_J91 S x1 x3 x4 else m_rcount_J91 S x1 (x3 + 1) x4))))
theorem d_rcount_88 : decode prog_14_method_95_code 88 = .ok (.iinc 3 1, 3) := by decide +kernel
set_option maxHeartbeats 4000000 in
set_option maxRecDepth 100000 in
theorem w_rcount_B67 {p : Program} {l : Launch} {e : Env} {s : State} {m : MethodId} {args : Array Value} {below : List Frame} {meth : Method} {c : Code} {A : Nat → Prop} {D : va_G} {md : Nat → Nat} {mc : Nat → ClassId} {Q : State → Prop} (hC : MCx "JoinedTreesModel" prog_14_method_95_code 5 (some .int) p s m args meth c A D mc) {S : MS} {x1 : Int32} {x3 : Int32} {x4 : Int32} {o : ((MS × Int32 × Int32 × Int32) ⊕ (MS × Int32))} (Heq : m_rcount_B67 S x1 x3 x4 = some o) (Ka : ∀ b : MS × Int32 × Int32 × Int32, o = .inl b → ∀ (H : Heap) (locs : List Loc) (ls : Array Slot), va_P D cls (mw md mc b.1) H → va_D A (mw md mc b.1) → va_S A s.heap H locs → lv_has ls 5 [(0, .ref (md 100)), (1, .int b.2.1), (3, .int b.2.2.1), (4, .int b.2.2.2)] → W p l e ({ frames := 2, cells := 0, slots := 0, locals := 47 }) s m args below meth c H locs 0 0 Q (F0 m 67 ls [])) (K0 : ∀ b : MS × Int32, o = .inr b → ∀ (H : Heap) (locs : List Loc) (ls : Array Slot), va_P D cls (mw md mc b.1) H → va_D A (mw md mc b.1) → va_S A s.heap H locs → lv_has ls 5 [(0, .ref (md 100)), (3, .int b.2)] → W p l e ({ frames := 2, cells := 0, slots := 0, locals := 47 }) s m args below meth c H locs 0 0 Q (F0 m 97 ls [])) : ∀ (H : Heap) (locs : List Loc) (ls : Array Slot), va_P D cls (mw md mc S) H → va_D A (mw md mc S) → va_S A s.heap H locs → lv_has ls 5 [(0, .ref (md 100)), (1, .int x1), (3, .int x3), (4, .int x4)] → W p l e ({ frames := 2, cells := 0, slots := 0, locals := 47 }) s m args below meth c H locs 0 0 Q (F0 m 67 ls []) := by
  intro H locs ls hP hD hS hl
  obtain ⟨hx, hb, hr, hml, hown, hts, hK, hA⟩ := id hC
  unfold m_rcount_B67 at Heq
  refine lv_iload hx hb d_rcount_67 (lv_at hl 3 rfl) ?_
  refine lv_aload_n hx hb d_rcount_69 rfl (lv_at hl 0 rfl) ?_
  refine va_get (D := D) (ci := 12) (v := .int (S.i 34)) (C := R_MM) (T := F_MM) (N := 77) hx hb hts i_MM hown hK hP 0 rfl rfl 34 (by decide) (hts _ kw_1416) (fun _ h9 => h9) rfl d_rcount_70 ?_
  refine lv_icmp_ge (tgt := 97) hx hb d_rcount_73 (by decide) (fun c_1 => ?_) (fun c_1 => ?_)
  · replace Heq := (if_pos c_1).symm.trans Heq
    exact K0 _ (Option.some.inj Heq).symm _ _ _ hP hD hS (lv_sub hl [0, 2] rfl)
  · replace Heq := (if_neg c_1).symm.trans Heq
    refine lv_aload_n hx hb d_rcount_76 rfl (lv_at hl 0 rfl) ?_
    refine va_get (D := D) (ci := 12) (v := .ref (md 36)) (C := R_MM) (T := F_MM) (N := 77) hx hb hts i_MM hown hK hP 0 rfl rfl 36 (by decide) (hts _ kw_1418) (fun _ h9 => h9) rfl d_rcount_77 ?_
    refine lv_iload_n hx hb d_rcount_80 rfl (lv_at hl 1 rfl) ?_
    obtain ⟨hi_2, Heq⟩ := gd_some Heq
    refine tx_ald2 hx hb hK hP 48 4 rfl rfl (i := x1) hi_2 d_rcount_81 ?_
    refine w_v (y := .ref (md (101 + x1.toNatClampNeg))) rfl ?_
    refine lv_iload hx hb d_rcount_82 (lv_at hl 3 rfl) ?_
    obtain ⟨hi_3, Heq⟩ := gd_some Heq
    refine va_zald hx hb hK hP (51 + x1.toNatClampNeg) 2 (mp_R101 (vp_in.lt hi_2)) rfl (i := x4) hi_3 d_rcount_84 ?_
    refine w_i (y := S.a (101 + x1.toNatClampNeg) x4.toNatClampNeg) rfl ?_
    refine lv_if_eq (tgt := 91) hx hb d_rcount_85 (by decide) (fun c_4 => ?_) (fun c_4 => ?_)
    · replace Heq := (if_pos c_4).symm.trans Heq
      exact w_rcount_J91 hC Heq Ka K0 _ _ _ hP hD hS (lv_sub hl [0, 1, 2, 3] rfl)
    · replace Heq := (if_neg c_4).symm.trans Heq
      refine lv_iinc (v := x3 + 1) (lv' := [(3, .int (x3 + 1)), (0, .ref (md 100)), (1, .int x1), (4, .int x4)]) hx hb d_rcount_88 hl (k := 2) rfl rfl (by decide) rfl (fun ls hl => ?_)
      exact w_rcount_J91 hC Heq Ka K0 _ _ _ hP hD hS (lv_sub hl [1, 2, 0, 3] rfl)
def m_rcount_L67 (S : MS) (x1 : Int32) (x3 : Int32) (x4 : Int32) : Option (MS × Int32) := lp (fun a : MS × Int32 × Int32 × Int32 => m_rcount_B67 a.1 a.2.1 a.2.2.1 a.2.2.2) FU (S, x1, x3, x4)
theorem w_rcount_L67 {p : Program} {l : Launch} {e : Env} {s : State} {m : MethodId} {args : Array Value} {below : List Frame} {meth : Method} {c : Code} {A : Nat → Prop} {D : va_G} {md : Nat → Nat} {mc : Nat → ClassId} {Q : State → Prop} (hC : MCx "JoinedTreesModel" prog_14_method_95_code 5 (some .int) p s m args meth c A D mc) {S : MS} {x1 : Int32} {x3 : Int32} {x4 : Int32} {o : MS × Int32} (Heq : m_rcount_L67 S x1 x3 x4 = some o) (K0 : ∀ b : MS × Int32, o = b → ∀ (H : Heap) (locs : List Loc) (ls : Array Slot), va_P D cls (mw md mc b.1) H → va_D A (mw md mc b.1) → va_S A s.heap H locs → lv_has ls 5 [(0, .ref (md 100)), (3, .int b.2)] → W p l e ({ frames := 2, cells := 0, slots := 0, locals := 47 }) s m args below meth c H locs 0 0 Q (F0 m 97 ls [])) : ∀ (H : Heap) (locs : List Loc) (ls : Array Slot), va_P D cls (mw md mc S) H → va_D A (mw md mc S) → va_S A s.heap H locs → lv_has ls 5 [(0, .ref (md 100)), (1, .int x1), (3, .int x3), (4, .int x4)] → W p l e ({ frames := 2, cells := 0, slots := 0, locals := 47 }) s m args below meth c H locs 0 0 Q (F0 m 67 ls []) := by
  refine lp_w (G := fun a : MS × Int32 × Int32 × Int32 => ∀ (H : Heap) (locs : List Loc) (ls : Array Slot), va_P D cls (mw md mc a.1) H → va_D A (mw md mc a.1) → va_S A s.heap H locs → lv_has ls 5 [(0, .ref (md 100)), (1, .int a.2.1), (3, .int a.2.2.1), (4, .int a.2.2.2)] → W p l e ({ frames := 2, cells := 0, slots := 0, locals := 47 }) s m args below meth c H locs 0 0 Q (F0 m 67 ls [])) ?_ FU (S, x1, x3, x4) Heq
  intro a o1 ho Ka Ke
  exact w_rcount_B67 hC ho (fun b h => Ka b h) (fun b h => K0 b (Ke _ h).symm)
def m_rcount_J126 (S : MS) (x1 : Int32) (x3 : Int32) (x4 : Int32) : Option ((MS × Int32 × Int32 × Int32) ⊕ (MS × Int32)) := some (.inl (S, x1, x3, (x4 + 1)))
theorem d_rcount_97 : decode prog_14_method_95_code 97 = .ok (.iload_n 3, 1) := by decide +kernel
theorem d_rcount_98 : decode prog_14_method_95_code 98 = .ok (.ireturn, 1) := by decide +kernel
theorem d_rcount_99 : decode prog_14_method_95_code 99 = .ok (.iconst 0, 1) := by decide +kernel
theorem d_rcount_100 : decode prog_14_method_95_code 100 = .ok (.istore 4, 2) := by decide +kernel
theorem d_rcount_102 : decode prog_14_method_95_code 102 = .ok (.iload 4, 2) := by decide +kernel
theorem d_rcount_104 : decode prog_14_method_95_code 104 = .ok (.aload_n 0, 1) := by decide +kernel
theorem d_rcount_105 : decode prog_14_method_95_code 105 = .ok (.getfield 384, 3) := by decide +kernel
theorem d_rcount_108 : decode prog_14_method_95_code 108 = .ok (.if_icmp .ge 24, 3) := by decide +kernel
theorem d_rcount_111 : decode prog_14_method_95_code 111 = .ok (.aload_n 0, 1) := by decide +kernel
theorem d_rcount_112 : decode prog_14_method_95_code 112 = .ok (.getfield 98, 3) := by decide +kernel
theorem d_rcount_115 : decode prog_14_method_95_code 115 = .ok (.iload_n 1, 1) := by decide +kernel
theorem d_rcount_116 : decode prog_14_method_95_code 116 = .ok (.aaload, 1) := by decide +kernel
theorem d_rcount_117 : decode prog_14_method_95_code 117 = .ok (.iload 4, 2) := by decide +kernel
theorem d_rcount_119 : decode prog_14_method_95_code 119 = .ok (.baload, 1) := by decide +kernel
theorem d_rcount_120 : decode prog_14_method_95_code 120 = .ok (.ifCond .eq 6, 3) := by decide +kernel
theorem d_rcount_126 : decode prog_14_method_95_code 126 = .ok (.iinc 4 1, 3) := by decide +kernel
theorem d_rcount_129 : decode prog_14_method_95_code 129 = .ok (.goto (-27), 3) := by decide +kernel
set_option maxHeartbeats 4000000 in
set_option maxRecDepth 100000 in
theorem w_rcount_J126 {p : Program} {l : Launch} {e : Env} {s : State} {m : MethodId} {args : Array Value} {below : List Frame} {meth : Method} {c : Code} {A : Nat → Prop} {D : va_G} {md : Nat → Nat} {mc : Nat → ClassId} {Q : State → Prop} (hC : MCx "JoinedTreesModel" prog_14_method_95_code 5 (some .int) p s m args meth c A D mc) {S : MS} {x1 : Int32} {x3 : Int32} {x4 : Int32} {o : ((MS × Int32 × Int32 × Int32) ⊕ (MS × Int32))} (Heq : m_rcount_J126 S x1 x3 x4 = some o) (Ka : ∀ b : MS × Int32 × Int32 × Int32, o = .inl b → ∀ (H : Heap) (locs : List Loc) (ls : Array Slot), va_P D cls (mw md mc b.1) H → va_D A (mw md mc b.1) → va_S A s.heap H locs → lv_has ls 5 [(0, .ref (md 100)), (1, .int b.2.1), (3, .int b.2.2.1), (4, .int b.2.2.2)] → W p l e ({ frames := 2, cells := 0, slots := 0, locals := 47 }) s m args below meth c H locs 0 0 Q (F0 m 102 ls [])) (K0 : ∀ b : MS × Int32, o = .inr b → ∀ (H : Heap) (locs : List Loc) (ls : Array Slot), va_P D cls (mw md mc b.1) H → va_D A (mw md mc b.1) → va_S A s.heap H locs → lv_has ls 5 [(0, .ref (md 100)), (3, .int b.2)] → W p l e ({ frames := 2, cells := 0, slots := 0, locals := 47 }) s m args below meth c H locs 0 0 Q (F0 m 132 ls [])) : ∀ (H : Heap) (locs : List Loc) (ls : Array Slot), va_P D cls (mw md mc S) H → va_D A (mw md mc S) → va_S A s.heap H locs → lv_has ls 5 [(0, .ref (md 100)), (1, .int x1), (3, .int x3), (4, .int x4)] → W p l e ({ frames := 2, cells := 0, slots := 0, locals := 47 }) s m args below meth c H locs 0 0 Q (F0 m 126 ls []) := by
  intro H locs ls hP hD hS hl
  obtain ⟨hx, hb, hr, hml, hown, hts, hK, hA⟩ := id hC
  unfold m_rcount_J126 at Heq
  refine lv_iinc (v := x4 + 1) (lv' := [(4, .int (x4 + 1)), (0, .ref (md 100)), (1, .int x1), (3, .int x3)]) hx hb d_rcount_126 hl (k := 3) rfl rfl (by decide) rfl (fun ls hl => ?_)
  refine lv_goto (tgt := 102) hx hb d_rcount_129 (by decide) ?_
  exact Ka _ (Option.some.inj Heq).symm _ _ _ hP hD hS (lv_sub hl [1, 2, 3, 0] rfl)
def m_rcount_B102 (S : MS) (x1 : Int32) (x3 : Int32) (x4 : Int32) : Option ((MS × Int32 × Int32 × Int32) ⊕ (MS × Int32)) := (if S.i 34 ≤ x4 then some (.inr (S, x3)) else gd x1 8 (gd x4 1000 ((if S.a (109 + x1.toNatClampNeg) x4.toNatClampNeg = 0 then m_rcount_J126 S x1 x3 x4 else m_rcount_J126 S x1 (x3 + 1) x4))))
theorem d_rcount_123 : decode prog_14_method_95_code 123 = .ok (.iinc 3 1, 3) := by decide +kernel
set_option maxHeartbeats 4000000 in
set_option maxRecDepth 100000 in
theorem w_rcount_B102 {p : Program} {l : Launch} {e : Env} {s : State} {m : MethodId} {args : Array Value} {below : List Frame} {meth : Method} {c : Code} {A : Nat → Prop} {D : va_G} {md : Nat → Nat} {mc : Nat → ClassId} {Q : State → Prop} (hC : MCx "JoinedTreesModel" prog_14_method_95_code 5 (some .int) p s m args meth c A D mc) {S : MS} {x1 : Int32} {x3 : Int32} {x4 : Int32} {o : ((MS × Int32 × Int32 × Int32) ⊕ (MS × Int32))} (Heq : m_rcount_B102 S x1 x3 x4 = some o) (Ka : ∀ b : MS × Int32 × Int32 × Int32, o = .inl b → ∀ (H : Heap) (locs : List Loc) (ls : Array Slot), va_P D cls (mw md mc b.1) H → va_D A (mw md mc b.1) → va_S A s.heap H locs → lv_has ls 5 [(0, .ref (md 100)), (1, .int b.2.1), (3, .int b.2.2.1), (4, .int b.2.2.2)] → W p l e ({ frames := 2, cells := 0, slots := 0, locals := 47 }) s m args below meth c H locs 0 0 Q (F0 m 102 ls [])) (K0 : ∀ b : MS × Int32, o = .inr b → ∀ (H : Heap) (locs : List Loc) (ls : Array Slot), va_P D cls (mw md mc b.1) H → va_D A (mw md mc b.1) → va_S A s.heap H locs → lv_has ls 5 [(0, .ref (md 100)), (3, .int b.2)] → W p l e ({ frames := 2, cells := 0, slots := 0, locals := 47 }) s m args below meth c H locs 0 0 Q (F0 m 132 ls [])) : ∀ (H : Heap) (locs : List Loc) (ls : Array Slot), va_P D cls (mw md mc S) H → va_D A (mw md mc S) → va_S A s.heap H locs → lv_has ls 5 [(0, .ref (md 100)), (1, .int x1), (3, .int x3), (4, .int x4)] → W p l e ({ frames := 2, cells := 0, slots := 0, locals := 47 }) s m args below meth c H locs 0 0 Q (F0 m 102 ls []) := by
  intro H locs ls hP hD hS hl
  obtain ⟨hx, hb, hr, hml, hown, hts, hK, hA⟩ := id hC
  unfold m_rcount_B102 at Heq
  refine lv_iload hx hb d_rcount_102 (lv_at hl 3 rfl) ?_
  refine lv_aload_n hx hb d_rcount_104 rfl (lv_at hl 0 rfl) ?_
  refine va_get (D := D) (ci := 12) (v := .int (S.i 34)) (C := R_MM) (T := F_MM) (N := 77) hx hb hts i_MM hown hK hP 0 rfl rfl 34 (by decide) (hts _ kw_1416) (fun _ h9 => h9) rfl d_rcount_105 ?_
  refine lv_icmp_ge (tgt := 132) hx hb d_rcount_108 (by decide) (fun c_1 => ?_) (fun c_1 => ?_)
  · replace Heq := (if_pos c_1).symm.trans Heq
    exact K0 _ (Option.some.inj Heq).symm _ _ _ hP hD hS (lv_sub hl [0, 2] rfl)
  · replace Heq := (if_neg c_1).symm.trans Heq
    refine lv_aload_n hx hb d_rcount_111 rfl (lv_at hl 0 rfl) ?_
    refine va_get (D := D) (ci := 12) (v := .ref (md 37)) (C := R_MM) (T := F_MM) (N := 77) hx hb hts i_MM hown hK hP 0 rfl rfl 37 (by decide) (hts _ kw_1419) (fun _ h9 => h9) rfl d_rcount_112 ?_
    refine lv_iload_n hx hb d_rcount_115 rfl (lv_at hl 1 rfl) ?_
    obtain ⟨hi_2, Heq⟩ := gd_some Heq
    refine tx_ald2 hx hb hK hP 49 4 rfl rfl (i := x1) hi_2 d_rcount_116 ?_
    refine w_v (y := .ref (md (109 + x1.toNatClampNeg))) rfl ?_
    refine lv_iload hx hb d_rcount_117 (lv_at hl 3 rfl) ?_
    obtain ⟨hi_3, Heq⟩ := gd_some Heq
    refine va_zald hx hb hK hP (59 + x1.toNatClampNeg) 2 (mp_R109 (vp_in.lt hi_2)) rfl (i := x4) hi_3 d_rcount_119 ?_
    refine w_i (y := S.a (109 + x1.toNatClampNeg) x4.toNatClampNeg) rfl ?_
    refine lv_if_eq (tgt := 126) hx hb d_rcount_120 (by decide) (fun c_4 => ?_) (fun c_4 => ?_)
    · replace Heq := (if_pos c_4).symm.trans Heq
      exact w_rcount_J126 hC Heq Ka K0 _ _ _ hP hD hS (lv_sub hl [0, 1, 2, 3] rfl)
    · replace Heq := (if_neg c_4).symm.trans Heq
      refine lv_iinc (v := x3 + 1) (lv' := [(3, .int (x3 + 1)), (0, .ref (md 100)), (1, .int x1), (4, .int x4)]) hx hb d_rcount_123 hl (k := 2) rfl rfl (by decide) rfl (fun ls hl => ?_)
      exact w_rcount_J126 hC Heq Ka K0 _ _ _ hP hD hS (lv_sub hl [1, 2, 0, 3] rfl)
def m_rcount_L102 (S : MS) (x1 : Int32) (x3 : Int32) (x4 : Int32) : Option (MS × Int32) := lp (fun a : MS × Int32 × Int32 × Int32 => m_rcount_B102 a.1 a.2.1 a.2.2.1 a.2.2.2) FU (S, x1, x3, x4)
theorem w_rcount_L102 {p : Program} {l : Launch} {e : Env} {s : State} {m : MethodId} {args : Array Value} {below : List Frame} {meth : Method} {c : Code} {A : Nat → Prop} {D : va_G} {md : Nat → Nat} {mc : Nat → ClassId} {Q : State → Prop} (hC : MCx "JoinedTreesModel" prog_14_method_95_code 5 (some .int) p s m args meth c A D mc) {S : MS} {x1 : Int32} {x3 : Int32} {x4 : Int32} {o : MS × Int32} (Heq : m_rcount_L102 S x1 x3 x4 = some o) (K0 : ∀ b : MS × Int32, o = b → ∀ (H : Heap) (locs : List Loc) (ls : Array Slot), va_P D cls (mw md mc b.1) H → va_D A (mw md mc b.1) → va_S A s.heap H locs → lv_has ls 5 [(0, .ref (md 100)), (3, .int b.2)] → W p l e ({ frames := 2, cells := 0, slots := 0, locals := 47 }) s m args below meth c H locs 0 0 Q (F0 m 132 ls [])) : ∀ (H : Heap) (locs : List Loc) (ls : Array Slot), va_P D cls (mw md mc S) H → va_D A (mw md mc S) → va_S A s.heap H locs → lv_has ls 5 [(0, .ref (md 100)), (1, .int x1), (3, .int x3), (4, .int x4)] → W p l e ({ frames := 2, cells := 0, slots := 0, locals := 47 }) s m args below meth c H locs 0 0 Q (F0 m 102 ls []) := by
  refine lp_w (G := fun a : MS × Int32 × Int32 × Int32 => ∀ (H : Heap) (locs : List Loc) (ls : Array Slot), va_P D cls (mw md mc a.1) H → va_D A (mw md mc a.1) → va_S A s.heap H locs → lv_has ls 5 [(0, .ref (md 100)), (1, .int a.2.1), (3, .int a.2.2.1), (4, .int a.2.2.2)] → W p l e ({ frames := 2, cells := 0, slots := 0, locals := 47 }) s m args below meth c H locs 0 0 Q (F0 m 102 ls [])) ?_ FU (S, x1, x3, x4) Heq
  intro a o1 ho Ka Ke
  exact w_rcount_B102 hC ho (fun b h => Ka b h) (fun b h => K0 b (Ke _ h).symm)
def m_rcount_J159 (S : MS) (x1 : Int32) (x3 : Int32) (x4 : Int32) : Option ((MS × Int32 × Int32 × Int32) ⊕ (MS × Int32)) := some (.inl (S, x1, x3, (x4 + 1)))
theorem d_rcount_132 : decode prog_14_method_95_code 132 = .ok (.iload_n 3, 1) := by decide +kernel
theorem d_rcount_133 : decode prog_14_method_95_code 133 = .ok (.ireturn, 1) := by decide +kernel
theorem d_rcount_134 : decode prog_14_method_95_code 134 = .ok (.iconst 0, 1) := by decide +kernel
theorem d_rcount_135 : decode prog_14_method_95_code 135 = .ok (.istore 4, 2) := by decide +kernel
theorem d_rcount_137 : decode prog_14_method_95_code 137 = .ok (.iload 4, 2) := by decide +kernel
theorem d_rcount_139 : decode prog_14_method_95_code 139 = .ok (.aload_n 0, 1) := by decide +kernel
theorem d_rcount_140 : decode prog_14_method_95_code 140 = .ok (.getfield 384, 3) := by decide +kernel
theorem d_rcount_143 : decode prog_14_method_95_code 143 = .ok (.if_icmp .ge 22, 3) := by decide +kernel
theorem d_rcount_146 : decode prog_14_method_95_code 146 = .ok (.aload_n 0, 1) := by decide +kernel
theorem d_rcount_147 : decode prog_14_method_95_code 147 = .ok (.iload_n 1, 1) := by decide +kernel
theorem d_rcount_148 : decode prog_14_method_95_code 148 = .ok (.iload 4, 2) := by decide +kernel
theorem d_rcount_150 : decode prog_14_method_95_code 150 = .ok (.invokevirtual 396, 3) := by decide +kernel
theorem d_rcount_153 : decode prog_14_method_95_code 153 = .ok (.ifCond .eq 6, 3) := by decide +kernel
theorem d_rcount_159 : decode prog_14_method_95_code 159 = .ok (.iinc 4 1, 3) := by decide +kernel
theorem d_rcount_162 : decode prog_14_method_95_code 162 = .ok (.goto (-25), 3) := by decide +kernel
set_option maxHeartbeats 4000000 in
set_option maxRecDepth 100000 in
theorem w_rcount_J159 {p : Program} {l : Launch} {e : Env} {s : State} {m : MethodId} {args : Array Value} {below : List Frame} {meth : Method} {c : Code} {A : Nat → Prop} {D : va_G} {md : Nat → Nat} {mc : Nat → ClassId} {Q : State → Prop} (hC : MCx "JoinedTreesModel" prog_14_method_95_code 5 (some .int) p s m args meth c A D mc) {S : MS} {x1 : Int32} {x3 : Int32} {x4 : Int32} {o : ((MS × Int32 × Int32 × Int32) ⊕ (MS × Int32))} (Heq : m_rcount_J159 S x1 x3 x4 = some o) (Ka : ∀ b : MS × Int32 × Int32 × Int32, o = .inl b → ∀ (H : Heap) (locs : List Loc) (ls : Array Slot), va_P D cls (mw md mc b.1) H → va_D A (mw md mc b.1) → va_S A s.heap H locs → lv_has ls 5 [(0, .ref (md 100)), (1, .int b.2.1), (3, .int b.2.2.1), (4, .int b.2.2.2)] → W p l e ({ frames := 2, cells := 0, slots := 0, locals := 47 }) s m args below meth c H locs 0 0 Q (F0 m 137 ls [])) (K0 : ∀ b : MS × Int32, o = .inr b → ∀ (H : Heap) (locs : List Loc) (ls : Array Slot), va_P D cls (mw md mc b.1) H → va_D A (mw md mc b.1) → va_S A s.heap H locs → lv_has ls 5 [(0, .ref (md 100)), (3, .int b.2)] → W p l e ({ frames := 2, cells := 0, slots := 0, locals := 47 }) s m args below meth c H locs 0 0 Q (F0 m 165 ls [])) : ∀ (H : Heap) (locs : List Loc) (ls : Array Slot), va_P D cls (mw md mc S) H → va_D A (mw md mc S) → va_S A s.heap H locs → lv_has ls 5 [(0, .ref (md 100)), (1, .int x1), (3, .int x3), (4, .int x4)] → W p l e ({ frames := 2, cells := 0, slots := 0, locals := 47 }) s m args below meth c H locs 0 0 Q (F0 m 159 ls []) := by
  intro H locs ls hP hD hS hl
  obtain ⟨hx, hb, hr, hml, hown, hts, hK, hA⟩ := id hC
  unfold m_rcount_J159 at Heq
  refine lv_iinc (v := x4 + 1) (lv' := [(4, .int (x4 + 1)), (0, .ref (md 100)), (1, .int x1), (3, .int x3)]) hx hb d_rcount_159 hl (k := 3) rfl rfl (by decide) rfl (fun ls hl => ?_)
  refine lv_goto (tgt := 137) hx hb d_rcount_162 (by decide) ?_
  exact Ka _ (Option.some.inj Heq).symm _ _ _ hP hD hS (lv_sub hl [1, 2, 3, 0] rfl)
def m_rcount_B137 (S : MS) (x1 : Int32) (x3 : Int32) (x4 : Int32) : Option ((MS × Int32 × Int32 × Int32) ⊕ (MS × Int32)) := (if S.i 34 ≤ x4 then some (.inr (S, x3)) else ob (m_risHead S x1 x4) (fun o_2 => (if o_2.2 = 0 then m_rcount_J159 o_2.1 x1 x3 x4 else m_rcount_J159 o_2.1 x1 (x3 + 1) x4)))
theorem d_rcount_156 : decode prog_14_method_95_code 156 = .ok (.iinc 3 1, 3) := by decide +kernel
set_option maxHeartbeats 4000000 in
set_option maxRecDepth 100000 in
theorem w_rcount_B137 {p : Program} {l : Launch} {e : Env} {s : State} {m : MethodId} {args : Array Value} {below : List Frame} {meth : Method} {c : Code} {A : Nat → Prop} {D : va_G} {md : Nat → Nat} {mc : Nat → ClassId} {Q : State → Prop} (hC : MCx "JoinedTreesModel" prog_14_method_95_code 5 (some .int) p s m args meth c A D mc) {S : MS} {x1 : Int32} {x3 : Int32} {x4 : Int32} {o : ((MS × Int32 × Int32 × Int32) ⊕ (MS × Int32))} (Heq : m_rcount_B137 S x1 x3 x4 = some o) (Ka : ∀ b : MS × Int32 × Int32 × Int32, o = .inl b → ∀ (H : Heap) (locs : List Loc) (ls : Array Slot), va_P D cls (mw md mc b.1) H → va_D A (mw md mc b.1) → va_S A s.heap H locs → lv_has ls 5 [(0, .ref (md 100)), (1, .int b.2.1), (3, .int b.2.2.1), (4, .int b.2.2.2)] → W p l e ({ frames := 2, cells := 0, slots := 0, locals := 47 }) s m args below meth c H locs 0 0 Q (F0 m 137 ls [])) (K0 : ∀ b : MS × Int32, o = .inr b → ∀ (H : Heap) (locs : List Loc) (ls : Array Slot), va_P D cls (mw md mc b.1) H → va_D A (mw md mc b.1) → va_S A s.heap H locs → lv_has ls 5 [(0, .ref (md 100)), (3, .int b.2)] → W p l e ({ frames := 2, cells := 0, slots := 0, locals := 47 }) s m args below meth c H locs 0 0 Q (F0 m 165 ls [])) : ∀ (H : Heap) (locs : List Loc) (ls : Array Slot), va_P D cls (mw md mc S) H → va_D A (mw md mc S) → va_S A s.heap H locs → lv_has ls 5 [(0, .ref (md 100)), (1, .int x1), (3, .int x3), (4, .int x4)] → W p l e ({ frames := 2, cells := 0, slots := 0, locals := 47 }) s m args below meth c H locs 0 0 Q (F0 m 137 ls []) := by
  intro H locs ls hP hD hS hl
  obtain ⟨hx, hb, hr, hml, hown, hts, hK, hA⟩ := id hC
  unfold m_rcount_B137 at Heq
  refine lv_iload hx hb d_rcount_137 (lv_at hl 3 rfl) ?_
  refine lv_aload_n hx hb d_rcount_139 rfl (lv_at hl 0 rfl) ?_
  refine va_get (D := D) (ci := 12) (v := .int (S.i 34)) (C := R_MM) (T := F_MM) (N := 77) hx hb hts i_MM hown hK hP 0 rfl rfl 34 (by decide) (hts _ kw_1416) (fun _ h9 => h9) rfl d_rcount_140 ?_
  refine lv_icmp_ge (tgt := 165) hx hb d_rcount_143 (by decide) (fun c_1 => ?_) (fun c_1 => ?_)
  · replace Heq := (if_pos c_1).symm.trans Heq
    exact K0 _ (Option.some.inj Heq).symm _ _ _ hP hD hS (lv_sub hl [0, 2] rfl)
  · replace Heq := (if_neg c_1).symm.trans Heq
    refine lv_aload_n hx hb d_rcount_146 rfl (lv_at hl 0 rfl) ?_
    refine lv_iload_n hx hb d_rcount_147 rfl (lv_at hl 1 rfl) ?_
    refine lv_iload hx hb d_rcount_148 (lv_at hl 3 rfl) ?_
    obtain ⟨o_2, h_3, Heq⟩ := ob_some Heq
    have hFc := fr_all hD hS hA
    refine va_calli (va_runV (As := [.int x1, .int x4]) (rest := []) ⟨hx, hb, hml, hown, hts⟩ (g_risHead l D H.size h_3) (cw_v 2 hts kw_1823 kw_1820 kw_1822 kp_65 kw_11 rfl rfl (by decide +kernel) ⟨Nat.le_of_ble_eq_true rfl, Nat.le_of_ble_eq_true rfl⟩) ⟨g_blind, va_recv hK hP (ci := 12) (q0 := 0) rfl rfl, fun U hU hW => g_pre hU hW hP hK hD⟩ rfl rfl hl.1 rfl (lv_room (Nat.le_of_ble_eq_true rfl)) d_rcount_150 ⟨Nat.le_of_ble_eq_true rfl, Nat.le_of_ble_eq_true rfl⟩) hS (fun q _ h => hFc q h) hFc (fun rz u t H1 locs ht hvm hw hB hz1 hk1 hS => ?_)
    obtain ⟨hP, -, hD1⟩ := hB
    rw [ht] at hP
    have hD := hD1.weaken (fun _ q _ h => hFc q.1 h)
    generalize H1 = H at hP hS ⊢
    refine W.cs (cells' := 0) (slots' := 0) rfl rfl ?_
    subst hw
    refine lv_if_eq (tgt := 159) hx hb d_rcount_153 (by decide) (fun c_4 => ?_) (fun c_4 => ?_)
    · replace Heq := (if_pos c_4).symm.trans Heq
      exact w_rcount_J159 hC Heq Ka K0 _ _ _ hP hD hS (lv_sub hl [0, 1, 2, 3] rfl)
    · replace Heq := (if_neg c_4).symm.trans Heq
      refine lv_iinc (v := x3 + 1) (lv' := [(3, .int (x3 + 1)), (0, .ref (md 100)), (1, .int x1), (4, .int x4)]) hx hb d_rcount_156 hl (k := 2) rfl rfl (by decide) rfl (fun ls hl => ?_)
      exact w_rcount_J159 hC Heq Ka K0 _ _ _ hP hD hS (lv_sub hl [1, 2, 0, 3] rfl)
def m_rcount_L137 (S : MS) (x1 : Int32) (x3 : Int32) (x4 : Int32) : Option (MS × Int32) := lp (fun a : MS × Int32 × Int32 × Int32 => m_rcount_B137 a.1 a.2.1 a.2.2.1 a.2.2.2) FU (S, x1, x3, x4)
theorem w_rcount_L137 {p : Program} {l : Launch} {e : Env} {s : State} {m : MethodId} {args : Array Value} {below : List Frame} {meth : Method} {c : Code} {A : Nat → Prop} {D : va_G} {md : Nat → Nat} {mc : Nat → ClassId} {Q : State → Prop} (hC : MCx "JoinedTreesModel" prog_14_method_95_code 5 (some .int) p s m args meth c A D mc) {S : MS} {x1 : Int32} {x3 : Int32} {x4 : Int32} {o : MS × Int32} (Heq : m_rcount_L137 S x1 x3 x4 = some o) (K0 : ∀ b : MS × Int32, o = b → ∀ (H : Heap) (locs : List Loc) (ls : Array Slot), va_P D cls (mw md mc b.1) H → va_D A (mw md mc b.1) → va_S A s.heap H locs → lv_has ls 5 [(0, .ref (md 100)), (3, .int b.2)] → W p l e ({ frames := 2, cells := 0, slots := 0, locals := 47 }) s m args below meth c H locs 0 0 Q (F0 m 165 ls [])) : ∀ (H : Heap) (locs : List Loc) (ls : Array Slot), va_P D cls (mw md mc S) H → va_D A (mw md mc S) → va_S A s.heap H locs → lv_has ls 5 [(0, .ref (md 100)), (1, .int x1), (3, .int x3), (4, .int x4)] → W p l e ({ frames := 2, cells := 0, slots := 0, locals := 47 }) s m args below meth c H locs 0 0 Q (F0 m 137 ls []) := by
  refine lp_w (G := fun a : MS × Int32 × Int32 × Int32 => ∀ (H : Heap) (locs : List Loc) (ls : Array Slot), va_P D cls (mw md mc a.1) H → va_D A (mw md mc a.1) → va_S A s.heap H locs → lv_has ls 5 [(0, .ref (md 100)), (1, .int a.2.1), (3, .int a.2.2.1), (4, .int a.2.2.2)] → W p l e ({ frames := 2, cells := 0, slots := 0, locals := 47 }) s m args below meth c H locs 0 0 Q (F0 m 137 ls [])) ?_ FU (S, x1, x3, x4) Heq
  intro a o1 ho Ka Ke
  exact w_rcount_B137 hC ho (fun b h => Ka b h) (fun b h => K0 b (Ke _ h).symm)
def m_rcount_J198 (S : MS) (x1 : Int32) (x3 : Int32) (x4 : Int32) : Option ((MS × Int32 × Int32 × Int32) ⊕ (MS × Int32)) := some (.inl (S, x1, x3, (x4 + 1)))
theorem d_rcount_165 : decode prog_14_method_95_code 165 = .ok (.iload_n 3, 1) := by decide +kernel
theorem d_rcount_166 : decode prog_14_method_95_code 166 = .ok (.ireturn, 1) := by decide +kernel
theorem d_rcount_167 : decode prog_14_method_95_code 167 = .ok (.aload_n 0, 1) := by decide +kernel
theorem d_rcount_168 : decode prog_14_method_95_code 168 = .ok (.iload_n 1, 1) := by decide +kernel
theorem d_rcount_169 : decode prog_14_method_95_code 169 = .ok (.invokevirtual 387, 3) := by decide +kernel
theorem d_rcount_172 : decode prog_14_method_95_code 172 = .ok (.ireturn, 1) := by decide +kernel
theorem d_rcount_173 : decode prog_14_method_95_code 173 = .ok (.iconst 0, 1) := by decide +kernel
theorem d_rcount_174 : decode prog_14_method_95_code 174 = .ok (.istore 4, 2) := by decide +kernel
theorem d_rcount_176 : decode prog_14_method_95_code 176 = .ok (.iload 4, 2) := by decide +kernel
theorem d_rcount_178 : decode prog_14_method_95_code 178 = .ok (.aload_n 0, 1) := by decide +kernel
theorem d_rcount_179 : decode prog_14_method_95_code 179 = .ok (.getfield 195, 3) := by decide +kernel
theorem d_rcount_182 : decode prog_14_method_95_code 182 = .ok (.if_icmp .ge 22, 3) := by decide +kernel
theorem d_rcount_185 : decode prog_14_method_95_code 185 = .ok (.aload_n 0, 1) := by decide +kernel
theorem d_rcount_186 : decode prog_14_method_95_code 186 = .ok (.iload_n 1, 1) := by decide +kernel
theorem d_rcount_187 : decode prog_14_method_95_code 187 = .ok (.iload 4, 2) := by decide +kernel
theorem d_rcount_189 : decode prog_14_method_95_code 189 = .ok (.invokevirtual 230, 3) := by decide +kernel
theorem d_rcount_192 : decode prog_14_method_95_code 192 = .ok (.ifCond .eq 6, 3) := by decide +kernel
theorem d_rcount_198 : decode prog_14_method_95_code 198 = .ok (.iinc 4 1, 3) := by decide +kernel
theorem d_rcount_201 : decode prog_14_method_95_code 201 = .ok (.goto (-25), 3) := by decide +kernel
set_option maxHeartbeats 4000000 in
set_option maxRecDepth 100000 in
theorem w_rcount_J198 {p : Program} {l : Launch} {e : Env} {s : State} {m : MethodId} {args : Array Value} {below : List Frame} {meth : Method} {c : Code} {A : Nat → Prop} {D : va_G} {md : Nat → Nat} {mc : Nat → ClassId} {Q : State → Prop} (hC : MCx "JoinedTreesModel" prog_14_method_95_code 5 (some .int) p s m args meth c A D mc) {S : MS} {x1 : Int32} {x3 : Int32} {x4 : Int32} {o : ((MS × Int32 × Int32 × Int32) ⊕ (MS × Int32))} (Heq : m_rcount_J198 S x1 x3 x4 = some o) (Ka : ∀ b : MS × Int32 × Int32 × Int32, o = .inl b → ∀ (H : Heap) (locs : List Loc) (ls : Array Slot), va_P D cls (mw md mc b.1) H → va_D A (mw md mc b.1) → va_S A s.heap H locs → lv_has ls 5 [(0, .ref (md 100)), (1, .int b.2.1), (3, .int b.2.2.1), (4, .int b.2.2.2)] → W p l e ({ frames := 2, cells := 0, slots := 0, locals := 47 }) s m args below meth c H locs 0 0 Q (F0 m 176 ls [])) (K0 : ∀ b : MS × Int32, o = .inr b → ∀ (H : Heap) (locs : List Loc) (ls : Array Slot), va_P D cls (mw md mc b.1) H → va_D A (mw md mc b.1) → va_S A s.heap H locs → lv_has ls 5 [(0, .ref (md 100)), (3, .int b.2)] → W p l e ({ frames := 2, cells := 0, slots := 0, locals := 47 }) s m args below meth c H locs 0 0 Q (F0 m 204 ls [])) : ∀ (H : Heap) (locs : List Loc) (ls : Array Slot), va_P D cls (mw md mc S) H → va_D A (mw md mc S) → va_S A s.heap H locs → lv_has ls 5 [(0, .ref (md 100)), (1, .int x1), (3, .int x3), (4, .int x4)] → W p l e ({ frames := 2, cells := 0, slots := 0, locals := 47 }) s m args below meth c H locs 0 0 Q (F0 m 198 ls []) := by
  intro H locs ls hP hD hS hl
  obtain ⟨hx, hb, hr, hml, hown, hts, hK, hA⟩ := id hC
  unfold m_rcount_J198 at Heq
  refine lv_iinc (v := x4 + 1) (lv' := [(4, .int (x4 + 1)), (0, .ref (md 100)), (1, .int x1), (3, .int x3)]) hx hb d_rcount_198 hl (k := 3) rfl rfl (by decide) rfl (fun ls hl => ?_)
  refine lv_goto (tgt := 176) hx hb d_rcount_201 (by decide) ?_
  exact Ka _ (Option.some.inj Heq).symm _ _ _ hP hD hS (lv_sub hl [1, 2, 3, 0] rfl)
def m_rcount_B176 (S : MS) (x1 : Int32) (x3 : Int32) (x4 : Int32) : Option ((MS × Int32 × Int32 × Int32) ⊕ (MS × Int32)) := (if S.i 23 ≤ x4 then some (.inr (S, x3)) else ob (m_rowns S x1 x4) (fun o_2 => (if o_2.2 = 0 then m_rcount_J198 o_2.1 x1 x3 x4 else m_rcount_J198 o_2.1 x1 (x3 + 1) x4)))
theorem d_rcount_195 : decode prog_14_method_95_code 195 = .ok (.iinc 3 1, 3) := by decide +kernel
set_option maxHeartbeats 4000000 in
set_option maxRecDepth 100000 in
theorem w_rcount_B176 {p : Program} {l : Launch} {e : Env} {s : State} {m : MethodId} {args : Array Value} {below : List Frame} {meth : Method} {c : Code} {A : Nat → Prop} {D : va_G} {md : Nat → Nat} {mc : Nat → ClassId} {Q : State → Prop} (hC : MCx "JoinedTreesModel" prog_14_method_95_code 5 (some .int) p s m args meth c A D mc) {S : MS} {x1 : Int32} {x3 : Int32} {x4 : Int32} {o : ((MS × Int32 × Int32 × Int32) ⊕ (MS × Int32))} (Heq : m_rcount_B176 S x1 x3 x4 = some o) (Ka : ∀ b : MS × Int32 × Int32 × Int32, o = .inl b → ∀ (H : Heap) (locs : List Loc) (ls : Array Slot), va_P D cls (mw md mc b.1) H → va_D A (mw md mc b.1) → va_S A s.heap H locs → lv_has ls 5 [(0, .ref (md 100)), (1, .int b.2.1), (3, .int b.2.2.1), (4, .int b.2.2.2)] → W p l e ({ frames := 2, cells := 0, slots := 0, locals := 47 }) s m args below meth c H locs 0 0 Q (F0 m 176 ls [])) (K0 : ∀ b : MS × Int32, o = .inr b → ∀ (H : Heap) (locs : List Loc) (ls : Array Slot), va_P D cls (mw md mc b.1) H → va_D A (mw md mc b.1) → va_S A s.heap H locs → lv_has ls 5 [(0, .ref (md 100)), (3, .int b.2)] → W p l e ({ frames := 2, cells := 0, slots := 0, locals := 47 }) s m args below meth c H locs 0 0 Q (F0 m 204 ls [])) : ∀ (H : Heap) (locs : List Loc) (ls : Array Slot), va_P D cls (mw md mc S) H → va_D A (mw md mc S) → va_S A s.heap H locs → lv_has ls 5 [(0, .ref (md 100)), (1, .int x1), (3, .int x3), (4, .int x4)] → W p l e ({ frames := 2, cells := 0, slots := 0, locals := 47 }) s m args below meth c H locs 0 0 Q (F0 m 176 ls []) := by
  intro H locs ls hP hD hS hl
  obtain ⟨hx, hb, hr, hml, hown, hts, hK, hA⟩ := id hC
  unfold m_rcount_B176 at Heq
  refine lv_iload hx hb d_rcount_176 (lv_at hl 3 rfl) ?_
  refine lv_aload_n hx hb d_rcount_178 rfl (lv_at hl 0 rfl) ?_
  refine va_get (D := D) (ci := 12) (v := .int (S.i 23)) (C := R_MM) (T := F_MM) (N := 77) hx hb hts i_MM hown hK hP 0 rfl rfl 23 (by decide) (hts _ kw_1405) (fun _ h9 => h9) rfl d_rcount_179 ?_
  refine lv_icmp_ge (tgt := 204) hx hb d_rcount_182 (by decide) (fun c_1 => ?_) (fun c_1 => ?_)
  · replace Heq := (if_pos c_1).symm.trans Heq
    exact K0 _ (Option.some.inj Heq).symm _ _ _ hP hD hS (lv_sub hl [0, 2] rfl)
  · replace Heq := (if_neg c_1).symm.trans Heq
    refine lv_aload_n hx hb d_rcount_185 rfl (lv_at hl 0 rfl) ?_
    refine lv_iload_n hx hb d_rcount_186 rfl (lv_at hl 1 rfl) ?_
    refine lv_iload hx hb d_rcount_187 (lv_at hl 3 rfl) ?_
    obtain ⟨o_2, h_3, Heq⟩ := ob_some Heq
    have hFc := fr_all hD hS hA
    refine va_calli (va_runV (As := [.int x1, .int x4]) (rest := []) ⟨hx, hb, hml, hown, hts⟩ (g_rowns l D H.size h_3) (cw_v 2 hts kw_1692 kw_1689 kw_1691 kp_42 kw_11 rfl rfl (by decide +kernel) ⟨Nat.le_of_ble_eq_true rfl, Nat.le_of_ble_eq_true rfl⟩) ⟨g_blind, va_recv hK hP (ci := 12) (q0 := 0) rfl rfl, fun U hU hW => g_pre hU hW hP hK hD⟩ rfl rfl hl.1 rfl (lv_room (Nat.le_of_ble_eq_true rfl)) d_rcount_189 ⟨Nat.le_of_ble_eq_true rfl, Nat.le_of_ble_eq_true rfl⟩) hS (fun q _ h => hFc q h) hFc (fun rz u t H1 locs ht hvm hw hB hz1 hk1 hS => ?_)
    obtain ⟨hP, -, hD1⟩ := hB
    rw [ht] at hP
    have hD := hD1.weaken (fun _ q _ h => hFc q.1 h)
    generalize H1 = H at hP hS ⊢
    refine W.cs (cells' := 0) (slots' := 0) rfl rfl ?_
    subst hw
    refine lv_if_eq (tgt := 198) hx hb d_rcount_192 (by decide) (fun c_4 => ?_) (fun c_4 => ?_)
    · replace Heq := (if_pos c_4).symm.trans Heq
      exact w_rcount_J198 hC Heq Ka K0 _ _ _ hP hD hS (lv_sub hl [0, 1, 2, 3] rfl)
    · replace Heq := (if_neg c_4).symm.trans Heq
      refine lv_iinc (v := x3 + 1) (lv' := [(3, .int (x3 + 1)), (0, .ref (md 100)), (1, .int x1), (4, .int x4)]) hx hb d_rcount_195 hl (k := 2) rfl rfl (by decide) rfl (fun ls hl => ?_)
      exact w_rcount_J198 hC Heq Ka K0 _ _ _ hP hD hS (lv_sub hl [1, 2, 0, 3] rfl)
def m_rcount_L176 (S : MS) (x1 : Int32) (x3 : Int32) (x4 : Int32) : Option (MS × Int32) := lp (fun a : MS × Int32 × Int32 × Int32 => m_rcount_B176 a.1 a.2.1 a.2.2.1 a.2.2.2) FU (S, x1, x3, x4)
theorem w_rcount_L176 {p : Program} {l : Launch} {e : Env} {s : State} {m : MethodId} {args : Array Value} {below : List Frame} {meth : Method} {c : Code} {A : Nat → Prop} {D : va_G} {md : Nat → Nat} {mc : Nat → ClassId} {Q : State → Prop} (hC : MCx "JoinedTreesModel" prog_14_method_95_code 5 (some .int) p s m args meth c A D mc) {S : MS} {x1 : Int32} {x3 : Int32} {x4 : Int32} {o : MS × Int32} (Heq : m_rcount_L176 S x1 x3 x4 = some o) (K0 : ∀ b : MS × Int32, o = b → ∀ (H : Heap) (locs : List Loc) (ls : Array Slot), va_P D cls (mw md mc b.1) H → va_D A (mw md mc b.1) → va_S A s.heap H locs → lv_has ls 5 [(0, .ref (md 100)), (3, .int b.2)] → W p l e ({ frames := 2, cells := 0, slots := 0, locals := 47 }) s m args below meth c H locs 0 0 Q (F0 m 204 ls [])) : ∀ (H : Heap) (locs : List Loc) (ls : Array Slot), va_P D cls (mw md mc S) H → va_D A (mw md mc S) → va_S A s.heap H locs → lv_has ls 5 [(0, .ref (md 100)), (1, .int x1), (3, .int x3), (4, .int x4)] → W p l e ({ frames := 2, cells := 0, slots := 0, locals := 47 }) s m args below meth c H locs 0 0 Q (F0 m 176 ls []) := by
  refine lp_w (G := fun a : MS × Int32 × Int32 × Int32 => ∀ (H : Heap) (locs : List Loc) (ls : Array Slot), va_P D cls (mw md mc a.1) H → va_D A (mw md mc a.1) → va_S A s.heap H locs → lv_has ls 5 [(0, .ref (md 100)), (1, .int a.2.1), (3, .int a.2.2.1), (4, .int a.2.2.2)] → W p l e ({ frames := 2, cells := 0, slots := 0, locals := 47 }) s m args below meth c H locs 0 0 Q (F0 m 176 ls [])) ?_ FU (S, x1, x3, x4) Heq
  intro a o1 ho Ka Ke
  exact w_rcount_B176 hC ho (fun b h => Ka b h) (fun b h => K0 b (Ke _ h).symm)
def m_rcount_J243 (S : MS) (t0 : Int32) : Option (MS × Int32) := some (S, t0)
theorem d_rcount_204 : decode prog_14_method_95_code 204 = .ok (.iload_n 3, 1) := by decide +kernel
theorem d_rcount_205 : decode prog_14_method_95_code 205 = .ok (.ireturn, 1) := by decide +kernel
theorem d_rcount_206 : decode prog_14_method_95_code 206 = .ok (.aload_n 0, 1) := by decide +kernel
theorem d_rcount_207 : decode prog_14_method_95_code 207 = .ok (.iload_n 1, 1) := by decide +kernel
theorem d_rcount_208 : decode prog_14_method_95_code 208 = .ok (.invokevirtual 241, 3) := by decide +kernel
theorem d_rcount_211 : decode prog_14_method_95_code 211 = .ok (.ireturn, 1) := by decide +kernel
theorem d_rcount_212 : decode prog_14_method_95_code 212 = .ok (.aload_n 0, 1) := by decide +kernel
theorem d_rcount_213 : decode prog_14_method_95_code 213 = .ok (.iload_n 1, 1) := by decide +kernel
theorem d_rcount_214 : decode prog_14_method_95_code 214 = .ok (.invokevirtual 408, 3) := by decide +kernel
theorem d_rcount_217 : decode prog_14_method_95_code 217 = .ok (.ireturn, 1) := by decide +kernel
theorem d_rcount_218 : decode prog_14_method_95_code 218 = .ok (.iload_n 2, 1) := by decide +kernel
theorem d_rcount_219 : decode prog_14_method_95_code 219 = .ok (.bipush 10, 2) := by decide +kernel
theorem d_rcount_221 : decode prog_14_method_95_code 221 = .ok (.if_icmp .lt 21, 3) := by decide +kernel
theorem d_rcount_242 : decode prog_14_method_95_code 242 = .ok (.iconst (-1), 1) := by decide +kernel
theorem d_rcount_243 : decode prog_14_method_95_code 243 = .ok (.ireturn, 1) := by decide +kernel
set_option maxHeartbeats 4000000 in
set_option maxRecDepth 100000 in
theorem w_rcount_J243 {p : Program} {l : Launch} {e : Env} {s : State} {m : MethodId} {args : Array Value} {below : List Frame} {meth : Method} {c : Code} {A : Nat → Prop} {D : va_G} {md : Nat → Nat} {mc : Nat → ClassId} {Q : State → Prop} (hC : MCx "JoinedTreesModel" prog_14_method_95_code 5 (some .int) p s m args meth c A D mc) {S : MS} {t0 : Int32} {o : MS × Int32} (Heq : m_rcount_J243 S t0 = some o) (Kr : ∀ r : MS × Int32, o = r → ∀ (pc : Nat) (H : Heap) (locs : List Loc) (ls : Array Slot), decode prog_14_method_95_code pc = .ok (.ireturn, 1) → va_P D cls (mw md mc r.1) H → va_D A (mw md mc r.1) → va_S A s.heap H locs → W p l e ({ frames := 2, cells := 0, slots := 0, locals := 47 }) s m args below meth c H locs 0 0 Q (F0 m pc ls [.int r.2])) : ∀ (H : Heap) (locs : List Loc) (ls : Array Slot), va_P D cls (mw md mc S) H → va_D A (mw md mc S) → va_S A s.heap H locs → lv_has ls 5 [(0, .ref (md 100))] → W p l e ({ frames := 2, cells := 0, slots := 0, locals := 47 }) s m args below meth c H locs 0 0 Q (F0 m 243 ls [.int t0]) := by
  intro H locs ls hP hD hS hl
  obtain ⟨hx, hb, hr, hml, hown, hts, hK, hA⟩ := id hC
  unfold m_rcount_J243 at Heq
  exact Kr _ (Option.some.inj Heq).symm 243 _ _ _ d_rcount_243 hP hD hS
def m_rcount_J242 (S : MS) : Option (MS × Int32) := m_rcount_J243 S (-1)
set_option maxHeartbeats 4000000 in
set_option maxRecDepth 100000 in
theorem w_rcount_J242 {p : Program} {l : Launch} {e : Env} {s : State} {m : MethodId} {args : Array Value} {below : List Frame} {meth : Method} {c : Code} {A : Nat → Prop} {D : va_G} {md : Nat → Nat} {mc : Nat → ClassId} {Q : State → Prop} (hC : MCx "JoinedTreesModel" prog_14_method_95_code 5 (some .int) p s m args meth c A D mc) {S : MS} {o : MS × Int32} (Heq : m_rcount_J242 S = some o) (Kr : ∀ r : MS × Int32, o = r → ∀ (pc : Nat) (H : Heap) (locs : List Loc) (ls : Array Slot), decode prog_14_method_95_code pc = .ok (.ireturn, 1) → va_P D cls (mw md mc r.1) H → va_D A (mw md mc r.1) → va_S A s.heap H locs → W p l e ({ frames := 2, cells := 0, slots := 0, locals := 47 }) s m args below meth c H locs 0 0 Q (F0 m pc ls [.int r.2])) : ∀ (H : Heap) (locs : List Loc) (ls : Array Slot), va_P D cls (mw md mc S) H → va_D A (mw md mc S) → va_S A s.heap H locs → lv_has ls 5 [(0, .ref (md 100))] → W p l e ({ frames := 2, cells := 0, slots := 0, locals := 47 }) s m args below meth c H locs 0 0 Q (F0 m 242 ls []) := by
  intro H locs ls hP hD hS hl
  obtain ⟨hx, hb, hr, hml, hown, hts, hK, hA⟩ := id hC
  unfold m_rcount_J242 at Heq
  refine lv_iconst (v := (-1)) hx hb d_rcount_242 (by decide) ?_
  exact w_rcount_J243 hC Heq Kr _ _ _ hP hD hS (lv_sub hl [0] rfl)
def m_rcount_J0 (S : MS) (x1 : Int32) (x2 : Int32) : Option (MS × Int32) := ob (m_risReplica S x1) (fun o_1 => (if o_1.2 = 0 then ob (m_rno o_1.1 1) (fun o_29 => some (o_29.1, o_29.2)) else (if x2 = 0 then ob (m_rcount_L67 (o_1.1.setI 0 0) x1 0 0) (fun b_5 => some (b_5.1, b_5.2)) else (if x2 = 1 then ob (m_rcount_L102 (o_1.1.setI 0 0) x1 0 0) (fun b_8 => some (b_8.1, b_8.2)) else (if x2 = 2 then ob (m_rcount_L137 (o_1.1.setI 0 0) x1 0 0) (fun b_11 => some (b_11.1, b_11.2)) else (if x2 = 3 then ob (m_ropen (o_1.1.setI 0 0) x1) (fun o_14 => some (o_14.1, o_14.2)) else (if x2 = 4 then ob (m_rcount_L176 (o_1.1.setI 0 0) x1 0 0) (fun b_17 => some (b_17.1, b_17.2)) else (if x2 = 5 then ob (m_rgreatest (o_1.1.setI 0 0) x1) (fun o_20 => some (o_20.1, o_20.2)) else (if x2 = 6 then ob (m_rview (o_1.1.setI 0 0) x1) (fun o_23 => some (o_23.1, o_23.2)) else (if x2 < 10 then m_rcount_J242 (o_1.1.setI 0 0) else (if 18 ≤ x2 then m_rcount_J242 (o_1.1.setI 0 0) else ob (m_rnumberOf (o_1.1.setI 0 0) x1 (x2 - 10)) (fun o_27 => m_rcount_J243 o_27.1 o_27.2))))))))))))
theorem d_rcount_224 : decode prog_14_method_95_code 224 = .ok (.iload_n 2, 1) := by decide +kernel
theorem d_rcount_225 : decode prog_14_method_95_code 225 = .ok (.bipush 18, 2) := by decide +kernel
theorem d_rcount_227 : decode prog_14_method_95_code 227 = .ok (.if_icmp .ge 15, 3) := by decide +kernel
theorem d_rcount_230 : decode prog_14_method_95_code 230 = .ok (.aload_n 0, 1) := by decide +kernel
theorem d_rcount_231 : decode prog_14_method_95_code 231 = .ok (.iload_n 1, 1) := by decide +kernel
theorem d_rcount_232 : decode prog_14_method_95_code 232 = .ok (.iload_n 2, 1) := by decide +kernel
theorem d_rcount_233 : decode prog_14_method_95_code 233 = .ok (.bipush 10, 2) := by decide +kernel
theorem d_rcount_235 : decode prog_14_method_95_code 235 = .ok (.isub, 1) := by decide +kernel
theorem d_rcount_236 : decode prog_14_method_95_code 236 = .ok (.invokevirtual 390, 3) := by decide +kernel
theorem d_rcount_239 : decode prog_14_method_95_code 239 = .ok (.goto 4, 3) := by decide +kernel
theorem d_rcount_7 : decode prog_14_method_95_code 7 = .ok (.aload_n 0, 1) := by decide +kernel
theorem d_rcount_8 : decode prog_14_method_95_code 8 = .ok (.iconst 1, 1) := by decide +kernel
theorem d_rcount_9 : decode prog_14_method_95_code 9 = .ok (.invokevirtual 191, 3) := by decide +kernel
theorem d_rcount_12 : decode prog_14_method_95_code 12 = .ok (.ireturn, 1) := by decide +kernel
set_option maxHeartbeats 4000000 in
set_option maxRecDepth 100000 in
theorem w_rcount_J0 {p : Program} {l : Launch} {e : Env} {s : State} {m : MethodId} {args : Array Value} {below : List Frame} {meth : Method} {c : Code} {A : Nat → Prop} {D : va_G} {md : Nat → Nat} {mc : Nat → ClassId} {Q : State → Prop} (hC : MCx "JoinedTreesModel" prog_14_method_95_code 5 (some .int) p s m args meth c A D mc) {S : MS} {x1 : Int32} {x2 : Int32} {o : MS × Int32} (Heq : m_rcount_J0 S x1 x2 = some o) (Kr : ∀ r : MS × Int32, o = r → ∀ (pc : Nat) (H : Heap) (locs : List Loc) (ls : Array Slot), decode prog_14_method_95_code pc = .ok (.ireturn, 1) → va_P D cls (mw md mc r.1) H → va_D A (mw md mc r.1) → va_S A s.heap H locs → W p l e ({ frames := 2, cells := 0, slots := 0, locals := 47 }) s m args below meth c H locs 0 0 Q (F0 m pc ls [.int r.2])) : ∀ (H : Heap) (locs : List Loc) (ls : Array Slot), va_P D cls (mw md mc S) H → va_D A (mw md mc S) → va_S A s.heap H locs → lv_has ls 5 [(0, .ref (md 100)), (1, .int x1), (2, .int x2)] → W p l e ({ frames := 2, cells := 0, slots := 0, locals := 47 }) s m args below meth c H locs 0 0 Q (F0 m 0 ls []) := by
  intro H locs ls hP hD hS hl
  obtain ⟨hx, hb, hr, hml, hown, hts, hK, hA⟩ := id hC
  unfold m_rcount_J0 at Heq
  refine lv_iload_n hx hb d_rcount_0 rfl (lv_at hl 1 rfl) ?_
  obtain ⟨o_1, h_2, Heq⟩ := ob_some Heq
  have hFc := fr_all hD hS hA
  refine va_calli (va_runS (As := [.int x1]) (rest := []) ⟨hx, hb, hml, hown, hts⟩ (g_risReplica l D H.size h_2) (cw_s 1 hts kw_1641 kw_1639 kw_1640 kw_11 rfl rfl (by decide +kernel) ⟨Nat.le_of_ble_eq_true rfl, Nat.le_of_ble_eq_true rfl⟩) ⟨g_blind, fun U hU hW => g_pre hU hW hP hK hD⟩ rfl rfl hl.1 rfl (lv_room (Nat.le_of_ble_eq_true rfl)) d_rcount_1 ⟨Nat.le_of_ble_eq_true rfl, Nat.le_of_ble_eq_true rfl⟩) hS (fun q _ h => hFc q h) hFc (fun rz u t H1 locs ht hvm hw hB hz1 hk1 hS => ?_)
  obtain ⟨hP, -, hD1⟩ := hB
  rw [ht] at hP
  have hD := hD1.weaken (fun _ q _ h => hFc q.1 h)
  generalize H1 = H at hP hS ⊢
  refine W.cs (cells' := 0) (slots' := 0) rfl rfl ?_
  subst hw
  refine lv_if_ne (tgt := 13) hx hb d_rcount_4 (by decide) (fun c_3 => ?_) (fun c_3 => ?_)
  · replace Heq := (if_neg c_3).symm.trans Heq
    refine lv_aload_n hx hb d_rcount_13 rfl (lv_at hl 0 rfl) ?_
    refine lv_iconst (v := 0) hx hb d_rcount_14 (by decide) ?_
    refine va_put (D := D) (ci := 12) (v := .int 0) (ty := .int) (C := R_MM) (T := F_MM) (N := 77) hx hb hts i_MM t_MM t_MM_ok n_MM hown hK hP hD hS 0 rfl rfl 0 (by decide) (hts _ kw_1382) (fun _ h9 => h9) rfl (by decide +kernel) rfl rfl (Nat.le_of_ble_eq_true rfl) d_rcount_15 (fun H locs hP hD hS => ?_)
    rw [mw_I0] at hP hD
    refine lv_iconst (v := 0) hx hb d_rcount_18 (by decide) ?_
    refine lv_istore_n (lv' := [(3, .int 0), (0, .ref (md 100)), (1, .int x1), (2, .int x2)]) hx hb d_rcount_19 rfl hl (by decide) rfl (fun ls hl => ?_)
    refine lv_iload_n hx hb d_rcount_20 rfl (lv_at hl 3 rfl) ?_
    obtain ⟨xs21, hxs21⟩ : ∃ z, x2 = z := ⟨_, rfl⟩
    by_cases c_4 : x2 = 0
    · replace Heq := (if_pos c_4).symm.trans Heq
      refine w_i (y := 0) c_4 ?_
      refine lv_tableIn (tgt := 64) hx hb d_rcount_21 (by decide) (by decide) rfl (by decide) ?_
      refine lv_iconst (v := 0) hx hb d_rcount_64 (by decide) ?_
      refine lv_istore (lv' := [(4, .int 0), (3, .int 0), (0, .ref (md 100)), (1, .int x1), (2, .int x2)]) hx hb d_rcount_65 hl (by decide) rfl (fun ls hl => ?_)
      obtain ⟨b_5, h_6, Heq⟩ := ob_some Heq
      refine w_rcount_L67 hC h_6 (fun b h => ?_) _ _ _ hP hD hS (lv_sub hl [2, 3, 1, 0] rfl)
      subst h
      intro H locs ls hP hD hS hl
      refine lv_iload_n hx hb d_rcount_97 rfl (lv_at hl 1 rfl) ?_
      exact Kr _ (Option.some.inj Heq).symm 98 _ _ _ d_rcount_98 hP hD hS
    replace Heq := (if_neg c_4).symm.trans Heq
    by_cases c_7 : x2 = 1
    · replace Heq := (if_pos c_7).symm.trans Heq
      refine w_i (y := 1) c_7 ?_
      refine lv_tableIn (tgt := 99) hx hb d_rcount_21 (by decide) (by decide) rfl (by decide) ?_
      refine lv_iconst (v := 0) hx hb d_rcount_99 (by decide) ?_
      refine lv_istore (lv' := [(4, .int 0), (3, .int 0), (0, .ref (md 100)), (1, .int x1), (2, .int x2)]) hx hb d_rcount_100 hl (by decide) rfl (fun ls hl => ?_)
      obtain ⟨b_8, h_9, Heq⟩ := ob_some Heq
      refine w_rcount_L102 hC h_9 (fun b h => ?_) _ _ _ hP hD hS (lv_sub hl [2, 3, 1, 0] rfl)
      subst h
      intro H locs ls hP hD hS hl
      refine lv_iload_n hx hb d_rcount_132 rfl (lv_at hl 1 rfl) ?_
      exact Kr _ (Option.some.inj Heq).symm 133 _ _ _ d_rcount_133 hP hD hS
    replace Heq := (if_neg c_7).symm.trans Heq
    by_cases c_10 : x2 = 2
    · replace Heq := (if_pos c_10).symm.trans Heq
      refine w_i (y := 2) c_10 ?_
      refine lv_tableIn (tgt := 134) hx hb d_rcount_21 (by decide) (by decide) rfl (by decide) ?_
      refine lv_iconst (v := 0) hx hb d_rcount_134 (by decide) ?_
      refine lv_istore (lv' := [(4, .int 0), (3, .int 0), (0, .ref (md 100)), (1, .int x1), (2, .int x2)]) hx hb d_rcount_135 hl (by decide) rfl (fun ls hl => ?_)
      obtain ⟨b_11, h_12, Heq⟩ := ob_some Heq
      refine w_rcount_L137 hC h_12 (fun b h => ?_) _ _ _ hP hD hS (lv_sub hl [2, 3, 1, 0] rfl)
      subst h
      intro H locs ls hP hD hS hl
      refine lv_iload_n hx hb d_rcount_165 rfl (lv_at hl 1 rfl) ?_
      exact Kr _ (Option.some.inj Heq).symm 166 _ _ _ d_rcount_166 hP hD hS
    replace Heq := (if_neg c_10).symm.trans Heq
    by_cases c_13 : x2 = 3
    · replace Heq := (if_pos c_13).symm.trans Heq
      refine w_i (y := 3) c_13 ?_
      refine lv_tableIn (tgt := 167) hx hb d_rcount_21 (by decide) (by decide) rfl (by decide) ?_
      refine lv_aload_n hx hb d_rcount_167 rfl (lv_at hl 1 rfl) ?_
      refine lv_iload_n hx hb d_rcount_168 rfl (lv_at hl 2 rfl) ?_
      obtain ⟨o_14, h_15, Heq⟩ := ob_some Heq
      have hFc := fr_all hD hS hA
      refine va_calli (va_runV (As := [.int x1]) (rest := []) ⟨hx, hb, hml, hown, hts⟩ (g_ropen l D H.size h_15) (cw_v 1 hts kw_1815 kw_1812 kw_1814 kp_63 kw_11 rfl rfl (by decide +kernel) ⟨Nat.le_of_ble_eq_true rfl, Nat.le_of_ble_eq_true rfl⟩) ⟨g_blind, va_recv hK hP (ci := 12) (q0 := 0) rfl rfl, fun U hU hW => g_pre hU hW hP hK hD⟩ rfl rfl hl.1 rfl (lv_room (Nat.le_of_ble_eq_true rfl)) d_rcount_169 ⟨Nat.le_of_ble_eq_true rfl, Nat.le_of_ble_eq_true rfl⟩) hS (fun q _ h => hFc q h) hFc (fun rz u t H1 locs ht hvm hw hB hz1 hk1 hS => ?_)
      obtain ⟨hP, -, hD1⟩ := hB
      rw [ht] at hP
      have hD := hD1.weaken (fun _ q _ h => hFc q.1 h)
      generalize H1 = H at hP hS ⊢
      refine W.cs (cells' := 0) (slots' := 0) rfl rfl ?_
      subst hw
      exact Kr _ (Option.some.inj Heq).symm 172 _ _ _ d_rcount_172 hP hD hS
    replace Heq := (if_neg c_13).symm.trans Heq
    by_cases c_16 : x2 = 4
    · replace Heq := (if_pos c_16).symm.trans Heq
      refine w_i (y := 4) c_16 ?_
      refine lv_tableIn (tgt := 173) hx hb d_rcount_21 (by decide) (by decide) rfl (by decide) ?_
      refine lv_iconst (v := 0) hx hb d_rcount_173 (by decide) ?_
      refine lv_istore (lv' := [(4, .int 0), (3, .int 0), (0, .ref (md 100)), (1, .int x1), (2, .int x2)]) hx hb d_rcount_174 hl (by decide) rfl (fun ls hl => ?_)
      obtain ⟨b_17, h_18, Heq⟩ := ob_some Heq
      refine w_rcount_L176 hC h_18 (fun b h => ?_) _ _ _ hP hD hS (lv_sub hl [2, 3, 1, 0] rfl)
      subst h
      intro H locs ls hP hD hS hl
      refine lv_iload_n hx hb d_rcount_204 rfl (lv_at hl 1 rfl) ?_
      exact Kr _ (Option.some.inj Heq).symm 205 _ _ _ d_rcount_205 hP hD hS
    replace Heq := (if_neg c_16).symm.trans Heq
    by_cases c_19 : x2 = 5
    · replace Heq := (if_pos c_19).symm.trans Heq
      refine w_i (y := 5) c_19 ?_
      refine lv_tableIn (tgt := 206) hx hb d_rcount_21 (by decide) (by decide) rfl (by decide) ?_
      refine lv_aload_n hx hb d_rcount_206 rfl (lv_at hl 1 rfl) ?_
      refine lv_iload_n hx hb d_rcount_207 rfl (lv_at hl 2 rfl) ?_
      obtain ⟨o_20, h_21, Heq⟩ := ob_some Heq
      have hFc := fr_all hD hS hA
      refine va_calli (va_runV (As := [.int x1]) (rest := []) ⟨hx, hb, hml, hown, hts⟩ (g_rgreatest l D H.size h_21) (cw_v 1 hts kw_1688 kw_1685 kw_1687 kp_41 kw_11 rfl rfl (by decide +kernel) ⟨Nat.le_of_ble_eq_true rfl, Nat.le_of_ble_eq_true rfl⟩) ⟨g_blind, va_recv hK hP (ci := 12) (q0 := 0) rfl rfl, fun U hU hW => g_pre hU hW hP hK hD⟩ rfl rfl hl.1 rfl (lv_room (Nat.le_of_ble_eq_true rfl)) d_rcount_208 ⟨Nat.le_of_ble_eq_true rfl, Nat.le_of_ble_eq_true rfl⟩) hS (fun q _ h => hFc q h) hFc (fun rz u t H1 locs ht hvm hw hB hz1 hk1 hS => ?_)
      obtain ⟨hP, -, hD1⟩ := hB
      rw [ht] at hP
      have hD := hD1.weaken (fun _ q _ h => hFc q.1 h)
      generalize H1 = H at hP hS ⊢
      refine W.cs (cells' := 0) (slots' := 0) rfl rfl ?_
      subst hw
      exact Kr _ (Option.some.inj Heq).symm 211 _ _ _ d_rcount_211 hP hD hS
    replace Heq := (if_neg c_19).symm.trans Heq
    by_cases c_22 : x2 = 6
    · replace Heq := (if_pos c_22).symm.trans Heq
      refine w_i (y := 6) c_22 ?_
      refine lv_tableIn (tgt := 212) hx hb d_rcount_21 (by decide) (by decide) rfl (by decide) ?_
      refine lv_aload_n hx hb d_rcount_212 rfl (lv_at hl 1 rfl) ?_
      refine lv_iload_n hx hb d_rcount_213 rfl (lv_at hl 2 rfl) ?_
      obtain ⟨o_23, h_24, Heq⟩ := ob_some Heq
      have hFc := fr_all hD hS hA
      refine va_calli (va_runV (As := [.int x1]) (rest := []) ⟨hx, hb, hml, hown, hts⟩ (g_rview l D H.size h_24) (cw_v 1 hts kw_1855 kw_1852 kw_1854 kp_69 kw_11 rfl rfl (by decide +kernel) ⟨Nat.le_of_ble_eq_true rfl, Nat.le_of_ble_eq_true rfl⟩) ⟨g_blind, va_recv hK hP (ci := 12) (q0 := 0) rfl rfl, fun U hU hW => g_pre hU hW hP hK hD⟩ rfl rfl hl.1 rfl (lv_room (Nat.le_of_ble_eq_true rfl)) d_rcount_214 ⟨Nat.le_of_ble_eq_true rfl, Nat.le_of_ble_eq_true rfl⟩) hS (fun q _ h => hFc q h) hFc (fun rz u t H1 locs ht hvm hw hB hz1 hk1 hS => ?_)
      obtain ⟨hP, -, hD1⟩ := hB
      rw [ht] at hP
      have hD := hD1.weaken (fun _ q _ h => hFc q.1 h)
      generalize H1 = H at hP hS ⊢
      refine W.cs (cells' := 0) (slots' := 0) rfl rfl ?_
      subst hw
      exact Kr _ (Option.some.inj Heq).symm 217 _ _ _ d_rcount_217 hP hD hS
    replace Heq := (if_neg c_22).symm.trans Heq
    refine lv_tableOut (tgt := 218) hx hb d_rcount_21 (by have q0 : (x2).toInt ≠ 0 := fun h => c_4 (Int32.toInt_inj.mp (h.trans (by decide))); have q1 : (x2).toInt ≠ 1 := fun h => c_7 (Int32.toInt_inj.mp (h.trans (by decide))); have q2 : (x2).toInt ≠ 2 := fun h => c_10 (Int32.toInt_inj.mp (h.trans (by decide))); have q3 : (x2).toInt ≠ 3 := fun h => c_13 (Int32.toInt_inj.mp (h.trans (by decide))); have q4 : (x2).toInt ≠ 4 := fun h => c_16 (Int32.toInt_inj.mp (h.trans (by decide))); have q5 : (x2).toInt ≠ 5 := fun h => c_19 (Int32.toInt_inj.mp (h.trans (by decide))); have q6 : (x2).toInt ≠ 6 := fun h => c_22 (Int32.toInt_inj.mp (h.trans (by decide))); omega) (by decide) ?_
    refine lv_iload_n hx hb d_rcount_218 rfl (lv_at hl 3 rfl) ?_
    refine lv_bipush (v := 10) hx hb d_rcount_219 (by decide) ?_
    refine lv_icmp_lt (tgt := 242) hx hb d_rcount_221 (by decide) (fun c_25 => ?_) (fun c_25 => ?_)
    · replace Heq := (if_pos c_25).symm.trans Heq
      exact w_rcount_J242 hC Heq Kr _ _ _ hP hD hS (lv_sub hl [1] rfl)
    · replace Heq := (if_neg c_25).symm.trans Heq
      refine lv_iload_n hx hb d_rcount_224 rfl (lv_at hl 3 rfl) ?_
      refine lv_bipush (v := 18) hx hb d_rcount_225 (by decide) ?_
      refine lv_icmp_ge (tgt := 242) hx hb d_rcount_227 (by decide) (fun c_26 => ?_) (fun c_26 => ?_)
      · replace Heq := (if_pos c_26).symm.trans Heq
        exact w_rcount_J242 hC Heq Kr _ _ _ hP hD hS (lv_sub hl [1] rfl)
      · replace Heq := (if_neg c_26).symm.trans Heq
        refine lv_aload_n hx hb d_rcount_230 rfl (lv_at hl 1 rfl) ?_
        refine lv_iload_n hx hb d_rcount_231 rfl (lv_at hl 2 rfl) ?_
        refine lv_iload_n hx hb d_rcount_232 rfl (lv_at hl 3 rfl) ?_
        refine lv_bipush (v := 10) hx hb d_rcount_233 (by decide) ?_
        refine lv_isub hx hb d_rcount_235 ?_
        refine w_i (y := x2 - 10) rfl ?_
        obtain ⟨o_27, h_28, Heq⟩ := ob_some Heq
        have hFc := fr_all hD hS hA
        refine va_calli (va_runV (As := [.int x1, .int (x2 - 10)]) (rest := []) ⟨hx, hb, hml, hown, hts⟩ (g_rnumberOf l D H.size h_28) (cw_v 2 hts kw_1819 kw_1816 kw_1818 kp_64 kw_11 rfl rfl (by decide +kernel) ⟨Nat.le_of_ble_eq_true rfl, Nat.le_of_ble_eq_true rfl⟩) ⟨g_blind, va_recv hK hP (ci := 12) (q0 := 0) rfl rfl, fun U hU hW => g_pre hU hW hP hK hD⟩ rfl rfl hl.1 rfl (lv_room (Nat.le_of_ble_eq_true rfl)) d_rcount_236 ⟨Nat.le_of_ble_eq_true rfl, Nat.le_of_ble_eq_true rfl⟩) hS (fun q _ h => hFc q h) hFc (fun rz u t H1 locs ht hvm hw hB hz1 hk1 hS => ?_)
        obtain ⟨hP, -, hD1⟩ := hB
        rw [ht] at hP
        have hD := hD1.weaken (fun _ q _ h => hFc q.1 h)
        generalize H1 = H at hP hS ⊢
        refine W.cs (cells' := 0) (slots' := 0) rfl rfl ?_
        subst hw
        refine lv_goto (tgt := 243) hx hb d_rcount_239 (by decide) ?_
        exact w_rcount_J243 hC Heq Kr _ _ _ hP hD hS (lv_sub hl [1] rfl)
  · replace Heq := (if_pos c_3).symm.trans Heq
    refine lv_aload_n hx hb d_rcount_7 rfl (lv_at hl 0 rfl) ?_
    refine lv_iconst (v := 1) hx hb d_rcount_8 (by decide) ?_
    obtain ⟨o_29, h_30, Heq⟩ := ob_some Heq
    have hFc := fr_all hD hS hA
    refine va_calli (va_runV (As := [.int 1]) (rest := []) ⟨hx, hb, hml, hown, hts⟩ (g_rno l D H.size h_30) (cw_v 1 hts kw_1626 kw_1623 kw_1625 kp_29 kw_11 rfl rfl (by decide +kernel) ⟨Nat.le_of_ble_eq_true rfl, Nat.le_of_ble_eq_true rfl⟩) ⟨g_blind, va_recv hK hP (ci := 12) (q0 := 0) rfl rfl, fun U hU hW => g_pre hU hW hP hK hD⟩ rfl rfl hl.1 rfl (lv_room (Nat.le_of_ble_eq_true rfl)) d_rcount_9 ⟨Nat.le_of_ble_eq_true rfl, Nat.le_of_ble_eq_true rfl⟩) hS (fun q _ h => hFc q h) hFc (fun rz u t H1 locs ht hvm hw hB hz1 hk1 hS => ?_)
    obtain ⟨hP, -, hD1⟩ := hB
    rw [ht] at hP
    have hD := hD1.weaken (fun _ q _ h => hFc q.1 h)
    generalize H1 = H at hP hS ⊢
    refine W.cs (cells' := 0) (slots' := 0) rfl rfl ?_
    subst hw
    exact Kr _ (Option.some.inj Heq).symm 12 _ _ _ d_rcount_12 hP hD hS
def m_rcount (S : MS) (x1 : Int32) (x2 : Int32) : Option (MS × Int32) := m_rcount_J0 S x1 x2
theorem g_rcount (l : Launch) (D : va_G) (sz : Nat) {md : Nat → Nat} {mc : Nat → ClassId} {S : MS} {x1 : Int32} {x2 : Int32} {o : MS × Int32} (Heq : m_rcount S x1 x2 = some o) : Met l ⟨"JoinedTreesModel", "count", "(II)I"⟩ (Cond.code ⟨"JoinedTreesModel", "count", "(II)I"⟩ prog_14_method_95_code 5 (some .int) :: gb) ({ frames := 2, cells := 0, slots := 0, locals := 47 }) (gPc D (mw md mc S) (mty mc) sz [.ref (md 100), .int x1, .int x2]) (va_Qi (fun (r : Int32) (_ : Unit) => r = o.2) (fun _ t => gO D (mw md mc o.1) (mty mc) (va_A (mw md mc S) sz) t) (va_A (mw md mc S) sz)) 0 0 (va_A (mw md mc S) sz) := by
  refine Met.ofW (cc := prog_14_method_95_code) (maxL := 5) (ret := (some .int)) (by decide) rfl ?_
  intro p e s m args below meth c s₁ B hml hv
  obtain ⟨rfl, hsz, hP, hK, hD0⟩ := hv
  have hx := B.exec
  have hb := B.bytes
  have hr := B.returns
  have hts : ∀ w9 ∈ gb, w9.before [.ref (md 100), .int x1, .int x2].toArray s = true := fun w9 h => atoms_spec (ws := Cond.code ⟨"JoinedTreesModel", "count", "(II)I"⟩ prog_14_method_95_code 5 (some .int) :: gb) B.pre w9 (List.mem_cons_of_mem _ h)
  have hown : s.vm.findClass "JoinedTreesModel" = some m.cls := findClass_of_methodNamed B.named
  have hlocks := B.notSynchronized
  subst hsz
  have hD := hD0.self (sz := s.heap.size)
  generalize hAe : va_A (mw md mc S) s.heap.size = A at hD ⊢
  have hA : ∀ q : Nat, s.heap.size ≤ q → A q := fun q h => by rw [← hAe]; exact Or.inr h
  have hS : va_S A s.heap s.heap [] := va_S.rf
  have hl := lv_entry ([.ref (md 100), .int x1, .int x2]) (n := 5) (Nat.le_of_ble_eq_true rfl)
  rw [lg_entry_eq]
  generalize (lg_sl ([.ref (md 100), .int x1, .int x2]) ++ List.replicate (5 - (lg_sl ([.ref (md 100), .int x1, .int x2])).length) Slot.unset).toArray = ls at hl ⊢
  have hl : lv_has ls 5 [(0, .ref (md 100)), (1, .int x1), (2, .int x2)] := hl
  refine w_rcount_J0 ⟨hx, hb, hr, hml, hown, hts, hK, hA⟩ Heq (fun r h pc H locs ls hd hP hD hS => ?_) _ _ _ hP hD hS (lv_sub hl [0, 1, 2] rfl)
  subst h
  exact W.iret hx hb hr (fun t ht hW => ⟨⟨_, (), rfl, rfl, by rw [ht]; exact hP, va_K.moved hW.alike hK, hD⟩, hS.F ht⟩) hS.2.2 hd
