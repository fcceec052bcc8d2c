def m_cJT_feed_J0 (N : Nat → Nat) (x0 : Nat) (S : CS) (x1 : Int32) (x2 : Int32) (x3 : Int32) (x4 : Int32) (x5 : Int32) : Option ((CS × Int32) ⊕ (CS × Nat)) := gl x0 (N 11) (gn (S.r 11 8 x0) (N 5) (fun j_1 => ob (m_cJT_argumentBytes N x0 S) (fun o_4 => (if ((S.i 5 1 j_1) + o_4.2) + 20 ≤ 8192 then gn (o_4.1.r 11 8 x0) (N 5) (fun j_7 => ob (m_cRw_writeInt N j_7 o_4.1 x1) (fun o_10 => gn (o_10.r 11 8 x0) (N 5) (fun j_12 => ob (m_cRw_writeInt N j_12 o_10 x2) (fun o_15 => gn (o_15.r 11 8 x0) (N 5) (fun j_17 => ob (m_cRw_writeInt N j_17 o_15 x3) (fun o_20 => gn (o_20.r 11 8 x0) (N 5) (fun j_22 => ob (m_cRw_writeInt N j_22 o_20 x4) (fun o_25 => gn (o_25.r 11 8 x0) (N 5) (fun j_27 => ob (m_cRw_writeInt N j_27 o_25 x5) (fun o_30 => gn (o_30.r 11 8 x0) (N 5) (fun j_32 => some (.inl (o_30, o_30.i 5 1 j_32))))))))))))) else some (.inr (o_4.1, 4))))))
theorem d_cJT_feed_0 : decode prog_1_method_2_code 0 = .ok (.aload_n 0, 1) := by decide +kernel
theorem d_cJT_feed_1 : decode prog_1_method_2_code 1 = .ok (.getfield 67, 3) := by decide +kernel
theorem d_cJT_feed_4 : decode prog_1_method_2_code 4 = .ok (.getfield 80, 3) := by decide +kernel
theorem d_cJT_feed_7 : decode prog_1_method_2_code 7 = .ok (.aload_n 0, 1) := by decide +kernel
theorem d_cJT_feed_8 : decode prog_1_method_2_code 8 = .ok (.invokevirtual 83, 3) := by decide +kernel
theorem d_cJT_feed_11 : decode prog_1_method_2_code 11 = .ok (.iadd, 1) := by decide +kernel
theorem d_cJT_feed_12 : decode prog_1_method_2_code 12 = .ok (.bipush 20, 2) := by decide +kernel
theorem d_cJT_feed_14 : decode prog_1_method_2_code 14 = .ok (.iadd, 1) := by decide +kernel
theorem d_cJT_feed_15 : decode prog_1_method_2_code 15 = .ok (.sipush 8192, 3) := by decide +kernel
theorem d_cJT_feed_18 : decode prog_1_method_2_code 18 = .ok (.if_icmp .le 11, 3) := by decide +kernel
theorem d_cJT_feed_29 : decode prog_1_method_2_code 29 = .ok (.aload_n 0, 1) := by decide +kernel
theorem d_cJT_feed_30 : decode prog_1_method_2_code 30 = .ok (.getfield 67, 3) := by decide +kernel
theorem d_cJT_feed_33 : decode prog_1_method_2_code 33 = .ok (.iload_n 1, 1) := by decide +kernel
theorem d_cJT_feed_34 : decode prog_1_method_2_code 34 = .ok (.invokevirtual 90, 3) := by decide +kernel
theorem d_cJT_feed_37 : decode prog_1_method_2_code 37 = .ok (.aload_n 0, 1) := by decide +kernel
theorem d_cJT_feed_38 : decode prog_1_method_2_code 38 = .ok (.getfield 67, 3) := by decide +kernel
theorem d_cJT_feed_41 : decode prog_1_method_2_code 41 = .ok (.iload_n 2, 1) := by decide +kernel
theorem d_cJT_feed_42 : decode prog_1_method_2_code 42 = .ok (.invokevirtual 90, 3) := by decide +kernel
theorem d_cJT_feed_45 : decode prog_1_method_2_code 45 = .ok (.aload_n 0, 1) := by decide +kernel
theorem d_cJT_feed_46 : decode prog_1_method_2_code 46 = .ok (.getfield 67, 3) := by decide +kernel
theorem d_cJT_feed_49 : decode prog_1_method_2_code 49 = .ok (.iload_n 3, 1) := by decide +kernel
theorem d_cJT_feed_50 : decode prog_1_method_2_code 50 = .ok (.invokevirtual 90, 3) := by decide +kernel
theorem d_cJT_feed_53 : decode prog_1_method_2_code 53 = .ok (.aload_n 0, 1) := by decide +kernel
theorem d_cJT_feed_54 : decode prog_1_method_2_code 54 = .ok (.getfield 67, 3) := by decide +kernel
theorem d_cJT_feed_57 : decode prog_1_method_2_code 57 = .ok (.iload 4, 2) := by decide +kernel
theorem d_cJT_feed_59 : decode prog_1_method_2_code 59 = .ok (.invokevirtual 90, 3) := by decide +kernel
theorem d_cJT_feed_62 : decode prog_1_method_2_code 62 = .ok (.aload_n 0, 1) := by decide +kernel
theorem d_cJT_feed_63 : decode prog_1_method_2_code 63 = .ok (.getfield 67, 3) := by decide +kernel
theorem d_cJT_feed_66 : decode prog_1_method_2_code 66 = .ok (.iload 5, 2) := by decide +kernel
theorem d_cJT_feed_68 : decode prog_1_method_2_code 68 = .ok (.invokevirtual 90, 3) := by decide +kernel
theorem d_cJT_feed_71 : decode prog_1_method_2_code 71 = .ok (.aload_n 0, 1) := by decide +kernel
theorem d_cJT_feed_72 : decode prog_1_method_2_code 72 = .ok (.getfield 67, 3) := by decide +kernel
theorem d_cJT_feed_75 : decode prog_1_method_2_code 75 = .ok (.getfield 80, 3) := by decide +kernel
theorem d_cJT_feed_78 : decode prog_1_method_2_code 78 = .ok (.ireturn, 1) := by decide +kernel
theorem d_cJT_feed_21 : decode prog_1_method_2_code 21 = .ok (.new 87, 3) := by decide +kernel
theorem d_cJT_feed_24 : decode prog_1_method_2_code 24 = .ok (.dup, 1) := by decide +kernel
theorem d_cJT_feed_25 : decode prog_1_method_2_code 25 = .ok (.invokespecial 89, 3) := by decide +kernel
theorem d_cJT_feed_28 : decode prog_1_method_2_code 28 = .ok (.athrow, 1) := by decide +kernel
set_option maxHeartbeats 4000000 in
set_option maxRecDepth 100000 in
theorem w_cJT_feed_J0 {p : Program} {l : Launch} {e : Env} {s : State} {m : MethodId} {args : Array Value} {below : List Frame} {meth : Method} {c : Code} {A : Nat → Prop} {D : va_G} {ad : Nat → Nat → Nat} {cc : Nat → ClassId} {sad sav : Nat → Nat} {Q : State → Prop} {cR sR : Nat} (hfl : l.flags = flags0) (hC : MCc sad sav "JoinedTrees" prog_1_method_2_code 6 (some .int) p s m args meth c A D cc) {N : Nat → Nat} {x0 : Nat} {S : CS} {x1 : Int32} {x2 : Int32} {x3 : Int32} {x4 : Int32} {x5 : Int32} {o : ((CS × Int32) ⊕ (CS × Nat))} (Heq : m_cJT_feed_J0 N x0 S x1 x2 x3 x4 x5 = some o) (Kr : ∀ r : ((CS × Int32) ⊕ (CS × Nat)), o = r → (∀ v9 : CS × Int32, r = .inl v9 → ∀ (pc : Nat) (H : Heap) (locs : List Loc) (ls : Array Slot), decode prog_1_method_2_code pc = .ok (.ireturn, 1) → va_P D cls (cw ad cc N v9.1) H → va_D A (cw ad cc N v9.1) → va_S A s.heap H locs → W p l e ({ frames := 6, cells := cR, slots := sR, locals := 96 }) s m args below meth c H locs 0 0 Q (F0 m pc ls [.int v9.2])) ∧ (∀ t9 : CS × Nat, r = .inr t9 → (1 ≤ cR ∧ 6 ≤ sR) ∧ (∀ (pc : Nat) (H : Heap) (locs : List Loc) (ls : Array Slot), thD prog_1_method_2_code t9.2 pc → ls.size = 6 → va_P D cls (cw ad cc N t9.1) H → va_D A (cw ad cc N t9.1) → va_S A s.heap H locs → W p l e ({ frames := 6, cells := cR, slots := sR, locals := 96 }) s m args below meth c H locs 0 0 Q (F0 m pc ls [])) ∧ (∀ (pc : Nat) (H : Heap) (locs : List Loc) (ls : Array Slot) (st0 rest9 : List Value) (A9 : Nat → Prop), tx_Thr p l e ({ frames := 6, cells := cR, slots := sR, locals := 96 }) s m args below meth c H locs 0 0 1 6 (F0 m pc ls st0) rest9 (exN t9.2) A9 (fun H1 => va_P D cls (cw ad cc N t9.1) H1) → (∀ q, A9 q → A q) → va_S A s.heap H locs → W p l e ({ frames := 6, cells := cR, slots := sR, locals := 96 }) s m args below meth c H locs 0 0 Q (F0 m pc ls st0)))) : ∀ (H : Heap) (locs : List Loc) (ls : Array Slot), va_P D cls (cw ad cc N S) H → va_D A (cw ad cc N S) → va_S A s.heap H locs → lv_has ls 6 [(0, .ref (ad 11 x0)), (1, .int x1), (2, .int x2), (3, .int x3), (4, .int x4), (5, .int x5)] → W p l e ({ frames := 6, cells := cR, slots := sR, locals := 96 }) s m args below meth c H locs 0 0 Q (F0 m 0 ls []) := by
  intro H locs ls hP hD hS hl
  obtain ⟨hx, hb, hr, hml, hown, hts, hK, hA, hev, hE, hN, hNS⟩ := id hC
  unfold m_cJT_feed_J0 at Heq
  refine lv_aload_n hx hb d_cJT_feed_0 rfl (lv_at hl 0 rfl) ?_
  obtain ⟨hl_x0_11, Heq⟩ := gl_some Heq
  refine va_get (D := D) (ci := 11) (v := rv ad 5 (S.r 11 8 x0)) (C := R_JT) (T := F_JT) (N := 13) hx hb hts i_JT hown hK hP (cPos N 11 x0) (cw_obj (k := 11) (by decide) hl_x0_11) rfl 8 (by decide) (hts _ kw_429) (fun _ h9 => h9) rfl d_cJT_feed_1 ?_
  obtain ⟨j_1, hj_2, hl_3, Heq⟩ := gn_some Heq
  refine w_s (st' := [.ref (ad 5 j_1)]) (congrArg (fun z9 : Option Nat => [rv ad 5 z9]) hj_2) ?_
  refine va_get (D := D) (ci := 5) (v := .int (S.i 5 1 j_1)) (C := R_Rw) (T := F_Rw) (N := 3) hx hb hts i_Rw hown hK hP (cPos N 5 j_1) (cw_obj (k := 5) (by decide) hl_3) rfl 1 (by decide) (hts _ kw_143) (fun _ h9 => h9) rfl d_cJT_feed_4 ?_
  refine lv_aload_n hx hb d_cJT_feed_7 rfl (lv_at hl 0 rfl) ?_
  obtain ⟨o_4, h_5, Heq⟩ := ob_some Heq
  have hFc := fr_all hD hS hA
  refine va_calli (va_runV (As := []) (rest := [.int (S.i 5 1 j_1)]) ⟨hx, hb, hml, hown, hts⟩ (g_cJT_argumentBytes l D H.size (ad := ad) (cc := cc) (sad := sad) (sav := sav) h_5) (cw_v 0 hts kw_476 kw_473 kw_475 kp_0 kw_1 rfl rfl (by decide +kernel) ⟨Nat.le_of_ble_eq_true rfl, Nat.le_of_ble_eq_true rfl⟩) ⟨c_blind, va_recv hK hP (ci := 11) (q0 := cPos N 11 x0) rfl (cw_obj (k := 11) (by decide) hl_x0_11), fun U hU hW => c_pre hU hW hP hK hD hev hE hN hNS hS hFc⟩ rfl rfl hl.1 rfl (lv_room (Nat.le_of_ble_eq_true rfl)) d_cJT_feed_8 ⟨Nat.zero_le _, Nat.zero_le _⟩) hS (fun q _ h => hFc q h) hFc (fun rz u t H1 locs ht hvm hw hB hz1 hk1 hS => ?_)
  obtain ⟨hP, -, hD1⟩ := hB
  rw [ht] at hP
  have hD := hD1.weaken (fun _ q _ h => hFc q.1 h)
  generalize H1 = H at hP hS ⊢
  refine W.cs (cells' := 0) (slots' := 0) rfl rfl ?_
  subst hw
  refine lv_iadd hx hb d_cJT_feed_11 ?_
  refine w_i (y := (S.i 5 1 j_1) + o_4.2) rfl ?_
  refine lv_bipush (v := 20) hx hb d_cJT_feed_12 (by decide) ?_
  refine lv_iadd hx hb d_cJT_feed_14 ?_
  refine w_i (y := ((S.i 5 1 j_1) + o_4.2) + 20) rfl ?_
  refine lv_sipush (v := 8192) hx hb d_cJT_feed_15 (by decide) ?_
  refine lv_icmp_le (tgt := 29) hx hb d_cJT_feed_18 (by decide) (fun c_6 => ?_) (fun c_6 => ?_)
  · replace Heq := (if_pos c_6).symm.trans Heq
    refine lv_aload_n hx hb d_cJT_feed_29 rfl (lv_at hl 0 rfl) ?_
    refine va_get (D := D) (ci := 11) (v := rv ad 5 (o_4.1.r 11 8 x0)) (C := R_JT) (T := F_JT) (N := 13) hx hb hts i_JT hown hK hP (cPos N 11 x0) (cw_obj (k := 11) (by decide) hl_x0_11) rfl 8 (by decide) (hts _ kw_429) (fun _ h9 => h9) rfl d_cJT_feed_30 ?_
    refine lv_iload_n hx hb d_cJT_feed_33 rfl (lv_at hl 1 rfl) ?_
    obtain ⟨j_7, hj_8, hl_9, Heq⟩ := gn_some Heq
    refine w_s (st' := [.int x1, .ref (ad 5 j_7)]) (congrArg (fun z9 : Option Nat => [.int x1, rv ad 5 z9]) hj_8) ?_
    obtain ⟨o_10, h_11, Heq⟩ := ob_some Heq
    have hFc := fr_all hD hS hA
    refine va_callv (va_runV (As := [.int x1]) (rest := []) ⟨hx, hb, hml, hown, hts⟩ (g_cRw_writeInt l D H.size (ad := ad) (cc := cc) (sad := sad) (sav := sav) h_11) (cw_v 1 hts kw_545 kw_542 kw_543 kw_544 kw_4 rfl rfl (by decide +kernel) ⟨Nat.le_of_ble_eq_true rfl, Nat.le_of_ble_eq_true rfl⟩) ⟨c_blind, va_recv hK hP (ci := 5) (q0 := cPos N 5 j_7) rfl (cw_obj (k := 5) (by decide) hl_9), fun U hU hW => c_pre hU hW hP hK hD hev hE hN hNS hS hFc⟩ rfl rfl hl.1 rfl (lv_room (Nat.le_of_ble_eq_true rfl)) d_cJT_feed_34 ⟨Nat.zero_le _, Nat.zero_le _⟩) hS (fun q _ h => hFc q h) hFc (fun u t H1 locs ht hvm hw hB hz1 hk1 hS => ?_)
    obtain ⟨hP, -, hD1⟩ := hB
    rw [ht] at hP
    have hD := hD1.weaken (fun _ q _ h => hFc q.1 h)
    generalize H1 = H at hP hS ⊢
    refine W.cs (cells' := 0) (slots' := 0) rfl rfl ?_
    refine lv_aload_n hx hb d_cJT_feed_37 rfl (lv_at hl 0 rfl) ?_
    refine va_get (D := D) (ci := 11) (v := rv ad 5 (o_10.r 11 8 x0)) (C := R_JT) (T := F_JT) (N := 13) hx hb hts i_JT hown hK hP (cPos N 11 x0) (cw_obj (k := 11) (by decide) hl_x0_11) rfl 8 (by decide) (hts _ kw_429) (fun _ h9 => h9) rfl d_cJT_feed_38 ?_
    refine lv_iload_n hx hb d_cJT_feed_41 rfl (lv_at hl 2 rfl) ?_
    obtain ⟨j_12, hj_13, hl_14, Heq⟩ := gn_some Heq
    refine w_s (st' := [.int x2, .ref (ad 5 j_12)]) (congrArg (fun z9 : Option Nat => [.int x2, rv ad 5 z9]) hj_13) ?_
    obtain ⟨o_15, h_16, Heq⟩ := ob_some Heq
    have hFc := fr_all hD hS hA
    refine va_callv (va_runV (As := [.int x2]) (rest := []) ⟨hx, hb, hml, hown, hts⟩ (g_cRw_writeInt l D H.size (ad := ad) (cc := cc) (sad := sad) (sav := sav) h_16) (cw_v 1 hts kw_545 kw_542 kw_543 kw_544 kw_4 rfl rfl (by decide +kernel) ⟨Nat.le_of_ble_eq_true rfl, Nat.le_of_ble_eq_true rfl⟩) ⟨c_blind, va_recv hK hP (ci := 5) (q0 := cPos N 5 j_12) rfl (cw_obj (k := 5) (by decide) hl_14), fun U hU hW => c_pre hU hW hP hK hD hev hE hN hNS hS hFc⟩ rfl rfl hl.1 rfl (lv_room (Nat.le_of_ble_eq_true rfl)) d_cJT_feed_42 ⟨Nat.zero_le _, Nat.zero_le _⟩) hS (fun q _ h => hFc q h) hFc (fun u t H1 locs ht hvm hw hB hz1 hk1 hS => ?_)
    obtain ⟨hP, -, hD1⟩ := hB
    rw [ht] at hP
    have hD := hD1.weaken (fun _ q _ h => hFc q.1 h)
    generalize H1 = H at hP hS ⊢
    refine W.cs (cells' := 0) (slots' := 0) rfl rfl ?_
    refine lv_aload_n hx hb d_cJT_feed_45 rfl (lv_at hl 0 rfl) ?_
    refine va_get (D := D) (ci := 11) (v := rv ad 5 (o_15.r 11 8 x0)) (C := R_JT) (T := F_JT) (N := 13) hx hb hts i_JT hown hK hP (cPos N 11 x0) (cw_obj (k := 11) (by decide) hl_x0_11) rfl 8 (by decide) (hts _ kw_429) (fun _ h9 => h9) rfl d_cJT_feed_46 ?_
    refine lv_iload_n hx hb d_cJT_feed_49 rfl (lv_at hl 3 rfl) ?_
    obtain ⟨j_17, hj_18, hl_19, Heq⟩ := gn_some Heq
    refine w_s (st' := [.int x3, .ref (ad 5 j_17)]) (congrArg (fun z9 : Option Nat => [.int x3, rv ad 5 z9]) hj_18) ?_
    obtain ⟨o_20, h_21, Heq⟩ := ob_some Heq
    have hFc := fr_all hD hS hA
    refine va_callv (va_runV (As := [.int x3]) (rest := []) ⟨hx, hb, hml, hown, hts⟩ (g_cRw_writeInt l D H.size (ad := ad) (cc := cc) (sad := sad) (sav := sav) h_21) (cw_v 1 hts kw_545 kw_542 kw_543 kw_544 kw_4 rfl rfl (by decide +kernel) ⟨Nat.le_of_ble_eq_true rfl, Nat.le_of_ble_eq_true rfl⟩) ⟨c_blind, va_recv hK hP (ci := 5) (q0 := cPos N 5 j_17) rfl (cw_obj (k := 5) (by decide) hl_19), fun U hU hW => c_pre hU hW hP hK hD hev hE hN hNS hS hFc⟩ rfl rfl hl.1 rfl (lv_room (Nat.le_of_ble_eq_true rfl)) d_cJT_feed_50 ⟨Nat.zero_le _, Nat.zero_le _⟩) hS (fun q _ h => hFc q h) hFc (fun u t H1 locs ht hvm hw hB hz1 hk1 hS => ?_)
    obtain ⟨hP, -, hD1⟩ := hB
    rw [ht] at hP
    have hD := hD1.weaken (fun _ q _ h => hFc q.1 h)
    generalize H1 = H at hP hS ⊢
    refine W.cs (cells' := 0) (slots' := 0) rfl rfl ?_
    refine lv_aload_n hx hb d_cJT_feed_53 rfl (lv_at hl 0 rfl) ?_
    refine va_get (D := D) (ci := 11) (v := rv ad 5 (o_20.r 11 8 x0)) (C := R_JT) (T := F_JT) (N := 13) hx hb hts i_JT hown hK hP (cPos N 11 x0) (cw_obj (k := 11) (by decide) hl_x0_11) rfl 8 (by decide) (hts _ kw_429) (fun _ h9 => h9) rfl d_cJT_feed_54 ?_
    refine lv_iload hx hb d_cJT_feed_57 (lv_at hl 4 rfl) ?_
    obtain ⟨j_22, hj_23, hl_24, Heq⟩ := gn_some Heq
    refine w_s (st' := [.int x4, .ref (ad 5 j_22)]) (congrArg (fun z9 : Option Nat => [.int x4, rv ad 5 z9]) hj_23) ?_
    obtain ⟨o_25, h_26, Heq⟩ := ob_some Heq
    have hFc := fr_all hD hS hA
    refine va_callv (va_runV (As := [.int x4]) (rest := []) ⟨hx, hb, hml, hown, hts⟩ (g_cRw_writeInt l D H.size (ad := ad) (cc := cc) (sad := sad) (sav := sav) h_26) (cw_v 1 hts kw_545 kw_542 kw_543 kw_544 kw_4 rfl rfl (by decide +kernel) ⟨Nat.le_of_ble_eq_true rfl, Nat.le_of_ble_eq_true rfl⟩) ⟨c_blind, va_recv hK hP (ci := 5) (q0 := cPos N 5 j_22) rfl (cw_obj (k := 5) (by decide) hl_24), fun U hU hW => c_pre hU hW hP hK hD hev hE hN hNS hS hFc⟩ rfl rfl hl.1 rfl (lv_room (Nat.le_of_ble_eq_true rfl)) d_cJT_feed_59 ⟨Nat.zero_le _, Nat.zero_le _⟩) hS (fun q _ h => hFc q h) hFc (fun u t H1 locs ht hvm hw hB hz1 hk1 hS => ?_)
    obtain ⟨hP, -, hD1⟩ := hB
    rw [ht] at hP
    have hD := hD1.weaken (fun _ q _ h => hFc q.1 h)
    generalize H1 = H at hP hS ⊢
    refine W.cs (cells' := 0) (slots' := 0) rfl rfl ?_
    refine lv_aload_n hx hb d_cJT_feed_62 rfl (lv_at hl 0 rfl) ?_
    refine va_get (D := D) (ci := 11) (v := rv ad 5 (o_25.r 11 8 x0)) (C := R_JT) (T := F_JT) (N := 13) hx hb hts i_JT hown hK hP (cPos N 11 x0) (cw_obj (k := 11) (by decide) hl_x0_11) rfl 8 (by decide) (hts _ kw_429) (fun _ h9 => h9) rfl d_cJT_feed_63 ?_
    refine lv_iload hx hb d_cJT_feed_66 (lv_at hl 5 rfl) ?_
    obtain ⟨j_27, hj_28, hl_29, Heq⟩ := gn_some Heq
    refine w_s (st' := [.int x5, .ref (ad 5 j_27)]) (congrArg (fun z9 : Option Nat => [.int x5, rv ad 5 z9]) hj_28) ?_
    obtain ⟨o_30, h_31, Heq⟩ := ob_some Heq
    have hFc := fr_all hD hS hA
    refine va_callv (va_runV (As := [.int x5]) (rest := []) ⟨hx, hb, hml, hown, hts⟩ (g_cRw_writeInt l D H.size (ad := ad) (cc := cc) (sad := sad) (sav := sav) h_31) (cw_v 1 hts kw_545 kw_542 kw_543 kw_544 kw_4 rfl rfl (by decide +kernel) ⟨Nat.le_of_ble_eq_true rfl, Nat.le_of_ble_eq_true rfl⟩) ⟨c_blind, va_recv hK hP (ci := 5) (q0 := cPos N 5 j_27) rfl (cw_obj (k := 5) (by decide) hl_29), fun U hU hW => c_pre hU hW hP hK hD hev hE hN hNS hS hFc⟩ rfl rfl hl.1 rfl (lv_room (Nat.le_of_ble_eq_true rfl)) d_cJT_feed_68 ⟨Nat.zero_le _, Nat.zero_le _⟩) hS (fun q _ h => hFc q h) hFc (fun u t H1 locs ht hvm hw hB hz1 hk1 hS => ?_)
    obtain ⟨hP, -, hD1⟩ := hB
    rw [ht] at hP
    have hD := hD1.weaken (fun _ q _ h => hFc q.1 h)
    generalize H1 = H at hP hS ⊢
    refine W.cs (cells' := 0) (slots' := 0) rfl rfl ?_
    refine lv_aload_n hx hb d_cJT_feed_71 rfl (lv_at hl 0 rfl) ?_
    refine va_get (D := D) (ci := 11) (v := rv ad 5 (o_30.r 11 8 x0)) (C := R_JT) (T := F_JT) (N := 13) hx hb hts i_JT hown hK hP (cPos N 11 x0) (cw_obj (k := 11) (by decide) hl_x0_11) rfl 8 (by decide) (hts _ kw_429) (fun _ h9 => h9) rfl d_cJT_feed_72 ?_
    obtain ⟨j_32, hj_33, hl_34, Heq⟩ := gn_some Heq
    refine w_s (st' := [.ref (ad 5 j_32)]) (congrArg (fun z9 : Option Nat => [rv ad 5 z9]) hj_33) ?_
    refine va_get (D := D) (ci := 5) (v := .int (o_30.i 5 1 j_32)) (C := R_Rw) (T := F_Rw) (N := 3) hx hb hts i_Rw hown hK hP (cPos N 5 j_32) (cw_obj (k := 5) (by decide) hl_34) rfl 1 (by decide) (hts _ kw_143) (fun _ h9 => h9) rfl d_cJT_feed_75 ?_
    exact (Kr _ (Option.some.inj Heq).symm).1 _ rfl 78 _ _ _ d_cJT_feed_78 hP hD hS
  · replace Heq := (if_neg c_6).symm.trans Heq
    exact ((Kr _ (Option.some.inj Heq).symm).2 _ rfl).2.1 21 _ _ _ ⟨⟨show 1 ≤ 4 by decide, show 4 ≤ 5 by decide⟩, d_cJT_feed_21, d_cJT_feed_24, d_cJT_feed_25, d_cJT_feed_28⟩ hl.1 hP hD hS
def m_cJT_feed (N : Nat → Nat) (x0 : Nat) (S : CS) (x1 : Int32) (x2 : Int32) (x3 : Int32) (x4 : Int32) (x5 : Int32) : Option ((CS × Int32) ⊕ (CS × Nat)) := m_cJT_feed_J0 N x0 S x1 x2 x3 x4 x5
set_option maxHeartbeats 4000000 in
theorem g_cJT_feed (l : Launch) (hfl : l.flags = flags0) (D : va_G) (sz : Nat) {ad : Nat → Nat → Nat} {cc : Nat → ClassId} {sad sav : Nat → Nat} {N : Nat → Nat} {x0 : Nat} {S : CS} {x1 : Int32} {x2 : Int32} {x3 : Int32} {x4 : Int32} {x5 : Int32} {o : CS × Int32} (Heq : m_cJT_feed N x0 S x1 x2 x3 x4 x5 = some (.inl o)) : Met l ⟨"JoinedTrees", "feed", "(IIIII)I"⟩ (Cond.code ⟨"JoinedTrees", "feed", "(IIIII)I"⟩ prog_1_method_2_code 6 (some .int) :: gb) ({ frames := 6, cells := 0, slots := 0, locals := 96 }) (cPc sad sav D (cw ad cc N S) (cty cc) sz [.ref (ad 11 x0), .int x1, .int x2, .int x3, .int x4, .int x5]) (va_Qi (fun (r : Int32) (_ : Unit) => r = o.2) (fun _ t => gO D (cw ad cc N o.1) (cty cc) (va_A (cw ad cc N S) sz) t) (va_A (cw ad cc N S) sz)) 0 0 (va_A (cw ad cc N S) sz) := by
  refine Met.ofW (cc := prog_1_method_2_code) (maxL := 6) (ret := (some .int)) (by decide) rfl ?_
  intro p e s m args below meth c s₁ B hml hv
  obtain ⟨rfl, hsz, hP, hK, hD0, hev, hE, hN⟩ := hv
  have hx := B.exec
  have hb := B.bytes
  have hr := B.returns
  have hts : ∀ w9 ∈ gb, w9.before [.ref (ad 11 x0), .int x1, .int x2, .int x3, .int x4, .int x5].toArray s = true := fun w9 h => atoms_spec (ws := Cond.code ⟨"JoinedTrees", "feed", "(IIIII)I"⟩ prog_1_method_2_code 6 (some .int) :: gb) B.pre w9 (List.mem_cons_of_mem _ h)
  have hown : s.vm.findClass "JoinedTrees" = some m.cls := findClass_of_methodNamed B.named
  have hlocks := B.notSynchronized
  have hNS := ns_of hP
  subst hsz
  have hD := hD0.self (sz := s.heap.size)
  generalize hAe : va_A (cw ad cc N S) s.heap.size = A at hD hev hE hNS ⊢
  have hA : ∀ q : Nat, s.heap.size ≤ q → A q := fun q h => by rw [← hAe]; exact Or.inr h
  have hS : va_S A s.heap s.heap [] := va_S.rf
  obtain ⟨ls, hl, hle⟩ : ∃ ls : Array Slot, lv_has ls 6 [(0, .ref (ad 11 x0)), (1, .int x1), (2, .int x2), (3, .int x3), (4, .int x4), (5, .int x5)] ∧ entryFrame m ([.ref (ad 11 x0), .int x1, .int x2, .int x3, .int x4, .int x5] : List Value).toArray 6 = F0 m 0 ls [] := by
    exact ⟨_, lv_entry (n := 6) _ (Nat.le_of_ble_eq_true rfl), lg_entry_eq ..⟩
  rw [hle]
  refine w_cJT_feed_J0 (cR := 0) (sR := 0) hfl ⟨hx, hb, hr, hml, hown, hts, hK, hA, hev, hE, hN, hNS⟩ Heq (fun r h => ⟨fun v9 hv9 pc H locs ls hd hP hD hS => ?_, fun t9 ht9 => (by subst h; cases ht9)⟩) _ _ _ hP hD hS (lv_sub hl [0, 1, 2, 3, 4, 5] rfl)
  subst h
  cases hv9
  exact W.iret hx hb hr (fun t ht hW => ⟨⟨_, (), rfl, rfl, by rw [ht]; exact hP, va_K.moved hW.alike hK, hD⟩, hS.F ht⟩) hS.2.2 hd
set_option maxHeartbeats 4000000 in
theorem g_cJT_feed_t (l : Launch) (hfl : l.flags = flags0) (D : va_G) (sz : Nat) {ad : Nat → Nat → Nat} {cc : Nat → ClassId} {sad sav : Nat → Nat} {N : Nat → Nat} {x0 : Nat} {S : CS} {x1 : Int32} {x2 : Int32} {x3 : Int32} {x4 : Int32} {x5 : Int32} {o : CS × Nat} (Heq : m_cJT_feed N x0 S x1 x2 x3 x4 x5 = some (.inr o)) : MeT l ⟨"JoinedTrees", "feed", "(IIIII)I"⟩ (Cond.code ⟨"JoinedTrees", "feed", "(IIIII)I"⟩ prog_1_method_2_code 6 (some .int) :: gb) ({ frames := 6, cells := 1, slots := 6, locals := 96 }) (cPc sad sav D (cw ad cc N S) (cty cc) sz [.ref (ad 11 x0), .int x1, .int x2, .int x3, .int x4, .int x5]) (exN o.2) (va_A (cw ad cc N S) sz) (fun H1 => va_P D cls (cw ad cc N o.1) H1) 1 6 := by
  refine MeT.ofW (cc := prog_1_method_2_code) (maxL := 6) (ret := (some .int)) (by decide) rfl ?_
  intro p e s m args below meth c s₁ B hml hno hv
  obtain ⟨rfl, hsz, hP, hK, hD0, hev, hE, hN⟩ := hv
  have hx := B.exec
  have hb := B.bytes
  have hr := B.returns
  have hts : ∀ w9 ∈ gb, w9.before [.ref (ad 11 x0), .int x1, .int x2, .int x3, .int x4, .int x5].toArray s = true := fun w9 h => atoms_spec (ws := Cond.code ⟨"JoinedTrees", "feed", "(IIIII)I"⟩ prog_1_method_2_code 6 (some .int) :: gb) B.pre w9 (List.mem_cons_of_mem _ h)
  have hown : s.vm.findClass "JoinedTrees" = some m.cls := findClass_of_methodNamed B.named
  have hlocks := B.notSynchronized
  have hNS := ns_of hP
  subst hsz
  have hD := hD0.self (sz := s.heap.size)
  generalize hAe : va_A (cw ad cc N S) s.heap.size = A at hD hev hE hNS ⊢
  have hA : ∀ q : Nat, s.heap.size ≤ q → A q := fun q h => by rw [← hAe]; exact Or.inr h
  have hS : va_S A s.heap s.heap [] := va_S.rf
  obtain ⟨ls, hl, hle⟩ : ∃ ls : Array Slot, lv_has ls 6 [(0, .ref (ad 11 x0)), (1, .int x1), (2, .int x2), (3, .int x3), (4, .int x4), (5, .int x5)] ∧ entryFrame m ([.ref (ad 11 x0), .int x1, .int x2, .int x3, .int x4, .int x5] : List Value).toArray 6 = F0 m 0 ls [] := by
    exact ⟨_, lv_entry (n := 6) _ (Nat.le_of_ble_eq_true rfl), lg_entry_eq ..⟩
  rw [hle]
  refine w_cJT_feed_J0 (cR := 1) (sR := 6) hfl ⟨hx, hb, hr, hml, hown, hts, hK, hA, hev, hE, hN, hNS⟩ Heq (fun r h => ⟨fun v9 hv9 => (by subst h; cases hv9), fun t9 ht9 => ⟨⟨Nat.le_refl _, Nat.le_refl _⟩, fun pc H locs ls hd hsz hP hD hS => ?_, fun pc H locs ls st0 rest9 A9 hr9 hF9 hS => ?_⟩⟩) _ _ _ hP hD hS (lv_sub hl [0, 1, 2, 3, 4, 5] rfl)
  · subst h; cases ht9; exact tx_thr hfl hx hb hno hlocks hown hts hev hN hNS hd (hsz.trans hml.symm) hP hS hA (Nat.le_refl _) (Nat.le_refl _) (Nat.le_of_ble_eq_true rfl) (Nat.le_of_ble_eq_true rfl)
  · subst h; cases ht9; exact tx_on hr9 hno hlocks hS hF9
def m_cJT_end_J21 (N : Nat → Nat) (x0 : Nat) (S : CS) : Option ((CS × Int32) ⊕ (CS × Nat)) := some (.inr (S, 1))
theorem d_cJT_end_0 : decode prog_1_method_3_code 0 = .ok (.iload_n 1, 1) := by decide +kernel
theorem d_cJT_end_1 : decode prog_1_method_3_code 1 = .ok (.ifCond .lt 20, 3) := by decide +kernel
theorem d_cJT_end_21 : decode prog_1_method_3_code 21 = .ok (.new 93, 3) := by decide +kernel
theorem d_cJT_end_24 : decode prog_1_method_3_code 24 = .ok (.dup, 1) := by decide +kernel
theorem d_cJT_end_25 : decode prog_1_method_3_code 25 = .ok (.invokespecial 95, 3) := by decide +kernel
theorem d_cJT_end_28 : decode prog_1_method_3_code 28 = .ok (.athrow, 1) := by decide +kernel
set_option maxHeartbeats 4000000 in
set_option maxRecDepth 100000 in
theorem w_cJT_end_J21 {p : Program} {l : Launch} {e : Env} {s : State} {m : MethodId} {args : Array Value} {below : List Frame} {meth : Method} {c : Code} {A : Nat → Prop} {D : va_G} {ad : Nat → Nat → Nat} {cc : Nat → ClassId} {sad sav : Nat → Nat} {Q : State → Prop} {cR sR : Nat} (hfl : l.flags = flags0) (hC : MCc sad sav "JoinedTrees" prog_1_method_3_code 3 (some .int) p s m args meth c A D cc) {N : Nat → Nat} {x0 : Nat} {S : CS} {o : ((CS × Int32) ⊕ (CS × Nat))} (Heq : m_cJT_end_J21 N x0 S = some o) (Kr : ∀ r : ((CS × Int32) ⊕ (CS × Nat)), o = r → (∀ v9 : CS × Int32, r = .inl v9 → ∀ (pc : Nat) (H : Heap) (locs : List Loc) (ls : Array Slot), decode prog_1_method_3_code pc = .ok (.ireturn, 1) → va_P D cls (cw ad cc N v9.1) H → va_D A (cw ad cc N v9.1) → va_S A s.heap H locs → W p l e ({ frames := 6, cells := cR, slots := sR, locals := 96 }) s m args below meth c H locs 0 0 Q (F0 m pc ls [.int v9.2])) ∧ (∀ t9 : CS × Nat, r = .inr t9 → (1 ≤ cR ∧ 6 ≤ sR) ∧ (∀ (pc : Nat) (H : Heap) (locs : List Loc) (ls : Array Slot), thD prog_1_method_3_code t9.2 pc → ls.size = 3 → va_P D cls (cw ad cc N t9.1) H → va_D A (cw ad cc N t9.1) → va_S A s.heap H locs → W p l e ({ frames := 6, cells := cR, slots := sR, locals := 96 }) s m args below meth c H locs 0 0 Q (F0 m pc ls [])) ∧ (∀ (pc : Nat) (H : Heap) (locs : List Loc) (ls : Array Slot) (st0 rest9 : List Value) (A9 : Nat → Prop), tx_Thr p l e ({ frames := 6, cells := cR, slots := sR, locals := 96 }) s m args below meth c H locs 0 0 1 6 (F0 m pc ls st0) rest9 (exN t9.2) A9 (fun H1 => va_P D cls (cw ad cc N t9.1) H1) → (∀ q, A9 q → A q) → va_S A s.heap H locs → W p l e ({ frames := 6, cells := cR, slots := sR, locals := 96 }) s m args below meth c H locs 0 0 Q (F0 m pc ls st0)))) : ∀ (H : Heap) (locs : List Loc) (ls : Array Slot), va_P D cls (cw ad cc N S) H → va_D A (cw ad cc N S) → va_S A s.heap H locs → lv_has ls 3 [(0, .ref (ad 11 x0))] → W p l e ({ frames := 6, cells := cR, slots := sR, locals := 96 }) s m args below meth c H locs 0 0 Q (F0 m 21 ls []) := by
  intro H locs ls hP hD hS hl
  obtain ⟨hx, hb, hr, hml, hown, hts, hK, hA, hev, hE, hN, hNS⟩ := id hC
  unfold m_cJT_end_J21 at Heq
  exact ((Kr _ (Option.some.inj Heq).symm).2 _ rfl).2.1 21 _ _ _ ⟨⟨show 1 ≤ 1 by decide, show 1 ≤ 5 by decide⟩, d_cJT_end_21, d_cJT_end_24, d_cJT_end_25, d_cJT_end_28⟩ hl.1 hP hD hS
def m_cJT_end_J120 (N : Nat → Nat) (x0 : Nat) (S : CS) (x2 : Option Nat) : Option ((CS × Int32) ⊕ (CS × Nat)) := gn x2 (N 5) (fun j_1 => ob (m_cRw_clear N j_1 S) (fun o_4 => gl x0 (N 11) (some (.inl ((o_4.setR 11 8 x0 x2), o_4.i 11 11 x0)))))
theorem d_cJT_end_4 : decode prog_1_method_3_code 4 = .ok (.iload_n 1, 1) := by decide +kernel
theorem d_cJT_end_5 : decode prog_1_method_3_code 5 = .ok (.bipush 20, 2) := by decide +kernel
theorem d_cJT_end_7 : decode prog_1_method_3_code 7 = .ok (.if_icmp .ge 14, 3) := by decide +kernel
theorem d_cJT_end_10 : decode prog_1_method_3_code 10 = .ok (.iload_n 1, 1) := by decide +kernel
theorem d_cJT_end_11 : decode prog_1_method_3_code 11 = .ok (.aload_n 0, 1) := by decide +kernel
theorem d_cJT_end_12 : decode prog_1_method_3_code 12 = .ok (.getfield 67, 3) := by decide +kernel
theorem d_cJT_end_15 : decode prog_1_method_3_code 15 = .ok (.getfield 80, 3) := by decide +kernel
theorem d_cJT_end_18 : decode prog_1_method_3_code 18 = .ok (.if_icmp .le 11, 3) := by decide +kernel
theorem d_cJT_end_29 : decode prog_1_method_3_code 29 = .ok (.aload_n 0, 1) := by decide +kernel
theorem d_cJT_end_30 : decode prog_1_method_3_code 30 = .ok (.getfield 67, 3) := by decide +kernel
theorem d_cJT_end_33 : decode prog_1_method_3_code 33 = .ok (.dup, 1) := by decide +kernel
theorem d_cJT_end_34 : decode prog_1_method_3_code 34 = .ok (.getfield 80, 3) := by decide +kernel
theorem d_cJT_end_37 : decode prog_1_method_3_code 37 = .ok (.iload_n 1, 1) := by decide +kernel
theorem d_cJT_end_38 : decode prog_1_method_3_code 38 = .ok (.isub, 1) := by decide +kernel
theorem d_cJT_end_39 : decode prog_1_method_3_code 39 = .ok (.putfield 80, 3) := by decide +kernel
theorem d_cJT_end_42 : decode prog_1_method_3_code 42 = .ok (.aload_n 0, 1) := by decide +kernel
theorem d_cJT_end_43 : decode prog_1_method_3_code 43 = .ok (.getfield 96, 3) := by decide +kernel
theorem d_cJT_end_46 : decode prog_1_method_3_code 46 = .ok (.ifCond .ne 24, 3) := by decide +kernel
theorem d_cJT_end_70 : decode prog_1_method_3_code 70 = .ok (.aload_n 0, 1) := by decide +kernel
theorem d_cJT_end_71 : decode prog_1_method_3_code 71 = .ok (.getfield 96, 3) := by decide +kernel
theorem d_cJT_end_74 : decode prog_1_method_3_code 74 = .ok (.iconst 1, 1) := by decide +kernel
theorem d_cJT_end_75 : decode prog_1_method_3_code 75 = .ok (.if_icmp .ne 24, 3) := by decide +kernel
theorem d_cJT_end_99 : decode prog_1_method_3_code 99 = .ok (.aload_n 0, 1) := by decide +kernel
theorem d_cJT_end_100 : decode prog_1_method_3_code 100 = .ok (.getfield 70, 3) := by decide +kernel
theorem d_cJT_end_103 : decode prog_1_method_3_code 103 = .ok (.astore_n 2, 1) := by decide +kernel
theorem d_cJT_end_104 : decode prog_1_method_3_code 104 = .ok (.aload_n 0, 1) := by decide +kernel
theorem d_cJT_end_105 : decode prog_1_method_3_code 105 = .ok (.aload_n 0, 1) := by decide +kernel
theorem d_cJT_end_106 : decode prog_1_method_3_code 106 = .ok (.getfield 73, 3) := by decide +kernel
theorem d_cJT_end_109 : decode prog_1_method_3_code 109 = .ok (.putfield 70, 3) := by decide +kernel
theorem d_cJT_end_112 : decode prog_1_method_3_code 112 = .ok (.aload_n 0, 1) := by decide +kernel
theorem d_cJT_end_113 : decode prog_1_method_3_code 113 = .ok (.aload_n 0, 1) := by decide +kernel
theorem d_cJT_end_114 : decode prog_1_method_3_code 114 = .ok (.getfield 67, 3) := by decide +kernel
theorem d_cJT_end_117 : decode prog_1_method_3_code 117 = .ok (.putfield 73, 3) := by decide +kernel
theorem d_cJT_end_120 : decode prog_1_method_3_code 120 = .ok (.aload_n 2, 1) := by decide +kernel
theorem d_cJT_end_121 : decode prog_1_method_3_code 121 = .ok (.invokevirtual 99, 3) := by decide +kernel
theorem d_cJT_end_124 : decode prog_1_method_3_code 124 = .ok (.aload_n 0, 1) := by decide +kernel
theorem d_cJT_end_125 : decode prog_1_method_3_code 125 = .ok (.aload_n 2, 1) := by decide +kernel
theorem d_cJT_end_126 : decode prog_1_method_3_code 126 = .ok (.putfield 67, 3) := by decide +kernel
theorem d_cJT_end_129 : decode prog_1_method_3_code 129 = .ok (.aload_n 0, 1) := by decide +kernel
theorem d_cJT_end_130 : decode prog_1_method_3_code 130 = .ok (.getfield 96, 3) := by decide +kernel
theorem d_cJT_end_133 : decode prog_1_method_3_code 133 = .ok (.ireturn, 1) := by decide +kernel
set_option maxHeartbeats 4000000 in
set_option maxRecDepth 100000 in
theorem w_cJT_end_J120 {p : Program} {l : Launch} {e : Env} {s : State} {m : MethodId} {args : Array Value} {below : List Frame} {meth : Method} {c : Code} {A : Nat → Prop} {D : va_G} {ad : Nat → Nat → Nat} {cc : Nat → ClassId} {sad sav : Nat → Nat} {Q : State → Prop} {cR sR : Nat} (hfl : l.flags = flags0) (hC : MCc sad sav "JoinedTrees" prog_1_method_3_code 3 (some .int) p s m args meth c A D cc) {N : Nat → Nat} {x0 : Nat} {S : CS} {x2 : Option Nat} {o : ((CS × Int32) ⊕ (CS × Nat))} (Heq : m_cJT_end_J120 N x0 S x2 = some o) (Kr : ∀ r : ((CS × Int32) ⊕ (CS × Nat)), o = r → (∀ v9 : CS × Int32, r = .inl v9 → ∀ (pc : Nat) (H : Heap) (locs : List Loc) (ls : Array Slot), decode prog_1_method_3_code pc = .ok (.ireturn, 1) → va_P D cls (cw ad cc N v9.1) H → va_D A (cw ad cc N v9.1) → va_S A s.heap H locs → W p l e ({ frames := 6, cells := cR, slots := sR, locals := 96 }) s m args below meth c H locs 0 0 Q (F0 m pc ls [.int v9.2])) ∧ (∀ t9 : CS × Nat, r = .inr t9 → (1 ≤ cR ∧ 6 ≤ sR) ∧ (∀ (pc : Nat) (H : Heap) (locs : List Loc) (ls : Array Slot), thD prog_1_method_3_code t9.2 pc → ls.size = 3 → va_P D cls (cw ad cc N t9.1) H → va_D A (cw ad cc N t9.1) → va_S A s.heap H locs → W p l e ({ frames := 6, cells := cR, slots := sR, locals := 96 }) s m args below meth c H locs 0 0 Q (F0 m pc ls [])) ∧ (∀ (pc : Nat) (H : Heap) (locs : List Loc) (ls : Array Slot) (st0 rest9 : List Value) (A9 : Nat → Prop), tx_Thr p l e ({ frames := 6, cells := cR, slots := sR, locals := 96 }) s m args below meth c H locs 0 0 1 6 (F0 m pc ls st0) rest9 (exN t9.2) A9 (fun H1 => va_P D cls (cw ad cc N t9.1) H1) → (∀ q, A9 q → A q) → va_S A s.heap H locs → W p l e ({ frames := 6, cells := cR, slots := sR, locals := 96 }) s m args below meth c H locs 0 0 Q (F0 m pc ls st0)))) : ∀ (H : Heap) (locs : List Loc) (ls : Array Slot), va_P D cls (cw ad cc N S) H → va_D A (cw ad cc N S) → va_S A s.heap H locs → lv_has ls 3 [(0, .ref (ad 11 x0)), (2, rv ad 5 x2)] → W p l e ({ frames := 6, cells := cR, slots := sR, locals := 96 }) s m args below meth c H locs 0 0 Q (F0 m 120 ls []) := by
  intro H locs ls hP hD hS hl
  obtain ⟨hx, hb, hr, hml, hown, hts, hK, hA, hev, hE, hN, hNS⟩ := id hC
  unfold m_cJT_end_J120 at Heq
  refine tx_aload_n (x := x2.map (ad 5)) hx hb d_cJT_end_120 rfl (lv_at hl 1 rfl) ?_
  refine w_v (y := rv ad 5 x2) rfl ?_
  obtain ⟨j_1, hj_2, hl_3, Heq⟩ := gn_some Heq
  refine w_s (st' := [.ref (ad 5 j_1)]) (congrArg (fun z9 : Option Nat => [rv ad 5 z9]) hj_2) ?_
  obtain ⟨o_4, h_5, Heq⟩ := ob_some Heq
  have hFc := fr_all hD hS hA
  refine va_callv (va_runV (As := []) (rest := []) ⟨hx, hb, hml, hown, hts⟩ (g_cRw_clear l D H.size (ad := ad) (cc := cc) (sad := sad) (sav := sav) h_5) (cw_v 0 hts kw_576 kw_573 kw_574 kw_575 kw_4 rfl rfl (by decide +kernel) ⟨Nat.le_of_ble_eq_true rfl, Nat.le_of_ble_eq_true rfl⟩) ⟨c_blind, va_recv hK hP (ci := 5) (q0 := cPos N 5 j_1) rfl (cw_obj (k := 5) (by decide) hl_3), fun U hU hW => c_pre hU hW hP hK hD hev hE hN hNS hS hFc⟩ rfl rfl hl.1 rfl (lv_room (Nat.le_of_ble_eq_true rfl)) d_cJT_end_121 ⟨Nat.zero_le _, Nat.zero_le _⟩) hS (fun q _ h => hFc q h) hFc (fun u t H1 locs ht hvm hw hB hz1 hk1 hS => ?_)
  obtain ⟨hP, -, hD1⟩ := hB
  rw [ht] at hP
  have hD := hD1.weaken (fun _ q _ h => hFc q.1 h)
  generalize H1 = H at hP hS ⊢
  refine W.cs (cells' := 0) (slots' := 0) rfl rfl ?_
  refine lv_aload_n hx hb d_cJT_end_124 rfl (lv_at hl 0 rfl) ?_
  refine tx_aload_n (x := x2.map (ad 5)) hx hb d_cJT_end_125 rfl (lv_at hl 1 rfl) ?_
  refine w_v (y := rv ad 5 x2) rfl ?_
  obtain ⟨hl_x0_11, Heq⟩ := gl_some Heq
  refine w_v (y := rv ad 5 x2) rfl ?_
  refine va_put (D := D) (ci := 11) (v := rv ad 5 x2) (ty := .object "JoinedTrees$Row") (C := R_JT) (T := F_JT) (N := 13) hx hb hts i_JT t_JT t_JT_ok n_JT hown hK hP hD hS (cPos N 11 x0) (cw_obj (k := 11) (by decide) hl_x0_11) rfl 8 (by decide) (hts _ kw_429) (fun _ h9 => h9) rfl (by decide +kernel) (rv_nar (Or.inl ⟨_, rfl⟩)) (rv_fit (Or.inl ⟨_, rfl⟩)) (Nat.le_of_ble_eq_true rfl) d_cJT_end_126 (fun H locs hP hD hS => ?_)
  have hD := (congrArg (fun w9 => va_D A w9) (cw_setR (ad := ad) (cc := cc) (S := o_4) (k := 11) (f := 8) (t := 5) (v := x2) (by decide) rfl hl_x0_11)).mp hD
  have hP := (congrArg (fun w9 => va_P D cls w9 H) (cw_setR (ad := ad) (cc := cc) (S := o_4) (k := 11) (f := 8) (t := 5) (v := x2) (by decide) rfl hl_x0_11)).mp hP
  refine lv_aload_n hx hb d_cJT_end_129 rfl (lv_at hl 0 rfl) ?_
  refine va_get (D := D) (ci := 11) (v := .int ((o_4.setR 11 8 x0 x2).i 11 11 x0)) (C := R_JT) (T := F_JT) (N := 13) hx hb hts i_JT hown hK hP (cPos N 11 x0) (cw_obj (k := 11) (by decide) hl_x0_11) rfl 11 (by decide) (hts _ kw_432) (fun _ h9 => h9) rfl d_cJT_end_130 ?_
  refine w_i (y := o_4.i 11 11 x0) rfl ?_
  exact (Kr _ (Option.some.inj Heq).symm).1 _ rfl 133 _ _ _ d_cJT_end_133 hP hD hS
def m_cJT_end_J0 (N : Nat → Nat) (x0 : Nat) (S : CS) (x1 : Int32) : Option ((CS × Int32) ⊕ (CS × Nat)) := (if x1 < 0 then m_cJT_end_J21 N x0 S else (if 20 ≤ x1 then m_cJT_end_J21 N x0 S else gl x0 (N 11) (gn (S.r 11 8 x0) (N 5) (fun j_3 => (if x1 ≤ S.i 5 1 j_3 then (if S.i 11 11 x0 = 0 then m_cJT_end_J120 N x0 (((S.setI 5 1 j_3 ((S.i 5 1 j_3) - x1)).setR 11 9 x0 (S.r 11 8 x0)).setI 11 11 x0 1) (S.r 11 9 x0) else (if S.i 11 11 x0 = 1 then m_cJT_end_J120 N x0 (((S.setI 5 1 j_3 ((S.i 5 1 j_3) - x1)).setR 11 10 x0 (S.r 11 8 x0)).setI 11 11 x0 2) (S.r 11 10 x0) else m_cJT_end_J120 N x0 (((S.setI 5 1 j_3 ((S.i 5 1 j_3) - x1)).setR 11 9 x0 (S.r 11 10 x0)).setR 11 10 x0 (S.r 11 8 x0)) (S.r 11 9 x0))) else m_cJT_end_J21 N x0 S)))))
theorem d_cJT_end_78 : decode prog_1_method_3_code 78 = .ok (.aload_n 0, 1) := by decide +kernel
theorem d_cJT_end_79 : decode prog_1_method_3_code 79 = .ok (.getfield 73, 3) := by decide +kernel
theorem d_cJT_end_82 : decode prog_1_method_3_code 82 = .ok (.astore_n 2, 1) := by decide +kernel
theorem d_cJT_end_83 : decode prog_1_method_3_code 83 = .ok (.aload_n 0, 1) := by decide +kernel
theorem d_cJT_end_84 : decode prog_1_method_3_code 84 = .ok (.aload_n 0, 1) := by decide +kernel
theorem d_cJT_end_85 : decode prog_1_method_3_code 85 = .ok (.getfield 67, 3) := by decide +kernel
theorem d_cJT_end_88 : decode prog_1_method_3_code 88 = .ok (.putfield 73, 3) := by decide +kernel
theorem d_cJT_end_91 : decode prog_1_method_3_code 91 = .ok (.aload_n 0, 1) := by decide +kernel
theorem d_cJT_end_92 : decode prog_1_method_3_code 92 = .ok (.iconst 2, 1) := by decide +kernel
theorem d_cJT_end_93 : decode prog_1_method_3_code 93 = .ok (.putfield 96, 3) := by decide +kernel
theorem d_cJT_end_96 : decode prog_1_method_3_code 96 = .ok (.goto 24, 3) := by decide +kernel
theorem d_cJT_end_49 : decode prog_1_method_3_code 49 = .ok (.aload_n 0, 1) := by decide +kernel
theorem d_cJT_end_50 : decode prog_1_method_3_code 50 = .ok (.getfield 70, 3) := by decide +kernel
theorem d_cJT_end_53 : decode prog_1_method_3_code 53 = .ok (.astore_n 2, 1) := by decide +kernel
theorem d_cJT_end_54 : decode prog_1_method_3_code 54 = .ok (.aload_n 0, 1) := by decide +kernel
theorem d_cJT_end_55 : decode prog_1_method_3_code 55 = .ok (.aload_n 0, 1) := by decide +kernel
theorem d_cJT_end_56 : decode prog_1_method_3_code 56 = .ok (.getfield 67, 3) := by decide +kernel
theorem d_cJT_end_59 : decode prog_1_method_3_code 59 = .ok (.putfield 70, 3) := by decide +kernel
theorem d_cJT_end_62 : decode prog_1_method_3_code 62 = .ok (.aload_n 0, 1) := by decide +kernel
theorem d_cJT_end_63 : decode prog_1_method_3_code 63 = .ok (.iconst 1, 1) := by decide +kernel
theorem d_cJT_end_64 : decode prog_1_method_3_code 64 = .ok (.putfield 96, 3) := by decide +kernel
theorem d_cJT_end_67 : decode prog_1_method_3_code 67 = .ok (.goto 53, 3) := by decide +kernel
set_option maxHeartbeats 4000000 in
set_option maxRecDepth 100000 in
theorem w_cJT_end_J0 {p : Program} {l : Launch} {e : Env} {s : State} {m : MethodId} {args : Array Value} {below : List Frame} {meth : Method} {c : Code} {A : Nat → Prop} {D : va_G} {ad : Nat → Nat → Nat} {cc : Nat → ClassId} {sad sav : Nat → Nat} {Q : State → Prop} {cR sR : Nat} (hfl : l.flags = flags0) (hC : MCc sad sav "JoinedTrees" prog_1_method_3_code 3 (some .int) p s m args meth c A D cc) {N : Nat → Nat} {x0 : Nat} {S : CS} {x1 : Int32} {o : ((CS × Int32) ⊕ (CS × Nat))} (Heq : m_cJT_end_J0 N x0 S x1 = some o) (Kr : ∀ r : ((CS × Int32) ⊕ (CS × Nat)), o = r → (∀ v9 : CS × Int32, r = .inl v9 → ∀ (pc : Nat) (H : Heap) (locs : List Loc) (ls : Array Slot), decode prog_1_method_3_code pc = .ok (.ireturn, 1) → va_P D cls (cw ad cc N v9.1) H → va_D A (cw ad cc N v9.1) → va_S A s.heap H locs → W p l e ({ frames := 6, cells := cR, slots := sR, locals := 96 }) s m args below meth c H locs 0 0 Q (F0 m pc ls [.int v9.2])) ∧ (∀ t9 : CS × Nat, r = .inr t9 → (1 ≤ cR ∧ 6 ≤ sR) ∧ (∀ (pc : Nat) (H : Heap) (locs : List Loc) (ls : Array Slot), thD prog_1_method_3_code t9.2 pc → ls.size = 3 → va_P D cls (cw ad cc N t9.1) H → va_D A (cw ad cc N t9.1) → va_S A s.heap H locs → W p l e ({ frames := 6, cells := cR, slots := sR, locals := 96 }) s m args below meth c H locs 0 0 Q (F0 m pc ls [])) ∧ (∀ (pc : Nat) (H : Heap) (locs : List Loc) (ls : Array Slot) (st0 rest9 : List Value) (A9 : Nat → Prop), tx_Thr p l e ({ frames := 6, cells := cR, slots := sR, locals := 96 }) s m args below meth c H locs 0 0 1 6 (F0 m pc ls st0) rest9 (exN t9.2) A9 (fun H1 => va_P D cls (cw ad cc N t9.1) H1) → (∀ q, A9 q → A q) → va_S A s.heap H locs → W p l e ({ frames := 6, cells := cR, slots := sR, locals := 96 }) s m args below meth c H locs 0 0 Q (F0 m pc ls st0)))) : ∀ (H : Heap) (locs : List Loc) (ls : Array Slot), va_P D cls (cw ad cc N S) H → va_D A (cw ad cc N S) → va_S A s.heap H locs → lv_has ls 3 [(0, .ref (ad 11 x0)), (1, .int x1)] → W p l e ({ frames := 6, cells := cR, slots := sR, locals := 96 }) s m args below meth c H locs 0 0 Q (F0 m 0 ls []) := by
  intro H locs ls hP hD hS hl
  obtain ⟨hx, hb, hr, hml, hown, hts, hK, hA, hev, hE, hN, hNS⟩ := id hC
  unfold m_cJT_end_J0 at Heq
  refine lv_iload_n hx hb d_cJT_end_0 rfl (lv_at hl 1 rfl) ?_
  refine lv_if_lt (tgt := 21) hx hb d_cJT_end_1 (by decide) (fun c_1 => ?_) (fun c_1 => ?_)
  · replace Heq := (if_pos c_1).symm.trans Heq
    exact w_cJT_end_J21 hfl hC Heq Kr _ _ _ hP hD hS (lv_sub hl [0] rfl)
  · replace Heq := (if_neg c_1).symm.trans Heq
    refine lv_iload_n hx hb d_cJT_end_4 rfl (lv_at hl 1 rfl) ?_
    refine lv_bipush (v := 20) hx hb d_cJT_end_5 (by decide) ?_
    refine lv_icmp_ge (tgt := 21) hx hb d_cJT_end_7 (by decide) (fun c_2 => ?_) (fun c_2 => ?_)
    · replace Heq := (if_pos c_2).symm.trans Heq
      exact w_cJT_end_J21 hfl hC Heq Kr _ _ _ hP hD hS (lv_sub hl [0] rfl)
    · replace Heq := (if_neg c_2).symm.trans Heq
      refine lv_iload_n hx hb d_cJT_end_10 rfl (lv_at hl 1 rfl) ?_
      refine lv_aload_n hx hb d_cJT_end_11 rfl (lv_at hl 0 rfl) ?_
      obtain ⟨hl_x0_11, Heq⟩ := gl_some Heq
      refine va_get (D := D) (ci := 11) (v := rv ad 5 (S.r 11 8 x0)) (C := R_JT) (T := F_JT) (N := 13) hx hb hts i_JT hown hK hP (cPos N 11 x0) (cw_obj (k := 11) (by decide) hl_x0_11) rfl 8 (by decide) (hts _ kw_429) (fun _ h9 => h9) rfl d_cJT_end_12 ?_
      obtain ⟨j_3, hj_4, hl_5, Heq⟩ := gn_some Heq
      refine w_s (st' := [.ref (ad 5 j_3), .int x1]) (congrArg (fun z9 : Option Nat => [rv ad 5 z9, .int x1]) hj_4) ?_
      refine va_get (D := D) (ci := 5) (v := .int (S.i 5 1 j_3)) (C := R_Rw) (T := F_Rw) (N := 3) hx hb hts i_Rw hown hK hP (cPos N 5 j_3) (cw_obj (k := 5) (by decide) hl_5) rfl 1 (by decide) (hts _ kw_143) (fun _ h9 => h9) rfl d_cJT_end_15 ?_
      refine lv_icmp_le (tgt := 29) hx hb d_cJT_end_18 (by decide) (fun c_6 => ?_) (fun c_6 => ?_)
      · replace Heq := (if_pos c_6).symm.trans Heq
        refine lv_aload_n hx hb d_cJT_end_29 rfl (lv_at hl 0 rfl) ?_
        refine va_get (D := D) (ci := 11) (v := rv ad 5 (S.r 11 8 x0)) (C := R_JT) (T := F_JT) (N := 13) hx hb hts i_JT hown hK hP (cPos N 11 x0) (cw_obj (k := 11) (by decide) hl_x0_11) rfl 8 (by decide) (hts _ kw_429) (fun _ h9 => h9) rfl d_cJT_end_30 ?_
        refine lv_dup hx hb d_cJT_end_33 (by first | rfl | exact rv_cat) ?_
        refine w_s (st' := [.ref (ad 5 j_3), rv ad 5 (S.r 11 8 x0)]) (congrArg (fun z9 : Option Nat => [rv ad 5 z9, rv ad 5 (S.r 11 8 x0)]) hj_4) ?_
        refine va_get (D := D) (ci := 5) (v := .int (S.i 5 1 j_3)) (C := R_Rw) (T := F_Rw) (N := 3) hx hb hts i_Rw hown hK hP (cPos N 5 j_3) (cw_obj (k := 5) (by decide) hl_5) rfl 1 (by decide) (hts _ kw_143) (fun _ h9 => h9) rfl d_cJT_end_34 ?_
        refine lv_iload_n hx hb d_cJT_end_37 rfl (lv_at hl 1 rfl) ?_
        refine lv_isub hx hb d_cJT_end_38 ?_
        refine w_i (y := (S.i 5 1 j_3) - x1) rfl ?_
        refine w_s (st' := [.int ((S.i 5 1 j_3) - x1), .ref (ad 5 j_3)]) (congrArg (fun z9 : Option Nat => [.int ((S.i 5 1 j_3) - x1), rv ad 5 z9]) hj_4) ?_
        refine va_put (D := D) (ci := 5) (v := .int ((S.i 5 1 j_3) - x1)) (ty := .int) (C := R_Rw) (T := F_Rw) (N := 3) hx hb hts i_Rw t_Rw t_Rw_ok n_Rw hown hK hP hD hS (cPos N 5 j_3) (cw_obj (k := 5) (by decide) hl_5) rfl 1 (by decide) (hts _ kw_143) (fun _ h9 => h9) rfl (by decide +kernel) rfl rfl (Nat.le_of_ble_eq_true rfl) d_cJT_end_39 (fun H locs hP hD hS => ?_)
        have hD := (congrArg (fun w9 => va_D A w9) (cw_setI (ad := ad) (cc := cc) (S := S) (k := 5) (f := 1) (v := (S.i 5 1 j_3) - x1) (by decide) rfl hl_5)).mp hD
        have hP := (congrArg (fun w9 => va_P D cls w9 H) (cw_setI (ad := ad) (cc := cc) (S := S) (k := 5) (f := 1) (v := (S.i 5 1 j_3) - x1) (by decide) rfl hl_5)).mp hP
        refine lv_aload_n hx hb d_cJT_end_42 rfl (lv_at hl 0 rfl) ?_
        refine va_get (D := D) (ci := 11) (v := .int ((S.setI 5 1 j_3 ((S.i 5 1 j_3) - x1)).i 11 11 x0)) (C := R_JT) (T := F_JT) (N := 13) hx hb hts i_JT hown hK hP (cPos N 11 x0) (cw_obj (k := 11) (by decide) hl_x0_11) rfl 11 (by decide) (hts _ kw_432) (fun _ h9 => h9) rfl d_cJT_end_43 ?_
        refine w_i (y := S.i 11 11 x0) rfl ?_
        refine lv_if_ne (tgt := 70) hx hb d_cJT_end_46 (by decide) (fun c_7 => ?_) (fun c_7 => ?_)
        · replace Heq := (if_neg c_7).symm.trans Heq
          refine lv_aload_n hx hb d_cJT_end_70 rfl (lv_at hl 0 rfl) ?_
          refine va_get (D := D) (ci := 11) (v := .int ((S.setI 5 1 j_3 ((S.i 5 1 j_3) - x1)).i 11 11 x0)) (C := R_JT) (T := F_JT) (N := 13) hx hb hts i_JT hown hK hP (cPos N 11 x0) (cw_obj (k := 11) (by decide) hl_x0_11) rfl 11 (by decide) (hts _ kw_432) (fun _ h9 => h9) rfl d_cJT_end_71 ?_
          refine w_i (y := S.i 11 11 x0) rfl ?_
          refine lv_iconst (v := 1) hx hb d_cJT_end_74 (by decide) ?_
          refine lv_icmp_ne (tgt := 99) hx hb d_cJT_end_75 (by decide) (fun c_8 => ?_) (fun c_8 => ?_)
          · replace Heq := (if_neg c_8).symm.trans Heq
            refine lv_aload_n hx hb d_cJT_end_99 rfl (lv_at hl 0 rfl) ?_
            refine va_get (D := D) (ci := 11) (v := rv ad 5 ((S.setI 5 1 j_3 ((S.i 5 1 j_3) - x1)).r 11 9 x0)) (C := R_JT) (T := F_JT) (N := 13) hx hb hts i_JT hown hK hP (cPos N 11 x0) (cw_obj (k := 11) (by decide) hl_x0_11) rfl 9 (by decide) (hts _ kw_430) (fun _ h9 => h9) rfl d_cJT_end_100 ?_
            refine w_v (y := rv ad 5 (S.r 11 9 x0)) (congrArg (rv ad 5) rfl) ?_
            refine tx_astore_n (x := (S.r 11 9 x0).map (ad 5)) (lv' := [(2, rv ad 5 (S.r 11 9 x0)), (0, .ref (ad 11 x0)), (1, .int x1)]) hx hb d_cJT_end_103 rfl hl (by decide) rfl (fun ls hl => ?_)
            refine lv_aload_n hx hb d_cJT_end_104 rfl (lv_at hl 1 rfl) ?_
            refine lv_aload_n hx hb d_cJT_end_105 rfl (lv_at hl 1 rfl) ?_
            refine va_get (D := D) (ci := 11) (v := rv ad 5 ((S.setI 5 1 j_3 ((S.i 5 1 j_3) - x1)).r 11 10 x0)) (C := R_JT) (T := F_JT) (N := 13) hx hb hts i_JT hown hK hP (cPos N 11 x0) (cw_obj (k := 11) (by decide) hl_x0_11) rfl 10 (by decide) (hts _ kw_431) (fun _ h9 => h9) rfl d_cJT_end_106 ?_
            refine w_v (y := rv ad 5 (S.r 11 10 x0)) (congrArg (rv ad 5) rfl) ?_
            refine w_v (y := rv ad 5 (S.r 11 10 x0)) rfl ?_
            refine va_put (D := D) (ci := 11) (v := rv ad 5 (S.r 11 10 x0)) (ty := .object "JoinedTrees$Row") (C := R_JT) (T := F_JT) (N := 13) hx hb hts i_JT t_JT t_JT_ok n_JT hown hK hP hD hS (cPos N 11 x0) (cw_obj (k := 11) (by decide) hl_x0_11) rfl 9 (by decide) (hts _ kw_430) (fun _ h9 => h9) rfl (by decide +kernel) (rv_nar (Or.inl ⟨_, rfl⟩)) (rv_fit (Or.inl ⟨_, rfl⟩)) (Nat.le_of_ble_eq_true rfl) d_cJT_end_109 (fun H locs hP hD hS => ?_)
            have hD := (congrArg (fun w9 => va_D A w9) (cw_setR (ad := ad) (cc := cc) (S := (S.setI 5 1 j_3 ((S.i 5 1 j_3) - x1))) (k := 11) (f := 9) (t := 5) (v := (S.r 11 10 x0)) (by decide) rfl hl_x0_11)).mp hD
            have hP := (congrArg (fun w9 => va_P D cls w9 H) (cw_setR (ad := ad) (cc := cc) (S := (S.setI 5 1 j_3 ((S.i 5 1 j_3) - x1))) (k := 11) (f := 9) (t := 5) (v := (S.r 11 10 x0)) (by decide) rfl hl_x0_11)).mp hP
            refine lv_aload_n hx hb d_cJT_end_112 rfl (lv_at hl 1 rfl) ?_
            refine lv_aload_n hx hb d_cJT_end_113 rfl (lv_at hl 1 rfl) ?_
            refine va_get (D := D) (ci := 11) (v := rv ad 5 (((S.setI 5 1 j_3 ((S.i 5 1 j_3) - x1)).setR 11 9 x0 (S.r 11 10 x0)).r 11 8 x0)) (C := R_JT) (T := F_JT) (N := 13) hx hb hts i_JT hown hK hP (cPos N 11 x0) (cw_obj (k := 11) (by decide) hl_x0_11) rfl 8 (by decide) (hts _ kw_429) (fun _ h9 => h9) rfl d_cJT_end_114 ?_
            refine w_v (y := rv ad 5 (S.r 11 8 x0)) (congrArg (rv ad 5) rfl) ?_
            refine w_v (y := rv ad 5 (S.r 11 8 x0)) rfl ?_
            refine va_put (D := D) (ci := 11) (v := rv ad 5 (S.r 11 8 x0)) (ty := .object "JoinedTrees$Row") (C := R_JT) (T := F_JT) (N := 13) hx hb hts i_JT t_JT t_JT_ok n_JT hown hK hP hD hS (cPos N 11 x0) (cw_obj (k := 11) (by decide) hl_x0_11) rfl 10 (by decide) (hts _ kw_431) (fun _ h9 => h9) rfl (by decide +kernel) (rv_nar (Or.inl ⟨_, rfl⟩)) (rv_fit (Or.inl ⟨_, rfl⟩)) (Nat.le_of_ble_eq_true rfl) d_cJT_end_117 (fun H locs hP hD hS => ?_)
            have hD := (congrArg (fun w9 => va_D A w9) (cw_setR (ad := ad) (cc := cc) (S := ((S.setI 5 1 j_3 ((S.i 5 1 j_3) - x1)).setR 11 9 x0 (S.r 11 10 x0))) (k := 11) (f := 10) (t := 5) (v := (S.r 11 8 x0)) (by decide) rfl hl_x0_11)).mp hD
            have hP := (congrArg (fun w9 => va_P D cls w9 H) (cw_setR (ad := ad) (cc := cc) (S := ((S.setI 5 1 j_3 ((S.i 5 1 j_3) - x1)).setR 11 9 x0 (S.r 11 10 x0))) (k := 11) (f := 10) (t := 5) (v := (S.r 11 8 x0)) (by decide) rfl hl_x0_11)).mp hP
            exact w_cJT_end_J120 hfl hC Heq Kr _ _ _ hP hD hS (lv_sub hl [1, 0] rfl)
          · replace Heq := (if_pos c_8).symm.trans Heq
            refine lv_aload_n hx hb d_cJT_end_78 rfl (lv_at hl 0 rfl) ?_
            refine va_get (D := D) (ci := 11) (v := rv ad 5 ((S.setI 5 1 j_3 ((S.i 5 1 j_3) - x1)).r 11 10 x0)) (C := R_JT) (T := F_JT) (N := 13) hx hb hts i_JT hown hK hP (cPos N 11 x0) (cw_obj (k := 11) (by decide) hl_x0_11) rfl 10 (by decide) (hts _ kw_431) (fun _ h9 => h9) rfl d_cJT_end_79 ?_
            refine w_v (y := rv ad 5 (S.r 11 10 x0)) (congrArg (rv ad 5) rfl) ?_
            refine tx_astore_n (x := (S.r 11 10 x0).map (ad 5)) (lv' := [(2, rv ad 5 (S.r 11 10 x0)), (0, .ref (ad 11 x0)), (1, .int x1)]) hx hb d_cJT_end_82 rfl hl (by decide) rfl (fun ls hl => ?_)
            refine lv_aload_n hx hb d_cJT_end_83 rfl (lv_at hl 1 rfl) ?_
            refine lv_aload_n hx hb d_cJT_end_84 rfl (lv_at hl 1 rfl) ?_
            refine va_get (D := D) (ci := 11) (v := rv ad 5 ((S.setI 5 1 j_3 ((S.i 5 1 j_3) - x1)).r 11 8 x0)) (C := R_JT) (T := F_JT) (N := 13) hx hb hts i_JT hown hK hP (cPos N 11 x0) (cw_obj (k := 11) (by decide) hl_x0_11) rfl 8 (by decide) (hts _ kw_429) (fun _ h9 => h9) rfl d_cJT_end_85 ?_
            refine w_v (y := rv ad 5 (S.r 11 8 x0)) (congrArg (rv ad 5) rfl) ?_
            refine w_v (y := rv ad 5 (S.r 11 8 x0)) rfl ?_
            refine va_put (D := D) (ci := 11) (v := rv ad 5 (S.r 11 8 x0)) (ty := .object "JoinedTrees$Row") (C := R_JT) (T := F_JT) (N := 13) hx hb hts i_JT t_JT t_JT_ok n_JT hown hK hP hD hS (cPos N 11 x0) (cw_obj (k := 11) (by decide) hl_x0_11) rfl 10 (by decide) (hts _ kw_431) (fun _ h9 => h9) rfl (by decide +kernel) (rv_nar (Or.inl ⟨_, rfl⟩)) (rv_fit (Or.inl ⟨_, rfl⟩)) (Nat.le_of_ble_eq_true rfl) d_cJT_end_88 (fun H locs hP hD hS => ?_)
            have hD := (congrArg (fun w9 => va_D A w9) (cw_setR (ad := ad) (cc := cc) (S := (S.setI 5 1 j_3 ((S.i 5 1 j_3) - x1))) (k := 11) (f := 10) (t := 5) (v := (S.r 11 8 x0)) (by decide) rfl hl_x0_11)).mp hD
            have hP := (congrArg (fun w9 => va_P D cls w9 H) (cw_setR (ad := ad) (cc := cc) (S := (S.setI 5 1 j_3 ((S.i 5 1 j_3) - x1))) (k := 11) (f := 10) (t := 5) (v := (S.r 11 8 x0)) (by decide) rfl hl_x0_11)).mp hP
            refine lv_aload_n hx hb d_cJT_end_91 rfl (lv_at hl 1 rfl) ?_
            refine lv_iconst (v := 2) hx hb d_cJT_end_92 (by decide) ?_
            refine va_put (D := D) (ci := 11) (v := .int 2) (ty := .int) (C := R_JT) (T := F_JT) (N := 13) hx hb hts i_JT t_JT t_JT_ok n_JT hown hK hP hD hS (cPos N 11 x0) (cw_obj (k := 11) (by decide) hl_x0_11) rfl 11 (by decide) (hts _ kw_432) (fun _ h9 => h9) rfl (by decide +kernel) rfl rfl (Nat.le_of_ble_eq_true rfl) d_cJT_end_93 (fun H locs hP hD hS => ?_)
            have hD := (congrArg (fun w9 => va_D A w9) (cw_setI (ad := ad) (cc := cc) (S := ((S.setI 5 1 j_3 ((S.i 5 1 j_3) - x1)).setR 11 10 x0 (S.r 11 8 x0))) (k := 11) (f := 11) (v := 2) (by decide) rfl hl_x0_11)).mp hD
            have hP := (congrArg (fun w9 => va_P D cls w9 H) (cw_setI (ad := ad) (cc := cc) (S := ((S.setI 5 1 j_3 ((S.i 5 1 j_3) - x1)).setR 11 10 x0 (S.r 11 8 x0))) (k := 11) (f := 11) (v := 2) (by decide) rfl hl_x0_11)).mp hP
            refine lv_goto (tgt := 120) hx hb d_cJT_end_96 (by decide) ?_
            exact w_cJT_end_J120 hfl hC Heq Kr _ _ _ hP hD hS (lv_sub hl [1, 0] rfl)
        · replace Heq := (if_pos c_7).symm.trans Heq
          refine lv_aload_n hx hb d_cJT_end_49 rfl (lv_at hl 0 rfl) ?_
          refine va_get (D := D) (ci := 11) (v := rv ad 5 ((S.setI 5 1 j_3 ((S.i 5 1 j_3) - x1)).r 11 9 x0)) (C := R_JT) (T := F_JT) (N := 13) hx hb hts i_JT hown hK hP (cPos N 11 x0) (cw_obj (k := 11) (by decide) hl_x0_11) rfl 9 (by decide) (hts _ kw_430) (fun _ h9 => h9) rfl d_cJT_end_50 ?_
          refine w_v (y := rv ad 5 (S.r 11 9 x0)) (congrArg (rv ad 5) rfl) ?_
          refine tx_astore_n (x := (S.r 11 9 x0).map (ad 5)) (lv' := [(2, rv ad 5 (S.r 11 9 x0)), (0, .ref (ad 11 x0)), (1, .int x1)]) hx hb d_cJT_end_53 rfl hl (by decide) rfl (fun ls hl => ?_)
          refine lv_aload_n hx hb d_cJT_end_54 rfl (lv_at hl 1 rfl) ?_
          refine lv_aload_n hx hb d_cJT_end_55 rfl (lv_at hl 1 rfl) ?_
          refine va_get (D := D) (ci := 11) (v := rv ad 5 ((S.setI 5 1 j_3 ((S.i 5 1 j_3) - x1)).r 11 8 x0)) (C := R_JT) (T := F_JT) (N := 13) hx hb hts i_JT hown hK hP (cPos N 11 x0) (cw_obj (k := 11) (by decide) hl_x0_11) rfl 8 (by decide) (hts _ kw_429) (fun _ h9 => h9) rfl d_cJT_end_56 ?_
          refine w_v (y := rv ad 5 (S.r 11 8 x0)) (congrArg (rv ad 5) rfl) ?_
          refine w_v (y := rv ad 5 (S.r 11 8 x0)) rfl ?_
          refine va_put (D := D) (ci := 11) (v := rv ad 5 (S.r 11 8 x0)) (ty := .object "JoinedTrees$Row") (C := R_JT) (T := F_JT) (N := 13) hx hb hts i_JT t_JT t_JT_ok n_JT hown hK hP hD hS (cPos N 11 x0) (cw_obj (k := 11) (by decide) hl_x0_11) rfl 9 (by decide) (hts _ kw_430) (fun _ h9 => h9) rfl (by decide +kernel) (rv_nar (Or.inl ⟨_, rfl⟩)) (rv_fit (Or.inl ⟨_, rfl⟩)) (Nat.le_of_ble_eq_true rfl) d_cJT_end_59 (fun H locs hP hD hS => ?_)
          have hD := (congrArg (fun w9 => va_D A w9) (cw_setR (ad := ad) (cc := cc) (S := (S.setI 5 1 j_3 ((S.i 5 1 j_3) - x1))) (k := 11) (f := 9) (t := 5) (v := (S.r 11 8 x0)) (by decide) rfl hl_x0_11)).mp hD
          have hP := (congrArg (fun w9 => va_P D cls w9 H) (cw_setR (ad := ad) (cc := cc) (S := (S.setI 5 1 j_3 ((S.i 5 1 j_3) - x1))) (k := 11) (f := 9) (t := 5) (v := (S.r 11 8 x0)) (by decide) rfl hl_x0_11)).mp hP
          refine lv_aload_n hx hb d_cJT_end_62 rfl (lv_at hl 1 rfl) ?_
          refine lv_iconst (v := 1) hx hb d_cJT_end_63 (by decide) ?_
          refine va_put (D := D) (ci := 11) (v := .int 1) (ty := .int) (C := R_JT) (T := F_JT) (N := 13) hx hb hts i_JT t_JT t_JT_ok n_JT hown hK hP hD hS (cPos N 11 x0) (cw_obj (k := 11) (by decide) hl_x0_11) rfl 11 (by decide) (hts _ kw_432) (fun _ h9 => h9) rfl (by decide +kernel) rfl rfl (Nat.le_of_ble_eq_true rfl) d_cJT_end_64 (fun H locs hP hD hS => ?_)
          have hD := (congrArg (fun w9 => va_D A w9) (cw_setI (ad := ad) (cc := cc) (S := ((S.setI 5 1 j_3 ((S.i 5 1 j_3) - x1)).setR 11 9 x0 (S.r 11 8 x0))) (k := 11) (f := 11) (v := 1) (by decide) rfl hl_x0_11)).mp hD
          have hP := (congrArg (fun w9 => va_P D cls w9 H) (cw_setI (ad := ad) (cc := cc) (S := ((S.setI 5 1 j_3 ((S.i 5 1 j_3) - x1)).setR 11 9 x0 (S.r 11 8 x0))) (k := 11) (f := 11) (v := 1) (by decide) rfl hl_x0_11)).mp hP
          refine lv_goto (tgt := 120) hx hb d_cJT_end_67 (by decide) ?_
          exact w_cJT_end_J120 hfl hC Heq Kr _ _ _ hP hD hS (lv_sub hl [1, 0] rfl)
      · replace Heq := (if_neg c_6).symm.trans Heq
        exact w_cJT_end_J21 hfl hC Heq Kr _ _ _ hP hD hS (lv_sub hl [0] rfl)
def m_cJT_end (N : Nat → Nat) (x0 : Nat) (S : CS) (x1 : Int32) : Option ((CS × Int32) ⊕ (CS × Nat)) := m_cJT_end_J0 N x0 S x1
set_option maxHeartbeats 4000000 in
theorem g_cJT_end (l : Launch) (hfl : l.flags = flags0) (D : va_G) (sz : Nat) {ad : Nat → Nat → Nat} {cc : Nat → ClassId} {sad sav : Nat → Nat} {N : Nat → Nat} {x0 : Nat} {S : CS} {x1 : Int32} {o : CS × Int32} (Heq : m_cJT_end N x0 S x1 = some (.inl o)) : Met l ⟨"JoinedTrees", "end", "(I)I"⟩ (Cond.code ⟨"JoinedTrees", "end", "(I)I"⟩ prog_1_method_3_code 3 (some .int) :: gb) ({ frames := 6, cells := 0, slots := 0, locals := 96 }) (cPc sad sav D (cw ad cc N S) (cty cc) sz [.ref (ad 11 x0), .int x1]) (va_Qi (fun (r : Int32) (_ : Unit) => r = o.2) (fun _ t => gO D (cw ad cc N o.1) (cty cc) (va_A (cw ad cc N S) sz) t) (va_A (cw ad cc N S) sz)) 0 0 (va_A (cw ad cc N S) sz) := by
  refine Met.ofW (cc := prog_1_method_3_code) (maxL := 3) (ret := (some .int)) (by decide) rfl ?_
  intro p e s m args below meth c s₁ B hml hv
  obtain ⟨rfl, hsz, hP, hK, hD0, hev, hE, hN⟩ := hv
  have hx := B.exec
  have hb := B.bytes
  have hr := B.returns
  have hts : ∀ w9 ∈ gb, w9.before [.ref (ad 11 x0), .int x1].toArray s = true := fun w9 h => atoms_spec (ws := Cond.code ⟨"JoinedTrees", "end", "(I)I"⟩ prog_1_method_3_code 3 (some .int) :: gb) B.pre w9 (List.mem_cons_of_mem _ h)
  have hown : s.vm.findClass "JoinedTrees" = some m.cls := findClass_of_methodNamed B.named
  have hlocks := B.notSynchronized
  have hNS := ns_of hP
  subst hsz
  have hD := hD0.self (sz := s.heap.size)
  generalize hAe : va_A (cw ad cc N S) s.heap.size = A at hD hev hE hNS ⊢
  have hA : ∀ q : Nat, s.heap.size ≤ q → A q := fun q h => by rw [← hAe]; exact Or.inr h
  have hS : va_S A s.heap s.heap [] := va_S.rf
  obtain ⟨ls, hl, hle⟩ : ∃ ls : Array Slot, lv_has ls 3 [(0, .ref (ad 11 x0)), (1, .int x1)] ∧ entryFrame m ([.ref (ad 11 x0), .int x1] : List Value).toArray 3 = F0 m 0 ls [] := by
    exact ⟨_, lv_entry (n := 3) _ (Nat.le_of_ble_eq_true rfl), lg_entry_eq ..⟩
  rw [hle]
  refine w_cJT_end_J0 (cR := 0) (sR := 0) hfl ⟨hx, hb, hr, hml, hown, hts, hK, hA, hev, hE, hN, hNS⟩ Heq (fun r h => ⟨fun v9 hv9 pc H locs ls hd hP hD hS => ?_, fun t9 ht9 => (by subst h; cases ht9)⟩) _ _ _ hP hD hS (lv_sub hl [0, 1] rfl)
  subst h
  cases hv9
  exact W.iret hx hb hr (fun t ht hW => ⟨⟨_, (), rfl, rfl, by rw [ht]; exact hP, va_K.moved hW.alike hK, hD⟩, hS.F ht⟩) hS.2.2 hd
set_option maxHeartbeats 4000000 in
theorem g_cJT_end_t (l : Launch) (hfl : l.flags = flags0) (D : va_G) (sz : Nat) {ad : Nat → Nat → Nat} {cc : Nat → ClassId} {sad sav : Nat → Nat} {N : Nat → Nat} {x0 : Nat} {S : CS} {x1 : Int32} {o : CS × Nat} (Heq : m_cJT_end N x0 S x1 = some (.inr o)) : MeT l ⟨"JoinedTrees", "end", "(I)I"⟩ (Cond.code ⟨"JoinedTrees", "end", "(I)I"⟩ prog_1_method_3_code 3 (some .int) :: gb) ({ frames := 6, cells := 1, slots := 6, locals := 96 }) (cPc sad sav D (cw ad cc N S) (cty cc) sz [.ref (ad 11 x0), .int x1]) (exN o.2) (va_A (cw ad cc N S) sz) (fun H1 => va_P D cls (cw ad cc N o.1) H1) 1 6 := by
  refine MeT.ofW (cc := prog_1_method_3_code) (maxL := 3) (ret := (some .int)) (by decide) rfl ?_
  intro p e s m args below meth c s₁ B hml hno hv
  obtain ⟨rfl, hsz, hP, hK, hD0, hev, hE, hN⟩ := hv
  have hx := B.exec
  have hb := B.bytes
  have hr := B.returns
  have hts : ∀ w9 ∈ gb, w9.before [.ref (ad 11 x0), .int x1].toArray s = true := fun w9 h => atoms_spec (ws := Cond.code ⟨"JoinedTrees", "end", "(I)I"⟩ prog_1_method_3_code 3 (some .int) :: gb) B.pre w9 (List.mem_cons_of_mem _ h)
  have hown : s.vm.findClass "JoinedTrees" = some m.cls := findClass_of_methodNamed B.named
  have hlocks := B.notSynchronized
  have hNS := ns_of hP
  subst hsz
  have hD := hD0.self (sz := s.heap.size)
  generalize hAe : va_A (cw ad cc N S) s.heap.size = A at hD hev hE hNS ⊢
  have hA : ∀ q : Nat, s.heap.size ≤ q → A q := fun q h => by rw [← hAe]; exact Or.inr h
  have hS : va_S A s.heap s.heap [] := va_S.rf
  obtain ⟨ls, hl, hle⟩ : ∃ ls : Array Slot, lv_has ls 3 [(0, .ref (ad 11 x0)), (1, .int x1)] ∧ entryFrame m ([.ref (ad 11 x0), .int x1] : List Value).toArray 3 = F0 m 0 ls [] := by
    exact ⟨_, lv_entry (n := 3) _ (Nat.le_of_ble_eq_true rfl), lg_entry_eq ..⟩
  rw [hle]
  refine w_cJT_end_J0 (cR := 1) (sR := 6) hfl ⟨hx, hb, hr, hml, hown, hts, hK, hA, hev, hE, hN, hNS⟩ Heq (fun r h => ⟨fun v9 hv9 => (by subst h; cases hv9), fun t9 ht9 => ⟨⟨Nat.le_refl _, Nat.le_refl _⟩, fun pc H locs ls hd hsz hP hD hS => ?_, fun pc H locs ls st0 rest9 A9 hr9 hF9 hS => ?_⟩⟩) _ _ _ hP hD hS (lv_sub hl [0, 1] rfl)
  · subst h; cases ht9; exact tx_thr hfl hx hb hno hlocks hown hts hev hN hNS hd (hsz.trans hml.symm) hP hS hA (Nat.le_refl _) (Nat.le_refl _) (Nat.le_of_ble_eq_true rfl) (Nat.le_of_ble_eq_true rfl)
  · subst h; cases ht9; exact tx_on hr9 hno hlocks hS hF9
def m_cJT_shown_J10 (N : Nat → Nat) (x0 : Nat) (S : CS) : Option ((CS × Option Nat) ⊕ (CS × Nat)) := some (.inr (S, 1))
theorem d_cJT_shown_0 : decode prog_1_method_32_code 0 = .ok (.iload_n 1, 1) := by decide +kernel
theorem d_cJT_shown_1 : decode prog_1_method_32_code 1 = .ok (.ifCond .lt 9, 3) := by decide +kernel
theorem d_cJT_shown_10 : decode prog_1_method_32_code 10 = .ok (.new 93, 3) := by decide +kernel
theorem d_cJT_shown_13 : decode prog_1_method_32_code 13 = .ok (.dup, 1) := by decide +kernel
theorem d_cJT_shown_14 : decode prog_1_method_32_code 14 = .ok (.invokespecial 95, 3) := by decide +kernel
theorem d_cJT_shown_17 : decode prog_1_method_32_code 17 = .ok (.athrow, 1) := by decide +kernel
set_option maxHeartbeats 4000000 in
set_option maxRecDepth 100000 in
theorem w_cJT_shown_J10 {p : Program} {l : Launch} {e : Env} {s : State} {m : MethodId} {args : Array Value} {below : List Frame} {meth : Method} {c : Code} {A : Nat → Prop} {D : va_G} {ad : Nat → Nat → Nat} {cc : Nat → ClassId} {sad sav : Nat → Nat} {Q : State → Prop} {cR sR : Nat} (hfl : l.flags = flags0) (hC : MCc sad sav "JoinedTrees" prog_1_method_32_code 2 (some (.object "JoinedTrees$Replica")) p s m args meth c A D cc) {N : Nat → Nat} {x0 : Nat} {S : CS} {o : ((CS × Option Nat) ⊕ (CS × Nat))} (Heq : m_cJT_shown_J10 N x0 S = some o) (Kr : ∀ r : ((CS × Option Nat) ⊕ (CS × Nat)), o = r → (∀ v9 : CS × Option Nat, r = .inl v9 → ∀ (pc : Nat) (H : Heap) (locs : List Loc) (ls : Array Slot), decode prog_1_method_32_code pc = .ok (.areturn, 1) → va_P D cls (cw ad cc N v9.1) H → va_D A (cw ad cc N v9.1) → va_S A s.heap H locs → W p l e ({ frames := 6, cells := cR, slots := sR, locals := 96 }) s m args below meth c H locs 0 0 Q (F0 m pc ls [rv ad 4 v9.2])) ∧ (∀ t9 : CS × Nat, r = .inr t9 → (1 ≤ cR ∧ 6 ≤ sR) ∧ (∀ (pc : Nat) (H : Heap) (locs : List Loc) (ls : Array Slot), thD prog_1_method_32_code t9.2 pc → ls.size = 2 → va_P D cls (cw ad cc N t9.1) H → va_D A (cw ad cc N t9.1) → va_S A s.heap H locs → W p l e ({ frames := 6, cells := cR, slots := sR, locals := 96 }) s m args below meth c H locs 0 0 Q (F0 m pc ls [])) ∧ (∀ (pc : Nat) (H : Heap) (locs : List Loc) (ls : Array Slot) (st0 rest9 : List Value) (A9 : Nat → Prop), tx_Thr p l e ({ frames := 6, cells := cR, slots := sR, locals := 96 }) s m args below meth c H locs 0 0 1 6 (F0 m pc ls st0) rest9 (exN t9.2) A9 (fun H1 => va_P D cls (cw ad cc N t9.1) H1) → (∀ q, A9 q → A q) → va_S A s.heap H locs → W p l e ({ frames := 6, cells := cR, slots := sR, locals := 96 }) s m args below meth c H locs 0 0 Q (F0 m pc ls st0)))) : ∀ (H : Heap) (locs : List Loc) (ls : Array Slot), va_P D cls (cw ad cc N S) H → va_D A (cw ad cc N S) → va_S A s.heap H locs → lv_has ls 2 [(0, .ref (ad 11 x0))] → W p l e ({ frames := 6, cells := cR, slots := sR, locals := 96 }) s m args below meth c H locs 0 0 Q (F0 m 10 ls []) := by
  intro H locs ls hP hD hS hl
  obtain ⟨hx, hb, hr, hml, hown, hts, hK, hA, hev, hE, hN, hNS⟩ := id hC
  unfold m_cJT_shown_J10 at Heq
  exact ((Kr _ (Option.some.inj Heq).symm).2 _ rfl).2.1 10 _ _ _ ⟨⟨show 1 ≤ 1 by decide, show 1 ≤ 5 by decide⟩, d_cJT_shown_10, d_cJT_shown_13, d_cJT_shown_14, d_cJT_shown_17⟩ hl.1 hP hD hS
def m_cJT_shown_J0 (N : Nat → Nat) (x0 : Nat) (S : CS) (x1 : Int32) : Option ((CS × Option Nat) ⊕ (CS × Nat)) := (if x1 < 0 then m_cJT_shown_J10 N x0 S else (if x1 < 8 then gl x0 (N 11) (gn (S.r 11 1 x0) (N 17) (fun j_3 => gd x1 (S.z 17 j_3) (gn (S.q 17 j_3 x1.toNatClampNeg) (N 4) (fun j_7 => gn (S.r 11 2 x0) (N 10) (fun j_10 => ob (m_cVw_show N j_10 S j_7) (fun o_13 => gn (o_13.r 11 1 x0) (N 17) (fun j_15 => gd x1 (o_13.z 17 j_15) (some (.inl (o_13, (o_13.q 17 j_15 x1.toNatClampNeg))))))))))) else m_cJT_shown_J10 N x0 S))
theorem d_cJT_shown_4 : decode prog_1_method_32_code 4 = .ok (.iload_n 1, 1) := by decide +kernel
theorem d_cJT_shown_5 : decode prog_1_method_32_code 5 = .ok (.bipush 8, 2) := by decide +kernel
theorem d_cJT_shown_7 : decode prog_1_method_32_code 7 = .ok (.if_icmp .lt 11, 3) := by decide +kernel
theorem d_cJT_shown_18 : decode prog_1_method_32_code 18 = .ok (.aload_n 0, 1) := by decide +kernel
theorem d_cJT_shown_19 : decode prog_1_method_32_code 19 = .ok (.getfield 30, 3) := by decide +kernel
theorem d_cJT_shown_22 : decode prog_1_method_32_code 22 = .ok (.aload_n 0, 1) := by decide +kernel
theorem d_cJT_shown_23 : decode prog_1_method_32_code 23 = .ok (.getfield 18, 3) := by decide +kernel
theorem d_cJT_shown_26 : decode prog_1_method_32_code 26 = .ok (.iload_n 1, 1) := by decide +kernel
theorem d_cJT_shown_27 : decode prog_1_method_32_code 27 = .ok (.aaload, 1) := by decide +kernel
theorem d_cJT_shown_28 : decode prog_1_method_32_code 28 = .ok (.invokevirtual 398, 3) := by decide +kernel
theorem d_cJT_shown_31 : decode prog_1_method_32_code 31 = .ok (.aload_n 0, 1) := by decide +kernel
theorem d_cJT_shown_32 : decode prog_1_method_32_code 32 = .ok (.getfield 18, 3) := by decide +kernel
theorem d_cJT_shown_35 : decode prog_1_method_32_code 35 = .ok (.iload_n 1, 1) := by decide +kernel
theorem d_cJT_shown_36 : decode prog_1_method_32_code 36 = .ok (.aaload, 1) := by decide +kernel
theorem d_cJT_shown_37 : decode prog_1_method_32_code 37 = .ok (.areturn, 1) := by decide +kernel
set_option maxHeartbeats 4000000 in
set_option maxRecDepth 100000 in
theorem w_cJT_shown_J0 {p : Program} {l : Launch} {e : Env} {s : State} {m : MethodId} {args : Array Value} {below : List Frame} {meth : Method} {c : Code} {A : Nat → Prop} {D : va_G} {ad : Nat → Nat → Nat} {cc : Nat → ClassId} {sad sav : Nat → Nat} {Q : State → Prop} {cR sR : Nat} (hfl : l.flags = flags0) (hC : MCc sad sav "JoinedTrees" prog_1_method_32_code 2 (some (.object "JoinedTrees$Replica")) p s m args meth c A D cc) {N : Nat → Nat} {x0 : Nat} {S : CS} {x1 : Int32} {o : ((CS × Option Nat) ⊕ (CS × Nat))} (Heq : m_cJT_shown_J0 N x0 S x1 = some o) (Kr : ∀ r : ((CS × Option Nat) ⊕ (CS × Nat)), o = r → (∀ v9 : CS × Option Nat, r = .inl v9 → ∀ (pc : Nat) (H : Heap) (locs : List Loc) (ls : Array Slot), decode prog_1_method_32_code pc = .ok (.areturn, 1) → va_P D cls (cw ad cc N v9.1) H → va_D A (cw ad cc N v9.1) → va_S A s.heap H locs → W p l e ({ frames := 6, cells := cR, slots := sR, locals := 96 }) s m args below meth c H locs 0 0 Q (F0 m pc ls [rv ad 4 v9.2])) ∧ (∀ t9 : CS × Nat, r = .inr t9 → (1 ≤ cR ∧ 6 ≤ sR) ∧ (∀ (pc : Nat) (H : Heap) (locs : List Loc) (ls : Array Slot), thD prog_1_method_32_code t9.2 pc → ls.size = 2 → va_P D cls (cw ad cc N t9.1) H → va_D A (cw ad cc N t9.1) → va_S A s.heap H locs → W p l e ({ frames := 6, cells := cR, slots := sR, locals := 96 }) s m args below meth c H locs 0 0 Q (F0 m pc ls [])) ∧ (∀ (pc : Nat) (H : Heap) (locs : List Loc) (ls : Array Slot) (st0 rest9 : List Value) (A9 : Nat → Prop), tx_Thr p l e ({ frames := 6, cells := cR, slots := sR, locals := 96 }) s m args below meth c H locs 0 0 1 6 (F0 m pc ls st0) rest9 (exN t9.2) A9 (fun H1 => va_P D cls (cw ad cc N t9.1) H1) → (∀ q, A9 q → A q) → va_S A s.heap H locs → W p l e ({ frames := 6, cells := cR, slots := sR, locals := 96 }) s m args below meth c H locs 0 0 Q (F0 m pc ls st0)))) : ∀ (H : Heap) (locs : List Loc) (ls : Array Slot), va_P D cls (cw ad cc N S) H → va_D A (cw ad cc N S) → va_S A s.heap H locs → lv_has ls 2 [(0, .ref (ad 11 x0)), (1, .int x1)] → W p l e ({ frames := 6, cells := cR, slots := sR, locals := 96 }) s m args below meth c H locs 0 0 Q (F0 m 0 ls []) := by
  intro H locs ls hP hD hS hl
  obtain ⟨hx, hb, hr, hml, hown, hts, hK, hA, hev, hE, hN, hNS⟩ := id hC
  unfold m_cJT_shown_J0 at Heq
  refine lv_iload_n hx hb d_cJT_shown_0 rfl (lv_at hl 1 rfl) ?_
  refine lv_if_lt (tgt := 10) hx hb d_cJT_shown_1 (by decide) (fun c_1 => ?_) (fun c_1 => ?_)
  · replace Heq := (if_pos c_1).symm.trans Heq
    exact w_cJT_shown_J10 hfl hC Heq Kr _ _ _ hP hD hS (lv_sub hl [0] rfl)
  · replace Heq := (if_neg c_1).symm.trans Heq
    refine lv_iload_n hx hb d_cJT_shown_4 rfl (lv_at hl 1 rfl) ?_
    refine lv_bipush (v := 8) hx hb d_cJT_shown_5 (by decide) ?_
    refine lv_icmp_lt (tgt := 18) hx hb d_cJT_shown_7 (by decide) (fun c_2 => ?_) (fun c_2 => ?_)
    · replace Heq := (if_pos c_2).symm.trans Heq
      refine lv_aload_n hx hb d_cJT_shown_18 rfl (lv_at hl 0 rfl) ?_
      obtain ⟨hl_x0_11, Heq⟩ := gl_some Heq
      refine va_get (D := D) (ci := 11) (v := rv ad 10 (S.r 11 2 x0)) (C := R_JT) (T := F_JT) (N := 13) hx hb hts i_JT hown hK hP (cPos N 11 x0) (cw_obj (k := 11) (by decide) hl_x0_11) rfl 2 (by decide) (hts _ kw_423) (fun _ h9 => h9) rfl d_cJT_shown_19 ?_
      refine lv_aload_n hx hb d_cJT_shown_22 rfl (lv_at hl 0 rfl) ?_
      refine va_get (D := D) (ci := 11) (v := rv ad 17 (S.r 11 1 x0)) (C := R_JT) (T := F_JT) (N := 13) hx hb hts i_JT hown hK hP (cPos N 11 x0) (cw_obj (k := 11) (by decide) hl_x0_11) rfl 1 (by decide) (hts _ kw_422) (fun _ h9 => h9) rfl d_cJT_shown_23 ?_
      refine lv_iload_n hx hb d_cJT_shown_26 rfl (lv_at hl 1 rfl) ?_
      obtain ⟨j_3, hj_4, hl_5, Heq⟩ := gn_some Heq
      refine w_s (st' := [.int x1, .ref (ad 17 j_3), rv ad 10 (S.r 11 2 x0)]) (congrArg (fun z9 : Option Nat => [.int x1, rv ad 17 z9, rv ad 10 (S.r 11 2 x0)]) hj_4) ?_
      obtain ⟨hi_6, Heq⟩ := gd_some Heq
      refine va_aldq hx hb hK hP (cPos N 17 j_3) 5 (cw_refs (k := 17) (by decide) hl_5) rfl (i := x1) hi_6 d_cJT_shown_27 ?_
      refine w_v (y := rv ad 4 (S.q 17 j_3 x1.toNatClampNeg)) (congrArg (rv ad 4) rfl) ?_
      obtain ⟨j_7, hj_8, hl_9, Heq⟩ := gn_some Heq
      refine w_s (st' := [.ref (ad 4 j_7), rv ad 10 (S.r 11 2 x0)]) (congrArg (fun z9 : Option Nat => [rv ad 4 z9, rv ad 10 (S.r 11 2 x0)]) hj_8) ?_
      obtain ⟨j_10, hj_11, hl_12, Heq⟩ := gn_some Heq
      refine w_s (st' := [.ref (ad 4 j_7), .ref (ad 10 j_10)]) (congrArg (fun z9 : Option Nat => [.ref (ad 4 j_7), rv ad 10 z9]) hj_11) ?_
      obtain ⟨o_13, h_14, Heq⟩ := ob_some Heq
      have hFc := fr_all hD hS hA
      refine va_callv (va_runV (As := [.ref (ad 4 j_7)]) (rest := []) ⟨hx, hb, hml, hown, hts⟩ (g_cVw_show l D H.size (ad := ad) (cc := cc) (sad := sad) (sav := sav) h_14) (cw_v 1 hts kw_597 kw_594 kw_595 kw_596 kw_6 rfl rfl (by decide +kernel) ⟨Nat.le_of_ble_eq_true rfl, Nat.le_of_ble_eq_true rfl⟩) ⟨c_blind, va_recv hK hP (ci := 10) (q0 := cPos N 10 j_10) rfl (cw_obj (k := 10) (by decide) hl_12), fun U hU hW => c_pre hU hW hP hK hD hev hE hN hNS hS hFc⟩ rfl rfl hl.1 rfl (lv_room (Nat.le_of_ble_eq_true rfl)) d_cJT_shown_28 ⟨Nat.zero_le _, Nat.zero_le _⟩) hS (fun q _ h => hFc q h) hFc (fun u t H1 locs ht hvm hw hB hz1 hk1 hS => ?_)
      obtain ⟨hP, -, hD1⟩ := hB
      rw [ht] at hP
      have hD := hD1.weaken (fun _ q _ h => hFc q.1 h)
      generalize H1 = H at hP hS ⊢
      refine W.cs (cells' := 0) (slots' := 0) rfl rfl ?_
      refine lv_aload_n hx hb d_cJT_shown_31 rfl (lv_at hl 0 rfl) ?_
      refine va_get (D := D) (ci := 11) (v := rv ad 17 (o_13.r 11 1 x0)) (C := R_JT) (T := F_JT) (N := 13) hx hb hts i_JT hown hK hP (cPos N 11 x0) (cw_obj (k := 11) (by decide) hl_x0_11) rfl 1 (by decide) (hts _ kw_422) (fun _ h9 => h9) rfl d_cJT_shown_32 ?_
      refine lv_iload_n hx hb d_cJT_shown_35 rfl (lv_at hl 1 rfl) ?_
      obtain ⟨j_15, hj_16, hl_17, Heq⟩ := gn_some Heq
      refine w_s (st' := [.int x1, .ref (ad 17 j_15)]) (congrArg (fun z9 : Option Nat => [.int x1, rv ad 17 z9]) hj_16) ?_
      obtain ⟨hi_18, Heq⟩ := gd_some Heq
      refine va_aldq hx hb hK hP (cPos N 17 j_15) 5 (cw_refs (k := 17) (by decide) hl_17) rfl (i := x1) hi_18 d_cJT_shown_36 ?_
      refine w_v (y := rv ad 4 (o_13.q 17 j_15 x1.toNatClampNeg)) (congrArg (rv ad 4) rfl) ?_
      exact (Kr _ (Option.some.inj Heq).symm).1 _ rfl 37 _ _ _ d_cJT_shown_37 hP hD hS
    · replace Heq := (if_neg c_2).symm.trans Heq
      exact w_cJT_shown_J10 hfl hC Heq Kr _ _ _ hP hD hS (lv_sub hl [0] rfl)
def m_cJT_shown (N : Nat → Nat) (x0 : Nat) (S : CS) (x1 : Int32) : Option ((CS × Option Nat) ⊕ (CS × Nat)) := m_cJT_shown_J0 N x0 S x1
set_option maxHeartbeats 4000000 in
theorem g_cJT_shown (l : Launch) (hfl : l.flags = flags0) (D : va_G) (sz : Nat) {ad : Nat → Nat → Nat} {cc : Nat → ClassId} {sad sav : Nat → Nat} {N : Nat → Nat} {x0 : Nat} {S : CS} {x1 : Int32} {o : CS × Option Nat} (Heq : m_cJT_shown N x0 S x1 = some (.inl o)) : Met l ⟨"JoinedTrees", "shown", "(I)LJoinedTrees$Replica;"⟩ (Cond.code ⟨"JoinedTrees", "shown", "(I)LJoinedTrees$Replica;"⟩ prog_1_method_32_code 2 (some (.object "JoinedTrees$Replica")) :: gb) ({ frames := 6, cells := 0, slots := 0, locals := 96 }) (cPc sad sav D (cw ad cc N S) (cty cc) sz [.ref (ad 11 x0), .int x1]) (va_Qq (fun (r : Option Nat) (_ : Unit) => r = o.2.map (ad 4)) (fun _ t => gO D (cw ad cc N o.1) (cty cc) (va_A (cw ad cc N S) sz) t) (va_A (cw ad cc N S) sz)) 0 0 (va_A (cw ad cc N S) sz) := by
  refine Met.ofW (cc := prog_1_method_32_code) (maxL := 2) (ret := (some (.object "JoinedTrees$Replica"))) (by decide) rfl ?_
  intro p e s m args below meth c s₁ B hml hv
  obtain ⟨rfl, hsz, hP, hK, hD0, hev, hE, hN⟩ := hv
  have hx := B.exec
  have hb := B.bytes
  have hr := B.returns
  have hts : ∀ w9 ∈ gb, w9.before [.ref (ad 11 x0), .int x1].toArray s = true := fun w9 h => atoms_spec (ws := Cond.code ⟨"JoinedTrees", "shown", "(I)LJoinedTrees$Replica;"⟩ prog_1_method_32_code 2 (some (.object "JoinedTrees$Replica")) :: gb) B.pre w9 (List.mem_cons_of_mem _ h)
  have hown : s.vm.findClass "JoinedTrees" = some m.cls := findClass_of_methodNamed B.named
  have hlocks := B.notSynchronized
  have hNS := ns_of hP
  subst hsz
  have hD := hD0.self (sz := s.heap.size)
  generalize hAe : va_A (cw ad cc N S) s.heap.size = A at hD hev hE hNS ⊢
  have hA : ∀ q : Nat, s.heap.size ≤ q → A q := fun q h => by rw [← hAe]; exact Or.inr h
  have hS : va_S A s.heap s.heap [] := va_S.rf
  obtain ⟨ls, hl, hle⟩ : ∃ ls : Array Slot, lv_has ls 2 [(0, .ref (ad 11 x0)), (1, .int x1)] ∧ entryFrame m ([.ref (ad 11 x0), .int x1] : List Value).toArray 2 = F0 m 0 ls [] := by
    exact ⟨_, lv_entry (n := 2) _ (Nat.le_of_ble_eq_true rfl), lg_entry_eq ..⟩
  rw [hle]
  refine w_cJT_shown_J0 (cR := 0) (sR := 0) hfl ⟨hx, hb, hr, hml, hown, hts, hK, hA, hev, hE, hN, hNS⟩ Heq (fun r h => ⟨fun v9 hv9 pc H locs ls hd hP hD hS => ?_, fun t9 ht9 => (by subst h; cases ht9)⟩) _ _ _ hP hD hS (lv_sub hl [0, 1] rfl)
  subst h
  cases hv9
  exact W.aret hx hb hr (Or.inl ⟨_, rfl⟩) (va_rf_or _) (fun t ht hW => ⟨⟨_, (), rfl, rfl, by rw [ht]; exact hP, va_K.moved hW.alike hK, hD⟩, hS.F ht⟩) hS.2.2 hd
set_option maxHeartbeats 4000000 in
theorem g_cJT_shown_t (l : Launch) (hfl : l.flags = flags0) (D : va_G) (sz : Nat) {ad : Nat → Nat → Nat} {cc : Nat → ClassId} {sad sav : Nat → Nat} {N : Nat → Nat} {x0 : Nat} {S : CS} {x1 : Int32} {o : CS × Nat} (Heq : m_cJT_shown N x0 S x1 = some (.inr o)) : MeT l ⟨"JoinedTrees", "shown", "(I)LJoinedTrees$Replica;"⟩ (Cond.code ⟨"JoinedTrees", "shown", "(I)LJoinedTrees$Replica;"⟩ prog_1_method_32_code 2 (some (.object "JoinedTrees$Replica")) :: gb) ({ frames := 6, cells := 1, slots := 6, locals := 96 }) (cPc sad sav D (cw ad cc N S) (cty cc) sz [.ref (ad 11 x0), .int x1]) (exN o.2) (va_A (cw ad cc N S) sz) (fun H1 => va_P D cls (cw ad cc N o.1) H1) 1 6 := by
  refine MeT.ofW (cc := prog_1_method_32_code) (maxL := 2) (ret := (some (.object "JoinedTrees$Replica"))) (by decide) rfl ?_
  intro p e s m args below meth c s₁ B hml hno hv
  obtain ⟨rfl, hsz, hP, hK, hD0, hev, hE, hN⟩ := hv
  have hx := B.exec
  have hb := B.bytes
  have hr := B.returns
  have hts : ∀ w9 ∈ gb, w9.before [.ref (ad 11 x0), .int x1].toArray s = true := fun w9 h => atoms_spec (ws := Cond.code ⟨"JoinedTrees", "shown", "(I)LJoinedTrees$Replica;"⟩ prog_1_method_32_code 2 (some (.object "JoinedTrees$Replica")) :: gb) B.pre w9 (List.mem_cons_of_mem _ h)
  have hown : s.vm.findClass "JoinedTrees" = some m.cls := findClass_of_methodNamed B.named
  have hlocks := B.notSynchronized
  have hNS := ns_of hP
  subst hsz
  have hD := hD0.self (sz := s.heap.size)
  generalize hAe : va_A (cw ad cc N S) s.heap.size = A at hD hev hE hNS ⊢
  have hA : ∀ q : Nat, s.heap.size ≤ q → A q := fun q h => by rw [← hAe]; exact Or.inr h
  have hS : va_S A s.heap s.heap [] := va_S.rf
  obtain ⟨ls, hl, hle⟩ : ∃ ls : Array Slot, lv_has ls 2 [(0, .ref (ad 11 x0)), (1, .int x1)] ∧ entryFrame m ([.ref (ad 11 x0), .int x1] : List Value).toArray 2 = F0 m 0 ls [] := by
    exact ⟨_, lv_entry (n := 2) _ (Nat.le_of_ble_eq_true rfl), lg_entry_eq ..⟩
  rw [hle]
  refine w_cJT_shown_J0 (cR := 1) (sR := 6) hfl ⟨hx, hb, hr, hml, hown, hts, hK, hA, hev, hE, hN, hNS⟩ Heq (fun r h => ⟨fun v9 hv9 => (by subst h; cases hv9), fun t9 ht9 => ⟨⟨Nat.le_refl _, Nat.le_refl _⟩, fun pc H locs ls hd hsz hP hD hS => ?_, fun pc H locs ls st0 rest9 A9 hr9 hF9 hS => ?_⟩⟩) _ _ _ hP hD hS (lv_sub hl [0, 1] rfl)
  · subst h; cases ht9; exact tx_thr hfl hx hb hno hlocks hown hts hev hN hNS hd (hsz.trans hml.symm) hP hS hA (Nat.le_refl _) (Nat.le_refl _) (Nat.le_of_ble_eq_true rfl) (Nat.le_of_ble_eq_true rfl)
  · subst h; cases ht9; exact tx_on hr9 hno hlocks hS hF9
def m_cJT_needValue_J38 (N : Nat → Nat) (x0 : Nat) (S : CS) : Option ((CS) ⊕ (CS × Nat)) := some (.inr (S, 1))
theorem d_cJT_needValue_0 : decode prog_1_method_33_code 0 = .ok (.iload_n 1, 1) := by decide +kernel
theorem d_cJT_needValue_1 : decode prog_1_method_33_code 1 = .ok (.iconst 4, 1) := by decide +kernel
theorem d_cJT_needValue_2 : decode prog_1_method_33_code 2 = .ok (.if_icmp .ne 7, 3) := by decide +kernel
theorem d_cJT_needValue_9 : decode prog_1_method_33_code 9 = .ok (.iconst 0, 1) := by decide +kernel
theorem d_cJT_needValue_10 : decode prog_1_method_33_code 10 = .ok (.istore 4, 2) := by decide +kernel
theorem d_cJT_needValue_12 : decode prog_1_method_33_code 12 = .ok (.iload_n 1, 1) := by decide +kernel
theorem d_cJT_needValue_13 : decode prog_1_method_33_code 13 = .ok (.ifCond .lt 25, 3) := by decide +kernel
theorem d_cJT_needValue_38 : decode prog_1_method_33_code 38 = .ok (.new 93, 3) := by decide +kernel
theorem d_cJT_needValue_41 : decode prog_1_method_33_code 41 = .ok (.dup, 1) := by decide +kernel
theorem d_cJT_needValue_42 : decode prog_1_method_33_code 42 = .ok (.invokespecial 95, 3) := by decide +kernel
theorem d_cJT_needValue_45 : decode prog_1_method_33_code 45 = .ok (.athrow, 1) := by decide +kernel
set_option maxHeartbeats 4000000 in
set_option maxRecDepth 100000 in
theorem w_cJT_needValue_J38 {p : Program} {l : Launch} {e : Env} {s : State} {m : MethodId} {args : Array Value} {below : List Frame} {meth : Method} {c : Code} {A : Nat → Prop} {D : va_G} {ad : Nat → Nat → Nat} {cc : Nat → ClassId} {sad sav : Nat → Nat} {Q : State → Prop} {cR sR : Nat} (hfl : l.flags = flags0) (hC : MCc sad sav "JoinedTrees" prog_1_method_33_code 5 none p s m args meth c A D cc) {N : Nat → Nat} {x0 : Nat} {S : CS} {o : ((CS) ⊕ (CS × Nat))} (Heq : m_cJT_needValue_J38 N x0 S = some o) (Kr : ∀ r : ((CS) ⊕ (CS × Nat)), o = r → (∀ v9 : CS, r = .inl v9 → ∀ (pc : Nat) (H : Heap) (locs : List Loc) (ls : Array Slot), decode prog_1_method_33_code pc = .ok (.return_, 1) → va_P D cls (cw ad cc N v9) H → va_D A (cw ad cc N v9) → va_S A s.heap H locs → W p l e ({ frames := 6, cells := cR, slots := sR, locals := 96 }) s m args below meth c H locs 0 0 Q (F0 m pc ls [])) ∧ (∀ t9 : CS × Nat, r = .inr t9 → (1 ≤ cR ∧ 6 ≤ sR) ∧ (∀ (pc : Nat) (H : Heap) (locs : List Loc) (ls : Array Slot), thD prog_1_method_33_code t9.2 pc → ls.size = 5 → va_P D cls (cw ad cc N t9.1) H → va_D A (cw ad cc N t9.1) → va_S A s.heap H locs → W p l e ({ frames := 6, cells := cR, slots := sR, locals := 96 }) s m args below meth c H locs 0 0 Q (F0 m pc ls [])) ∧ (∀ (pc : Nat) (H : Heap) (locs : List Loc) (ls : Array Slot) (st0 rest9 : List Value) (A9 : Nat → Prop), tx_Thr p l e ({ frames := 6, cells := cR, slots := sR, locals := 96 }) s m args below meth c H locs 0 0 1 6 (F0 m pc ls st0) rest9 (exN t9.2) A9 (fun H1 => va_P D cls (cw ad cc N t9.1) H1) → (∀ q, A9 q → A q) → va_S A s.heap H locs → W p l e ({ frames := 6, cells := cR, slots := sR, locals := 96 }) s m args below meth c H locs 0 0 Q (F0 m pc ls st0)))) : ∀ (H : Heap) (locs : List Loc) (ls : Array Slot), va_P D cls (cw ad cc N S) H → va_D A (cw ad cc N S) → va_S A s.heap H locs → lv_has ls 5 [(0, .ref (ad 11 x0))] → W p l e ({ frames := 6, cells := cR, slots := sR, locals := 96 }) s m args below meth c H locs 0 0 Q (F0 m 38 ls []) := by
  intro H locs ls hP hD hS hl
  obtain ⟨hx, hb, hr, hml, hown, hts, hK, hA, hev, hE, hN, hNS⟩ := id hC
  unfold m_cJT_needValue_J38 at Heq
  exact ((Kr _ (Option.some.inj Heq).symm).2 _ rfl).2.1 38 _ _ _ ⟨⟨show 1 ≤ 1 by decide, show 1 ≤ 5 by decide⟩, d_cJT_needValue_38, d_cJT_needValue_41, d_cJT_needValue_42, d_cJT_needValue_45⟩ hl.1 hP hD hS
def m_cJT_needValue_J83 (N : Nat → Nat) (x0 : Nat) (S : CS) : Option ((CS) ⊕ (CS × Nat)) := some (.inl S)
theorem d_cJT_needValue_16 : decode prog_1_method_33_code 16 = .ok (.iload_n 1, 1) := by decide +kernel
theorem d_cJT_needValue_17 : decode prog_1_method_33_code 17 = .ok (.bipush 8, 2) := by decide +kernel
theorem d_cJT_needValue_19 : decode prog_1_method_33_code 19 = .ok (.if_icmp .gt 19, 3) := by decide +kernel
theorem d_cJT_needValue_22 : decode prog_1_method_33_code 22 = .ok (.iload_n 2, 1) := by decide +kernel
theorem d_cJT_needValue_23 : decode prog_1_method_33_code 23 = .ok (.iload_n 3, 1) := by decide +kernel
theorem d_cJT_needValue_24 : decode prog_1_method_33_code 24 = .ok (.iload 4, 2) := by decide +kernel
theorem d_cJT_needValue_26 : decode prog_1_method_33_code 26 = .ok (.ifCond .eq 7, 3) := by decide +kernel
theorem d_cJT_needValue_33 : decode prog_1_method_33_code 33 = .ok (.iconst 0, 1) := by decide +kernel
theorem d_cJT_needValue_34 : decode prog_1_method_33_code 34 = .ok (.iadd, 1) := by decide +kernel
theorem d_cJT_needValue_35 : decode prog_1_method_33_code 35 = .ok (.if_icmp .eq 11, 3) := by decide +kernel
theorem d_cJT_needValue_46 : decode prog_1_method_33_code 46 = .ok (.iload 4, 2) := by decide +kernel
theorem d_cJT_needValue_48 : decode prog_1_method_33_code 48 = .ok (.ifCond .eq 35, 3) := by decide +kernel
theorem d_cJT_needValue_83 : decode prog_1_method_33_code 83 = .ok (.return_, 1) := by decide +kernel
set_option maxHeartbeats 4000000 in
set_option maxRecDepth 100000 in
theorem w_cJT_needValue_J83 {p : Program} {l : Launch} {e : Env} {s : State} {m : MethodId} {args : Array Value} {below : List Frame} {meth : Method} {c : Code} {A : Nat → Prop} {D : va_G} {ad : Nat → Nat → Nat} {cc : Nat → ClassId} {sad sav : Nat → Nat} {Q : State → Prop} {cR sR : Nat} (hfl : l.flags = flags0) (hC : MCc sad sav "JoinedTrees" prog_1_method_33_code 5 none p s m args meth c A D cc) {N : Nat → Nat} {x0 : Nat} {S : CS} {o : ((CS) ⊕ (CS × Nat))} (Heq : m_cJT_needValue_J83 N x0 S = some o) (Kr : ∀ r : ((CS) ⊕ (CS × Nat)), o = r → (∀ v9 : CS, r = .inl v9 → ∀ (pc : Nat) (H : Heap) (locs : List Loc) (ls : Array Slot), decode prog_1_method_33_code pc = .ok (.return_, 1) → va_P D cls (cw ad cc N v9) H → va_D A (cw ad cc N v9) → va_S A s.heap H locs → W p l e ({ frames := 6, cells := cR, slots := sR, locals := 96 }) s m args below meth c H locs 0 0 Q (F0 m pc ls [])) ∧ (∀ t9 : CS × Nat, r = .inr t9 → (1 ≤ cR ∧ 6 ≤ sR) ∧ (∀ (pc : Nat) (H : Heap) (locs : List Loc) (ls : Array Slot), thD prog_1_method_33_code t9.2 pc → ls.size = 5 → va_P D cls (cw ad cc N t9.1) H → va_D A (cw ad cc N t9.1) → va_S A s.heap H locs → W p l e ({ frames := 6, cells := cR, slots := sR, locals := 96 }) s m args below meth c H locs 0 0 Q (F0 m pc ls [])) ∧ (∀ (pc : Nat) (H : Heap) (locs : List Loc) (ls : Array Slot) (st0 rest9 : List Value) (A9 : Nat → Prop), tx_Thr p l e ({ frames := 6, cells := cR, slots := sR, locals := 96 }) s m args below meth c H locs 0 0 1 6 (F0 m pc ls st0) rest9 (exN t9.2) A9 (fun H1 => va_P D cls (cw ad cc N t9.1) H1) → (∀ q, A9 q → A q) → va_S A s.heap H locs → W p l e ({ frames := 6, cells := cR, slots := sR, locals := 96 }) s m args below meth c H locs 0 0 Q (F0 m pc ls st0)))) : ∀ (H : Heap) (locs : List Loc) (ls : Array Slot), va_P D cls (cw ad cc N S) H → va_D A (cw ad cc N S) → va_S A s.heap H locs → lv_has ls 5 [(0, .ref (ad 11 x0))] → W p l e ({ frames := 6, cells := cR, slots := sR, locals := 96 }) s m args below meth c H locs 0 0 Q (F0 m 83 ls []) := by
  intro H locs ls hP hD hS hl
  obtain ⟨hx, hb, hr, hml, hown, hts, hK, hA, hev, hE, hN, hNS⟩ := id hC
  unfold m_cJT_needValue_J83 at Heq
  exact (Kr _ (Option.some.inj Heq).symm).1 _ rfl 83 _ _ _ d_cJT_needValue_83 hP hD hS
def m_cJT_needValue_J66 (N : Nat → Nat) (x0 : Nat) (S : CS) (t0 : Option Nat) : Option ((CS) ⊕ (CS × Nat)) := gn t0 (N 5) (fun j_1 => (if S.i 5 1 j_1 ≤ 1024 then m_cJT_needValue_J83 N x0 S else some (.inr (S, 1))))
theorem d_cJT_needValue_51 : decode prog_1_method_33_code 51 = .ok (.iload_n 3, 1) := by decide +kernel
theorem d_cJT_needValue_52 : decode prog_1_method_33_code 52 = .ok (.ifCond .ne 10, 3) := by decide +kernel
theorem d_cJT_needValue_62 : decode prog_1_method_33_code 62 = .ok (.aload_n 0, 1) := by decide +kernel
theorem d_cJT_needValue_63 : decode prog_1_method_33_code 63 = .ok (.getfield 73, 3) := by decide +kernel
theorem d_cJT_needValue_66 : decode prog_1_method_33_code 66 = .ok (.getfield 80, 3) := by decide +kernel
theorem d_cJT_needValue_69 : decode prog_1_method_33_code 69 = .ok (.sipush 1024, 3) := by decide +kernel
theorem d_cJT_needValue_72 : decode prog_1_method_33_code 72 = .ok (.if_icmp .le 11, 3) := by decide +kernel
theorem d_cJT_needValue_75 : decode prog_1_method_33_code 75 = .ok (.new 93, 3) := by decide +kernel
theorem d_cJT_needValue_78 : decode prog_1_method_33_code 78 = .ok (.dup, 1) := by decide +kernel
theorem d_cJT_needValue_79 : decode prog_1_method_33_code 79 = .ok (.invokespecial 95, 3) := by decide +kernel
theorem d_cJT_needValue_82 : decode prog_1_method_33_code 82 = .ok (.athrow, 1) := by decide +kernel
set_option maxHeartbeats 4000000 in
set_option maxRecDepth 100000 in
theorem w_cJT_needValue_J66 {p : Program} {l : Launch} {e : Env} {s : State} {m : MethodId} {args : Array Value} {below : List Frame} {meth : Method} {c : Code} {A : Nat → Prop} {D : va_G} {ad : Nat → Nat → Nat} {cc : Nat → ClassId} {sad sav : Nat → Nat} {Q : State → Prop} {cR sR : Nat} (hfl : l.flags = flags0) (hC : MCc sad sav "JoinedTrees" prog_1_method_33_code 5 none p s m args meth c A D cc) {N : Nat → Nat} {x0 : Nat} {S : CS} {t0 : Option Nat} {o : ((CS) ⊕ (CS × Nat))} (Heq : m_cJT_needValue_J66 N x0 S t0 = some o) (Kr : ∀ r : ((CS) ⊕ (CS × Nat)), o = r → (∀ v9 : CS, r = .inl v9 → ∀ (pc : Nat) (H : Heap) (locs : List Loc) (ls : Array Slot), decode prog_1_method_33_code pc = .ok (.return_, 1) → va_P D cls (cw ad cc N v9) H → va_D A (cw ad cc N v9) → va_S A s.heap H locs → W p l e ({ frames := 6, cells := cR, slots := sR, locals := 96 }) s m args below meth c H locs 0 0 Q (F0 m pc ls [])) ∧ (∀ t9 : CS × Nat, r = .inr t9 → (1 ≤ cR ∧ 6 ≤ sR) ∧ (∀ (pc : Nat) (H : Heap) (locs : List Loc) (ls : Array Slot), thD prog_1_method_33_code t9.2 pc → ls.size = 5 → va_P D cls (cw ad cc N t9.1) H → va_D A (cw ad cc N t9.1) → va_S A s.heap H locs → W p l e ({ frames := 6, cells := cR, slots := sR, locals := 96 }) s m args below meth c H locs 0 0 Q (F0 m pc ls [])) ∧ (∀ (pc : Nat) (H : Heap) (locs : List Loc) (ls : Array Slot) (st0 rest9 : List Value) (A9 : Nat → Prop), tx_Thr p l e ({ frames := 6, cells := cR, slots := sR, locals := 96 }) s m args below meth c H locs 0 0 1 6 (F0 m pc ls st0) rest9 (exN t9.2) A9 (fun H1 => va_P D cls (cw ad cc N t9.1) H1) → (∀ q, A9 q → A q) → va_S A s.heap H locs → W p l e ({ frames := 6, cells := cR, slots := sR, locals := 96 }) s m args below meth c H locs 0 0 Q (F0 m pc ls st0)))) : ∀ (H : Heap) (locs : List Loc) (ls : Array Slot), va_P D cls (cw ad cc N S) H → va_D A (cw ad cc N S) → va_S A s.heap H locs → lv_has ls 5 [(0, .ref (ad 11 x0))] → W p l e ({ frames := 6, cells := cR, slots := sR, locals := 96 }) s m args below meth c H locs 0 0 Q (F0 m 66 ls [rv ad 5 t0]) := by
  intro H locs ls hP hD hS hl
  obtain ⟨hx, hb, hr, hml, hown, hts, hK, hA, hev, hE, hN, hNS⟩ := id hC
  unfold m_cJT_needValue_J66 at Heq
  obtain ⟨j_1, hj_2, hl_3, Heq⟩ := gn_some Heq
  refine w_s (st' := [.ref (ad 5 j_1)]) (congrArg (fun z9 : Option Nat => [rv ad 5 z9]) hj_2) ?_
  refine va_get (D := D) (ci := 5) (v := .int (S.i 5 1 j_1)) (C := R_Rw) (T := F_Rw) (N := 3) hx hb hts i_Rw hown hK hP (cPos N 5 j_1) (cw_obj (k := 5) (by decide) hl_3) rfl 1 (by decide) (hts _ kw_143) (fun _ h9 => h9) rfl d_cJT_needValue_66 ?_
  refine lv_sipush (v := 1024) hx hb d_cJT_needValue_69 (by decide) ?_
  refine lv_icmp_le (tgt := 83) hx hb d_cJT_needValue_72 (by decide) (fun c_4 => ?_) (fun c_4 => ?_)
  · replace Heq := (if_pos c_4).symm.trans Heq
    exact w_cJT_needValue_J83 hfl hC Heq Kr _ _ _ hP hD hS (lv_sub hl [0] rfl)
  · replace Heq := (if_neg c_4).symm.trans Heq
    exact ((Kr _ (Option.some.inj Heq).symm).2 _ rfl).2.1 75 _ _ _ ⟨⟨show 1 ≤ 1 by decide, show 1 ≤ 5 by decide⟩, d_cJT_needValue_75, d_cJT_needValue_78, d_cJT_needValue_79, d_cJT_needValue_82⟩ hl.1 hP hD hS
def m_cJT_needValue_J34 (N : Nat → Nat) (x0 : Nat) (S : CS) (x3 : Int32) (x4 : Int32) (t0 : Int32) (t1 : Int32) (t2 : Int32) : Option ((CS) ⊕ (CS × Nat)) := (if t2 = t1 + t0 then (if x4 = 0 then m_cJT_needValue_J83 N x0 S else (if x3 = 0 then gl x0 (N 11) (m_cJT_needValue_J66 N x0 S (S.r 11 9 x0)) else gl x0 (N 11) (m_cJT_needValue_J66 N x0 S (S.r 11 10 x0)))) else m_cJT_needValue_J38 N x0 S)
theorem d_cJT_needValue_55 : decode prog_1_method_33_code 55 = .ok (.aload_n 0, 1) := by decide +kernel
theorem d_cJT_needValue_56 : decode prog_1_method_33_code 56 = .ok (.getfield 70, 3) := by decide +kernel
theorem d_cJT_needValue_59 : decode prog_1_method_33_code 59 = .ok (.goto 7, 3) := by decide +kernel
set_option maxHeartbeats 4000000 in
set_option maxRecDepth 100000 in
theorem w_cJT_needValue_J34 {p : Program} {l : Launch} {e : Env} {s : State} {m : MethodId} {args : Array Value} {below : List Frame} {meth : Method} {c : Code} {A : Nat → Prop} {D : va_G} {ad : Nat → Nat → Nat} {cc : Nat → ClassId} {sad sav : Nat → Nat} {Q : State → Prop} {cR sR : Nat} (hfl : l.flags = flags0) (hC : MCc sad sav "JoinedTrees" prog_1_method_33_code 5 none p s m args meth c A D cc) {N : Nat → Nat} {x0 : Nat} {S : CS} {x3 : Int32} {x4 : Int32} {t0 : Int32} {t1 : Int32} {t2 : Int32} {o : ((CS) ⊕ (CS × Nat))} (Heq : m_cJT_needValue_J34 N x0 S x3 x4 t0 t1 t2 = some o) (Kr : ∀ r : ((CS) ⊕ (CS × Nat)), o = r → (∀ v9 : CS, r = .inl v9 → ∀ (pc : Nat) (H : Heap) (locs : List Loc) (ls : Array Slot), decode prog_1_method_33_code pc = .ok (.return_, 1) → va_P D cls (cw ad cc N v9) H → va_D A (cw ad cc N v9) → va_S A s.heap H locs → W p l e ({ frames := 6, cells := cR, slots := sR, locals := 96 }) s m args below meth c H locs 0 0 Q (F0 m pc ls [])) ∧ (∀ t9 : CS × Nat, r = .inr t9 → (1 ≤ cR ∧ 6 ≤ sR) ∧ (∀ (pc : Nat) (H : Heap) (locs : List Loc) (ls : Array Slot), thD prog_1_method_33_code t9.2 pc → ls.size = 5 → va_P D cls (cw ad cc N t9.1) H → va_D A (cw ad cc N t9.1) → va_S A s.heap H locs → W p l e ({ frames := 6, cells := cR, slots := sR, locals := 96 }) s m args below meth c H locs 0 0 Q (F0 m pc ls [])) ∧ (∀ (pc : Nat) (H : Heap) (locs : List Loc) (ls : Array Slot) (st0 rest9 : List Value) (A9 : Nat → Prop), tx_Thr p l e ({ frames := 6, cells := cR, slots := sR, locals := 96 }) s m args below meth c H locs 0 0 1 6 (F0 m pc ls st0) rest9 (exN t9.2) A9 (fun H1 => va_P D cls (cw ad cc N t9.1) H1) → (∀ q, A9 q → A q) → va_S A s.heap H locs → W p l e ({ frames := 6, cells := cR, slots := sR, locals := 96 }) s m args below meth c H locs 0 0 Q (F0 m pc ls st0)))) : ∀ (H : Heap) (locs : List Loc) (ls : Array Slot), va_P D cls (cw ad cc N S) H → va_D A (cw ad cc N S) → va_S A s.heap H locs → lv_has ls 5 [(0, .ref (ad 11 x0)), (3, .int x3), (4, .int x4)] → W p l e ({ frames := 6, cells := cR, slots := sR, locals := 96 }) s m args below meth c H locs 0 0 Q (F0 m 34 ls [.int t0, .int t1, .int t2]) := by
  intro H locs ls hP hD hS hl
  obtain ⟨hx, hb, hr, hml, hown, hts, hK, hA, hev, hE, hN, hNS⟩ := id hC
  unfold m_cJT_needValue_J34 at Heq
  refine lv_iadd hx hb d_cJT_needValue_34 ?_
  refine w_i (y := t1 + t0) rfl ?_
  refine lv_icmp_eq (tgt := 46) hx hb d_cJT_needValue_35 (by decide) (fun c_1 => ?_) (fun c_1 => ?_)
  · replace Heq := (if_pos c_1).symm.trans Heq
    refine lv_iload hx hb d_cJT_needValue_46 (lv_at hl 2 rfl) ?_
    refine lv_if_eq (tgt := 83) hx hb d_cJT_needValue_48 (by decide) (fun c_2 => ?_) (fun c_2 => ?_)
    · replace Heq := (if_pos c_2).symm.trans Heq
      exact w_cJT_needValue_J83 hfl hC Heq Kr _ _ _ hP hD hS (lv_sub hl [0] rfl)
    · replace Heq := (if_neg c_2).symm.trans Heq
      refine lv_iload_n hx hb d_cJT_needValue_51 rfl (lv_at hl 1 rfl) ?_
      refine lv_if_ne (tgt := 62) hx hb d_cJT_needValue_52 (by decide) (fun c_3 => ?_) (fun c_3 => ?_)
      · replace Heq := (if_neg c_3).symm.trans Heq
        refine lv_aload_n hx hb d_cJT_needValue_62 rfl (lv_at hl 0 rfl) ?_
        obtain ⟨hl_x0_11, Heq⟩ := gl_some Heq
        refine va_get (D := D) (ci := 11) (v := rv ad 5 (S.r 11 10 x0)) (C := R_JT) (T := F_JT) (N := 13) hx hb hts i_JT hown hK hP (cPos N 11 x0) (cw_obj (k := 11) (by decide) hl_x0_11) rfl 10 (by decide) (hts _ kw_431) (fun _ h9 => h9) rfl d_cJT_needValue_63 ?_
        exact w_cJT_needValue_J66 hfl hC Heq Kr _ _ _ hP hD hS (lv_sub hl [0] rfl)
      · replace Heq := (if_pos c_3).symm.trans Heq
        refine lv_aload_n hx hb d_cJT_needValue_55 rfl (lv_at hl 0 rfl) ?_
        obtain ⟨hl_x0_11, Heq⟩ := gl_some Heq
        refine va_get (D := D) (ci := 11) (v := rv ad 5 (S.r 11 9 x0)) (C := R_JT) (T := F_JT) (N := 13) hx hb hts i_JT hown hK hP (cPos N 11 x0) (cw_obj (k := 11) (by decide) hl_x0_11) rfl 9 (by decide) (hts _ kw_430) (fun _ h9 => h9) rfl d_cJT_needValue_56 ?_
        refine lv_goto (tgt := 66) hx hb d_cJT_needValue_59 (by decide) ?_
        exact w_cJT_needValue_J66 hfl hC Heq Kr _ _ _ hP hD hS (lv_sub hl [0] rfl)
  · replace Heq := (if_neg c_1).symm.trans Heq
    exact w_cJT_needValue_J38 hfl hC Heq Kr _ _ _ hP hD hS (lv_sub hl [0] rfl)
def m_cJT_needValue_J10 (N : Nat → Nat) (x0 : Nat) (S : CS) (x1 : Int32) (x2 : Int32) (x3 : Int32) (t0 : Int32) : Option ((CS) ⊕ (CS × Nat)) := (if x1 < 0 then m_cJT_needValue_J38 N x0 S else (if 8 < x1 then m_cJT_needValue_J38 N x0 S else (if t0 = 0 then m_cJT_needValue_J34 N x0 S x3 t0 0 x3 x2 else m_cJT_needValue_J34 N x0 S x3 t0 1 x3 x2)))
theorem d_cJT_needValue_29 : decode prog_1_method_33_code 29 = .ok (.iconst 1, 1) := by decide +kernel
theorem d_cJT_needValue_30 : decode prog_1_method_33_code 30 = .ok (.goto 4, 3) := by decide +kernel
set_option maxHeartbeats 4000000 in
set_option maxRecDepth 100000 in
theorem w_cJT_needValue_J10 {p : Program} {l : Launch} {e : Env} {s : State} {m : MethodId} {args : Array Value} {below : List Frame} {meth : Method} {c : Code} {A : Nat → Prop} {D : va_G} {ad : Nat → Nat → Nat} {cc : Nat → ClassId} {sad sav : Nat → Nat} {Q : State → Prop} {cR sR : Nat} (hfl : l.flags = flags0) (hC : MCc sad sav "JoinedTrees" prog_1_method_33_code 5 none p s m args meth c A D cc) {N : Nat → Nat} {x0 : Nat} {S : CS} {x1 : Int32} {x2 : Int32} {x3 : Int32} {t0 : Int32} {o : ((CS) ⊕ (CS × Nat))} (Heq : m_cJT_needValue_J10 N x0 S x1 x2 x3 t0 = some o) (Kr : ∀ r : ((CS) ⊕ (CS × Nat)), o = r → (∀ v9 : CS, r = .inl v9 → ∀ (pc : Nat) (H : Heap) (locs : List Loc) (ls : Array Slot), decode prog_1_method_33_code pc = .ok (.return_, 1) → va_P D cls (cw ad cc N v9) H → va_D A (cw ad cc N v9) → va_S A s.heap H locs → W p l e ({ frames := 6, cells := cR, slots := sR, locals := 96 }) s m args below meth c H locs 0 0 Q (F0 m pc ls [])) ∧ (∀ t9 : CS × Nat, r = .inr t9 → (1 ≤ cR ∧ 6 ≤ sR) ∧ (∀ (pc : Nat) (H : Heap) (locs : List Loc) (ls : Array Slot), thD prog_1_method_33_code t9.2 pc → ls.size = 5 → va_P D cls (cw ad cc N t9.1) H → va_D A (cw ad cc N t9.1) → va_S A s.heap H locs → W p l e ({ frames := 6, cells := cR, slots := sR, locals := 96 }) s m args below meth c H locs 0 0 Q (F0 m pc ls [])) ∧ (∀ (pc : Nat) (H : Heap) (locs : List Loc) (ls : Array Slot) (st0 rest9 : List Value) (A9 : Nat → Prop), tx_Thr p l e ({ frames := 6, cells := cR, slots := sR, locals := 96 }) s m args below meth c H locs 0 0 1 6 (F0 m pc ls st0) rest9 (exN t9.2) A9 (fun H1 => va_P D cls (cw ad cc N t9.1) H1) → (∀ q, A9 q → A q) → va_S A s.heap H locs → W p l e ({ frames := 6, cells := cR, slots := sR, locals := 96 }) s m args below meth c H locs 0 0 Q (F0 m pc ls st0)))) : ∀ (H : Heap) (locs : List Loc) (ls : Array Slot), va_P D cls (cw ad cc N S) H → va_D A (cw ad cc N S) → va_S A s.heap H locs → lv_has ls 5 [(0, .ref (ad 11 x0)), (1, .int x1), (2, .int x2), (3, .int x3)] → W p l e ({ frames := 6, cells := cR, slots := sR, locals := 96 }) s m args below meth c H locs 0 0 Q (F0 m 10 ls [.int t0]) := by
  intro H locs ls hP hD hS hl
  obtain ⟨hx, hb, hr, hml, hown, hts, hK, hA, hev, hE, hN, hNS⟩ := id hC
  unfold m_cJT_needValue_J10 at Heq
  refine lv_istore (lv' := [(4, .int t0), (0, .ref (ad 11 x0)), (1, .int x1), (2, .int x2), (3, .int x3)]) hx hb d_cJT_needValue_10 hl (by decide) rfl (fun ls hl => ?_)
  refine lv_iload_n hx hb d_cJT_needValue_12 rfl (lv_at hl 2 rfl) ?_
  refine lv_if_lt (tgt := 38) hx hb d_cJT_needValue_13 (by decide) (fun c_1 => ?_) (fun c_1 => ?_)
  · replace Heq := (if_pos c_1).symm.trans Heq
    exact w_cJT_needValue_J38 hfl hC Heq Kr _ _ _ hP hD hS (lv_sub hl [1] rfl)
  · replace Heq := (if_neg c_1).symm.trans Heq
    refine lv_iload_n hx hb d_cJT_needValue_16 rfl (lv_at hl 2 rfl) ?_
    refine lv_bipush (v := 8) hx hb d_cJT_needValue_17 (by decide) ?_
    refine lv_icmp_gt (tgt := 38) hx hb d_cJT_needValue_19 (by decide) (fun c_2 => ?_) (fun c_2 => ?_)
    · replace Heq := (if_pos c_2).symm.trans Heq
      exact w_cJT_needValue_J38 hfl hC Heq Kr _ _ _ hP hD hS (lv_sub hl [1] rfl)
    · replace Heq := (if_neg c_2).symm.trans Heq
      refine lv_iload_n hx hb d_cJT_needValue_22 rfl (lv_at hl 3 rfl) ?_
      refine lv_iload_n hx hb d_cJT_needValue_23 rfl (lv_at hl 4 rfl) ?_
      refine lv_iload hx hb d_cJT_needValue_24 (lv_at hl 0 rfl) ?_
      refine lv_if_eq (tgt := 33) hx hb d_cJT_needValue_26 (by decide) (fun c_3 => ?_) (fun c_3 => ?_)
      · replace Heq := (if_pos c_3).symm.trans Heq
        refine lv_iconst (v := 0) hx hb d_cJT_needValue_33 (by decide) ?_
        exact w_cJT_needValue_J34 hfl hC Heq Kr _ _ _ hP hD hS (lv_sub hl [1, 4, 0] rfl)
      · replace Heq := (if_neg c_3).symm.trans Heq
        refine lv_iconst (v := 1) hx hb d_cJT_needValue_29 (by decide) ?_
        refine lv_goto (tgt := 34) hx hb d_cJT_needValue_30 (by decide) ?_
        exact w_cJT_needValue_J34 hfl hC Heq Kr _ _ _ hP hD hS (lv_sub hl [1, 4, 0] rfl)
def m_cJT_needValue_J0 (N : Nat → Nat) (x0 : Nat) (S : CS) (x1 : Int32) (x2 : Int32) (x3 : Int32) : Option ((CS) ⊕ (CS × Nat)) := (if x1 = 4 then m_cJT_needValue_J10 N x0 S x1 x2 x3 1 else m_cJT_needValue_J10 N x0 S x1 x2 x3 0)
theorem d_cJT_needValue_5 : decode prog_1_method_33_code 5 = .ok (.iconst 1, 1) := by decide +kernel
theorem d_cJT_needValue_6 : decode prog_1_method_33_code 6 = .ok (.goto 4, 3) := by decide +kernel
set_option maxHeartbeats 4000000 in
set_option maxRecDepth 100000 in
theorem w_cJT_needValue_J0 {p : Program} {l : Launch} {e : Env} {s : State} {m : MethodId} {args : Array Value} {below : List Frame} {meth : Method} {c : Code} {A : Nat → Prop} {D : va_G} {ad : Nat → Nat → Nat} {cc : Nat → ClassId} {sad sav : Nat → Nat} {Q : State → Prop} {cR sR : Nat} (hfl : l.flags = flags0) (hC : MCc sad sav "JoinedTrees" prog_1_method_33_code 5 none p s m args meth c A D cc) {N : Nat → Nat} {x0 : Nat} {S : CS} {x1 : Int32} {x2 : Int32} {x3 : Int32} {o : ((CS) ⊕ (CS × Nat))} (Heq : m_cJT_needValue_J0 N x0 S x1 x2 x3 = some o) (Kr : ∀ r : ((CS) ⊕ (CS × Nat)), o = r → (∀ v9 : CS, r = .inl v9 → ∀ (pc : Nat) (H : Heap) (locs : List Loc) (ls : Array Slot), decode prog_1_method_33_code pc = .ok (.return_, 1) → va_P D cls (cw ad cc N v9) H → va_D A (cw ad cc N v9) → va_S A s.heap H locs → W p l e ({ frames := 6, cells := cR, slots := sR, locals := 96 }) s m args below meth c H locs 0 0 Q (F0 m pc ls [])) ∧ (∀ t9 : CS × Nat, r = .inr t9 → (1 ≤ cR ∧ 6 ≤ sR) ∧ (∀ (pc : Nat) (H : Heap) (locs : List Loc) (ls : Array Slot), thD prog_1_method_33_code t9.2 pc → ls.size = 5 → va_P D cls (cw ad cc N t9.1) H → va_D A (cw ad cc N t9.1) → va_S A s.heap H locs → W p l e ({ frames := 6, cells := cR, slots := sR, locals := 96 }) s m args below meth c H locs 0 0 Q (F0 m pc ls [])) ∧ (∀ (pc : Nat) (H : Heap) (locs : List Loc) (ls : Array Slot) (st0 rest9 : List Value) (A9 : Nat → Prop), tx_Thr p l e ({ frames := 6, cells := cR, slots := sR, locals := 96 }) s m args below meth c H locs 0 0 1 6 (F0 m pc ls st0) rest9 (exN t9.2) A9 (fun H1 => va_P D cls (cw ad cc N t9.1) H1) → (∀ q, A9 q → A q) → va_S A s.heap H locs → W p l e ({ frames := 6, cells := cR, slots := sR, locals := 96 }) s m args below meth c H locs 0 0 Q (F0 m pc ls st0)))) : ∀ (H : Heap) (locs : List Loc) (ls : Array Slot), va_P D cls (cw ad cc N S) H → va_D A (cw ad cc N S) → va_S A s.heap H locs → lv_has ls 5 [(0, .ref (ad 11 x0)), (1, .int x1), (2, .int x2), (3, .int x3)] → W p l e ({ frames := 6, cells := cR, slots := sR, locals := 96 }) s m args below meth c H locs 0 0 Q (F0 m 0 ls []) := by
  intro H locs ls hP hD hS hl
  obtain ⟨hx, hb, hr, hml, hown, hts, hK, hA, hev, hE, hN, hNS⟩ := id hC
  unfold m_cJT_needValue_J0 at Heq
  refine lv_iload_n hx hb d_cJT_needValue_0 rfl (lv_at hl 1 rfl) ?_
  refine lv_iconst (v := 4) hx hb d_cJT_needValue_1 (by decide) ?_
  refine lv_icmp_ne (tgt := 9) hx hb d_cJT_needValue_2 (by decide) (fun c_1 => ?_) (fun c_1 => ?_)
  · replace Heq := (if_neg c_1).symm.trans Heq
    refine lv_iconst (v := 0) hx hb d_cJT_needValue_9 (by decide) ?_
    exact w_cJT_needValue_J10 hfl hC Heq Kr _ _ _ hP hD hS (lv_sub hl [0, 1, 2, 3] rfl)
  · replace Heq := (if_pos c_1).symm.trans Heq
    refine lv_iconst (v := 1) hx hb d_cJT_needValue_5 (by decide) ?_
    refine lv_goto (tgt := 10) hx hb d_cJT_needValue_6 (by decide) ?_
    exact w_cJT_needValue_J10 hfl hC Heq Kr _ _ _ hP hD hS (lv_sub hl [0, 1, 2, 3] rfl)
def m_cJT_needValue (N : Nat → Nat) (x0 : Nat) (S : CS) (x1 : Int32) (x2 : Int32) (x3 : Int32) : Option ((CS) ⊕ (CS × Nat)) := m_cJT_needValue_J0 N x0 S x1 x2 x3
set_option maxHeartbeats 4000000 in
theorem g_cJT_needValue (l : Launch) (hfl : l.flags = flags0) (D : va_G) (sz : Nat) {ad : Nat → Nat → Nat} {cc : Nat → ClassId} {sad sav : Nat → Nat} {N : Nat → Nat} {x0 : Nat} {S : CS} {x1 : Int32} {x2 : Int32} {x3 : Int32} {o : CS} (Heq : m_cJT_needValue N x0 S x1 x2 x3 = some (.inl o)) : Met l ⟨"JoinedTrees", "needValue", "(III)V"⟩ (Cond.code ⟨"JoinedTrees", "needValue", "(III)V"⟩ prog_1_method_33_code 5 none :: gb) ({ frames := 6, cells := 0, slots := 0, locals := 96 }) (cPc sad sav D (cw ad cc N S) (cty cc) sz [.ref (ad 11 x0), .int x1, .int x2, .int x3]) (va_Qv (fun _ : Unit => True) (fun _ t => gO D (cw ad cc N o) (cty cc) (va_A (cw ad cc N S) sz) t) (va_A (cw ad cc N S) sz)) 0 0 (va_A (cw ad cc N S) sz) := by
  refine Met.ofW (cc := prog_1_method_33_code) (maxL := 5) (ret := none) (by decide) rfl ?_
  intro p e s m args below meth c s₁ B hml hv
  obtain ⟨rfl, hsz, hP, hK, hD0, hev, hE, hN⟩ := hv
  have hx := B.exec
  have hb := B.bytes
  have hr := B.returns
  have hts : ∀ w9 ∈ gb, w9.before [.ref (ad 11 x0), .int x1, .int x2, .int x3].toArray s = true := fun w9 h => atoms_spec (ws := Cond.code ⟨"JoinedTrees", "needValue", "(III)V"⟩ prog_1_method_33_code 5 none :: gb) B.pre w9 (List.mem_cons_of_mem _ h)
  have hown : s.vm.findClass "JoinedTrees" = some m.cls := findClass_of_methodNamed B.named
  have hlocks := B.notSynchronized
  have hNS := ns_of hP
  subst hsz
  have hD := hD0.self (sz := s.heap.size)
  generalize hAe : va_A (cw ad cc N S) s.heap.size = A at hD hev hE hNS ⊢
  have hA : ∀ q : Nat, s.heap.size ≤ q → A q := fun q h => by rw [← hAe]; exact Or.inr h
  have hS : va_S A s.heap s.heap [] := va_S.rf
  obtain ⟨ls, hl, hle⟩ : ∃ ls : Array Slot, lv_has ls 5 [(0, .ref (ad 11 x0)), (1, .int x1), (2, .int x2), (3, .int x3)] ∧ entryFrame m ([.ref (ad 11 x0), .int x1, .int x2, .int x3] : List Value).toArray 5 = F0 m 0 ls [] := by
    exact ⟨_, lv_entry (n := 5) _ (Nat.le_of_ble_eq_true rfl), lg_entry_eq ..⟩
  rw [hle]
  refine w_cJT_needValue_J0 (cR := 0) (sR := 0) hfl ⟨hx, hb, hr, hml, hown, hts, hK, hA, hev, hE, hN, hNS⟩ Heq (fun r h => ⟨fun v9 hv9 pc H locs ls hd hP hD hS => ?_, fun t9 ht9 => (by subst h; cases ht9)⟩) _ _ _ hP hD hS (lv_sub hl [0, 1, 2, 3] rfl)
  subst h
  cases hv9
  exact W.vret hx hb hr (fun t ht hW => ⟨⟨(), rfl, trivial, by rw [ht]; exact hP, va_K.moved hW.alike hK, hD⟩, hS.F ht⟩) hS.2.2 hd
set_option maxHeartbeats 4000000 in
theorem g_cJT_needValue_t (l : Launch) (hfl : l.flags = flags0) (D : va_G) (sz : Nat) {ad : Nat → Nat → Nat} {cc : Nat → ClassId} {sad sav : Nat → Nat} {N : Nat → Nat} {x0 : Nat} {S : CS} {x1 : Int32} {x2 : Int32} {x3 : Int32} {o : CS × Nat} (Heq : m_cJT_needValue N x0 S x1 x2 x3 = some (.inr o)) : MeT l ⟨"JoinedTrees", "needValue", "(III)V"⟩ (Cond.code ⟨"JoinedTrees", "needValue", "(III)V"⟩ prog_1_method_33_code 5 none :: gb) ({ frames := 6, cells := 1, slots := 6, locals := 96 }) (cPc sad sav D (cw ad cc N S) (cty cc) sz [.ref (ad 11 x0), .int x1, .int x2, .int x3]) (exN o.2) (va_A (cw ad cc N S) sz) (fun H1 => va_P D cls (cw ad cc N o.1) H1) 1 6 := by
  refine MeT.ofW (cc := prog_1_method_33_code) (maxL := 5) (ret := none) (by decide) rfl ?_
  intro p e s m args below meth c s₁ B hml hno hv
  obtain ⟨rfl, hsz, hP, hK, hD0, hev, hE, hN⟩ := hv
  have hx := B.exec
  have hb := B.bytes
  have hr := B.returns
  have hts : ∀ w9 ∈ gb, w9.before [.ref (ad 11 x0), .int x1, .int x2, .int x3].toArray s = true := fun w9 h => atoms_spec (ws := Cond.code ⟨"JoinedTrees", "needValue", "(III)V"⟩ prog_1_method_33_code 5 none :: gb) B.pre w9 (List.mem_cons_of_mem _ h)
  have hown : s.vm.findClass "JoinedTrees" = some m.cls := findClass_of_methodNamed B.named
  have hlocks := B.notSynchronized
  have hNS := ns_of hP
  subst hsz
  have hD := hD0.self (sz := s.heap.size)
  generalize hAe : va_A (cw ad cc N S) s.heap.size = A at hD hev hE hNS ⊢
  have hA : ∀ q : Nat, s.heap.size ≤ q → A q := fun q h => by rw [← hAe]; exact Or.inr h
  have hS : va_S A s.heap s.heap [] := va_S.rf
  obtain ⟨ls, hl, hle⟩ : ∃ ls : Array Slot, lv_has ls 5 [(0, .ref (ad 11 x0)), (1, .int x1), (2, .int x2), (3, .int x3)] ∧ entryFrame m ([.ref (ad 11 x0), .int x1, .int x2, .int x3] : List Value).toArray 5 = F0 m 0 ls [] := by
    exact ⟨_, lv_entry (n := 5) _ (Nat.le_of_ble_eq_true rfl), lg_entry_eq ..⟩
  rw [hle]
  refine w_cJT_needValue_J0 (cR := 1) (sR := 6) hfl ⟨hx, hb, hr, hml, hown, hts, hK, hA, hev, hE, hN, hNS⟩ Heq (fun r h => ⟨fun v9 hv9 => (by subst h; cases hv9), fun t9 ht9 => ⟨⟨Nat.le_refl _, Nat.le_refl _⟩, fun pc H locs ls hd hsz hP hD hS => ?_, fun pc H locs ls st0 rest9 A9 hr9 hF9 hS => ?_⟩⟩) _ _ _ hP hD hS (lv_sub hl [0, 1, 2, 3] rfl)
  · subst h; cases ht9; exact tx_thr hfl hx hb hno hlocks hown hts hev hN hNS hd (hsz.trans hml.symm) hP hS hA (Nat.le_refl _) (Nat.le_refl _) (Nat.le_of_ble_eq_true rfl) (Nat.le_of_ble_eq_true rfl)
  · subst h; cases ht9; exact tx_on hr9 hno hlocks hS hF9
