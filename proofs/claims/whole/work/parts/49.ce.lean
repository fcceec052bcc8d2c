noncomputable def m_cJT_insertRun_B6 (N : Nat → Nat) (x0 : Nat) (S : CS) (x1 : Option Nat) (x2 : Option Nat) (x4 : Option Nat) (x5 : Int32) : Option ((((Nat → Nat) × CS × Option Nat × Option Nat × Option Nat × Int32) ⊕ ((Nat → Nat) × CS)) × Nat × Nat) := gl x0 (N 11) (gn (S.r 11 9 x0) (N 5) (fun j_1 => (if S.i 5 1 j_1 ≤ x5 then some ((.inr (N, S)), 0, 0) else gn x2 (N 3) (fun j_5 => gn x1 (N 4) (fun j_8 => oq (m_cJT_writeBehind N x0 S j_8 j_5 x4 4 0) (fun N_13 S_14 v_15 => gn (S_14.r 11 9 x0) (N_13 5) (fun j_16 => gn v_15 (N_13 3) (fun j_19 => gn (S_14.r 11 0 x0) (N_13 8) (fun j_22 => ob (m_cSt_keepString N_13 j_22 S_14 j_19 j_16 x5 1) (fun o_25 => some ((.inl (N_13, o_25, x1, x2, v_15, (x5 + 1))), 0, 0)))))))))))
theorem d_cJT_insertRun_0 : decode prog_1_method_51_code 0 = .ok (.aload_n 3, 1) := by decide +kernel
theorem d_cJT_insertRun_1 : decode prog_1_method_51_code 1 = .ok (.astore 4, 2) := by decide +kernel
theorem d_cJT_insertRun_3 : decode prog_1_method_51_code 3 = .ok (.iconst 0, 1) := by decide +kernel
theorem d_cJT_insertRun_4 : decode prog_1_method_51_code 4 = .ok (.istore 5, 2) := by decide +kernel
theorem d_cJT_insertRun_6 : decode prog_1_method_51_code 6 = .ok (.iload 5, 2) := by decide +kernel
theorem d_cJT_insertRun_8 : decode prog_1_method_51_code 8 = .ok (.aload_n 0, 1) := by decide +kernel
theorem d_cJT_insertRun_9 : decode prog_1_method_51_code 9 = .ok (.getfield 70, 3) := by decide +kernel
theorem d_cJT_insertRun_12 : decode prog_1_method_51_code 12 = .ok (.getfield 80, 3) := by decide +kernel
theorem d_cJT_insertRun_15 : decode prog_1_method_51_code 15 = .ok (.if_icmp .ge 37, 3) := by decide +kernel
theorem d_cJT_insertRun_18 : decode prog_1_method_51_code 18 = .ok (.aload_n 0, 1) := by decide +kernel
theorem d_cJT_insertRun_19 : decode prog_1_method_51_code 19 = .ok (.aload_n 1, 1) := by decide +kernel
theorem d_cJT_insertRun_20 : decode prog_1_method_51_code 20 = .ok (.aload_n 2, 1) := by decide +kernel
theorem d_cJT_insertRun_21 : decode prog_1_method_51_code 21 = .ok (.aload 4, 2) := by decide +kernel
theorem d_cJT_insertRun_23 : decode prog_1_method_51_code 23 = .ok (.iconst 4, 1) := by decide +kernel
theorem d_cJT_insertRun_24 : decode prog_1_method_51_code 24 = .ok (.lconst 0, 1) := by decide +kernel
theorem d_cJT_insertRun_25 : decode prog_1_method_51_code 25 = .ok (.invokevirtual 164, 3) := by decide +kernel
theorem d_cJT_insertRun_28 : decode prog_1_method_51_code 28 = .ok (.astore 4, 2) := by decide +kernel
theorem d_cJT_insertRun_30 : decode prog_1_method_51_code 30 = .ok (.aload_n 0, 1) := by decide +kernel
theorem d_cJT_insertRun_31 : decode prog_1_method_51_code 31 = .ok (.getfield 12, 3) := by decide +kernel
theorem d_cJT_insertRun_34 : decode prog_1_method_51_code 34 = .ok (.aload 4, 2) := by decide +kernel
theorem d_cJT_insertRun_36 : decode prog_1_method_51_code 36 = .ok (.aload_n 0, 1) := by decide +kernel
theorem d_cJT_insertRun_37 : decode prog_1_method_51_code 37 = .ok (.getfield 70, 3) := by decide +kernel
theorem d_cJT_insertRun_40 : decode prog_1_method_51_code 40 = .ok (.iload 5, 2) := by decide +kernel
theorem d_cJT_insertRun_42 : decode prog_1_method_51_code 42 = .ok (.iconst 1, 1) := by decide +kernel
theorem d_cJT_insertRun_43 : decode prog_1_method_51_code 43 = .ok (.invokevirtual 437, 3) := by decide +kernel
theorem d_cJT_insertRun_46 : decode prog_1_method_51_code 46 = .ok (.iinc 5 1, 3) := by decide +kernel
theorem d_cJT_insertRun_49 : decode prog_1_method_51_code 49 = .ok (.goto (-43), 3) := by decide +kernel
set_option maxHeartbeats 4000000 in
set_option maxRecDepth 100000 in
theorem w_cJT_insertRun_B6 {p : Program} {l : Launch} {e : Env} {s : State} {m : MethodId} {args : Array Value} {below : List Frame} {meth : Method} {c : Code} {A : Nat → Prop} {D : va_G} {cc : Nat → ClassId} {sad sav : Nat → Nat} {Q : State → Prop} {ad0 : Nat → Nat → Nat} {N0 : Nat → Nat} {CT ST cR sR : Nat} (hC : MCc sad sav "JoinedTrees" prog_1_method_51_code 6 none p s m args meth c A D cc) (hCT : CT ≤ cR) (hST : ST ≤ sR) {N : Nat → Nat} {x0 : Nat} {S : CS} {x1 : Option Nat} {x2 : Option Nat} {x4 : Option Nat} {x5 : Int32} {o : (((Nat → Nat) × CS × Option Nat × Option Nat × Option Nat × Int32) ⊕ ((Nat → Nat) × CS))} {oc os : Nat} (Heq : m_cJT_insertRun_B6 N x0 S x1 x2 x4 x5 = some (o, oc, os)) (Ka : ∀ (N : Nat → Nat) (b : CS × Option Nat × Option Nat × Option Nat × Int32), o = .inl (N, b) → ∀ (ad : Nat → Nat → Nat) (H : Heap) (locs : List Loc) (ls : Array Slot), Ext ad0 N0 ad N → va_P D cls (cw ad cc N b.1) H → va_D A (cw ad cc N b.1) → va_S A s.heap H locs → lv_has ls 6 [(0, .ref (ad 11 x0)), (1, rv ad 4 b.2.1), (2, rv ad 3 b.2.2.1), (4, rv ad 3 b.2.2.2.1), (5, .int b.2.2.2.2)] → W p l e ({ frames := 5, cells := cR, slots := sR, locals := 120 }) s m args below meth c H locs CT ST Q (F0 m 6 ls [])) (K0 : ∀ (N : Nat → Nat) (b : CS), o = .inr (N, b) → ∀ (ad : Nat → Nat → Nat) (H : Heap) (locs : List Loc) (ls : Array Slot), Ext ad0 N0 ad N → va_P D cls (cw ad cc N b) H → va_D A (cw ad cc N b) → va_S A s.heap H locs → lv_has ls 6 [(0, .ref (ad 11 x0))] → W p l e ({ frames := 5, cells := cR, slots := sR, locals := 120 }) s m args below meth c H locs CT ST Q (F0 m 52 ls [])) : ∀ (ad : Nat → Nat → Nat) (H : Heap) (locs : List Loc) (ls : Array Slot) (cells slots : Nat), Ext ad0 N0 ad N → cells + oc = CT → slots + os = ST → va_P D cls (cw ad cc N S) H → va_D A (cw ad cc N S) → va_S A s.heap H locs → lv_has ls 6 [(0, .ref (ad 11 x0)), (1, rv ad 4 x1), (2, rv ad 3 x2), (4, rv ad 3 x4), (5, .int x5)] → W p l e ({ frames := 5, cells := cR, slots := sR, locals := 120 }) s m args below meth c H locs cells slots Q (F0 m 6 ls []) := by
  intro ad H locs ls cells slots hX hcu hsu hP hD hS hl
  obtain ⟨hx, hb, hr, hml, hown, hts, hK, hA, hev, hE, hN, hNS⟩ := id hC
  unfold m_cJT_insertRun_B6 at Heq
  refine lv_iload hx hb d_cJT_insertRun_6 (lv_at hl 4 rfl) ?_
  refine lv_aload_n hx hb d_cJT_insertRun_8 rfl (lv_at hl 0 rfl) ?_
  obtain ⟨hl_x0_11, Heq⟩ := gl_some Heq
  refine va_get (D := D) (ci := 11) (v := rv ad 5 (S.r 11 9 x0)) (C := R_JT) (T := F_JT) (N := 13) hx hb hts i_JT hown hK hP (cPos N 11 x0) (cw_obj (k := 11) (by decide) hl_x0_11) rfl 9 (by decide) (hts _ kw_430) (fun _ h9 => h9) rfl d_cJT_insertRun_9 ?_
  obtain ⟨j_1, hj_2, hl_3, Heq⟩ := gn_some Heq
  refine w_s (st' := [.ref (ad 5 j_1), .int x5]) (congrArg (fun z9 : Option Nat => [rv ad 5 z9, .int x5]) hj_2) ?_
  refine va_get (D := D) (ci := 5) (v := .int (S.i 5 1 j_1)) (C := R_Rw) (T := F_Rw) (N := 3) hx hb hts i_Rw hown hK hP (cPos N 5 j_1) (cw_obj (k := 5) (by decide) hl_3) rfl 1 (by decide) (hts _ kw_143) (fun _ h9 => h9) rfl d_cJT_insertRun_12 ?_
  refine lv_icmp_ge (tgt := 52) hx hb d_cJT_insertRun_15 (by decide) (fun c_4 => ?_) (fun c_4 => ?_)
  · replace Heq := (if_pos c_4).symm.trans Heq
    obtain ⟨e9, e9a, e9b⟩ := tri Heq
    refine W.cs (cells' := CT) (slots' := ST) (by omega) (by omega) ?_
    exact K0 _ _ e9 _ _ _ _ hX hP hD hS (lv_sub hl [0] rfl)
  · replace Heq := (if_neg c_4).symm.trans Heq
    refine lv_aload_n hx hb d_cJT_insertRun_18 rfl (lv_at hl 0 rfl) ?_
    refine tx_aload_n (x := x1.map (ad 4)) hx hb d_cJT_insertRun_19 rfl (lv_at hl 1 rfl) ?_
    refine w_v (y := rv ad 4 x1) rfl ?_
    refine tx_aload_n (x := x2.map (ad 3)) hx hb d_cJT_insertRun_20 rfl (lv_at hl 2 rfl) ?_
    refine w_v (y := rv ad 3 x2) rfl ?_
    refine tx_aload (x := x4.map (ad 3)) hx hb d_cJT_insertRun_21 (lv_at hl 3 rfl) ?_
    refine w_v (y := rv ad 3 x4) rfl ?_
    refine lv_iconst (v := 4) hx hb d_cJT_insertRun_23 (by decide) ?_
    refine lv_lconst (v := 0) hx hb d_cJT_insertRun_24 (by decide) ?_
    obtain ⟨j_5, hj_6, hl_7, Heq⟩ := gn_some Heq
    refine w_s (st' := [.long 0, .int 4, rv ad 3 x4, .ref (ad 3 j_5), rv ad 4 x1, .ref (ad 11 x0)]) (congrArg (fun z9 : Option Nat => [.long 0, .int 4, rv ad 3 x4, rv ad 3 z9, rv ad 4 x1, .ref (ad 11 x0)]) hj_6) ?_
    obtain ⟨j_8, hj_9, hl_10, Heq⟩ := gn_some Heq
    refine w_s (st' := [.long 0, .int 4, rv ad 3 x4, .ref (ad 3 j_5), .ref (ad 4 j_8), .ref (ad 11 x0)]) (congrArg (fun z9 : Option Nat => [.long 0, .int 4, rv ad 3 x4, .ref (ad 3 j_5), rv ad 4 z9, .ref (ad 11 x0)]) hj_9) ?_
    have hl : lv_has ls 6 [(0, .ref (ad 11 x0)), (1, rv ad 4 x1), (2, rv ad 3 x2), (5, .int x5)] := lv_sub hl [0, 1, 2, 4] rfl
    obtain ⟨N_13, S_14, v_15, a9, b9, a8, b8, h_12, Heq, e9a, e9b⟩ := oq_some Heq
    refine w_s (st' := [.long 0, .int 4, rv ad 3 x4, .ref (ad 3 j_5), .ref (ad 4 j_8), .ref (ad 11 x0)]) rfl ?_
    have hFc := fr_all hD hS hA
    refine va_callq (va_runV (As := [.ref (ad 4 j_8), .ref (ad 3 j_5), rv ad 3 x4, .int 4, .long 0]) (rest := []) ⟨hx, hb, hml, hown, hts⟩ (g_cJT_writeBehind l D H.size (ad := ad) (cc := cc) (sad := sad) (sav := sav) h_12) (cw_v 5 hts kw_804 kw_801 kw_803 kp_16 kw_1 rfl rfl (by decide +kernel) ⟨Nat.le_of_ble_eq_true rfl, Nat.le_of_ble_eq_true rfl⟩) ⟨c_blind, va_recv hK hP (ci := 11) (q0 := cPos N 11 x0) rfl (cw_obj (k := 11) (by decide) hl_x0_11), fun U hU hW => c_pre hU hW hP hK hD hev hE hN hNS hS hFc⟩ rfl rfl hl.1 rfl (lv_room (Nat.le_of_ble_eq_true rfl)) d_cJT_insertRun_25 ⟨(Nat.le_trans (m := CT) (by omega) hCT), (Nat.le_trans (m := ST) (by omega) hST)⟩) hS (fun q _ h => hFc q h) hFc (fun rz ad t H1 locs ht hvm hw hB hz1 hk1 hS => ?_)
    obtain ⟨hX1, hP, -, hD1⟩ := hB
    rw [ht] at hP
    have hD := hD1.weaken (fun _ q _ h => hFc q.1 h)
    generalize H1 = H at hP hS ⊢
    subst hw
    refine w_v (y := rv ad 3 v_15) rfl ?_
    have hX := hX.tr hX1
    have hl : lv_has ls 6 [(0, .ref (ad 11 x0)), (1, rv ad 4 x1), (2, rv ad 3 x2), (5, .int x5)] := lv_cast hl (by first | rfl | simp only [hX1.2 11 x0 hl_x0_11, hX1.rv (k := 4) (x := x1) (fun _ q9 => by rw [hj_9] at q9; cases q9; exact hl_10), hX1.rv (k := 3) (x := x2) (fun _ q9 => by rw [hj_6] at q9; cases q9; exact hl_7)])
    refine w_s (st' := [rv ad 3 v_15]) (by first | rfl | simp only [hX1.2 11 x0 hl_x0_11, hX1.rv (k := 4) (x := x1) (fun _ q9 => by rw [hj_9] at q9; cases q9; exact hl_10), hX1.rv (k := 3) (x := x2) (fun _ q9 => by rw [hj_6] at q9; cases q9; exact hl_7)]) ?_
    have hl_x0_11 := Nat.lt_of_lt_of_le hl_x0_11 (hX1.1 11)
    have hl_3 := Nat.lt_of_lt_of_le hl_3 (hX1.1 5)
    have hl_7 := Nat.lt_of_lt_of_le hl_7 (hX1.1 3)
    have hl_10 := Nat.lt_of_lt_of_le hl_10 (hX1.1 4)
    refine tx_astore (x := v_15.map (ad 3)) (lv' := [(4, rv ad 3 v_15), (0, .ref (ad 11 x0)), (1, rv ad 4 x1), (2, rv ad 3 x2), (5, .int x5)]) hx hb d_cJT_insertRun_28 hl (by decide) rfl (fun ls hl => ?_)
    refine lv_aload_n hx hb d_cJT_insertRun_30 rfl (lv_at hl 1 rfl) ?_
    refine va_get (D := D) (ci := 11) (v := rv ad 8 (S_14.r 11 0 x0)) (C := R_JT) (T := F_JT) (N := 13) hx hb hts i_JT hown hK hP (cPos N_13 11 x0) (cw_obj (k := 11) (by decide) hl_x0_11) rfl 0 (by decide) (hts _ kw_421) (fun _ h9 => h9) rfl d_cJT_insertRun_31 ?_
    refine tx_aload (x := v_15.map (ad 3)) hx hb d_cJT_insertRun_34 (lv_at hl 0 rfl) ?_
    refine w_v (y := rv ad 3 v_15) rfl ?_
    refine lv_aload_n hx hb d_cJT_insertRun_36 rfl (lv_at hl 1 rfl) ?_
    refine va_get (D := D) (ci := 11) (v := rv ad 5 (S_14.r 11 9 x0)) (C := R_JT) (T := F_JT) (N := 13) hx hb hts i_JT hown hK hP (cPos N_13 11 x0) (cw_obj (k := 11) (by decide) hl_x0_11) rfl 9 (by decide) (hts _ kw_430) (fun _ h9 => h9) rfl d_cJT_insertRun_37 ?_
    refine lv_iload hx hb d_cJT_insertRun_40 (lv_at hl 4 rfl) ?_
    refine lv_iconst (v := 1) hx hb d_cJT_insertRun_42 (by decide) ?_
    obtain ⟨j_16, hj_17, hl_18, Heq⟩ := gn_some Heq
    refine w_s (st' := [.int 1, .int x5, .ref (ad 5 j_16), rv ad 3 v_15, rv ad 8 (S_14.r 11 0 x0)]) (congrArg (fun z9 : Option Nat => [.int 1, .int x5, rv ad 5 z9, rv ad 3 v_15, rv ad 8 (S_14.r 11 0 x0)]) hj_17) ?_
    obtain ⟨j_19, hj_20, hl_21, Heq⟩ := gn_some Heq
    refine w_s (st' := [.int 1, .int x5, .ref (ad 5 j_16), .ref (ad 3 j_19), rv ad 8 (S_14.r 11 0 x0)]) (congrArg (fun z9 : Option Nat => [.int 1, .int x5, .ref (ad 5 j_16), rv ad 3 z9, rv ad 8 (S_14.r 11 0 x0)]) hj_20) ?_
    obtain ⟨j_22, hj_23, hl_24, Heq⟩ := gn_some Heq
    refine w_s (st' := [.int 1, .int x5, .ref (ad 5 j_16), .ref (ad 3 j_19), .ref (ad 8 j_22)]) (congrArg (fun z9 : Option Nat => [.int 1, .int x5, .ref (ad 5 j_16), .ref (ad 3 j_19), rv ad 8 z9]) hj_23) ?_
    obtain ⟨o_25, h_26, Heq⟩ := ob_some Heq
    have hFc := fr_all hD hS hA
    refine va_callv (va_runV (As := [.ref (ad 3 j_19), .ref (ad 5 j_16), .int x5, .int 1]) (rest := []) ⟨hx, hb, hml, hown, hts⟩ (g_cSt_keepString l D H.size (ad := ad) (cc := cc) (sad := sad) (sav := sav) h_26) (cw_v 4 hts kw_765 kw_762 kw_763 kw_764 kw_2 rfl rfl (by decide +kernel) ⟨Nat.le_of_ble_eq_true rfl, Nat.le_of_ble_eq_true rfl⟩) ⟨c_blind, va_recv hK hP (ci := 8) (q0 := cPos N_13 8 j_22) rfl (cw_obj (k := 8) (by decide) hl_24), fun U hU hW => c_pre hU hW hP hK hD hev hE hN hNS hS hFc⟩ rfl rfl hl.1 rfl (lv_room (Nat.le_of_ble_eq_true rfl)) d_cJT_insertRun_43 ⟨(Nat.le_trans (m := CT) (by omega) hCT), (Nat.le_trans (m := ST) (by omega) hST)⟩) hS (fun q _ h => hFc q h) hFc (fun u t H1 locs ht hvm hw hB hz1 hk1 hS => ?_)
    obtain ⟨hP, -, hD1⟩ := hB
    rw [ht] at hP
    have hD := hD1.weaken (fun _ q _ h => hFc q.1 h)
    generalize H1 = H at hP hS ⊢
    refine lv_iinc (v := x5 + 1) (lv' := [(5, .int (x5 + 1)), (4, rv ad 3 v_15), (0, .ref (ad 11 x0)), (1, rv ad 4 x1), (2, rv ad 3 x2)]) hx hb d_cJT_insertRun_46 hl (k := 4) rfl rfl (by decide) (by simp [rv, rf_cat]) (fun ls hl => ?_)
    refine lv_goto (tgt := 6) hx hb d_cJT_insertRun_49 (by decide) ?_
    obtain ⟨e9, e9a, e9b⟩ := tri Heq
    refine W.cs (cells' := CT) (slots' := ST) (by omega) (by omega) ?_
    exact Ka _ _ e9 _ _ _ _ hX hP hD hS (lv_sub hl [2, 3, 4, 1, 0] rfl)
noncomputable def m_cJT_insertRun_L6 (N : Nat → Nat) (x0 : Nat) (S : CS) (x1 : Option Nat) (x2 : Option Nat) (x4 : Option Nat) (x5 : Int32) : Option (((Nat → Nat) × CS) × Nat × Nat) := lpA (fun a : (Nat → Nat) × CS × Option Nat × Option Nat × Option Nat × Int32 => m_cJT_insertRun_B6 a.1 x0 a.2.1 a.2.2.1 a.2.2.2.1 a.2.2.2.2.1 a.2.2.2.2.2) FU (N, S, x1, x2, x4, x5)
set_option maxHeartbeats 4000000 in
theorem w_cJT_insertRun_L6 {p : Program} {l : Launch} {e : Env} {s : State} {m : MethodId} {args : Array Value} {below : List Frame} {meth : Method} {c : Code} {A : Nat → Prop} {D : va_G} {cc : Nat → ClassId} {sad sav : Nat → Nat} {Q : State → Prop} {ad0 : Nat → Nat → Nat} {N0 : Nat → Nat} {CT ST cR sR : Nat} (hC : MCc sad sav "JoinedTrees" prog_1_method_51_code 6 none p s m args meth c A D cc) (hCT : CT ≤ cR) (hST : ST ≤ sR) {N : Nat → Nat} {x0 : Nat} {S : CS} {x1 : Option Nat} {x2 : Option Nat} {x4 : Option Nat} {x5 : Int32} {o : (Nat → Nat) × CS} {oc os : Nat} (Heq : m_cJT_insertRun_L6 N x0 S x1 x2 x4 x5 = some (o, oc, os)) (K0 : ∀ (N : Nat → Nat) (b : CS), o = (N, b) → ∀ (ad : Nat → Nat → Nat) (H : Heap) (locs : List Loc) (ls : Array Slot), Ext ad0 N0 ad N → va_P D cls (cw ad cc N b) H → va_D A (cw ad cc N b) → va_S A s.heap H locs → lv_has ls 6 [(0, .ref (ad 11 x0))] → W p l e ({ frames := 5, cells := cR, slots := sR, locals := 120 }) s m args below meth c H locs CT ST Q (F0 m 52 ls [])) : ∀ (ad : Nat → Nat → Nat) (H : Heap) (locs : List Loc) (ls : Array Slot) (cells slots : Nat), Ext ad0 N0 ad N → cells + oc = CT → slots + os = ST → va_P D cls (cw ad cc N S) H → va_D A (cw ad cc N S) → va_S A s.heap H locs → lv_has ls 6 [(0, .ref (ad 11 x0)), (1, rv ad 4 x1), (2, rv ad 3 x2), (4, rv ad 3 x4), (5, .int x5)] → W p l e ({ frames := 5, cells := cR, slots := sR, locals := 120 }) s m args below meth c H locs cells slots Q (F0 m 6 ls []) := by
  refine lpA_w2 (e := o) (G := fun (a : (Nat → Nat) × CS × Option Nat × Option Nat × Option Nat × Int32) u9 v9 => ∀ (ad : Nat → Nat → Nat) (H : Heap) (locs : List Loc) (ls : Array Slot) (cells slots : Nat), Ext ad0 N0 ad a.1 → cells + u9 = CT → slots + v9 = ST → va_P D cls (cw ad cc a.1 a.2.1) H → va_D A (cw ad cc a.1 a.2.1) → va_S A s.heap H locs → lv_has ls 6 [(0, .ref (ad 11 x0)), (1, rv ad 4 a.2.2.1), (2, rv ad 3 a.2.2.2.1), (4, rv ad 3 a.2.2.2.2.1), (5, .int a.2.2.2.2.2)] → W p l e ({ frames := 5, cells := cR, slots := sR, locals := 120 }) s m args below meth c H locs cells slots Q (F0 m 6 ls [])) ?_ FU (N, S, x1, x2, x4, x5) oc os Heq
  intro a o1 c9 s9 u9 v9 ho hc9 hs9 Ka Ke ad H locs ls cells slots hX hcu hsu hP hD hS hl
  refine w_cJT_insertRun_B6 (CT := cells + c9) (ST := slots + s9) hC (Nat.le_trans (m := CT) (by omega) hCT) (Nat.le_trans (m := ST) (by omega) hST) ho (fun N b h => ?_) (fun N b h => ?_) _ _ _ _ _ _ hX rfl rfl hP hD hS hl
  · obtain ⟨u1, v1, h1, h2, h3⟩ := Ka _ h
    intro ad H locs ls hX hP hD hS hl
    exact h3 ad H locs ls _ _ hX (by omega) (by omega) hP hD hS hl
  · obtain ⟨h1, h2, h3⟩ := Ke _ h
    intro ad H locs ls hX hP hD hS hl
    refine W.cs (cells' := CT) (slots' := ST) (by omega) (by omega) ?_
    exact K0 N b h1.symm ad H locs ls hX hP hD hS hl
noncomputable def m_cJT_insertRun_J0 (N : Nat → Nat) (x0 : Nat) (S : CS) (x1 : Nat) (x2 : Nat) (x3 : Option Nat) : Option (((Nat → Nat) × CS) × Nat × Nat) := ov (m_cJT_insertRun_L6 N x0 S (some x1) (some x2) x3 0) (fun N_1 b_2 => some ((N_1, b_2), 0, 0))
theorem d_cJT_insertRun_52 : decode prog_1_method_51_code 52 = .ok (.return_, 1) := by decide +kernel
set_option maxHeartbeats 4000000 in
set_option maxRecDepth 100000 in
theorem w_cJT_insertRun_J0 {p : Program} {l : Launch} {e : Env} {s : State} {m : MethodId} {args : Array Value} {below : List Frame} {meth : Method} {c : Code} {A : Nat → Prop} {D : va_G} {cc : Nat → ClassId} {sad sav : Nat → Nat} {Q : State → Prop} {ad0 : Nat → Nat → Nat} {N0 : Nat → Nat} {CT ST cR sR : Nat} (hC : MCc sad sav "JoinedTrees" prog_1_method_51_code 6 none p s m args meth c A D cc) (hCT : CT ≤ cR) (hST : ST ≤ sR) {N : Nat → Nat} {x0 : Nat} {S : CS} {x1 : Nat} {x2 : Nat} {x3 : Option Nat} {o : (Nat → Nat) × CS} {oc os : Nat} (Heq : m_cJT_insertRun_J0 N x0 S x1 x2 x3 = some (o, oc, os)) (Kr : ∀ r : (Nat → Nat) × CS, o = r → ∀ (pc : Nat) (ad : Nat → Nat → Nat) (H : Heap) (locs : List Loc) (ls : Array Slot), decode prog_1_method_51_code pc = .ok (.return_, 1) → Ext ad0 N0 ad (r.1) → va_P D cls (cw ad cc r.1 r.2) H → va_D A (cw ad cc r.1 r.2) → va_S A s.heap H locs → W p l e ({ frames := 5, cells := cR, slots := sR, locals := 120 }) s m args below meth c H locs CT ST Q (F0 m pc ls [])) : ∀ (ad : Nat → Nat → Nat) (H : Heap) (locs : List Loc) (ls : Array Slot) (cells slots : Nat), Ext ad0 N0 ad N → cells + oc = CT → slots + os = ST → va_P D cls (cw ad cc N S) H → va_D A (cw ad cc N S) → va_S A s.heap H locs → lv_has ls 6 [(0, .ref (ad 11 x0)), (1, .ref (ad 4 x1)), (2, .ref (ad 3 x2)), (3, rv ad 3 x3)] → W p l e ({ frames := 5, cells := cR, slots := sR, locals := 120 }) s m args below meth c H locs cells slots Q (F0 m 0 ls []) := by
  intro ad H locs ls cells slots hX hcu hsu hP hD hS hl
  obtain ⟨hx, hb, hr, hml, hown, hts, hK, hA, hev, hE, hN, hNS⟩ := id hC
  unfold m_cJT_insertRun_J0 at Heq
  refine tx_aload_n (x := x3.map (ad 3)) hx hb d_cJT_insertRun_0 rfl (lv_at hl 3 rfl) ?_
  refine w_v (y := rv ad 3 x3) rfl ?_
  refine tx_astore (x := x3.map (ad 3)) (lv' := [(4, rv ad 3 x3), (0, .ref (ad 11 x0)), (1, .ref (ad 4 x1)), (2, .ref (ad 3 x2)), (3, rv ad 3 x3)]) hx hb d_cJT_insertRun_1 hl (by decide) (by simp [rv, rf_cat]) (fun ls hl => ?_)
  refine lv_iconst (v := 0) hx hb d_cJT_insertRun_3 (by decide) ?_
  refine lv_istore (lv' := [(5, .int 0), (4, rv ad 3 x3), (0, .ref (ad 11 x0)), (1, .ref (ad 4 x1)), (2, .ref (ad 3 x2)), (3, rv ad 3 x3)]) hx hb d_cJT_insertRun_4 hl (by decide) (by simp [rv, rf_cat]) (fun ls hl => ?_)
  obtain ⟨N_1, b_2, a9, b9, a8, b8, h_3, Heq, e9a, e9b⟩ := ov_some Heq
  refine w_cJT_insertRun_L6 hC (Nat.le_trans (m := CT) (by omega) hCT) (Nat.le_trans (m := ST) (by omega) hST) h_3 (fun N9 b9 h9 => ?_) _ _ _ _ _ _ hX rfl rfl hP hD hS (lv_sub hl [2, 3, 4, 1, 0] rfl)
  cases h9
  intro ad H locs ls hX hP hD hS hl
  obtain ⟨e9, e9a, e9b⟩ := tri Heq
  refine W.cs (cells' := CT) (slots' := ST) (by omega) (by omega) ?_
  exact Kr _ e9 52 _ _ _ _ d_cJT_insertRun_52 hX hP hD hS
noncomputable def m_cJT_insertRun (N : Nat → Nat) (x0 : Nat) (S : CS) (x1 : Nat) (x2 : Nat) (x3 : Option Nat) : Option (((Nat → Nat) × CS) × Nat × Nat) := m_cJT_insertRun_J0 N x0 S x1 x2 x3
set_option maxHeartbeats 4000000 in
theorem g_cJT_insertRun (l : Launch) (D : va_G) (sz : Nat) {ad : Nat → Nat → Nat} {cc : Nat → ClassId} {sad sav : Nat → Nat} {N : Nat → Nat} {x0 : Nat} {S : CS} {x1 : Nat} {x2 : Nat} {x3 : Option Nat} {o : (Nat → Nat) × CS} {oc os : Nat} (Heq : m_cJT_insertRun N x0 S x1 x2 x3 = some (o, oc, os)) : Met l ⟨"JoinedTrees", "insertRun", "(LJoinedTrees$Replica;LJoinedTrees$Op;LJoinedTrees$Op;)V"⟩ (Cond.code ⟨"JoinedTrees", "insertRun", "(LJoinedTrees$Replica;LJoinedTrees$Op;LJoinedTrees$Op;)V"⟩ prog_1_method_51_code 6 none :: gb) ({ frames := 5, cells := oc, slots := os, locals := 120 }) (cPc sad sav D (cw ad cc N S) (cty cc) sz [.ref (ad 11 x0), .ref (ad 4 x1), .ref (ad 3 x2), rv ad 3 x3]) (va_Qv (fun _ : Nat → Nat → Nat => True) (fun (u : Nat → Nat → Nat) t => Ext ad N u o.1 ∧ gO D (cw u cc o.1 o.2) (cty cc) (va_A (cw ad cc N S) sz) t) (va_A (cw ad cc N S) sz)) oc os (va_A (cw ad cc N S) sz) := by
  refine Met.ofW (cc := prog_1_method_51_code) (maxL := 6) (ret := none) (by decide) rfl ?_
  intro p e s m args below meth c s₁ B hml hv
  obtain ⟨rfl, hsz, hP, hK, hD0, hev, hE, hN⟩ := hv
  have hx := B.exec
  have hb := B.bytes
  have hr := B.returns
  have hts : ∀ w9 ∈ gb, w9.before [.ref (ad 11 x0), .ref (ad 4 x1), .ref (ad 3 x2), rv ad 3 x3].toArray s = true := fun w9 h => atoms_spec (ws := Cond.code ⟨"JoinedTrees", "insertRun", "(LJoinedTrees$Replica;LJoinedTrees$Op;LJoinedTrees$Op;)V"⟩ prog_1_method_51_code 6 none :: gb) B.pre w9 (List.mem_cons_of_mem _ h)
  have hown : s.vm.findClass "JoinedTrees" = some m.cls := findClass_of_methodNamed B.named
  have hlocks := B.notSynchronized
  have hNS := ns_of hP
  subst hsz
  have hD := hD0.self (sz := s.heap.size)
  generalize hAe : va_A (cw ad cc N S) s.heap.size = A at hD hev hE hNS ⊢
  have hA : ∀ q : Nat, s.heap.size ≤ q → A q := fun q h => by rw [← hAe]; exact Or.inr h
  have hS : va_S A s.heap s.heap [] := va_S.rf
  obtain ⟨ls, hl, hle⟩ : ∃ ls : Array Slot, lv_has ls 6 [(0, .ref (ad 11 x0)), (1, .ref (ad 4 x1)), (2, .ref (ad 3 x2)), (3, rv ad 3 x3)] ∧ entryFrame m ([.ref (ad 11 x0), .ref (ad 4 x1), .ref (ad 3 x2), rv ad 3 x3] : List Value).toArray 6 = F0 m 0 ls [] := by
    rcases x3 with _ | x3
    all_goals exact ⟨_, lv_entry (n := 6) _ (Nat.le_of_ble_eq_true rfl), lg_entry_eq ..⟩
  rw [hle]
  refine w_cJT_insertRun_J0 (ad0 := ad) (N0 := N) (CT := oc) (ST := os) (cR := oc) (sR := os) ⟨hx, hb, hr, hml, hown, hts, hK, hA, hev, hE, hN, hNS⟩ (Nat.le_refl _) (Nat.le_refl _) Heq (fun r h pc ad1 H locs ls hd hX hP hD hS => ?_) _ _ _ _ 0 0 Ext.rf (Nat.zero_add _) (Nat.zero_add _) hP hD hS (lv_sub hl [0, 1, 2, 3] rfl)
  subst h
  exact W.vret hx hb hr (fun t ht hW => ⟨⟨ad1, rfl, trivial, hX, by rw [ht]; exact hP, va_K.moved hW.alike hK, hD⟩, hS.F ht⟩) hS.2.2 hd
noncomputable def m_cJT_splice_J37 (N : Nat → Nat) (x0 : Nat) (S : CS) : Option ((((Nat → Nat) × CS × Int32) ⊕ ((Nat → Nat) × CS × Nat)) × Nat × Nat) := some ((.inr (N, S, 1)), 1, 6)
theorem d_cJT_splice_0 : decode prog_1_method_7_code 0 = .ok (.aload_n 0, 1) := by decide +kernel
theorem d_cJT_splice_1 : decode prog_1_method_7_code 1 = .ok (.invokevirtual 102, 3) := by decide +kernel
theorem d_cJT_splice_4 : decode prog_1_method_7_code 4 = .ok (.istore 5, 2) := by decide +kernel
theorem d_cJT_splice_6 : decode prog_1_method_7_code 6 = .ok (.aload_n 0, 1) := by decide +kernel
theorem d_cJT_splice_7 : decode prog_1_method_7_code 7 = .ok (.iload_n 1, 1) := by decide +kernel
theorem d_cJT_splice_8 : decode prog_1_method_7_code 8 = .ok (.invokevirtual 105, 3) := by decide +kernel
theorem d_cJT_splice_11 : decode prog_1_method_7_code 11 = .ok (.astore 6, 2) := by decide +kernel
theorem d_cJT_splice_13 : decode prog_1_method_7_code 13 = .ok (.iload 4, 2) := by decide +kernel
theorem d_cJT_splice_15 : decode prog_1_method_7_code 15 = .ok (.ifCond .lt 22, 3) := by decide +kernel
theorem d_cJT_splice_37 : decode prog_1_method_7_code 37 = .ok (.new 93, 3) := by decide +kernel
theorem d_cJT_splice_40 : decode prog_1_method_7_code 40 = .ok (.dup, 1) := by decide +kernel
theorem d_cJT_splice_41 : decode prog_1_method_7_code 41 = .ok (.invokespecial 95, 3) := by decide +kernel
theorem d_cJT_splice_44 : decode prog_1_method_7_code 44 = .ok (.athrow, 1) := by decide +kernel
set_option maxHeartbeats 4000000 in
set_option maxRecDepth 100000 in
theorem w_cJT_splice_J37 {p : Program} {l : Launch} {e : Env} {s : State} {m : MethodId} {args : Array Value} {below : List Frame} {meth : Method} {c : Code} {A : Nat → Prop} {D : va_G} {cc : Nat → ClassId} {sad sav : Nat → Nat} {Q : State → Prop} {ad0 : Nat → Nat → Nat} {N0 : Nat → Nat} {CT ST cR sR : Nat} (hfl : l.flags = flags0) (hC : MCc sad sav "JoinedTrees" prog_1_method_7_code 10 (some .int) p s m args meth c A D cc) (hCT : CT ≤ cR) (hST : ST ≤ sR) {N : Nat → Nat} {x0 : Nat} {S : CS} {o : (((Nat → Nat) × CS × Int32) ⊕ ((Nat → Nat) × CS × Nat))} {oc os : Nat} (Heq : m_cJT_splice_J37 N x0 S = some (o, oc, os)) (Kr : ∀ r : (((Nat → Nat) × CS × Int32) ⊕ ((Nat → Nat) × CS × Nat)), o = r → (∀ v9 : (Nat → Nat) × CS × Int32, r = .inl v9 → ∀ (pc : Nat) (ad : Nat → Nat → Nat) (H : Heap) (locs : List Loc) (ls : Array Slot), decode prog_1_method_7_code pc = .ok (.ireturn, 1) → Ext ad0 N0 ad (v9.1) → va_P D cls (cw ad cc v9.1 v9.2.1) H → va_D A (cw ad cc v9.1 v9.2.1) → va_S A s.heap H locs → W p l e ({ frames := 8, cells := cR, slots := sR, locals := 145 }) s m args below meth c H locs CT ST Q (F0 m pc ls [.int v9.2.2])) ∧ (∀ t9 : (Nat → Nat) × CS × Nat, r = .inr t9 → (∀ (pc : Nat) (ad : Nat → Nat → Nat) (H : Heap) (locs : List Loc) (ls : Array Slot) (cells slots : Nat), cells + 1 = CT → slots + 6 = ST → thD prog_1_method_7_code t9.2.2 pc → ls.size = 10 → Ext ad0 N0 ad t9.1 → va_P D cls (cw ad cc t9.1 t9.2.1) H → va_D A (cw ad cc t9.1 t9.2.1) → va_S A s.heap H locs → W p l e ({ frames := 8, cells := cR, slots := sR, locals := 145 }) s m args below meth c H locs cells slots Q (F0 m pc ls [])) ∧ (∀ (pc : Nat) (ad : Nat → Nat → Nat) (H : Heap) (locs : List Loc) (ls : Array Slot) (st0 rest9 : List Value) (A9 : Nat → Prop) (cells slots : Nat), cells + 1 = CT → slots + 6 = ST → Ext ad0 N0 ad t9.1 → va_D A (cw ad cc t9.1 t9.2.1) → tx_Thr p l e ({ frames := 8, cells := cR, slots := sR, locals := 145 }) s m args below meth c H locs cells slots 1 6 (F0 m pc ls st0) rest9 (exN t9.2.2) A9 (fun H1 => va_P D cls (cw ad cc t9.1 t9.2.1) H1) → (∀ q, A9 q → A q) → va_S A s.heap H locs → W p l e ({ frames := 8, cells := cR, slots := sR, locals := 145 }) s m args below meth c H locs cells slots Q (F0 m pc ls st0)))) : ∀ (ad : Nat → Nat → Nat) (H : Heap) (locs : List Loc) (ls : Array Slot) (cells slots : Nat), Ext ad0 N0 ad N → cells + oc = CT → slots + os = ST → va_P D cls (cw ad cc N S) H → va_D A (cw ad cc N S) → va_S A s.heap H locs → lv_has ls 10 [(0, .ref (ad 11 x0))] → W p l e ({ frames := 8, cells := cR, slots := sR, locals := 145 }) s m args below meth c H locs cells slots Q (F0 m 37 ls []) := by
  intro ad H locs ls cells slots hX hcu hsu hP hD hS hl
  obtain ⟨hx, hb, hr, hml, hown, hts, hK, hA, hev, hE, hN, hNS⟩ := id hC
  unfold m_cJT_splice_J37 at Heq
  obtain ⟨e9, e9a, e9b⟩ := tri Heq
  exact ((Kr _ e9).2 _ rfl).1 37 _ _ _ _ _ _ (by omega) (by omega) ⟨⟨show 1 ≤ 1 by decide, show 1 ≤ 5 by decide⟩, d_cJT_splice_37, d_cJT_splice_40, d_cJT_splice_41, d_cJT_splice_44⟩ hl.1 hX hP hD hS
noncomputable def m_cJT_splice_J0 (N : Nat → Nat) (x0 : Nat) (S : CS) (x1 : Int32) (x2 : Int32) (x3 : Int32) (x4 : Int32) : Option ((((Nat → Nat) × CS × Int32) ⊕ ((Nat → Nat) × CS × Nat)) × Nat × Nat) := gl x0 (N 11) (ob (m_cJT_takeArguments N x0 S) (fun o_1 => oe (m_cJT_shown N x0 o_1.1 x1) (fun o_3 => (if x4 < 0 then m_cJT_splice_J37 N x0 o_3.1 else (if o_1.2 = 1 then gn (o_3.1.r 11 9 x0) (N 5) (fun j_8 => (if o_3.1.i 5 1 j_8 ≤ 1024 then oe (m_cJT_objectAt N x0 o_3.1 x2) (fun o_12 => gn o_12.2 (N 3) (fun j_15 => (if o_12.1.i 3 2 j_15 = 8 then oe (m_cJT_elementBefore N x0 o_12.1 j_15 x3) (fun o_19 => gn (o_19.1.r 11 2 x0) (N 10) (fun j_22 => ob (m_cVw_filledIn N j_22 o_19.1 j_15) (fun o_25 => (if x4 ≤ o_25.2 - x3 then gn o_3.2 (N 4) (fun j_28 => oe (m_cJT_needAll N x0 o_25.1 j_28) (fun o_31 => gn (o_31.r 11 9 x0) (N 5) (fun j_34 => oe (m_cJT_needRoom N x0 o_31 (x4 + (o_31.i 5 1 j_34)) (o_31.i 5 1 j_34)) (fun o_37 => gn (o_37.r 11 2 x0) (N 10) (fun j_40 => ob (m_cVw_spotAt N j_40 o_37 j_15 x3) (fun o_43 => gv o_19.2 (N 3) (ov (m_cJT_eraseRun N x0 o_43.1 j_28 o_43.2 x4) (fun N_48 S_49 => ov (m_cJT_insertRun N_48 x0 S_49 j_28 j_15 o_19.2) (fun N_53 S_54 => gn (S_54.r 11 9 x0) (N_53 5) (fun j_56 => some ((.inl (N_53, S_54, (o_25.2 - x4) + (S_54.i 5 1 j_56))), 0, 0)))))))) (fun t_39 => some ((.inr (N, t_39.1, t_39.2)), 1, 6)))) (fun t_33 => some ((.inr (N, t_33.1, t_33.2)), 1, 6))) else some ((.inr (N, o_25.1, 3)), 1, 6))))) (fun t_21 => some ((.inr (N, t_21.1, t_21.2)), 1, 6)) else some ((.inr (N, o_12.1, 1)), 1, 6)))) (fun t_14 => some ((.inr (N, t_14.1, t_14.2)), 1, 6)) else m_cJT_splice_J37 N x0 o_3.1)) else m_cJT_splice_J37 N x0 o_3.1))) (fun t_5 => some ((.inr (N, t_5.1, t_5.2)), 1, 6))))
theorem d_cJT_splice_18 : decode prog_1_method_7_code 18 = .ok (.iload 5, 2) := by decide +kernel
theorem d_cJT_splice_20 : decode prog_1_method_7_code 20 = .ok (.iconst 1, 1) := by decide +kernel
theorem d_cJT_splice_21 : decode prog_1_method_7_code 21 = .ok (.if_icmp .ne 16, 3) := by decide +kernel
theorem d_cJT_splice_24 : decode prog_1_method_7_code 24 = .ok (.aload_n 0, 1) := by decide +kernel
theorem d_cJT_splice_25 : decode prog_1_method_7_code 25 = .ok (.getfield 70, 3) := by decide +kernel
theorem d_cJT_splice_28 : decode prog_1_method_7_code 28 = .ok (.getfield 80, 3) := by decide +kernel
theorem d_cJT_splice_31 : decode prog_1_method_7_code 31 = .ok (.sipush 1024, 3) := by decide +kernel
theorem d_cJT_splice_34 : decode prog_1_method_7_code 34 = .ok (.if_icmp .le 11, 3) := by decide +kernel
theorem d_cJT_splice_45 : decode prog_1_method_7_code 45 = .ok (.aload_n 0, 1) := by decide +kernel
theorem d_cJT_splice_46 : decode prog_1_method_7_code 46 = .ok (.iload_n 2, 1) := by decide +kernel
theorem d_cJT_splice_47 : decode prog_1_method_7_code 47 = .ok (.invokevirtual 168, 3) := by decide +kernel
theorem d_cJT_splice_50 : decode prog_1_method_7_code 50 = .ok (.astore 7, 2) := by decide +kernel
theorem d_cJT_splice_52 : decode prog_1_method_7_code 52 = .ok (.aload 7, 2) := by decide +kernel
theorem d_cJT_splice_54 : decode prog_1_method_7_code 54 = .ok (.getfield 171, 3) := by decide +kernel
theorem d_cJT_splice_57 : decode prog_1_method_7_code 57 = .ok (.bipush 8, 2) := by decide +kernel
theorem d_cJT_splice_59 : decode prog_1_method_7_code 59 = .ok (.if_icmp .eq 11, 3) := by decide +kernel
theorem d_cJT_splice_70 : decode prog_1_method_7_code 70 = .ok (.aload_n 0, 1) := by decide +kernel
theorem d_cJT_splice_71 : decode prog_1_method_7_code 71 = .ok (.aload 7, 2) := by decide +kernel
theorem d_cJT_splice_73 : decode prog_1_method_7_code 73 = .ok (.iload_n 3, 1) := by decide +kernel
theorem d_cJT_splice_74 : decode prog_1_method_7_code 74 = .ok (.invokevirtual 160, 3) := by decide +kernel
theorem d_cJT_splice_77 : decode prog_1_method_7_code 77 = .ok (.astore 8, 2) := by decide +kernel
theorem d_cJT_splice_79 : decode prog_1_method_7_code 79 = .ok (.aload_n 0, 1) := by decide +kernel
theorem d_cJT_splice_80 : decode prog_1_method_7_code 80 = .ok (.getfield 30, 3) := by decide +kernel
theorem d_cJT_splice_83 : decode prog_1_method_7_code 83 = .ok (.aload 7, 2) := by decide +kernel
theorem d_cJT_splice_85 : decode prog_1_method_7_code 85 = .ok (.invokevirtual 174, 3) := by decide +kernel
theorem d_cJT_splice_88 : decode prog_1_method_7_code 88 = .ok (.istore 9, 2) := by decide +kernel
theorem d_cJT_splice_90 : decode prog_1_method_7_code 90 = .ok (.iload 4, 2) := by decide +kernel
theorem d_cJT_splice_92 : decode prog_1_method_7_code 92 = .ok (.iload 9, 2) := by decide +kernel
theorem d_cJT_splice_94 : decode prog_1_method_7_code 94 = .ok (.iload_n 3, 1) := by decide +kernel
theorem d_cJT_splice_95 : decode prog_1_method_7_code 95 = .ok (.isub, 1) := by decide +kernel
theorem d_cJT_splice_96 : decode prog_1_method_7_code 96 = .ok (.if_icmp .le 11, 3) := by decide +kernel
theorem d_cJT_splice_107 : decode prog_1_method_7_code 107 = .ok (.aload_n 0, 1) := by decide +kernel
theorem d_cJT_splice_108 : decode prog_1_method_7_code 108 = .ok (.aload 6, 2) := by decide +kernel
theorem d_cJT_splice_110 : decode prog_1_method_7_code 110 = .ok (.invokevirtual 120, 3) := by decide +kernel
theorem d_cJT_splice_113 : decode prog_1_method_7_code 113 = .ok (.aload_n 0, 1) := by decide +kernel
theorem d_cJT_splice_114 : decode prog_1_method_7_code 114 = .ok (.iload 4, 2) := by decide +kernel
theorem d_cJT_splice_116 : decode prog_1_method_7_code 116 = .ok (.aload_n 0, 1) := by decide +kernel
theorem d_cJT_splice_117 : decode prog_1_method_7_code 117 = .ok (.getfield 70, 3) := by decide +kernel
theorem d_cJT_splice_120 : decode prog_1_method_7_code 120 = .ok (.getfield 80, 3) := by decide +kernel
theorem d_cJT_splice_123 : decode prog_1_method_7_code 123 = .ok (.iadd, 1) := by decide +kernel
theorem d_cJT_splice_124 : decode prog_1_method_7_code 124 = .ok (.aload_n 0, 1) := by decide +kernel
theorem d_cJT_splice_125 : decode prog_1_method_7_code 125 = .ok (.getfield 70, 3) := by decide +kernel
theorem d_cJT_splice_128 : decode prog_1_method_7_code 128 = .ok (.getfield 80, 3) := by decide +kernel
theorem d_cJT_splice_131 : decode prog_1_method_7_code 131 = .ok (.invokevirtual 128, 3) := by decide +kernel
theorem d_cJT_splice_134 : decode prog_1_method_7_code 134 = .ok (.aload_n 0, 1) := by decide +kernel
theorem d_cJT_splice_135 : decode prog_1_method_7_code 135 = .ok (.aload 6, 2) := by decide +kernel
theorem d_cJT_splice_137 : decode prog_1_method_7_code 137 = .ok (.aload_n 0, 1) := by decide +kernel
theorem d_cJT_splice_138 : decode prog_1_method_7_code 138 = .ok (.getfield 30, 3) := by decide +kernel
theorem d_cJT_splice_141 : decode prog_1_method_7_code 141 = .ok (.aload 7, 2) := by decide +kernel
theorem d_cJT_splice_143 : decode prog_1_method_7_code 143 = .ok (.iload_n 3, 1) := by decide +kernel
theorem d_cJT_splice_144 : decode prog_1_method_7_code 144 = .ok (.invokevirtual 148, 3) := by decide +kernel
theorem d_cJT_splice_147 : decode prog_1_method_7_code 147 = .ok (.iload 4, 2) := by decide +kernel
theorem d_cJT_splice_149 : decode prog_1_method_7_code 149 = .ok (.invokevirtual 181, 3) := by decide +kernel
theorem d_cJT_splice_152 : decode prog_1_method_7_code 152 = .ok (.aload_n 0, 1) := by decide +kernel
theorem d_cJT_splice_153 : decode prog_1_method_7_code 153 = .ok (.aload 6, 2) := by decide +kernel
theorem d_cJT_splice_155 : decode prog_1_method_7_code 155 = .ok (.aload 7, 2) := by decide +kernel
theorem d_cJT_splice_157 : decode prog_1_method_7_code 157 = .ok (.aload 8, 2) := by decide +kernel
theorem d_cJT_splice_159 : decode prog_1_method_7_code 159 = .ok (.invokevirtual 185, 3) := by decide +kernel
theorem d_cJT_splice_162 : decode prog_1_method_7_code 162 = .ok (.iload 9, 2) := by decide +kernel
theorem d_cJT_splice_164 : decode prog_1_method_7_code 164 = .ok (.iload 4, 2) := by decide +kernel
theorem d_cJT_splice_166 : decode prog_1_method_7_code 166 = .ok (.isub, 1) := by decide +kernel
theorem d_cJT_splice_167 : decode prog_1_method_7_code 167 = .ok (.aload_n 0, 1) := by decide +kernel
theorem d_cJT_splice_168 : decode prog_1_method_7_code 168 = .ok (.getfield 70, 3) := by decide +kernel
theorem d_cJT_splice_171 : decode prog_1_method_7_code 171 = .ok (.getfield 80, 3) := by decide +kernel
theorem d_cJT_splice_174 : decode prog_1_method_7_code 174 = .ok (.iadd, 1) := by decide +kernel
theorem d_cJT_splice_175 : decode prog_1_method_7_code 175 = .ok (.ireturn, 1) := by decide +kernel
theorem d_cJT_splice_99 : decode prog_1_method_7_code 99 = .ok (.new 178, 3) := by decide +kernel
theorem d_cJT_splice_102 : decode prog_1_method_7_code 102 = .ok (.dup, 1) := by decide +kernel
theorem d_cJT_splice_103 : decode prog_1_method_7_code 103 = .ok (.invokespecial 180, 3) := by decide +kernel
theorem d_cJT_splice_106 : decode prog_1_method_7_code 106 = .ok (.athrow, 1) := by decide +kernel
theorem d_cJT_splice_62 : decode prog_1_method_7_code 62 = .ok (.new 93, 3) := by decide +kernel
theorem d_cJT_splice_65 : decode prog_1_method_7_code 65 = .ok (.dup, 1) := by decide +kernel
theorem d_cJT_splice_66 : decode prog_1_method_7_code 66 = .ok (.invokespecial 95, 3) := by decide +kernel
theorem d_cJT_splice_69 : decode prog_1_method_7_code 69 = .ok (.athrow, 1) := by decide +kernel
set_option maxHeartbeats 4000000 in
set_option maxRecDepth 100000 in
theorem w_cJT_splice_J0 {p : Program} {l : Launch} {e : Env} {s : State} {m : MethodId} {args : Array Value} {below : List Frame} {meth : Method} {c : Code} {A : Nat → Prop} {D : va_G} {cc : Nat → ClassId} {sad sav : Nat → Nat} {Q : State → Prop} {ad0 : Nat → Nat → Nat} {N0 : Nat → Nat} {CT ST cR sR : Nat} (hfl : l.flags = flags0) (hC : MCc sad sav "JoinedTrees" prog_1_method_7_code 10 (some .int) p s m args meth c A D cc) (hCT : CT ≤ cR) (hST : ST ≤ sR) {N : Nat → Nat} {x0 : Nat} {S : CS} {x1 : Int32} {x2 : Int32} {x3 : Int32} {x4 : Int32} {o : (((Nat → Nat) × CS × Int32) ⊕ ((Nat → Nat) × CS × Nat))} {oc os : Nat} (Heq : m_cJT_splice_J0 N x0 S x1 x2 x3 x4 = some (o, oc, os)) (Kr : ∀ r : (((Nat → Nat) × CS × Int32) ⊕ ((Nat → Nat) × CS × Nat)), o = r → (∀ v9 : (Nat → Nat) × CS × Int32, r = .inl v9 → ∀ (pc : Nat) (ad : Nat → Nat → Nat) (H : Heap) (locs : List Loc) (ls : Array Slot), decode prog_1_method_7_code pc = .ok (.ireturn, 1) → Ext ad0 N0 ad (v9.1) → va_P D cls (cw ad cc v9.1 v9.2.1) H → va_D A (cw ad cc v9.1 v9.2.1) → va_S A s.heap H locs → W p l e ({ frames := 8, cells := cR, slots := sR, locals := 145 }) s m args below meth c H locs CT ST Q (F0 m pc ls [.int v9.2.2])) ∧ (∀ t9 : (Nat → Nat) × CS × Nat, r = .inr t9 → (∀ (pc : Nat) (ad : Nat → Nat → Nat) (H : Heap) (locs : List Loc) (ls : Array Slot) (cells slots : Nat), cells + 1 = CT → slots + 6 = ST → thD prog_1_method_7_code t9.2.2 pc → ls.size = 10 → Ext ad0 N0 ad t9.1 → va_P D cls (cw ad cc t9.1 t9.2.1) H → va_D A (cw ad cc t9.1 t9.2.1) → va_S A s.heap H locs → W p l e ({ frames := 8, cells := cR, slots := sR, locals := 145 }) s m args below meth c H locs cells slots Q (F0 m pc ls [])) ∧ (∀ (pc : Nat) (ad : Nat → Nat → Nat) (H : Heap) (locs : List Loc) (ls : Array Slot) (st0 rest9 : List Value) (A9 : Nat → Prop) (cells slots : Nat), cells + 1 = CT → slots + 6 = ST → Ext ad0 N0 ad t9.1 → va_D A (cw ad cc t9.1 t9.2.1) → tx_Thr p l e ({ frames := 8, cells := cR, slots := sR, locals := 145 }) s m args below meth c H locs cells slots 1 6 (F0 m pc ls st0) rest9 (exN t9.2.2) A9 (fun H1 => va_P D cls (cw ad cc t9.1 t9.2.1) H1) → (∀ q, A9 q → A q) → va_S A s.heap H locs → W p l e ({ frames := 8, cells := cR, slots := sR, locals := 145 }) s m args below meth c H locs cells slots Q (F0 m pc ls st0)))) : ∀ (ad : Nat → Nat → Nat) (H : Heap) (locs : List Loc) (ls : Array Slot) (cells slots : Nat), Ext ad0 N0 ad N → cells + oc = CT → slots + os = ST → va_P D cls (cw ad cc N S) H → va_D A (cw ad cc N S) → va_S A s.heap H locs → lv_has ls 10 [(0, .ref (ad 11 x0)), (1, .int x1), (2, .int x2), (3, .int x3), (4, .int x4)] → W p l e ({ frames := 8, cells := cR, slots := sR, locals := 145 }) s m args below meth c H locs cells slots Q (F0 m 0 ls []) := by
  intro ad H locs ls cells slots hX hcu hsu hP hD hS hl
  obtain ⟨hx, hb, hr, hml, hown, hts, hK, hA, hev, hE, hN, hNS⟩ := id hC
  unfold m_cJT_splice_J0 at Heq
  refine lv_aload_n hx hb d_cJT_splice_0 rfl (lv_at hl 0 rfl) ?_
  obtain ⟨hl_x0_11, Heq⟩ := gl_some Heq
  obtain ⟨o_1, h_2, Heq⟩ := ob_some Heq
  have hFc := fr_all hD hS hA
  refine va_calli (va_runV (As := []) (rest := []) ⟨hx, hb, hml, hown, hts⟩ (g_cJT_takeArguments l D H.size (ad := ad) (cc := cc) (sad := sad) (sav := sav) h_2) (cw_v 0 hts kw_589 kw_586 kw_588 kp_2 kw_1 rfl rfl (by decide +kernel) ⟨Nat.le_of_ble_eq_true rfl, Nat.le_of_ble_eq_true rfl⟩) ⟨c_blind, va_recv hK hP (ci := 11) (q0 := cPos N 11 x0) rfl (cw_obj (k := 11) (by decide) hl_x0_11), fun U hU hW => c_pre hU hW hP hK hD hev hE hN hNS hS hFc⟩ rfl rfl hl.1 rfl (lv_room (Nat.le_of_ble_eq_true rfl)) d_cJT_splice_1 ⟨(Nat.le_trans (m := CT) (by omega) hCT), (Nat.le_trans (m := ST) (by omega) hST)⟩) hS (fun q _ h => hFc q h) hFc (fun rz u t H1 locs ht hvm hw hB hz1 hk1 hS => ?_)
  obtain ⟨hP, -, hD1⟩ := hB
  rw [ht] at hP
  have hD := hD1.weaken (fun _ q _ h => hFc q.1 h)
  generalize H1 = H at hP hS ⊢
  subst hw
  refine lv_istore (lv' := [(5, .int o_1.2), (0, .ref (ad 11 x0)), (1, .int x1), (2, .int x2), (3, .int x3), (4, .int x4)]) hx hb d_cJT_splice_4 hl (by decide) rfl (fun ls hl => ?_)
  refine lv_aload_n hx hb d_cJT_splice_6 rfl (lv_at hl 1 rfl) ?_
  refine lv_iload_n hx hb d_cJT_splice_7 rfl (lv_at hl 2 rfl) ?_
  have hFc := fr_all hD hS hA
  rcases oe_some Heq with ⟨o_3, h_4, Heq⟩ | ⟨t_5, h_4, Heq⟩
  case inr =>
    obtain ⟨e9, e9a, e9b⟩ := tri Heq
    exact ((Kr _ e9).2 _ rfl).2 8 _ _ _ _ _ _ _ _ _ (by omega) (by omega) hX (d_cw _ hD) (tx_runV (As := [.int x1]) (rest := []) ⟨hx, hb, hml, hown, hts⟩ (g_cJT_shown_t l hfl D H.size (ad := ad) (cc := cc) (sad := sad) (sav := sav) h_4) (cw_v 1 hts kw_593 kw_590 kw_592 kp_3 kw_1 rfl rfl (by decide +kernel) ⟨Nat.le_of_ble_eq_true rfl, Nat.le_of_ble_eq_true rfl⟩) ⟨c_blind, va_recv hK hP (ci := 11) (q0 := cPos N 11 x0) rfl (cw_obj (k := 11) (by decide) hl_x0_11), fun U hU hW => c_pre hU hW hP hK hD hev hE hN hNS hS hFc⟩ rfl rfl hl.1 rfl (lv_room (Nat.le_of_ble_eq_true rfl)) d_cJT_splice_8 ⟨(Nat.le_trans (m := CT) (by omega) hCT), (Nat.le_trans (m := ST) (by omega) hST)⟩) hFc hS
  refine va_callq (va_runV (As := [.int x1]) (rest := []) ⟨hx, hb, hml, hown, hts⟩ (g_cJT_shown l hfl D H.size (ad := ad) (cc := cc) (sad := sad) (sav := sav) h_4) (cw_v 1 hts kw_593 kw_590 kw_592 kp_3 kw_1 rfl rfl (by decide +kernel) ⟨Nat.le_of_ble_eq_true rfl, Nat.le_of_ble_eq_true rfl⟩) ⟨c_blind, va_recv hK hP (ci := 11) (q0 := cPos N 11 x0) rfl (cw_obj (k := 11) (by decide) hl_x0_11), fun U hU hW => c_pre hU hW hP hK hD hev hE hN hNS hS hFc⟩ rfl rfl hl.1 rfl (lv_room (Nat.le_of_ble_eq_true rfl)) d_cJT_splice_8 ⟨(Nat.le_trans (m := CT) (by omega) hCT), (Nat.le_trans (m := ST) (by omega) hST)⟩) hS (fun q _ h => hFc q h) hFc (fun rz u t H1 locs ht hvm hw hB hz1 hk1 hS => ?_)
  obtain ⟨hP, -, hD1⟩ := hB
  rw [ht] at hP
  have hD := hD1.weaken (fun _ q _ h => hFc q.1 h)
  generalize H1 = H at hP hS ⊢
  subst hw
  refine w_v (y := rv ad 4 o_3.2) rfl ?_
  refine tx_astore (x := o_3.2.map (ad 4)) (lv' := [(6, rv ad 4 o_3.2), (5, .int o_1.2), (0, .ref (ad 11 x0)), (1, .int x1), (2, .int x2), (3, .int x3), (4, .int x4)]) hx hb d_cJT_splice_11 hl (by decide) rfl (fun ls hl => ?_)
  refine lv_iload hx hb d_cJT_splice_13 (lv_at hl 6 rfl) ?_
  refine lv_if_lt (tgt := 37) hx hb d_cJT_splice_15 (by decide) (fun c_6 => ?_) (fun c_6 => ?_)
  · replace Heq := (if_pos c_6).symm.trans Heq
    exact w_cJT_splice_J37 hfl hC hCT hST Heq Kr _ _ _ _ _ _ hX (by omega) (by omega) hP hD hS (lv_sub hl [2] rfl)
  · replace Heq := (if_neg c_6).symm.trans Heq
    refine lv_iload hx hb d_cJT_splice_18 (lv_at hl 1 rfl) ?_
    refine lv_iconst (v := 1) hx hb d_cJT_splice_20 (by decide) ?_
    refine lv_icmp_ne (tgt := 37) hx hb d_cJT_splice_21 (by decide) (fun c_7 => ?_) (fun c_7 => ?_)
    · replace Heq := (if_neg c_7).symm.trans Heq
      exact w_cJT_splice_J37 hfl hC hCT hST Heq Kr _ _ _ _ _ _ hX (by omega) (by omega) hP hD hS (lv_sub hl [2] rfl)
    · replace Heq := (if_pos c_7).symm.trans Heq
      refine lv_aload_n hx hb d_cJT_splice_24 rfl (lv_at hl 2 rfl) ?_
      refine va_get (D := D) (ci := 11) (v := rv ad 5 (o_3.1.r 11 9 x0)) (C := R_JT) (T := F_JT) (N := 13) hx hb hts i_JT hown hK hP (cPos N 11 x0) (cw_obj (k := 11) (by decide) hl_x0_11) rfl 9 (by decide) (hts _ kw_430) (fun _ h9 => h9) rfl d_cJT_splice_25 ?_
      obtain ⟨j_8, hj_9, hl_10, Heq⟩ := gn_some Heq
      refine w_s (st' := [.ref (ad 5 j_8)]) (congrArg (fun z9 : Option Nat => [rv ad 5 z9]) hj_9) ?_
      refine va_get (D := D) (ci := 5) (v := .int (o_3.1.i 5 1 j_8)) (C := R_Rw) (T := F_Rw) (N := 3) hx hb hts i_Rw hown hK hP (cPos N 5 j_8) (cw_obj (k := 5) (by decide) hl_10) rfl 1 (by decide) (hts _ kw_143) (fun _ h9 => h9) rfl d_cJT_splice_28 ?_
      refine lv_sipush (v := 1024) hx hb d_cJT_splice_31 (by decide) ?_
      refine lv_icmp_le (tgt := 45) hx hb d_cJT_splice_34 (by decide) (fun c_11 => ?_) (fun c_11 => ?_)
      · replace Heq := (if_pos c_11).symm.trans Heq
        refine lv_aload_n hx hb d_cJT_splice_45 rfl (lv_at hl 2 rfl) ?_
        refine lv_iload_n hx hb d_cJT_splice_46 rfl (lv_at hl 4 rfl) ?_
        have hFc := fr_all hD hS hA
        rcases oe_some Heq with ⟨o_12, h_13, Heq⟩ | ⟨t_14, h_13, Heq⟩
        case inr =>
          obtain ⟨e9, e9a, e9b⟩ := tri Heq
          exact ((Kr _ e9).2 _ rfl).2 47 _ _ _ _ _ _ _ _ _ (by omega) (by omega) hX (d_cw _ hD) (tx_runV (As := [.int x2]) (rest := []) ⟨hx, hb, hml, hown, hts⟩ (g_cJT_objectAt_t l hfl D H.size (ad := ad) (cc := cc) (sad := sad) (sav := sav) h_13) (cw_v 1 hts kw_616 kw_613 kw_615 kp_7 kw_1 rfl rfl (by decide +kernel) ⟨Nat.le_of_ble_eq_true rfl, Nat.le_of_ble_eq_true rfl⟩) ⟨c_blind, va_recv hK hP (ci := 11) (q0 := cPos N 11 x0) rfl (cw_obj (k := 11) (by decide) hl_x0_11), fun U hU hW => c_pre hU hW hP hK hD hev hE hN hNS hS hFc⟩ rfl rfl hl.1 rfl (lv_room (Nat.le_of_ble_eq_true rfl)) d_cJT_splice_47 ⟨(Nat.le_trans (m := CT) (by omega) hCT), (Nat.le_trans (m := ST) (by omega) hST)⟩) hFc hS
        refine va_callq (va_runV (As := [.int x2]) (rest := []) ⟨hx, hb, hml, hown, hts⟩ (g_cJT_objectAt l hfl D H.size (ad := ad) (cc := cc) (sad := sad) (sav := sav) h_13) (cw_v 1 hts kw_616 kw_613 kw_615 kp_7 kw_1 rfl rfl (by decide +kernel) ⟨Nat.le_of_ble_eq_true rfl, Nat.le_of_ble_eq_true rfl⟩) ⟨c_blind, va_recv hK hP (ci := 11) (q0 := cPos N 11 x0) rfl (cw_obj (k := 11) (by decide) hl_x0_11), fun U hU hW => c_pre hU hW hP hK hD hev hE hN hNS hS hFc⟩ rfl rfl hl.1 rfl (lv_room (Nat.le_of_ble_eq_true rfl)) d_cJT_splice_47 ⟨(Nat.le_trans (m := CT) (by omega) hCT), (Nat.le_trans (m := ST) (by omega) hST)⟩) hS (fun q _ h => hFc q h) hFc (fun rz u t H1 locs ht hvm hw hB hz1 hk1 hS => ?_)
        obtain ⟨hP, -, hD1⟩ := hB
        rw [ht] at hP
        have hD := hD1.weaken (fun _ q _ h => hFc q.1 h)
        generalize H1 = H at hP hS ⊢
        subst hw
        refine w_v (y := rv ad 3 o_12.2) rfl ?_
        refine tx_astore (x := o_12.2.map (ad 3)) (lv' := [(7, rv ad 3 o_12.2), (6, rv ad 4 o_3.2), (5, .int o_1.2), (0, .ref (ad 11 x0)), (1, .int x1), (2, .int x2), (3, .int x3), (4, .int x4)]) hx hb d_cJT_splice_50 hl (by decide) (by simp [rv, rf_cat]) (fun ls hl => ?_)
        refine tx_aload (x := o_12.2.map (ad 3)) hx hb d_cJT_splice_52 (lv_at hl 0 rfl) ?_
        refine w_v (y := rv ad 3 o_12.2) rfl ?_
        obtain ⟨j_15, hj_16, hl_17, Heq⟩ := gn_some Heq
        refine w_s (st' := [.ref (ad 3 j_15)]) (congrArg (fun z9 : Option Nat => [rv ad 3 z9]) hj_16) ?_
        refine va_get (D := D) (ci := 3) (v := .int (o_12.1.i 3 2 j_15)) (C := R_Op) (T := F_Op) (N := 15) hx hb hts i_Op hown hK hP (cPos N 3 j_15) (cw_obj (k := 3) (by decide) hl_17) rfl 2 (by decide) (hts _ kw_62) (fun _ h9 => h9) rfl d_cJT_splice_54 ?_
        refine lv_bipush (v := 8) hx hb d_cJT_splice_57 (by decide) ?_
        refine lv_icmp_eq (tgt := 70) hx hb d_cJT_splice_59 (by decide) (fun c_18 => ?_) (fun c_18 => ?_)
        · replace Heq := (if_pos c_18).symm.trans Heq
          refine lv_aload_n hx hb d_cJT_splice_70 rfl (lv_at hl 3 rfl) ?_
          refine tx_aload (x := o_12.2.map (ad 3)) hx hb d_cJT_splice_71 (lv_at hl 0 rfl) ?_
          refine w_v (y := rv ad 3 o_12.2) rfl ?_
          refine lv_iload_n hx hb d_cJT_splice_73 rfl (lv_at hl 6 rfl) ?_
          refine w_s (st' := [.int x3, .ref (ad 3 j_15), .ref (ad 11 x0)]) (congrArg (fun z9 : Option Nat => [.int x3, rv ad 3 z9, .ref (ad 11 x0)]) hj_16) ?_
          have hFc := fr_all hD hS hA
          rcases oe_some Heq with ⟨o_19, h_20, Heq⟩ | ⟨t_21, h_20, Heq⟩
          case inr =>
            obtain ⟨e9, e9a, e9b⟩ := tri Heq
            exact ((Kr _ e9).2 _ rfl).2 74 _ _ _ _ _ _ _ _ _ (by omega) (by omega) hX (d_cw _ hD) (tx_runV (As := [.ref (ad 3 j_15), .int x3]) (rest := []) ⟨hx, hb, hml, hown, hts⟩ (g_cJT_elementBefore_t l hfl D H.size (ad := ad) (cc := cc) (sad := sad) (sav := sav) h_20) (cw_v 2 hts kw_800 kw_797 kw_799 kp_15 kw_1 rfl rfl (by decide +kernel) ⟨Nat.le_of_ble_eq_true rfl, Nat.le_of_ble_eq_true rfl⟩) ⟨c_blind, va_recv hK hP (ci := 11) (q0 := cPos N 11 x0) rfl (cw_obj (k := 11) (by decide) hl_x0_11), fun U hU hW => c_pre hU hW hP hK hD hev hE hN hNS hS hFc⟩ rfl rfl hl.1 rfl (lv_room (Nat.le_of_ble_eq_true rfl)) d_cJT_splice_74 ⟨(Nat.le_trans (m := CT) (by omega) hCT), (Nat.le_trans (m := ST) (by omega) hST)⟩) hFc hS
          refine va_callq (va_runV (As := [.ref (ad 3 j_15), .int x3]) (rest := []) ⟨hx, hb, hml, hown, hts⟩ (g_cJT_elementBefore l hfl D H.size (ad := ad) (cc := cc) (sad := sad) (sav := sav) h_20) (cw_v 2 hts kw_800 kw_797 kw_799 kp_15 kw_1 rfl rfl (by decide +kernel) ⟨Nat.le_of_ble_eq_true rfl, Nat.le_of_ble_eq_true rfl⟩) ⟨c_blind, va_recv hK hP (ci := 11) (q0 := cPos N 11 x0) rfl (cw_obj (k := 11) (by decide) hl_x0_11), fun U hU hW => c_pre hU hW hP hK hD hev hE hN hNS hS hFc⟩ rfl rfl hl.1 rfl (lv_room (Nat.le_of_ble_eq_true rfl)) d_cJT_splice_74 ⟨(Nat.le_trans (m := CT) (by omega) hCT), (Nat.le_trans (m := ST) (by omega) hST)⟩) hS (fun q _ h => hFc q h) hFc (fun rz u t H1 locs ht hvm hw hB hz1 hk1 hS => ?_)
          obtain ⟨hP, -, hD1⟩ := hB
          rw [ht] at hP
          have hD := hD1.weaken (fun _ q _ h => hFc q.1 h)
          generalize H1 = H at hP hS ⊢
          subst hw
          refine w_v (y := rv ad 3 o_19.2) rfl ?_
          refine tx_astore (x := o_19.2.map (ad 3)) (lv' := [(8, rv ad 3 o_19.2), (7, rv ad 3 o_12.2), (6, rv ad 4 o_3.2), (5, .int o_1.2), (0, .ref (ad 11 x0)), (1, .int x1), (2, .int x2), (3, .int x3), (4, .int x4)]) hx hb d_cJT_splice_77 hl (by decide) (by simp [rv, rf_cat]) (fun ls hl => ?_)
          refine lv_aload_n hx hb d_cJT_splice_79 rfl (lv_at hl 4 rfl) ?_
          refine va_get (D := D) (ci := 11) (v := rv ad 10 (o_19.1.r 11 2 x0)) (C := R_JT) (T := F_JT) (N := 13) hx hb hts i_JT hown hK hP (cPos N 11 x0) (cw_obj (k := 11) (by decide) hl_x0_11) rfl 2 (by decide) (hts _ kw_423) (fun _ h9 => h9) rfl d_cJT_splice_80 ?_
          refine tx_aload (x := o_12.2.map (ad 3)) hx hb d_cJT_splice_83 (lv_at hl 1 rfl) ?_
          refine w_v (y := rv ad 3 o_12.2) rfl ?_
          refine w_s (st' := [.ref (ad 3 j_15), rv ad 10 (o_19.1.r 11 2 x0)]) (congrArg (fun z9 : Option Nat => [rv ad 3 z9, rv ad 10 (o_19.1.r 11 2 x0)]) hj_16) ?_
          obtain ⟨j_22, hj_23, hl_24, Heq⟩ := gn_some Heq
          refine w_s (st' := [.ref (ad 3 j_15), .ref (ad 10 j_22)]) (congrArg (fun z9 : Option Nat => [.ref (ad 3 j_15), rv ad 10 z9]) hj_23) ?_
          obtain ⟨o_25, h_26, Heq⟩ := ob_some Heq
          have hFc := fr_all hD hS hA
          refine va_calli (va_runV (As := [.ref (ad 3 j_15)]) (rest := []) ⟨hx, hb, hml, hown, hts⟩ (g_cVw_filledIn l D H.size (ad := ad) (cc := cc) (sad := sad) (sav := sav) h_26) (cw_v 1 hts kw_819 kw_816 kw_817 kw_818 kw_6 rfl rfl (by decide +kernel) ⟨Nat.le_of_ble_eq_true rfl, Nat.le_of_ble_eq_true rfl⟩) ⟨c_blind, va_recv hK hP (ci := 10) (q0 := cPos N 10 j_22) rfl (cw_obj (k := 10) (by decide) hl_24), fun U hU hW => c_pre hU hW hP hK hD hev hE hN hNS hS hFc⟩ rfl rfl hl.1 rfl (lv_room (Nat.le_of_ble_eq_true rfl)) d_cJT_splice_85 ⟨(Nat.le_trans (m := CT) (by omega) hCT), (Nat.le_trans (m := ST) (by omega) hST)⟩) hS (fun q _ h => hFc q h) hFc (fun rz u t H1 locs ht hvm hw hB hz1 hk1 hS => ?_)
          obtain ⟨hP, -, hD1⟩ := hB
          rw [ht] at hP
          have hD := hD1.weaken (fun _ q _ h => hFc q.1 h)
          generalize H1 = H at hP hS ⊢
          subst hw
          refine lv_istore (lv' := [(9, .int o_25.2), (8, rv ad 3 o_19.2), (7, rv ad 3 o_12.2), (6, rv ad 4 o_3.2), (5, .int o_1.2), (0, .ref (ad 11 x0)), (1, .int x1), (2, .int x2), (3, .int x3), (4, .int x4)]) hx hb d_cJT_splice_88 hl (by decide) (by simp [rv, rf_cat]) (fun ls hl => ?_)
          refine lv_iload hx hb d_cJT_splice_90 (lv_at hl 9 rfl) ?_
          refine lv_iload hx hb d_cJT_splice_92 (lv_at hl 0 rfl) ?_
          refine lv_iload_n hx hb d_cJT_splice_94 rfl (lv_at hl 8 rfl) ?_
          refine lv_isub hx hb d_cJT_splice_95 ?_
          refine w_i (y := o_25.2 - x3) rfl ?_
          refine lv_icmp_le (tgt := 107) hx hb d_cJT_splice_96 (by decide) (fun c_27 => ?_) (fun c_27 => ?_)
          · replace Heq := (if_pos c_27).symm.trans Heq
            refine lv_aload_n hx hb d_cJT_splice_107 rfl (lv_at hl 5 rfl) ?_
            refine tx_aload (x := o_3.2.map (ad 4)) hx hb d_cJT_splice_108 (lv_at hl 3 rfl) ?_
            refine w_v (y := rv ad 4 o_3.2) rfl ?_
            obtain ⟨j_28, hj_29, hl_30, Heq⟩ := gn_some Heq
            refine w_s (st' := [.ref (ad 4 j_28), .ref (ad 11 x0)]) (congrArg (fun z9 : Option Nat => [rv ad 4 z9, .ref (ad 11 x0)]) hj_29) ?_
            have hFc := fr_all hD hS hA
            rcases oe_some Heq with ⟨o_31, h_32, Heq⟩ | ⟨t_33, h_32, Heq⟩
            case inr =>
              obtain ⟨e9, e9a, e9b⟩ := tri Heq
              exact ((Kr _ e9).2 _ rfl).2 110 _ _ _ _ _ _ _ _ _ (by omega) (by omega) hX (d_cw _ hD) (tx_runV (As := [.ref (ad 4 j_28)]) (rest := []) ⟨hx, hb, hml, hown, hts⟩ (g_cJT_needAll_t l hfl D H.size (ad := ad) (cc := cc) (sad := sad) (sav := sav) h_32) (cw_v 1 hts kw_647 kw_644 kw_646 kp_8 kw_1 rfl rfl (by decide +kernel) ⟨Nat.le_of_ble_eq_true rfl, Nat.le_of_ble_eq_true rfl⟩) ⟨c_blind, va_recv hK hP (ci := 11) (q0 := cPos N 11 x0) rfl (cw_obj (k := 11) (by decide) hl_x0_11), fun U hU hW => c_pre hU hW hP hK hD hev hE hN hNS hS hFc⟩ rfl rfl hl.1 rfl (lv_room (Nat.le_of_ble_eq_true rfl)) d_cJT_splice_110 ⟨(Nat.le_trans (m := CT) (by omega) hCT), (Nat.le_trans (m := ST) (by omega) hST)⟩) hFc hS
            refine va_callv (va_runV (As := [.ref (ad 4 j_28)]) (rest := []) ⟨hx, hb, hml, hown, hts⟩ (g_cJT_needAll l hfl D H.size (ad := ad) (cc := cc) (sad := sad) (sav := sav) h_32) (cw_v 1 hts kw_647 kw_644 kw_646 kp_8 kw_1 rfl rfl (by decide +kernel) ⟨Nat.le_of_ble_eq_true rfl, Nat.le_of_ble_eq_true rfl⟩) ⟨c_blind, va_recv hK hP (ci := 11) (q0 := cPos N 11 x0) rfl (cw_obj (k := 11) (by decide) hl_x0_11), fun U hU hW => c_pre hU hW hP hK hD hev hE hN hNS hS hFc⟩ rfl rfl hl.1 rfl (lv_room (Nat.le_of_ble_eq_true rfl)) d_cJT_splice_110 ⟨(Nat.le_trans (m := CT) (by omega) hCT), (Nat.le_trans (m := ST) (by omega) hST)⟩) hS (fun q _ h => hFc q h) hFc (fun u t H1 locs ht hvm hw hB hz1 hk1 hS => ?_)
            obtain ⟨hP, -, hD1⟩ := hB
            rw [ht] at hP
            have hD := hD1.weaken (fun _ q _ h => hFc q.1 h)
            generalize H1 = H at hP hS ⊢
            refine lv_aload_n hx hb d_cJT_splice_113 rfl (lv_at hl 5 rfl) ?_
            refine lv_iload hx hb d_cJT_splice_114 (lv_at hl 9 rfl) ?_
            refine lv_aload_n hx hb d_cJT_splice_116 rfl (lv_at hl 5 rfl) ?_
            refine va_get (D := D) (ci := 11) (v := rv ad 5 (o_31.r 11 9 x0)) (C := R_JT) (T := F_JT) (N := 13) hx hb hts i_JT hown hK hP (cPos N 11 x0) (cw_obj (k := 11) (by decide) hl_x0_11) rfl 9 (by decide) (hts _ kw_430) (fun _ h9 => h9) rfl d_cJT_splice_117 ?_
            obtain ⟨j_34, hj_35, hl_36, Heq⟩ := gn_some Heq
            refine w_s (st' := [.ref (ad 5 j_34), .int x4, .ref (ad 11 x0)]) (congrArg (fun z9 : Option Nat => [rv ad 5 z9, .int x4, .ref (ad 11 x0)]) hj_35) ?_
            refine va_get (D := D) (ci := 5) (v := .int (o_31.i 5 1 j_34)) (C := R_Rw) (T := F_Rw) (N := 3) hx hb hts i_Rw hown hK hP (cPos N 5 j_34) (cw_obj (k := 5) (by decide) hl_36) rfl 1 (by decide) (hts _ kw_143) (fun _ h9 => h9) rfl d_cJT_splice_120 ?_
            refine lv_iadd hx hb d_cJT_splice_123 ?_
            refine w_i (y := x4 + (o_31.i 5 1 j_34)) rfl ?_
            refine lv_aload_n hx hb d_cJT_splice_124 rfl (lv_at hl 5 rfl) ?_
            refine va_get (D := D) (ci := 11) (v := rv ad 5 (o_31.r 11 9 x0)) (C := R_JT) (T := F_JT) (N := 13) hx hb hts i_JT hown hK hP (cPos N 11 x0) (cw_obj (k := 11) (by decide) hl_x0_11) rfl 9 (by decide) (hts _ kw_430) (fun _ h9 => h9) rfl d_cJT_splice_125 ?_
            refine w_s (st' := [.ref (ad 5 j_34), .int (x4 + (o_31.i 5 1 j_34)), .ref (ad 11 x0)]) (congrArg (fun z9 : Option Nat => [rv ad 5 z9, .int (x4 + (o_31.i 5 1 j_34)), .ref (ad 11 x0)]) hj_35) ?_
            refine va_get (D := D) (ci := 5) (v := .int (o_31.i 5 1 j_34)) (C := R_Rw) (T := F_Rw) (N := 3) hx hb hts i_Rw hown hK hP (cPos N 5 j_34) (cw_obj (k := 5) (by decide) hl_36) rfl 1 (by decide) (hts _ kw_143) (fun _ h9 => h9) rfl d_cJT_splice_128 ?_
            have hFc := fr_all hD hS hA
            rcases oe_some Heq with ⟨o_37, h_38, Heq⟩ | ⟨t_39, h_38, Heq⟩
            case inr =>
              obtain ⟨e9, e9a, e9b⟩ := tri Heq
              exact ((Kr _ e9).2 _ rfl).2 131 _ _ _ _ _ _ _ _ _ (by omega) (by omega) hX (d_cw _ hD) (tx_runV (As := [.int (x4 + (o_31.i 5 1 j_34)), .int (o_31.i 5 1 j_34)]) (rest := []) ⟨hx, hb, hml, hown, hts⟩ (g_cJT_needRoom_t l hfl D H.size (ad := ad) (cc := cc) (sad := sad) (sav := sav) h_38) (cw_v 2 hts kw_669 kw_666 kw_668 kp_9 kw_1 rfl rfl (by decide +kernel) ⟨Nat.le_of_ble_eq_true rfl, Nat.le_of_ble_eq_true rfl⟩) ⟨c_blind, va_recv hK hP (ci := 11) (q0 := cPos N 11 x0) rfl (cw_obj (k := 11) (by decide) hl_x0_11), fun U hU hW => c_pre hU hW hP hK hD hev hE hN hNS hS hFc⟩ rfl rfl hl.1 rfl (lv_room (Nat.le_of_ble_eq_true rfl)) d_cJT_splice_131 ⟨(Nat.le_trans (m := CT) (by omega) hCT), (Nat.le_trans (m := ST) (by omega) hST)⟩) hFc hS
            refine va_callv (va_runV (As := [.int (x4 + (o_31.i 5 1 j_34)), .int (o_31.i 5 1 j_34)]) (rest := []) ⟨hx, hb, hml, hown, hts⟩ (g_cJT_needRoom l hfl D H.size (ad := ad) (cc := cc) (sad := sad) (sav := sav) h_38) (cw_v 2 hts kw_669 kw_666 kw_668 kp_9 kw_1 rfl rfl (by decide +kernel) ⟨Nat.le_of_ble_eq_true rfl, Nat.le_of_ble_eq_true rfl⟩) ⟨c_blind, va_recv hK hP (ci := 11) (q0 := cPos N 11 x0) rfl (cw_obj (k := 11) (by decide) hl_x0_11), fun U hU hW => c_pre hU hW hP hK hD hev hE hN hNS hS hFc⟩ rfl rfl hl.1 rfl (lv_room (Nat.le_of_ble_eq_true rfl)) d_cJT_splice_131 ⟨(Nat.le_trans (m := CT) (by omega) hCT), (Nat.le_trans (m := ST) (by omega) hST)⟩) hS (fun q _ h => hFc q h) hFc (fun u t H1 locs ht hvm hw hB hz1 hk1 hS => ?_)
            obtain ⟨hP, -, hD1⟩ := hB
            rw [ht] at hP
            have hD := hD1.weaken (fun _ q _ h => hFc q.1 h)
            generalize H1 = H at hP hS ⊢
            refine lv_aload_n hx hb d_cJT_splice_134 rfl (lv_at hl 5 rfl) ?_
            refine tx_aload (x := o_3.2.map (ad 4)) hx hb d_cJT_splice_135 (lv_at hl 3 rfl) ?_
            refine w_v (y := rv ad 4 o_3.2) rfl ?_
            refine lv_aload_n hx hb d_cJT_splice_137 rfl (lv_at hl 5 rfl) ?_
            refine va_get (D := D) (ci := 11) (v := rv ad 10 (o_37.r 11 2 x0)) (C := R_JT) (T := F_JT) (N := 13) hx hb hts i_JT hown hK hP (cPos N 11 x0) (cw_obj (k := 11) (by decide) hl_x0_11) rfl 2 (by decide) (hts _ kw_423) (fun _ h9 => h9) rfl d_cJT_splice_138 ?_
            refine tx_aload (x := o_12.2.map (ad 3)) hx hb d_cJT_splice_141 (lv_at hl 2 rfl) ?_
            refine w_v (y := rv ad 3 o_12.2) rfl ?_
            refine lv_iload_n hx hb d_cJT_splice_143 rfl (lv_at hl 8 rfl) ?_
            refine w_s (st' := [.int x3, .ref (ad 3 j_15), rv ad 10 (o_37.r 11 2 x0), rv ad 4 o_3.2, .ref (ad 11 x0)]) (congrArg (fun z9 : Option Nat => [.int x3, rv ad 3 z9, rv ad 10 (o_37.r 11 2 x0), rv ad 4 o_3.2, .ref (ad 11 x0)]) hj_16) ?_
            obtain ⟨j_40, hj_41, hl_42, Heq⟩ := gn_some Heq
            refine w_s (st' := [.int x3, .ref (ad 3 j_15), .ref (ad 10 j_40), rv ad 4 o_3.2, .ref (ad 11 x0)]) (congrArg (fun z9 : Option Nat => [.int x3, .ref (ad 3 j_15), rv ad 10 z9, rv ad 4 o_3.2, .ref (ad 11 x0)]) hj_41) ?_
            obtain ⟨o_43, h_44, Heq⟩ := ob_some Heq
            have hFc := fr_all hD hS hA
            refine va_callq (va_runV (As := [.ref (ad 3 j_15), .int x3]) (rest := [rv ad 4 o_3.2, .ref (ad 11 x0)]) ⟨hx, hb, hml, hown, hts⟩ (g_cVw_spotAt l D H.size (ad := ad) (cc := cc) (sad := sad) (sav := sav) h_44) (cw_v 2 hts kw_780 kw_777 kw_778 kw_779 kw_6 rfl rfl (by decide +kernel) ⟨Nat.le_of_ble_eq_true rfl, Nat.le_of_ble_eq_true rfl⟩) ⟨c_blind, va_recv hK hP (ci := 10) (q0 := cPos N 10 j_40) rfl (cw_obj (k := 10) (by decide) hl_42), fun U hU hW => c_pre hU hW hP hK hD hev hE hN hNS hS hFc⟩ rfl rfl hl.1 rfl (lv_room (by simp only [List.map_cons, List.map_nil, List.sum_cons, List.sum_nil, rv_cat]; exact Nat.le_of_ble_eq_true rfl)) d_cJT_splice_144 ⟨(Nat.le_trans (m := CT) (by omega) hCT), (Nat.le_trans (m := ST) (by omega) hST)⟩) hS (fun q _ h => hFc q h) hFc (fun rz u t H1 locs ht hvm hw hB hz1 hk1 hS => ?_)
            obtain ⟨hP, -, hD1⟩ := hB
            rw [ht] at hP
            have hD := hD1.weaken (fun _ q _ h => hFc q.1 h)
            generalize H1 = H at hP hS ⊢
            subst hw
            refine w_v (y := rv ad 7 o_43.2) rfl ?_
            refine lv_iload hx hb d_cJT_splice_147 (lv_at hl 9 rfl) ?_
            refine w_s (st' := [.int x4, rv ad 7 o_43.2, .ref (ad 4 j_28), .ref (ad 11 x0)]) (congrArg (fun z9 : Option Nat => [.int x4, rv ad 7 o_43.2, rv ad 4 z9, .ref (ad 11 x0)]) hj_29) ?_
            have hl : lv_has ls 10 [(9, .int o_25.2), (8, rv ad 3 o_19.2), (7, rv ad 3 o_12.2), (6, rv ad 4 o_3.2), (0, .ref (ad 11 x0)), (4, .int x4)] := lv_sub hl [0, 1, 2, 3, 5, 9] rfl
            obtain ⟨hv_45, Heq⟩ := gv_some Heq
            obtain ⟨N_48, S_49, a9, b9, a8, b8, h_47, Heq, e9a, e9b⟩ := ov_some Heq
            refine w_s (st' := [.int x4, rv ad 7 o_43.2, .ref (ad 4 j_28), .ref (ad 11 x0)]) rfl ?_
            have hFc := fr_all hD hS hA
            refine va_callv (va_runV (As := [.ref (ad 4 j_28), rv ad 7 o_43.2, .int x4]) (rest := []) ⟨hx, hb, hml, hown, hts⟩ (g_cJT_eraseRun l D H.size (ad := ad) (cc := cc) (sad := sad) (sav := sav) h_47) (cw_v 3 hts kw_827 kw_824 kw_826 kp_17 kw_1 rfl rfl (by decide +kernel) ⟨Nat.le_of_ble_eq_true rfl, Nat.le_of_ble_eq_true rfl⟩) ⟨c_blind, va_recv hK hP (ci := 11) (q0 := cPos N 11 x0) rfl (cw_obj (k := 11) (by decide) hl_x0_11), fun U hU hW => c_pre hU hW hP hK hD hev hE hN hNS hS hFc⟩ rfl rfl hl.1 rfl (lv_room (Nat.le_of_ble_eq_true rfl)) d_cJT_splice_149 ⟨(Nat.le_trans (m := CT) (by omega) hCT), (Nat.le_trans (m := ST) (by omega) hST)⟩) hS (fun q _ h => hFc q h) hFc (fun ad t H1 locs ht hvm hw hB hz1 hk1 hS => ?_)
            obtain ⟨hX1, hP, -, hD1⟩ := hB
            rw [ht] at hP
            have hD := hD1.weaken (fun _ q _ h => hFc q.1 h)
            generalize H1 = H at hP hS ⊢
            have hX := hX.tr hX1
            have hl : lv_has ls 10 [(9, .int o_25.2), (8, rv ad 3 o_19.2), (7, rv ad 3 o_12.2), (6, rv ad 4 o_3.2), (0, .ref (ad 11 x0)), (4, .int x4)] := lv_cast hl (by first | rfl | simp only [hX1.rv (k := 3) (x := o_19.2) hv_45, hX1.rv (k := 3) (x := o_12.2) (fun _ q9 => by rw [hj_16] at q9; cases q9; exact hl_17), hX1.rv (k := 4) (x := o_3.2) (fun _ q9 => by rw [hj_29] at q9; cases q9; exact hl_30), hX1.2 11 x0 hl_x0_11])
            have hl_x0_11 := Nat.lt_of_lt_of_le hl_x0_11 (hX1.1 11)
            have hl_10 := Nat.lt_of_lt_of_le hl_10 (hX1.1 5)
            have hl_17 := Nat.lt_of_lt_of_le hl_17 (hX1.1 3)
            have hl_24 := Nat.lt_of_lt_of_le hl_24 (hX1.1 10)
            have hl_30 := Nat.lt_of_lt_of_le hl_30 (hX1.1 4)
            have hl_36 := Nat.lt_of_lt_of_le hl_36 (hX1.1 5)
            have hl_42 := Nat.lt_of_lt_of_le hl_42 (hX1.1 10)
            have hv_45 := fun j9 q9 => Nat.lt_of_lt_of_le (hv_45 j9 q9) (hX1.1 3)
            refine lv_aload_n hx hb d_cJT_splice_152 rfl (lv_at hl 4 rfl) ?_
            refine tx_aload (x := o_3.2.map (ad 4)) hx hb d_cJT_splice_153 (lv_at hl 3 rfl) ?_
            refine w_v (y := rv ad 4 o_3.2) rfl ?_
            refine tx_aload (x := o_12.2.map (ad 3)) hx hb d_cJT_splice_155 (lv_at hl 2 rfl) ?_
            refine w_v (y := rv ad 3 o_12.2) rfl ?_
            refine tx_aload (x := o_19.2.map (ad 3)) hx hb d_cJT_splice_157 (lv_at hl 1 rfl) ?_
            refine w_v (y := rv ad 3 o_19.2) rfl ?_
            refine w_s (st' := [rv ad 3 o_19.2, .ref (ad 3 j_15), rv ad 4 o_3.2, .ref (ad 11 x0)]) (congrArg (fun z9 : Option Nat => [rv ad 3 o_19.2, rv ad 3 z9, rv ad 4 o_3.2, .ref (ad 11 x0)]) hj_16) ?_
            refine w_s (st' := [rv ad 3 o_19.2, .ref (ad 3 j_15), .ref (ad 4 j_28), .ref (ad 11 x0)]) (congrArg (fun z9 : Option Nat => [rv ad 3 o_19.2, .ref (ad 3 j_15), rv ad 4 z9, .ref (ad 11 x0)]) hj_29) ?_
            have hl : lv_has ls 10 [(9, .int o_25.2), (0, .ref (ad 11 x0)), (4, .int x4)] := lv_sub hl [0, 4, 5] rfl
            obtain ⟨N_53, S_54, a9, b9, a8, b8, h_52, Heq, e9a, e9b⟩ := ov_some Heq
            refine w_s (st' := [rv ad 3 o_19.2, .ref (ad 3 j_15), .ref (ad 4 j_28), .ref (ad 11 x0)]) rfl ?_
            have hFc := fr_all hD hS hA
            refine va_callv (va_runV (As := [.ref (ad 4 j_28), .ref (ad 3 j_15), rv ad 3 o_19.2]) (rest := []) ⟨hx, hb, hml, hown, hts⟩ (g_cJT_insertRun l D H.size (ad := ad) (cc := cc) (sad := sad) (sav := sav) h_52) (cw_v 3 hts kw_832 kw_829 kw_831 kp_18 kw_1 rfl rfl (by decide +kernel) ⟨Nat.le_of_ble_eq_true rfl, Nat.le_of_ble_eq_true rfl⟩) ⟨c_blind, va_recv hK hP (ci := 11) (q0 := cPos N_48 11 x0) rfl (cw_obj (k := 11) (by decide) hl_x0_11), fun U hU hW => c_pre hU hW hP hK hD hev hE hN hNS hS hFc⟩ rfl rfl hl.1 rfl (lv_room (Nat.le_of_ble_eq_true rfl)) d_cJT_splice_159 ⟨(Nat.le_trans (m := CT) (by omega) hCT), (Nat.le_trans (m := ST) (by omega) hST)⟩) hS (fun q _ h => hFc q h) hFc (fun ad t H1 locs ht hvm hw hB hz1 hk1 hS => ?_)
            obtain ⟨hX1, hP, -, hD1⟩ := hB
            rw [ht] at hP
            have hD := hD1.weaken (fun _ q _ h => hFc q.1 h)
            generalize H1 = H at hP hS ⊢
            have hX := hX.tr hX1
            have hl : lv_has ls 10 [(9, .int o_25.2), (0, .ref (ad 11 x0)), (4, .int x4)] := lv_cast hl (by first | rfl | simp only [hX1.2 11 x0 hl_x0_11])
            have hl_x0_11 := Nat.lt_of_lt_of_le hl_x0_11 (hX1.1 11)
            have hl_10 := Nat.lt_of_lt_of_le hl_10 (hX1.1 5)
            have hl_17 := Nat.lt_of_lt_of_le hl_17 (hX1.1 3)
            have hl_24 := Nat.lt_of_lt_of_le hl_24 (hX1.1 10)
            have hl_30 := Nat.lt_of_lt_of_le hl_30 (hX1.1 4)
            have hl_36 := Nat.lt_of_lt_of_le hl_36 (hX1.1 5)
            have hl_42 := Nat.lt_of_lt_of_le hl_42 (hX1.1 10)
            have hv_45 := fun j9 q9 => Nat.lt_of_lt_of_le (hv_45 j9 q9) (hX1.1 3)
            refine lv_iload hx hb d_cJT_splice_162 (lv_at hl 0 rfl) ?_
            refine lv_iload hx hb d_cJT_splice_164 (lv_at hl 2 rfl) ?_
            refine lv_isub hx hb d_cJT_splice_166 ?_
            refine w_i (y := o_25.2 - x4) rfl ?_
            refine lv_aload_n hx hb d_cJT_splice_167 rfl (lv_at hl 1 rfl) ?_
            refine va_get (D := D) (ci := 11) (v := rv ad 5 (S_54.r 11 9 x0)) (C := R_JT) (T := F_JT) (N := 13) hx hb hts i_JT hown hK hP (cPos N_53 11 x0) (cw_obj (k := 11) (by decide) hl_x0_11) rfl 9 (by decide) (hts _ kw_430) (fun _ h9 => h9) rfl d_cJT_splice_168 ?_
            obtain ⟨j_56, hj_57, hl_58, Heq⟩ := gn_some Heq
            refine w_s (st' := [.ref (ad 5 j_56), .int (o_25.2 - x4)]) (congrArg (fun z9 : Option Nat => [rv ad 5 z9, .int (o_25.2 - x4)]) hj_57) ?_
            refine va_get (D := D) (ci := 5) (v := .int (S_54.i 5 1 j_56)) (C := R_Rw) (T := F_Rw) (N := 3) hx hb hts i_Rw hown hK hP (cPos N_53 5 j_56) (cw_obj (k := 5) (by decide) hl_58) rfl 1 (by decide) (hts _ kw_143) (fun _ h9 => h9) rfl d_cJT_splice_171 ?_
            refine lv_iadd hx hb d_cJT_splice_174 ?_
            refine w_i (y := (o_25.2 - x4) + (S_54.i 5 1 j_56)) rfl ?_
            obtain ⟨e9, e9a, e9b⟩ := tri Heq
            refine W.cs (cells' := CT) (slots' := ST) (by omega) (by omega) ?_
            exact (Kr _ e9).1 _ rfl 175 _ _ _ _ d_cJT_splice_175 hX hP hD hS
          · replace Heq := (if_neg c_27).symm.trans Heq
            obtain ⟨e9, e9a, e9b⟩ := tri Heq
            exact ((Kr _ e9).2 _ rfl).1 99 _ _ _ _ _ _ (by omega) (by omega) ⟨⟨show 1 ≤ 3 by decide, show 3 ≤ 5 by decide⟩, d_cJT_splice_99, d_cJT_splice_102, d_cJT_splice_103, d_cJT_splice_106⟩ hl.1 hX hP hD hS
        · replace Heq := (if_neg c_18).symm.trans Heq
          obtain ⟨e9, e9a, e9b⟩ := tri Heq
          exact ((Kr _ e9).2 _ rfl).1 62 _ _ _ _ _ _ (by omega) (by omega) ⟨⟨show 1 ≤ 1 by decide, show 1 ≤ 5 by decide⟩, d_cJT_splice_62, d_cJT_splice_65, d_cJT_splice_66, d_cJT_splice_69⟩ hl.1 hX hP hD hS
      · replace Heq := (if_neg c_11).symm.trans Heq
        exact w_cJT_splice_J37 hfl hC hCT hST Heq Kr _ _ _ _ _ _ hX (by omega) (by omega) hP hD hS (lv_sub hl [2] rfl)
noncomputable def m_cJT_splice (N : Nat → Nat) (x0 : Nat) (S : CS) (x1 : Int32) (x2 : Int32) (x3 : Int32) (x4 : Int32) : Option (((((Nat → Nat) × CS × Int32) ⊕ ((Nat → Nat) × CS × Nat))) × Nat × Nat) := m_cJT_splice_J0 N x0 S x1 x2 x3 x4
set_option maxHeartbeats 4000000 in
theorem g_cJT_splice (l : Launch) (hfl : l.flags = flags0) (D : va_G) (sz : Nat) {ad : Nat → Nat → Nat} {cc : Nat → ClassId} {sad sav : Nat → Nat} {N : Nat → Nat} {x0 : Nat} {S : CS} {x1 : Int32} {x2 : Int32} {x3 : Int32} {x4 : Int32} {o : (Nat → Nat) × CS × Int32} {oc os : Nat} (Heq : m_cJT_splice N x0 S x1 x2 x3 x4 = some (.inl o, oc, os)) : Met l ⟨"JoinedTrees", "splice", "(IIII)I"⟩ (Cond.code ⟨"JoinedTrees", "splice", "(IIII)I"⟩ prog_1_method_7_code 10 (some .int) :: gb) ({ frames := 8, cells := oc, slots := os, locals := 145 }) (cPc sad sav D (cw ad cc N S) (cty cc) sz [.ref (ad 11 x0), .int x1, .int x2, .int x3, .int x4]) (va_Qi (fun (r : Int32) (_ : Nat → Nat → Nat) => r = o.2.2) (fun (u : Nat → Nat → Nat) t => Ext ad N u o.1 ∧ gO D (cw u cc o.1 o.2.1) (cty cc) (va_A (cw ad cc N S) sz) t) (va_A (cw ad cc N S) sz)) oc os (va_A (cw ad cc N S) sz) := by
  refine Met.ofW (cc := prog_1_method_7_code) (maxL := 10) (ret := (some .int)) (by decide) rfl ?_
  intro p e s m args below meth c s₁ B hml hv
  obtain ⟨rfl, hsz, hP, hK, hD0, hev, hE, hN⟩ := hv
  have hx := B.exec
  have hb := B.bytes
  have hr := B.returns
  have hts : ∀ w9 ∈ gb, w9.before [.ref (ad 11 x0), .int x1, .int x2, .int x3, .int x4].toArray s = true := fun w9 h => atoms_spec (ws := Cond.code ⟨"JoinedTrees", "splice", "(IIII)I"⟩ prog_1_method_7_code 10 (some .int) :: gb) B.pre w9 (List.mem_cons_of_mem _ h)
  have hown : s.vm.findClass "JoinedTrees" = some m.cls := findClass_of_methodNamed B.named
  have hlocks := B.notSynchronized
  have hNS := ns_of hP
  subst hsz
  have hD := hD0.self (sz := s.heap.size)
  generalize hAe : va_A (cw ad cc N S) s.heap.size = A at hD hev hE hNS ⊢
  have hA : ∀ q : Nat, s.heap.size ≤ q → A q := fun q h => by rw [← hAe]; exact Or.inr h
  have hS : va_S A s.heap s.heap [] := va_S.rf
  obtain ⟨ls, hl, hle⟩ : ∃ ls : Array Slot, lv_has ls 10 [(0, .ref (ad 11 x0)), (1, .int x1), (2, .int x2), (3, .int x3), (4, .int x4)] ∧ entryFrame m ([.ref (ad 11 x0), .int x1, .int x2, .int x3, .int x4] : List Value).toArray 10 = F0 m 0 ls [] := by
    exact ⟨_, lv_entry (n := 10) _ (Nat.le_of_ble_eq_true rfl), lg_entry_eq ..⟩
  rw [hle]
  refine w_cJT_splice_J0 (ad0 := ad) (N0 := N) (CT := oc) (ST := os) (cR := oc) (sR := os) hfl ⟨hx, hb, hr, hml, hown, hts, hK, hA, hev, hE, hN, hNS⟩ (Nat.le_refl _) (Nat.le_refl _) Heq (fun r h => ⟨fun v9 hv9 pc ad1 H locs ls hd hX hP hD hS => ?_, fun t9 ht9 => (by subst h; cases ht9)⟩) _ _ _ _ 0 0 Ext.rf (Nat.zero_add _) (Nat.zero_add _) hP hD hS (lv_sub hl [0, 1, 2, 3, 4] rfl)
  subst h
  cases hv9
  exact W.iret hx hb hr (fun t ht hW => ⟨⟨_, ad1, rfl, rfl, hX, by rw [ht]; exact hP, va_K.moved hW.alike hK, hD⟩, hS.F ht⟩) hS.2.2 hd
set_option maxHeartbeats 4000000 in
theorem g_cJT_splice_t (l : Launch) (hfl : l.flags = flags0) (D : va_G) (sz : Nat) {ad : Nat → Nat → Nat} {cc : Nat → ClassId} {sad sav : Nat → Nat} {N : Nat → Nat} {x0 : Nat} {S : CS} {x1 : Int32} {x2 : Int32} {x3 : Int32} {x4 : Int32} {o : (Nat → Nat) × CS × Nat} {oc os : Nat} (Heq : m_cJT_splice N x0 S x1 x2 x3 x4 = some (.inr o, oc, os)) : MeT l ⟨"JoinedTrees", "splice", "(IIII)I"⟩ (Cond.code ⟨"JoinedTrees", "splice", "(IIII)I"⟩ prog_1_method_7_code 10 (some .int) :: gb) ({ frames := 8, cells := oc, slots := os, locals := 145 }) (cPc sad sav D (cw ad cc N S) (cty cc) sz [.ref (ad 11 x0), .int x1, .int x2, .int x3, .int x4]) (exN o.2.2) (va_A (cw ad cc N S) sz) (fun H1 => ∃ ad1 : Nat → Nat → Nat, Ext ad N ad1 o.1 ∧ va_P D cls (cw ad1 cc o.1 o.2.1) H1 ∧ va_D (va_A (cw ad cc N S) sz) (cw ad1 cc o.1 o.2.1)) oc os := by
  refine MeT.ofW (cc := prog_1_method_7_code) (maxL := 10) (ret := (some .int)) (by decide) rfl ?_
  intro p e s m args below meth c s₁ B hml hno hv
  obtain ⟨rfl, hsz, hP, hK, hD0, hev, hE, hN⟩ := hv
  have hx := B.exec
  have hb := B.bytes
  have hr := B.returns
  have hts : ∀ w9 ∈ gb, w9.before [.ref (ad 11 x0), .int x1, .int x2, .int x3, .int x4].toArray s = true := fun w9 h => atoms_spec (ws := Cond.code ⟨"JoinedTrees", "splice", "(IIII)I"⟩ prog_1_method_7_code 10 (some .int) :: gb) B.pre w9 (List.mem_cons_of_mem _ h)
  have hown : s.vm.findClass "JoinedTrees" = some m.cls := findClass_of_methodNamed B.named
  have hlocks := B.notSynchronized
  have hNS := ns_of hP
  subst hsz
  have hD := hD0.self (sz := s.heap.size)
  generalize hAe : va_A (cw ad cc N S) s.heap.size = A at hD hev hE hNS ⊢
  have hA : ∀ q : Nat, s.heap.size ≤ q → A q := fun q h => by rw [← hAe]; exact Or.inr h
  have hS : va_S A s.heap s.heap [] := va_S.rf
  obtain ⟨ls, hl, hle⟩ : ∃ ls : Array Slot, lv_has ls 10 [(0, .ref (ad 11 x0)), (1, .int x1), (2, .int x2), (3, .int x3), (4, .int x4)] ∧ entryFrame m ([.ref (ad 11 x0), .int x1, .int x2, .int x3, .int x4] : List Value).toArray 10 = F0 m 0 ls [] := by
    exact ⟨_, lv_entry (n := 10) _ (Nat.le_of_ble_eq_true rfl), lg_entry_eq ..⟩
  rw [hle]
  refine w_cJT_splice_J0 (ad0 := ad) (N0 := N) (CT := oc) (ST := os) (cR := oc) (sR := os) hfl ⟨hx, hb, hr, hml, hown, hts, hK, hA, hev, hE, hN, hNS⟩ (Nat.le_refl _) (Nat.le_refl _) Heq (fun r h => ⟨fun v9 hv9 => (by subst h; cases hv9), fun t9 ht9 => ⟨fun pc ad1 H locs ls cells slots hc1 hs1 hd hsz hX hP hD hS => ?_, fun pc ad1 H locs ls st0 rest9 A9 cells slots hc1 hs1 hX hD hr9 hF9 hS => ?_⟩⟩) _ _ _ _ 0 0 Ext.rf (Nat.zero_add _) (Nat.zero_add _) hP hD hS (lv_sub hl [0, 1, 2, 3, 4] rfl)
  · subst h; cases ht9; subst hc1 hs1; exact tx_thrB hfl hx hb hno hlocks hown hts hev hN hNS hd (hsz.trans hml.symm) hP hS hA (Nat.le_refl _) (Nat.le_refl _) (Nat.le_of_ble_eq_true rfl) (Nat.le_of_ble_eq_true rfl) (fun H1 h1 => ⟨ad1, hX, h1, hD⟩)
  · subst h; cases ht9; subst hc1 hs1; exact tx_on (tx_Thr.mono hr9 (fun H1 h1 => ⟨ad1, hX, h1, hD⟩)) hno hlocks hS hF9
noncomputable def m_cJT_erase_J52 (N : Nat → Nat) (x0 : Nat) (S : CS) (x5 : Option Nat) (x6 : Option Nat) (t0 : Int32) (t1 : Int32) (t2 : Option Nat) : Option ((((Nat → Nat) × CS × Int32) ⊕ ((Nat → Nat) × CS × Nat)) × Nat × Nat) := gn t2 (N 11) (fun j_1 => oe (m_cJT_needRoom N j_1 S t1 t0) (fun o_4 => gn x6 (N 7) (fun j_7 => gn x5 (N 4) (fun j_10 => gl x0 (N 11) (oq (m_cJT_writeOn N x0 o_4 j_10 j_7 9 0) (fun N_15 S_16 v_17 => gn v_17 (N_15 3) (fun j_18 => some ((.inl (N_15, S_16, S_16.i 3 0 j_18)), 0, 0))))))) (fun t_6 => some ((.inr (N, t_6.1, t_6.2)), 1, 6)))
theorem d_cJT_erase_0 : decode prog_1_method_8_code 0 = .ok (.aload_n 0, 1) := by decide +kernel
theorem d_cJT_erase_1 : decode prog_1_method_8_code 1 = .ok (.invokevirtual 102, 3) := by decide +kernel
theorem d_cJT_erase_4 : decode prog_1_method_8_code 4 = .ok (.istore 4, 2) := by decide +kernel
theorem d_cJT_erase_6 : decode prog_1_method_8_code 6 = .ok (.aload_n 0, 1) := by decide +kernel
theorem d_cJT_erase_7 : decode prog_1_method_8_code 7 = .ok (.iload_n 1, 1) := by decide +kernel
theorem d_cJT_erase_8 : decode prog_1_method_8_code 8 = .ok (.invokevirtual 105, 3) := by decide +kernel
theorem d_cJT_erase_11 : decode prog_1_method_8_code 11 = .ok (.astore 5, 2) := by decide +kernel
theorem d_cJT_erase_13 : decode prog_1_method_8_code 13 = .ok (.aload_n 0, 1) := by decide +kernel
theorem d_cJT_erase_14 : decode prog_1_method_8_code 14 = .ok (.iload 4, 2) := by decide +kernel
theorem d_cJT_erase_16 : decode prog_1_method_8_code 16 = .ok (.iload_n 3, 1) := by decide +kernel
theorem d_cJT_erase_17 : decode prog_1_method_8_code 17 = .ok (.invokevirtual 189, 3) := by decide +kernel
theorem d_cJT_erase_20 : decode prog_1_method_8_code 20 = .ok (.aload_n 0, 1) := by decide +kernel
theorem d_cJT_erase_21 : decode prog_1_method_8_code 21 = .ok (.iload_n 2, 1) := by decide +kernel
theorem d_cJT_erase_22 : decode prog_1_method_8_code 22 = .ok (.iload_n 3, 1) := by decide +kernel
theorem d_cJT_erase_23 : decode prog_1_method_8_code 23 = .ok (.invokevirtual 192, 3) := by decide +kernel
theorem d_cJT_erase_26 : decode prog_1_method_8_code 26 = .ok (.astore 6, 2) := by decide +kernel
theorem d_cJT_erase_28 : decode prog_1_method_8_code 28 = .ok (.aload_n 0, 1) := by decide +kernel
theorem d_cJT_erase_29 : decode prog_1_method_8_code 29 = .ok (.aload 5, 2) := by decide +kernel
theorem d_cJT_erase_31 : decode prog_1_method_8_code 31 = .ok (.invokevirtual 120, 3) := by decide +kernel
theorem d_cJT_erase_34 : decode prog_1_method_8_code 34 = .ok (.aload_n 0, 1) := by decide +kernel
theorem d_cJT_erase_35 : decode prog_1_method_8_code 35 = .ok (.iconst 1, 1) := by decide +kernel
theorem d_cJT_erase_36 : decode prog_1_method_8_code 36 = .ok (.iload_n 3, 1) := by decide +kernel
theorem d_cJT_erase_37 : decode prog_1_method_8_code 37 = .ok (.iconst (-1), 1) := by decide +kernel
theorem d_cJT_erase_38 : decode prog_1_method_8_code 38 = .ok (.if_icmp .ne 13, 3) := by decide +kernel
theorem d_cJT_erase_51 : decode prog_1_method_8_code 51 = .ok (.iconst 0, 1) := by decide +kernel
theorem d_cJT_erase_52 : decode prog_1_method_8_code 52 = .ok (.invokevirtual 128, 3) := by decide +kernel
theorem d_cJT_erase_55 : decode prog_1_method_8_code 55 = .ok (.aload_n 0, 1) := by decide +kernel
theorem d_cJT_erase_56 : decode prog_1_method_8_code 56 = .ok (.aload 5, 2) := by decide +kernel
theorem d_cJT_erase_58 : decode prog_1_method_8_code 58 = .ok (.aload 6, 2) := by decide +kernel
theorem d_cJT_erase_60 : decode prog_1_method_8_code 60 = .ok (.bipush 9, 2) := by decide +kernel
theorem d_cJT_erase_62 : decode prog_1_method_8_code 62 = .ok (.lconst 0, 1) := by decide +kernel
theorem d_cJT_erase_63 : decode prog_1_method_8_code 63 = .ok (.invokevirtual 156, 3) := by decide +kernel
theorem d_cJT_erase_66 : decode prog_1_method_8_code 66 = .ok (.getfield 140, 3) := by decide +kernel
theorem d_cJT_erase_69 : decode prog_1_method_8_code 69 = .ok (.ireturn, 1) := by decide +kernel
set_option maxHeartbeats 4000000 in
set_option maxRecDepth 100000 in
theorem w_cJT_erase_J52 {p : Program} {l : Launch} {e : Env} {s : State} {m : MethodId} {args : Array Value} {below : List Frame} {meth : Method} {c : Code} {A : Nat → Prop} {D : va_G} {cc : Nat → ClassId} {sad sav : Nat → Nat} {Q : State → Prop} {ad0 : Nat → Nat → Nat} {N0 : Nat → Nat} {CT ST cR sR : Nat} (hfl : l.flags = flags0) (hC : MCc sad sav "JoinedTrees" prog_1_method_8_code 7 (some .int) p s m args meth c A D cc) (hCT : CT ≤ cR) (hST : ST ≤ sR) {N : Nat → Nat} {x0 : Nat} {S : CS} {x5 : Option Nat} {x6 : Option Nat} {t0 : Int32} {t1 : Int32} {t2 : Option Nat} {o : (((Nat → Nat) × CS × Int32) ⊕ ((Nat → Nat) × CS × Nat))} {oc os : Nat} (Heq : m_cJT_erase_J52 N x0 S x5 x6 t0 t1 t2 = some (o, oc, os)) (Kr : ∀ r : (((Nat → Nat) × CS × Int32) ⊕ ((Nat → Nat) × CS × Nat)), o = r → (∀ v9 : (Nat → Nat) × CS × Int32, r = .inl v9 → ∀ (pc : Nat) (ad : Nat → Nat → Nat) (H : Heap) (locs : List Loc) (ls : Array Slot), decode prog_1_method_8_code pc = .ok (.ireturn, 1) → Ext ad0 N0 ad (v9.1) → va_P D cls (cw ad cc v9.1 v9.2.1) H → va_D A (cw ad cc v9.1 v9.2.1) → va_S A s.heap H locs → W p l e ({ frames := 9, cells := cR, slots := sR, locals := 163 }) s m args below meth c H locs CT ST Q (F0 m pc ls [.int v9.2.2])) ∧ (∀ t9 : (Nat → Nat) × CS × Nat, r = .inr t9 → (∀ (pc : Nat) (ad : Nat → Nat → Nat) (H : Heap) (locs : List Loc) (ls : Array Slot) (cells slots : Nat), cells + 1 = CT → slots + 6 = ST → thD prog_1_method_8_code t9.2.2 pc → ls.size = 7 → Ext ad0 N0 ad t9.1 → va_P D cls (cw ad cc t9.1 t9.2.1) H → va_D A (cw ad cc t9.1 t9.2.1) → va_S A s.heap H locs → W p l e ({ frames := 9, cells := cR, slots := sR, locals := 163 }) s m args below meth c H locs cells slots Q (F0 m pc ls [])) ∧ (∀ (pc : Nat) (ad : Nat → Nat → Nat) (H : Heap) (locs : List Loc) (ls : Array Slot) (st0 rest9 : List Value) (A9 : Nat → Prop) (cells slots : Nat), cells + 1 = CT → slots + 6 = ST → Ext ad0 N0 ad t9.1 → va_D A (cw ad cc t9.1 t9.2.1) → tx_Thr p l e ({ frames := 9, cells := cR, slots := sR, locals := 163 }) s m args below meth c H locs cells slots 1 6 (F0 m pc ls st0) rest9 (exN t9.2.2) A9 (fun H1 => va_P D cls (cw ad cc t9.1 t9.2.1) H1) → (∀ q, A9 q → A q) → va_S A s.heap H locs → W p l e ({ frames := 9, cells := cR, slots := sR, locals := 163 }) s m args below meth c H locs cells slots Q (F0 m pc ls st0)))) : ∀ (ad : Nat → Nat → Nat) (H : Heap) (locs : List Loc) (ls : Array Slot) (cells slots : Nat), Ext ad0 N0 ad N → cells + oc = CT → slots + os = ST → va_P D cls (cw ad cc N S) H → va_D A (cw ad cc N S) → va_S A s.heap H locs → lv_has ls 7 [(0, .ref (ad 11 x0)), (5, rv ad 4 x5), (6, rv ad 7 x6)] → W p l e ({ frames := 9, cells := cR, slots := sR, locals := 163 }) s m args below meth c H locs cells slots Q (F0 m 52 ls [.int t0, .int t1, rv ad 11 t2]) := by
  intro ad H locs ls cells slots hX hcu hsu hP hD hS hl
  obtain ⟨hx, hb, hr, hml, hown, hts, hK, hA, hev, hE, hN, hNS⟩ := id hC
  unfold m_cJT_erase_J52 at Heq
  obtain ⟨j_1, hj_2, hl_3, Heq⟩ := gn_some Heq
  refine w_s (st' := [.int t0, .int t1, .ref (ad 11 j_1)]) (congrArg (fun z9 : Option Nat => [.int t0, .int t1, rv ad 11 z9]) hj_2) ?_
  have hFc := fr_all hD hS hA
  rcases oe_some Heq with ⟨o_4, h_5, Heq⟩ | ⟨t_6, h_5, Heq⟩
  case inr =>
    obtain ⟨e9, e9a, e9b⟩ := tri Heq
    exact ((Kr _ e9).2 _ rfl).2 52 _ _ _ _ _ _ _ _ _ (by omega) (by omega) hX (d_cw _ hD) (tx_runV (As := [.int t1, .int t0]) (rest := []) ⟨hx, hb, hml, hown, hts⟩ (g_cJT_needRoom_t l hfl D H.size (ad := ad) (cc := cc) (sad := sad) (sav := sav) h_5) (cw_v 2 hts kw_669 kw_666 kw_668 kp_9 kw_1 rfl rfl (by decide +kernel) ⟨Nat.le_of_ble_eq_true rfl, Nat.le_of_ble_eq_true rfl⟩) ⟨c_blind, va_recv hK hP (ci := 11) (q0 := cPos N 11 j_1) rfl (cw_obj (k := 11) (by decide) hl_3), fun U hU hW => c_pre hU hW hP hK hD hev hE hN hNS hS hFc⟩ rfl rfl hl.1 rfl (lv_room (Nat.le_of_ble_eq_true rfl)) d_cJT_erase_52 ⟨(Nat.le_trans (m := CT) (by omega) hCT), (Nat.le_trans (m := ST) (by omega) hST)⟩) hFc hS
  refine va_callv (va_runV (As := [.int t1, .int t0]) (rest := []) ⟨hx, hb, hml, hown, hts⟩ (g_cJT_needRoom l hfl D H.size (ad := ad) (cc := cc) (sad := sad) (sav := sav) h_5) (cw_v 2 hts kw_669 kw_666 kw_668 kp_9 kw_1 rfl rfl (by decide +kernel) ⟨Nat.le_of_ble_eq_true rfl, Nat.le_of_ble_eq_true rfl⟩) ⟨c_blind, va_recv hK hP (ci := 11) (q0 := cPos N 11 j_1) rfl (cw_obj (k := 11) (by decide) hl_3), fun U hU hW => c_pre hU hW hP hK hD hev hE hN hNS hS hFc⟩ rfl rfl hl.1 rfl (lv_room (Nat.le_of_ble_eq_true rfl)) d_cJT_erase_52 ⟨(Nat.le_trans (m := CT) (by omega) hCT), (Nat.le_trans (m := ST) (by omega) hST)⟩) hS (fun q _ h => hFc q h) hFc (fun u t H1 locs ht hvm hw hB hz1 hk1 hS => ?_)
  obtain ⟨hP, -, hD1⟩ := hB
  rw [ht] at hP
  have hD := hD1.weaken (fun _ q _ h => hFc q.1 h)
  generalize H1 = H at hP hS ⊢
  refine lv_aload_n hx hb d_cJT_erase_55 rfl (lv_at hl 0 rfl) ?_
  refine tx_aload (x := x5.map (ad 4)) hx hb d_cJT_erase_56 (lv_at hl 1 rfl) ?_
  refine w_v (y := rv ad 4 x5) rfl ?_
  refine tx_aload (x := x6.map (ad 7)) hx hb d_cJT_erase_58 (lv_at hl 2 rfl) ?_
  refine w_v (y := rv ad 7 x6) rfl ?_
  refine lv_bipush (v := 9) hx hb d_cJT_erase_60 (by decide) ?_
  refine lv_lconst (v := 0) hx hb d_cJT_erase_62 (by decide) ?_
  obtain ⟨j_7, hj_8, hl_9, Heq⟩ := gn_some Heq
  refine w_s (st' := [.long 0, .int 9, .ref (ad 7 j_7), rv ad 4 x5, .ref (ad 11 x0)]) (congrArg (fun z9 : Option Nat => [.long 0, .int 9, rv ad 7 z9, rv ad 4 x5, .ref (ad 11 x0)]) hj_8) ?_
  obtain ⟨j_10, hj_11, hl_12, Heq⟩ := gn_some Heq
  refine w_s (st' := [.long 0, .int 9, .ref (ad 7 j_7), .ref (ad 4 j_10), .ref (ad 11 x0)]) (congrArg (fun z9 : Option Nat => [.long 0, .int 9, .ref (ad 7 j_7), rv ad 4 z9, .ref (ad 11 x0)]) hj_11) ?_
  obtain ⟨hl_x0_11, Heq⟩ := gl_some Heq
  have hl : lv_has ls 7 [(0, .ref (ad 11 x0))] := lv_sub hl [0] rfl
  obtain ⟨N_15, S_16, v_17, a9, b9, a8, b8, h_14, Heq, e9a, e9b⟩ := oq_some Heq
  have hFc := fr_all hD hS hA
  refine va_callq (va_runV (As := [.ref (ad 4 j_10), .ref (ad 7 j_7), .int 9, .long 0]) (rest := []) ⟨hx, hb, hml, hown, hts⟩ (g_cJT_writeOn l D H.size (ad := ad) (cc := cc) (sad := sad) (sav := sav) h_14) (cw_v 4 hts kw_693 kw_690 kw_692 kp_11 kw_1 rfl rfl (by decide +kernel) ⟨Nat.le_of_ble_eq_true rfl, Nat.le_of_ble_eq_true rfl⟩) ⟨c_blind, va_recv hK hP (ci := 11) (q0 := cPos N 11 x0) rfl (cw_obj (k := 11) (by decide) hl_x0_11), fun U hU hW => c_pre hU hW hP hK hD hev hE hN hNS hS hFc⟩ rfl rfl hl.1 rfl (lv_room (Nat.le_of_ble_eq_true rfl)) d_cJT_erase_63 ⟨(Nat.le_trans (m := CT) (by omega) hCT), (Nat.le_trans (m := ST) (by omega) hST)⟩) hS (fun q _ h => hFc q h) hFc (fun rz ad t H1 locs ht hvm hw hB hz1 hk1 hS => ?_)
  obtain ⟨hX1, hP, -, hD1⟩ := hB
  rw [ht] at hP
  have hD := hD1.weaken (fun _ q _ h => hFc q.1 h)
  generalize H1 = H at hP hS ⊢
  subst hw
  refine w_v (y := rv ad 3 v_17) rfl ?_
  have hX := hX.tr hX1
  have hl : lv_has ls 7 [(0, .ref (ad 11 x0))] := lv_cast hl (by first | rfl | simp only [hX1.2 11 x0 hl_x0_11])
  refine w_s (st' := [rv ad 3 v_17]) (by first | rfl | simp only [hX1.2 11 x0 hl_x0_11]) ?_
  have hl_3 := Nat.lt_of_lt_of_le hl_3 (hX1.1 11)
  have hl_9 := Nat.lt_of_lt_of_le hl_9 (hX1.1 7)
  have hl_12 := Nat.lt_of_lt_of_le hl_12 (hX1.1 4)
  have hl_x0_11 := Nat.lt_of_lt_of_le hl_x0_11 (hX1.1 11)
  obtain ⟨j_18, hj_19, hl_20, Heq⟩ := gn_some Heq
  refine w_s (st' := [.ref (ad 3 j_18)]) (congrArg (fun z9 : Option Nat => [rv ad 3 z9]) hj_19) ?_
  refine va_get (D := D) (ci := 3) (v := .int (S_16.i 3 0 j_18)) (C := R_Op) (T := F_Op) (N := 15) hx hb hts i_Op hown hK hP (cPos N_15 3 j_18) (cw_obj (k := 3) (by decide) hl_20) rfl 0 (by decide) (hts _ kw_52) (fun _ h9 => h9) rfl d_cJT_erase_66 ?_
  obtain ⟨e9, e9a, e9b⟩ := tri Heq
  refine W.cs (cells' := CT) (slots' := ST) (by omega) (by omega) ?_
  exact (Kr _ e9).1 _ rfl 69 _ _ _ _ d_cJT_erase_69 hX hP hD hS
noncomputable def m_cJT_erase_J0 (N : Nat → Nat) (x0 : Nat) (S : CS) (x1 : Int32) (x2 : Int32) (x3 : Int32) : Option ((((Nat → Nat) × CS × Int32) ⊕ ((Nat → Nat) × CS × Nat)) × Nat × Nat) := gl x0 (N 11) (ob (m_cJT_takeArguments N x0 S) (fun o_1 => oe (m_cJT_shown N x0 o_1.1 x1) (fun o_3 => oe (m_cJT_needPlace N x0 o_3.1 o_1.2 x3) (fun o_6 => oe (m_cJT_placeAt N x0 o_6 x2 x3) (fun o_9 => gn o_3.2 (N 4) (fun j_12 => oe (m_cJT_needAll N x0 o_9.1 j_12) (fun o_15 => (if x3 = (-1) then gn (o_15.r 11 9 x0) (N 5) (fun j_19 => m_cJT_erase_J52 N x0 o_15 o_3.2 o_9.2 (o_15.i 5 1 j_19) 1 (some x0)) else m_cJT_erase_J52 N x0 o_15 o_3.2 o_9.2 0 1 (some x0))) (fun t_17 => some ((.inr (N, t_17.1, t_17.2)), 1, 6)))) (fun t_11 => some ((.inr (N, t_11.1, t_11.2)), 1, 6))) (fun t_8 => some ((.inr (N, t_8.1, t_8.2)), 1, 6))) (fun t_5 => some ((.inr (N, t_5.1, t_5.2)), 1, 6))))
theorem d_cJT_erase_41 : decode prog_1_method_8_code 41 = .ok (.aload_n 0, 1) := by decide +kernel
theorem d_cJT_erase_42 : decode prog_1_method_8_code 42 = .ok (.getfield 70, 3) := by decide +kernel
theorem d_cJT_erase_45 : decode prog_1_method_8_code 45 = .ok (.getfield 80, 3) := by decide +kernel
theorem d_cJT_erase_48 : decode prog_1_method_8_code 48 = .ok (.goto 4, 3) := by decide +kernel
set_option maxHeartbeats 4000000 in
set_option maxRecDepth 100000 in
theorem w_cJT_erase_J0 {p : Program} {l : Launch} {e : Env} {s : State} {m : MethodId} {args : Array Value} {below : List Frame} {meth : Method} {c : Code} {A : Nat → Prop} {D : va_G} {cc : Nat → ClassId} {sad sav : Nat → Nat} {Q : State → Prop} {ad0 : Nat → Nat → Nat} {N0 : Nat → Nat} {CT ST cR sR : Nat} (hfl : l.flags = flags0) (hC : MCc sad sav "JoinedTrees" prog_1_method_8_code 7 (some .int) p s m args meth c A D cc) (hCT : CT ≤ cR) (hST : ST ≤ sR) {N : Nat → Nat} {x0 : Nat} {S : CS} {x1 : Int32} {x2 : Int32} {x3 : Int32} {o : (((Nat → Nat) × CS × Int32) ⊕ ((Nat → Nat) × CS × Nat))} {oc os : Nat} (Heq : m_cJT_erase_J0 N x0 S x1 x2 x3 = some (o, oc, os)) (Kr : ∀ r : (((Nat → Nat) × CS × Int32) ⊕ ((Nat → Nat) × CS × Nat)), o = r → (∀ v9 : (Nat → Nat) × CS × Int32, r = .inl v9 → ∀ (pc : Nat) (ad : Nat → Nat → Nat) (H : Heap) (locs : List Loc) (ls : Array Slot), decode prog_1_method_8_code pc = .ok (.ireturn, 1) → Ext ad0 N0 ad (v9.1) → va_P D cls (cw ad cc v9.1 v9.2.1) H → va_D A (cw ad cc v9.1 v9.2.1) → va_S A s.heap H locs → W p l e ({ frames := 9, cells := cR, slots := sR, locals := 163 }) s m args below meth c H locs CT ST Q (F0 m pc ls [.int v9.2.2])) ∧ (∀ t9 : (Nat → Nat) × CS × Nat, r = .inr t9 → (∀ (pc : Nat) (ad : Nat → Nat → Nat) (H : Heap) (locs : List Loc) (ls : Array Slot) (cells slots : Nat), cells + 1 = CT → slots + 6 = ST → thD prog_1_method_8_code t9.2.2 pc → ls.size = 7 → Ext ad0 N0 ad t9.1 → va_P D cls (cw ad cc t9.1 t9.2.1) H → va_D A (cw ad cc t9.1 t9.2.1) → va_S A s.heap H locs → W p l e ({ frames := 9, cells := cR, slots := sR, locals := 163 }) s m args below meth c H locs cells slots Q (F0 m pc ls [])) ∧ (∀ (pc : Nat) (ad : Nat → Nat → Nat) (H : Heap) (locs : List Loc) (ls : Array Slot) (st0 rest9 : List Value) (A9 : Nat → Prop) (cells slots : Nat), cells + 1 = CT → slots + 6 = ST → Ext ad0 N0 ad t9.1 → va_D A (cw ad cc t9.1 t9.2.1) → tx_Thr p l e ({ frames := 9, cells := cR, slots := sR, locals := 163 }) s m args below meth c H locs cells slots 1 6 (F0 m pc ls st0) rest9 (exN t9.2.2) A9 (fun H1 => va_P D cls (cw ad cc t9.1 t9.2.1) H1) → (∀ q, A9 q → A q) → va_S A s.heap H locs → W p l e ({ frames := 9, cells := cR, slots := sR, locals := 163 }) s m args below meth c H locs cells slots Q (F0 m pc ls st0)))) : ∀ (ad : Nat → Nat → Nat) (H : Heap) (locs : List Loc) (ls : Array Slot) (cells slots : Nat), Ext ad0 N0 ad N → cells + oc = CT → slots + os = ST → va_P D cls (cw ad cc N S) H → va_D A (cw ad cc N S) → va_S A s.heap H locs → lv_has ls 7 [(0, .ref (ad 11 x0)), (1, .int x1), (2, .int x2), (3, .int x3)] → W p l e ({ frames := 9, cells := cR, slots := sR, locals := 163 }) s m args below meth c H locs cells slots Q (F0 m 0 ls []) := by
  intro ad H locs ls cells slots hX hcu hsu hP hD hS hl
  obtain ⟨hx, hb, hr, hml, hown, hts, hK, hA, hev, hE, hN, hNS⟩ := id hC
  unfold m_cJT_erase_J0 at Heq
  refine lv_aload_n hx hb d_cJT_erase_0 rfl (lv_at hl 0 rfl) ?_
  obtain ⟨hl_x0_11, Heq⟩ := gl_some Heq
  obtain ⟨o_1, h_2, Heq⟩ := ob_some Heq
  have hFc := fr_all hD hS hA
  refine va_calli (va_runV (As := []) (rest := []) ⟨hx, hb, hml, hown, hts⟩ (g_cJT_takeArguments l D H.size (ad := ad) (cc := cc) (sad := sad) (sav := sav) h_2) (cw_v 0 hts kw_589 kw_586 kw_588 kp_2 kw_1 rfl rfl (by decide +kernel) ⟨Nat.le_of_ble_eq_true rfl, Nat.le_of_ble_eq_true rfl⟩) ⟨c_blind, va_recv hK hP (ci := 11) (q0 := cPos N 11 x0) rfl (cw_obj (k := 11) (by decide) hl_x0_11), fun U hU hW => c_pre hU hW hP hK hD hev hE hN hNS hS hFc⟩ rfl rfl hl.1 rfl (lv_room (Nat.le_of_ble_eq_true rfl)) d_cJT_erase_1 ⟨(Nat.le_trans (m := CT) (by omega) hCT), (Nat.le_trans (m := ST) (by omega) hST)⟩) hS (fun q _ h => hFc q h) hFc (fun rz u t H1 locs ht hvm hw hB hz1 hk1 hS => ?_)
  obtain ⟨hP, -, hD1⟩ := hB
  rw [ht] at hP
  have hD := hD1.weaken (fun _ q _ h => hFc q.1 h)
  generalize H1 = H at hP hS ⊢
  subst hw
  refine lv_istore (lv' := [(4, .int o_1.2), (0, .ref (ad 11 x0)), (1, .int x1), (2, .int x2), (3, .int x3)]) hx hb d_cJT_erase_4 hl (by decide) rfl (fun ls hl => ?_)
  refine lv_aload_n hx hb d_cJT_erase_6 rfl (lv_at hl 1 rfl) ?_
  refine lv_iload_n hx hb d_cJT_erase_7 rfl (lv_at hl 2 rfl) ?_
  have hFc := fr_all hD hS hA
  rcases oe_some Heq with ⟨o_3, h_4, Heq⟩ | ⟨t_5, h_4, Heq⟩
  case inr =>
    obtain ⟨e9, e9a, e9b⟩ := tri Heq
    exact ((Kr _ e9).2 _ rfl).2 8 _ _ _ _ _ _ _ _ _ (by omega) (by omega) hX (d_cw _ hD) (tx_runV (As := [.int x1]) (rest := []) ⟨hx, hb, hml, hown, hts⟩ (g_cJT_shown_t l hfl D H.size (ad := ad) (cc := cc) (sad := sad) (sav := sav) h_4) (cw_v 1 hts kw_593 kw_590 kw_592 kp_3 kw_1 rfl rfl (by decide +kernel) ⟨Nat.le_of_ble_eq_true rfl, Nat.le_of_ble_eq_true rfl⟩) ⟨c_blind, va_recv hK hP (ci := 11) (q0 := cPos N 11 x0) rfl (cw_obj (k := 11) (by decide) hl_x0_11), fun U hU hW => c_pre hU hW hP hK hD hev hE hN hNS hS hFc⟩ rfl rfl hl.1 rfl (lv_room (Nat.le_of_ble_eq_true rfl)) d_cJT_erase_8 ⟨(Nat.le_trans (m := CT) (by omega) hCT), (Nat.le_trans (m := ST) (by omega) hST)⟩) hFc hS
  refine va_callq (va_runV (As := [.int x1]) (rest := []) ⟨hx, hb, hml, hown, hts⟩ (g_cJT_shown l hfl D H.size (ad := ad) (cc := cc) (sad := sad) (sav := sav) h_4) (cw_v 1 hts kw_593 kw_590 kw_592 kp_3 kw_1 rfl rfl (by decide +kernel) ⟨Nat.le_of_ble_eq_true rfl, Nat.le_of_ble_eq_true rfl⟩) ⟨c_blind, va_recv hK hP (ci := 11) (q0 := cPos N 11 x0) rfl (cw_obj (k := 11) (by decide) hl_x0_11), fun U hU hW => c_pre hU hW hP hK hD hev hE hN hNS hS hFc⟩ rfl rfl hl.1 rfl (lv_room (Nat.le_of_ble_eq_true rfl)) d_cJT_erase_8 ⟨(Nat.le_trans (m := CT) (by omega) hCT), (Nat.le_trans (m := ST) (by omega) hST)⟩) hS (fun q _ h => hFc q h) hFc (fun rz u t H1 locs ht hvm hw hB hz1 hk1 hS => ?_)
  obtain ⟨hP, -, hD1⟩ := hB
  rw [ht] at hP
  have hD := hD1.weaken (fun _ q _ h => hFc q.1 h)
  generalize H1 = H at hP hS ⊢
  subst hw
  refine w_v (y := rv ad 4 o_3.2) rfl ?_
  refine tx_astore (x := o_3.2.map (ad 4)) (lv' := [(5, rv ad 4 o_3.2), (4, .int o_1.2), (0, .ref (ad 11 x0)), (1, .int x1), (2, .int x2), (3, .int x3)]) hx hb d_cJT_erase_11 hl (by decide) rfl (fun ls hl => ?_)
  refine lv_aload_n hx hb d_cJT_erase_13 rfl (lv_at hl 2 rfl) ?_
  refine lv_iload hx hb d_cJT_erase_14 (lv_at hl 1 rfl) ?_
  refine lv_iload_n hx hb d_cJT_erase_16 rfl (lv_at hl 5 rfl) ?_
  have hFc := fr_all hD hS hA
  rcases oe_some Heq with ⟨o_6, h_7, Heq⟩ | ⟨t_8, h_7, Heq⟩
  case inr =>
    obtain ⟨e9, e9a, e9b⟩ := tri Heq
    exact ((Kr _ e9).2 _ rfl).2 17 _ _ _ _ _ _ _ _ _ (by omega) (by omega) hX (d_cw _ hD) (tx_runV (As := [.int o_1.2, .int x3]) (rest := []) ⟨hx, hb, hml, hown, hts⟩ (g_cJT_needPlace_t l hfl D H.size (ad := ad) (cc := cc) (sad := sad) (sav := sav) h_7) (cw_v 2 hts kw_843 kw_840 kw_842 kp_19 kw_1 rfl rfl (by decide +kernel) ⟨Nat.le_of_ble_eq_true rfl, Nat.le_of_ble_eq_true rfl⟩) ⟨c_blind, va_recv hK hP (ci := 11) (q0 := cPos N 11 x0) rfl (cw_obj (k := 11) (by decide) hl_x0_11), fun U hU hW => c_pre hU hW hP hK hD hev hE hN hNS hS hFc⟩ rfl rfl hl.1 rfl (lv_room (Nat.le_of_ble_eq_true rfl)) d_cJT_erase_17 ⟨(Nat.le_trans (m := CT) (by omega) hCT), (Nat.le_trans (m := ST) (by omega) hST)⟩) hFc hS
  refine va_callv (va_runV (As := [.int o_1.2, .int x3]) (rest := []) ⟨hx, hb, hml, hown, hts⟩ (g_cJT_needPlace l hfl D H.size (ad := ad) (cc := cc) (sad := sad) (sav := sav) h_7) (cw_v 2 hts kw_843 kw_840 kw_842 kp_19 kw_1 rfl rfl (by decide +kernel) ⟨Nat.le_of_ble_eq_true rfl, Nat.le_of_ble_eq_true rfl⟩) ⟨c_blind, va_recv hK hP (ci := 11) (q0 := cPos N 11 x0) rfl (cw_obj (k := 11) (by decide) hl_x0_11), fun U hU hW => c_pre hU hW hP hK hD hev hE hN hNS hS hFc⟩ rfl rfl hl.1 rfl (lv_room (Nat.le_of_ble_eq_true rfl)) d_cJT_erase_17 ⟨(Nat.le_trans (m := CT) (by omega) hCT), (Nat.le_trans (m := ST) (by omega) hST)⟩) hS (fun q _ h => hFc q h) hFc (fun u t H1 locs ht hvm hw hB hz1 hk1 hS => ?_)
  obtain ⟨hP, -, hD1⟩ := hB
  rw [ht] at hP
  have hD := hD1.weaken (fun _ q _ h => hFc q.1 h)
  generalize H1 = H at hP hS ⊢
  refine lv_aload_n hx hb d_cJT_erase_20 rfl (lv_at hl 2 rfl) ?_
  refine lv_iload_n hx hb d_cJT_erase_21 rfl (lv_at hl 4 rfl) ?_
  refine lv_iload_n hx hb d_cJT_erase_22 rfl (lv_at hl 5 rfl) ?_
  have hFc := fr_all hD hS hA
  rcases oe_some Heq with ⟨o_9, h_10, Heq⟩ | ⟨t_11, h_10, Heq⟩
  case inr =>
    obtain ⟨e9, e9a, e9b⟩ := tri Heq
    exact ((Kr _ e9).2 _ rfl).2 23 _ _ _ _ _ _ _ _ _ (by omega) (by omega) hX (d_cw _ hD) (tx_runV (As := [.int x2, .int x3]) (rest := []) ⟨hx, hb, hml, hown, hts⟩ (g_cJT_placeAt_t l hfl D H.size (ad := ad) (cc := cc) (sad := sad) (sav := sav) h_10) (cw_v 2 hts kw_847 kw_844 kw_846 kp_20 kw_1 rfl rfl (by decide +kernel) ⟨Nat.le_of_ble_eq_true rfl, Nat.le_of_ble_eq_true rfl⟩) ⟨c_blind, va_recv hK hP (ci := 11) (q0 := cPos N 11 x0) rfl (cw_obj (k := 11) (by decide) hl_x0_11), fun U hU hW => c_pre hU hW hP hK hD hev hE hN hNS hS hFc⟩ rfl rfl hl.1 rfl (lv_room (Nat.le_of_ble_eq_true rfl)) d_cJT_erase_23 ⟨(Nat.le_trans (m := CT) (by omega) hCT), (Nat.le_trans (m := ST) (by omega) hST)⟩) hFc hS
  refine va_callq (va_runV (As := [.int x2, .int x3]) (rest := []) ⟨hx, hb, hml, hown, hts⟩ (g_cJT_placeAt l hfl D H.size (ad := ad) (cc := cc) (sad := sad) (sav := sav) h_10) (cw_v 2 hts kw_847 kw_844 kw_846 kp_20 kw_1 rfl rfl (by decide +kernel) ⟨Nat.le_of_ble_eq_true rfl, Nat.le_of_ble_eq_true rfl⟩) ⟨c_blind, va_recv hK hP (ci := 11) (q0 := cPos N 11 x0) rfl (cw_obj (k := 11) (by decide) hl_x0_11), fun U hU hW => c_pre hU hW hP hK hD hev hE hN hNS hS hFc⟩ rfl rfl hl.1 rfl (lv_room (Nat.le_of_ble_eq_true rfl)) d_cJT_erase_23 ⟨(Nat.le_trans (m := CT) (by omega) hCT), (Nat.le_trans (m := ST) (by omega) hST)⟩) hS (fun q _ h => hFc q h) hFc (fun rz u t H1 locs ht hvm hw hB hz1 hk1 hS => ?_)
  obtain ⟨hP, -, hD1⟩ := hB
  rw [ht] at hP
  have hD := hD1.weaken (fun _ q _ h => hFc q.1 h)
  generalize H1 = H at hP hS ⊢
  subst hw
  refine w_v (y := rv ad 7 o_9.2) rfl ?_
  refine tx_astore (x := o_9.2.map (ad 7)) (lv' := [(6, rv ad 7 o_9.2), (5, rv ad 4 o_3.2), (4, .int o_1.2), (0, .ref (ad 11 x0)), (1, .int x1), (2, .int x2), (3, .int x3)]) hx hb d_cJT_erase_26 hl (by decide) (by simp [rv, rf_cat]) (fun ls hl => ?_)
  refine lv_aload_n hx hb d_cJT_erase_28 rfl (lv_at hl 3 rfl) ?_
  refine tx_aload (x := o_3.2.map (ad 4)) hx hb d_cJT_erase_29 (lv_at hl 1 rfl) ?_
  refine w_v (y := rv ad 4 o_3.2) rfl ?_
  obtain ⟨j_12, hj_13, hl_14, Heq⟩ := gn_some Heq
  refine w_s (st' := [.ref (ad 4 j_12), .ref (ad 11 x0)]) (congrArg (fun z9 : Option Nat => [rv ad 4 z9, .ref (ad 11 x0)]) hj_13) ?_
  have hFc := fr_all hD hS hA
  rcases oe_some Heq with ⟨o_15, h_16, Heq⟩ | ⟨t_17, h_16, Heq⟩
  case inr =>
    obtain ⟨e9, e9a, e9b⟩ := tri Heq
    exact ((Kr _ e9).2 _ rfl).2 31 _ _ _ _ _ _ _ _ _ (by omega) (by omega) hX (d_cw _ hD) (tx_runV (As := [.ref (ad 4 j_12)]) (rest := []) ⟨hx, hb, hml, hown, hts⟩ (g_cJT_needAll_t l hfl D H.size (ad := ad) (cc := cc) (sad := sad) (sav := sav) h_16) (cw_v 1 hts kw_647 kw_644 kw_646 kp_8 kw_1 rfl rfl (by decide +kernel) ⟨Nat.le_of_ble_eq_true rfl, Nat.le_of_ble_eq_true rfl⟩) ⟨c_blind, va_recv hK hP (ci := 11) (q0 := cPos N 11 x0) rfl (cw_obj (k := 11) (by decide) hl_x0_11), fun U hU hW => c_pre hU hW hP hK hD hev hE hN hNS hS hFc⟩ rfl rfl hl.1 rfl (lv_room (Nat.le_of_ble_eq_true rfl)) d_cJT_erase_31 ⟨(Nat.le_trans (m := CT) (by omega) hCT), (Nat.le_trans (m := ST) (by omega) hST)⟩) hFc hS
  refine va_callv (va_runV (As := [.ref (ad 4 j_12)]) (rest := []) ⟨hx, hb, hml, hown, hts⟩ (g_cJT_needAll l hfl D H.size (ad := ad) (cc := cc) (sad := sad) (sav := sav) h_16) (cw_v 1 hts kw_647 kw_644 kw_646 kp_8 kw_1 rfl rfl (by decide +kernel) ⟨Nat.le_of_ble_eq_true rfl, Nat.le_of_ble_eq_true rfl⟩) ⟨c_blind, va_recv hK hP (ci := 11) (q0 := cPos N 11 x0) rfl (cw_obj (k := 11) (by decide) hl_x0_11), fun U hU hW => c_pre hU hW hP hK hD hev hE hN hNS hS hFc⟩ rfl rfl hl.1 rfl (lv_room (Nat.le_of_ble_eq_true rfl)) d_cJT_erase_31 ⟨(Nat.le_trans (m := CT) (by omega) hCT), (Nat.le_trans (m := ST) (by omega) hST)⟩) hS (fun q _ h => hFc q h) hFc (fun u t H1 locs ht hvm hw hB hz1 hk1 hS => ?_)
  obtain ⟨hP, -, hD1⟩ := hB
  rw [ht] at hP
  have hD := hD1.weaken (fun _ q _ h => hFc q.1 h)
  generalize H1 = H at hP hS ⊢
  refine lv_aload_n hx hb d_cJT_erase_34 rfl (lv_at hl 3 rfl) ?_
  refine lv_iconst (v := 1) hx hb d_cJT_erase_35 (by decide) ?_
  refine lv_iload_n hx hb d_cJT_erase_36 rfl (lv_at hl 6 rfl) ?_
  refine lv_iconst (v := (-1)) hx hb d_cJT_erase_37 (by decide) ?_
  refine lv_icmp_ne (tgt := 51) hx hb d_cJT_erase_38 (by decide) (fun c_18 => ?_) (fun c_18 => ?_)
  · replace Heq := (if_neg c_18).symm.trans Heq
    refine lv_iconst (v := 0) hx hb d_cJT_erase_51 (by decide) ?_
    exact w_cJT_erase_J52 hfl hC hCT hST Heq Kr _ _ _ _ _ _ hX (by omega) (by omega) hP hD hS (lv_sub hl [3, 1, 0] rfl)
  · replace Heq := (if_pos c_18).symm.trans Heq
    refine lv_aload_n hx hb d_cJT_erase_41 rfl (lv_at hl 3 rfl) ?_
    refine va_get (D := D) (ci := 11) (v := rv ad 5 (o_15.r 11 9 x0)) (C := R_JT) (T := F_JT) (N := 13) hx hb hts i_JT hown hK hP (cPos N 11 x0) (cw_obj (k := 11) (by decide) hl_x0_11) rfl 9 (by decide) (hts _ kw_430) (fun _ h9 => h9) rfl d_cJT_erase_42 ?_
    obtain ⟨j_19, hj_20, hl_21, Heq⟩ := gn_some Heq
    refine w_s (st' := [.ref (ad 5 j_19), .int 1, .ref (ad 11 x0)]) (congrArg (fun z9 : Option Nat => [rv ad 5 z9, .int 1, .ref (ad 11 x0)]) hj_20) ?_
    refine va_get (D := D) (ci := 5) (v := .int (o_15.i 5 1 j_19)) (C := R_Rw) (T := F_Rw) (N := 3) hx hb hts i_Rw hown hK hP (cPos N 5 j_19) (cw_obj (k := 5) (by decide) hl_21) rfl 1 (by decide) (hts _ kw_143) (fun _ h9 => h9) rfl d_cJT_erase_45 ?_
    refine lv_goto (tgt := 52) hx hb d_cJT_erase_48 (by decide) ?_
    exact w_cJT_erase_J52 hfl hC hCT hST Heq Kr _ _ _ _ _ _ hX (by omega) (by omega) hP hD hS (lv_sub hl [3, 1, 0] rfl)
noncomputable def m_cJT_erase (N : Nat → Nat) (x0 : Nat) (S : CS) (x1 : Int32) (x2 : Int32) (x3 : Int32) : Option (((((Nat → Nat) × CS × Int32) ⊕ ((Nat → Nat) × CS × Nat))) × Nat × Nat) := m_cJT_erase_J0 N x0 S x1 x2 x3
set_option maxHeartbeats 4000000 in
theorem g_cJT_erase (l : Launch) (hfl : l.flags = flags0) (D : va_G) (sz : Nat) {ad : Nat → Nat → Nat} {cc : Nat → ClassId} {sad sav : Nat → Nat} {N : Nat → Nat} {x0 : Nat} {S : CS} {x1 : Int32} {x2 : Int32} {x3 : Int32} {o : (Nat → Nat) × CS × Int32} {oc os : Nat} (Heq : m_cJT_erase N x0 S x1 x2 x3 = some (.inl o, oc, os)) : Met l ⟨"JoinedTrees", "erase", "(III)I"⟩ (Cond.code ⟨"JoinedTrees", "erase", "(III)I"⟩ prog_1_method_8_code 7 (some .int) :: gb) ({ frames := 9, cells := oc, slots := os, locals := 163 }) (cPc sad sav D (cw ad cc N S) (cty cc) sz [.ref (ad 11 x0), .int x1, .int x2, .int x3]) (va_Qi (fun (r : Int32) (_ : Nat → Nat → Nat) => r = o.2.2) (fun (u : Nat → Nat → Nat) t => Ext ad N u o.1 ∧ gO D (cw u cc o.1 o.2.1) (cty cc) (va_A (cw ad cc N S) sz) t) (va_A (cw ad cc N S) sz)) oc os (va_A (cw ad cc N S) sz) := by
  refine Met.ofW (cc := prog_1_method_8_code) (maxL := 7) (ret := (some .int)) (by decide) rfl ?_
  intro p e s m args below meth c s₁ B hml hv
  obtain ⟨rfl, hsz, hP, hK, hD0, hev, hE, hN⟩ := hv
  have hx := B.exec
  have hb := B.bytes
  have hr := B.returns
  have hts : ∀ w9 ∈ gb, w9.before [.ref (ad 11 x0), .int x1, .int x2, .int x3].toArray s = true := fun w9 h => atoms_spec (ws := Cond.code ⟨"JoinedTrees", "erase", "(III)I"⟩ prog_1_method_8_code 7 (some .int) :: gb) B.pre w9 (List.mem_cons_of_mem _ h)
  have hown : s.vm.findClass "JoinedTrees" = some m.cls := findClass_of_methodNamed B.named
  have hlocks := B.notSynchronized
  have hNS := ns_of hP
  subst hsz
  have hD := hD0.self (sz := s.heap.size)
  generalize hAe : va_A (cw ad cc N S) s.heap.size = A at hD hev hE hNS ⊢
  have hA : ∀ q : Nat, s.heap.size ≤ q → A q := fun q h => by rw [← hAe]; exact Or.inr h
  have hS : va_S A s.heap s.heap [] := va_S.rf
  obtain ⟨ls, hl, hle⟩ : ∃ ls : Array Slot, lv_has ls 7 [(0, .ref (ad 11 x0)), (1, .int x1), (2, .int x2), (3, .int x3)] ∧ entryFrame m ([.ref (ad 11 x0), .int x1, .int x2, .int x3] : List Value).toArray 7 = F0 m 0 ls [] := by
    exact ⟨_, lv_entry (n := 7) _ (Nat.le_of_ble_eq_true rfl), lg_entry_eq ..⟩
  rw [hle]
  refine w_cJT_erase_J0 (ad0 := ad) (N0 := N) (CT := oc) (ST := os) (cR := oc) (sR := os) hfl ⟨hx, hb, hr, hml, hown, hts, hK, hA, hev, hE, hN, hNS⟩ (Nat.le_refl _) (Nat.le_refl _) Heq (fun r h => ⟨fun v9 hv9 pc ad1 H locs ls hd hX hP hD hS => ?_, fun t9 ht9 => (by subst h; cases ht9)⟩) _ _ _ _ 0 0 Ext.rf (Nat.zero_add _) (Nat.zero_add _) hP hD hS (lv_sub hl [0, 1, 2, 3] rfl)
  subst h
  cases hv9
  exact W.iret hx hb hr (fun t ht hW => ⟨⟨_, ad1, rfl, rfl, hX, by rw [ht]; exact hP, va_K.moved hW.alike hK, hD⟩, hS.F ht⟩) hS.2.2 hd
set_option maxHeartbeats 4000000 in
theorem g_cJT_erase_t (l : Launch) (hfl : l.flags = flags0) (D : va_G) (sz : Nat) {ad : Nat → Nat → Nat} {cc : Nat → ClassId} {sad sav : Nat → Nat} {N : Nat → Nat} {x0 : Nat} {S : CS} {x1 : Int32} {x2 : Int32} {x3 : Int32} {o : (Nat → Nat) × CS × Nat} {oc os : Nat} (Heq : m_cJT_erase N x0 S x1 x2 x3 = some (.inr o, oc, os)) : MeT l ⟨"JoinedTrees", "erase", "(III)I"⟩ (Cond.code ⟨"JoinedTrees", "erase", "(III)I"⟩ prog_1_method_8_code 7 (some .int) :: gb) ({ frames := 9, cells := oc, slots := os, locals := 163 }) (cPc sad sav D (cw ad cc N S) (cty cc) sz [.ref (ad 11 x0), .int x1, .int x2, .int x3]) (exN o.2.2) (va_A (cw ad cc N S) sz) (fun H1 => ∃ ad1 : Nat → Nat → Nat, Ext ad N ad1 o.1 ∧ va_P D cls (cw ad1 cc o.1 o.2.1) H1 ∧ va_D (va_A (cw ad cc N S) sz) (cw ad1 cc o.1 o.2.1)) oc os := by
  refine MeT.ofW (cc := prog_1_method_8_code) (maxL := 7) (ret := (some .int)) (by decide) rfl ?_
  intro p e s m args below meth c s₁ B hml hno hv
  obtain ⟨rfl, hsz, hP, hK, hD0, hev, hE, hN⟩ := hv
  have hx := B.exec
  have hb := B.bytes
  have hr := B.returns
  have hts : ∀ w9 ∈ gb, w9.before [.ref (ad 11 x0), .int x1, .int x2, .int x3].toArray s = true := fun w9 h => atoms_spec (ws := Cond.code ⟨"JoinedTrees", "erase", "(III)I"⟩ prog_1_method_8_code 7 (some .int) :: gb) B.pre w9 (List.mem_cons_of_mem _ h)
  have hown : s.vm.findClass "JoinedTrees" = some m.cls := findClass_of_methodNamed B.named
  have hlocks := B.notSynchronized
  have hNS := ns_of hP
  subst hsz
  have hD := hD0.self (sz := s.heap.size)
  generalize hAe : va_A (cw ad cc N S) s.heap.size = A at hD hev hE hNS ⊢
  have hA : ∀ q : Nat, s.heap.size ≤ q → A q := fun q h => by rw [← hAe]; exact Or.inr h
  have hS : va_S A s.heap s.heap [] := va_S.rf
  obtain ⟨ls, hl, hle⟩ : ∃ ls : Array Slot, lv_has ls 7 [(0, .ref (ad 11 x0)), (1, .int x1), (2, .int x2), (3, .int x3)] ∧ entryFrame m ([.ref (ad 11 x0), .int x1, .int x2, .int x3] : List Value).toArray 7 = F0 m 0 ls [] := by
    exact ⟨_, lv_entry (n := 7) _ (Nat.le_of_ble_eq_true rfl), lg_entry_eq ..⟩
  rw [hle]
  refine w_cJT_erase_J0 (ad0 := ad) (N0 := N) (CT := oc) (ST := os) (cR := oc) (sR := os) hfl ⟨hx, hb, hr, hml, hown, hts, hK, hA, hev, hE, hN, hNS⟩ (Nat.le_refl _) (Nat.le_refl _) Heq (fun r h => ⟨fun v9 hv9 => (by subst h; cases hv9), fun t9 ht9 => ⟨fun pc ad1 H locs ls cells slots hc1 hs1 hd hsz hX hP hD hS => ?_, fun pc ad1 H locs ls st0 rest9 A9 cells slots hc1 hs1 hX hD hr9 hF9 hS => ?_⟩⟩) _ _ _ _ 0 0 Ext.rf (Nat.zero_add _) (Nat.zero_add _) hP hD hS (lv_sub hl [0, 1, 2, 3] rfl)
  · subst h; cases ht9; subst hc1 hs1; exact tx_thrB hfl hx hb hno hlocks hown hts hev hN hNS hd (hsz.trans hml.symm) hP hS hA (Nat.le_refl _) (Nat.le_refl _) (Nat.le_of_ble_eq_true rfl) (Nat.le_of_ble_eq_true rfl) (fun H1 h1 => ⟨ad1, hX, h1, hD⟩)
  · subst h; cases ht9; subst hc1 hs1; exact tx_on (tx_Thr.mono hr9 (fun H1 h1 => ⟨ad1, hX, h1, hD⟩)) hno hlocks hS hF9
