noncomputable def m_cSt_openKey_B10 (N : Nat → Nat) (x0 : Nat) (S : CS) (x1 : Option Nat) (x2 : Option Nat) (x3 : Option Nat) : Option ((((Nat → Nat) × CS × Option Nat × Option Nat × Option Nat) ⊕ ((Nat → Nat) × CS × Option Nat × Option Nat × Option Nat)) × Nat × Nat) := on x3 (some ((.inr (N, S, x1, x2, x3)), 0, 0)) (fun j_1 => gl x0 (N 8) (gn x1 (N 3) (fun j_3 => gn (S.r 8 2 x0) (N 5) (fun j_6 => gl j_1 (N 7) (ob (m_cSt_compareKey N x0 S j_1 j_6 (S.i 3 8 j_3) (S.i 3 9 j_3)) (fun o_9 => (if 0 ≤ o_9.2 then some ((.inr (N, o_9.1, x1, x2, x3)), 0, 0) else some ((.inl (N, o_9.1, x1, x3, (o_9.1.r 7 2 j_1))), 0, 0))))))))
theorem d_cSt_openKey_0 : decode prog_10_method_8_code 0 = .ok (.aconst_null, 1) := by decide +kernel
theorem d_cSt_openKey_1 : decode prog_10_method_8_code 1 = .ok (.astore_n 2, 1) := by decide +kernel
theorem d_cSt_openKey_2 : decode prog_10_method_8_code 2 = .ok (.aload_n 1, 1) := by decide +kernel
theorem d_cSt_openKey_3 : decode prog_10_method_8_code 3 = .ok (.getfield 103, 3) := by decide +kernel
theorem d_cSt_openKey_6 : decode prog_10_method_8_code 6 = .ok (.getfield 92, 3) := by decide +kernel
theorem d_cSt_openKey_9 : decode prog_10_method_8_code 9 = .ok (.astore_n 3, 1) := by decide +kernel
theorem d_cSt_openKey_10 : decode prog_10_method_8_code 10 = .ok (.aload_n 3, 1) := by decide +kernel
theorem d_cSt_openKey_11 : decode prog_10_method_8_code 11 = .ok (.ifnull 33, 3) := by decide +kernel
theorem d_cSt_openKey_14 : decode prog_10_method_8_code 14 = .ok (.aload_n 0, 1) := by decide +kernel
theorem d_cSt_openKey_15 : decode prog_10_method_8_code 15 = .ok (.aload_n 3, 1) := by decide +kernel
theorem d_cSt_openKey_16 : decode prog_10_method_8_code 16 = .ok (.aload_n 0, 1) := by decide +kernel
theorem d_cSt_openKey_17 : decode prog_10_method_8_code 17 = .ok (.getfield 29, 3) := by decide +kernel
theorem d_cSt_openKey_20 : decode prog_10_method_8_code 20 = .ok (.aload_n 1, 1) := by decide +kernel
theorem d_cSt_openKey_21 : decode prog_10_method_8_code 21 = .ok (.getfield 67, 3) := by decide +kernel
theorem d_cSt_openKey_24 : decode prog_10_method_8_code 24 = .ok (.aload_n 1, 1) := by decide +kernel
theorem d_cSt_openKey_25 : decode prog_10_method_8_code 25 = .ok (.getfield 77, 3) := by decide +kernel
theorem d_cSt_openKey_28 : decode prog_10_method_8_code 28 = .ok (.invokevirtual 96, 3) := by decide +kernel
theorem d_cSt_openKey_31 : decode prog_10_method_8_code 31 = .ok (.ifCond .ge 13, 3) := by decide +kernel
theorem d_cSt_openKey_34 : decode prog_10_method_8_code 34 = .ok (.aload_n 3, 1) := by decide +kernel
theorem d_cSt_openKey_35 : decode prog_10_method_8_code 35 = .ok (.astore_n 2, 1) := by decide +kernel
theorem d_cSt_openKey_36 : decode prog_10_method_8_code 36 = .ok (.aload_n 3, 1) := by decide +kernel
theorem d_cSt_openKey_37 : decode prog_10_method_8_code 37 = .ok (.getfield 100, 3) := by decide +kernel
theorem d_cSt_openKey_40 : decode prog_10_method_8_code 40 = .ok (.astore_n 3, 1) := by decide +kernel
theorem d_cSt_openKey_41 : decode prog_10_method_8_code 41 = .ok (.goto (-31), 3) := by decide +kernel
set_option maxHeartbeats 4000000 in
set_option maxRecDepth 100000 in
theorem w_cSt_openKey_B10 {p : Program} {l : Launch} {e : Env} {s : State} {m : MethodId} {args : Array Value} {below : List Frame} {meth : Method} {c : Code} {A : Nat → Prop} {D : va_G} {cc : Nat → ClassId} {sad sav : Nat → Nat} {Q : State → Prop} {ad0 : Nat → Nat → Nat} {N0 : Nat → Nat} {CT ST cR sR : Nat} (hC : MCc sad sav "JoinedTrees$Store" prog_10_method_8_code 4 none p s m args meth c A D cc) (hCT : CT ≤ cR) (hST : ST ≤ sR) {N : Nat → Nat} {x0 : Nat} {S : CS} {x1 : Option Nat} {x2 : Option Nat} {x3 : Option Nat} {o : (((Nat → Nat) × CS × Option Nat × Option Nat × Option Nat) ⊕ ((Nat → Nat) × CS × Option Nat × Option Nat × Option Nat))} {oc os : Nat} (Heq : m_cSt_openKey_B10 N x0 S x1 x2 x3 = some (o, oc, os)) (Ka : ∀ (N : Nat → Nat) (b : CS × Option Nat × Option Nat × Option Nat), o = .inl (N, b) → ∀ (ad : Nat → Nat → Nat) (H : Heap) (locs : List Loc) (ls : Array Slot), Ext ad0 N0 ad N → va_P D cls (cw ad cc N b.1) H → va_D A (cw ad cc N b.1) → va_S A s.heap H locs → lv_has ls 4 [(0, .ref (ad 8 x0)), (1, rv ad 3 b.2.1), (2, rv ad 7 b.2.2.1), (3, rv ad 7 b.2.2.2)] → W p l e ({ frames := 3, cells := cR, slots := sR, locals := 72 }) s m args below meth c H locs CT ST Q (F0 m 10 ls [])) (K0 : ∀ (N : Nat → Nat) (b : CS × Option Nat × Option Nat × Option Nat), o = .inr (N, b) → ∀ (ad : Nat → Nat → Nat) (H : Heap) (locs : List Loc) (ls : Array Slot), Ext ad0 N0 ad N → va_P D cls (cw ad cc N b.1) H → va_D A (cw ad cc N b.1) → va_S A s.heap H locs → lv_has ls 4 [(0, .ref (ad 8 x0)), (1, rv ad 3 b.2.1), (2, rv ad 7 b.2.2.1), (3, rv ad 7 b.2.2.2)] → W p l e ({ frames := 3, cells := cR, slots := sR, locals := 72 }) s m args below meth c H locs CT ST Q (F0 m 44 ls [])) : ∀ (ad : Nat → Nat → Nat) (H : Heap) (locs : List Loc) (ls : Array Slot) (cells slots : Nat), Ext ad0 N0 ad N → cells + oc = CT → slots + os = ST → va_P D cls (cw ad cc N S) H → va_D A (cw ad cc N S) → va_S A s.heap H locs → lv_has ls 4 [(0, .ref (ad 8 x0)), (1, rv ad 3 x1), (2, rv ad 7 x2), (3, rv ad 7 x3)] → W p l e ({ frames := 3, cells := cR, slots := sR, locals := 72 }) s m args below meth c H locs cells slots Q (F0 m 10 ls []) := by
  intro ad H locs ls cells slots hX hcu hsu hP hD hS hl
  obtain ⟨hx, hb, hr, hml, hown, hts, hK, hA, hev, hE, hN, hNS⟩ := id hC
  unfold m_cSt_openKey_B10 at Heq
  refine tx_aload_n (x := x3.map (ad 7)) hx hb d_cSt_openKey_10 rfl (lv_at hl 3 rfl) ?_
  refine w_v (y := rv ad 7 x3) rfl ?_
  rcases on_some Heq with ⟨hj_2, Heq⟩ | ⟨j_1, hj_2, Heq⟩
  · refine w_s (st' := [.null]) (congrArg (fun z9 : Option Nat => [rv ad 7 z9]) hj_2) ?_
    refine lv_ifnullN (tgt := 44) hx hb d_cSt_openKey_11 (by decide) ?_
    obtain ⟨e9, e9a, e9b⟩ := tri Heq
    refine W.cs (cells' := CT) (slots' := ST) (by omega) (by omega) ?_
    exact K0 _ _ e9 _ _ _ _ hX hP hD hS (lv_sub hl [0, 1, 2, 3] rfl)
  · refine w_s (st' := [.ref (ad 7 j_1)]) (congrArg (fun z9 : Option Nat => [rv ad 7 z9]) hj_2) ?_
    refine lv_ifnull hx hb d_cSt_openKey_11 ?_
    refine lv_aload_n hx hb d_cSt_openKey_14 rfl (lv_at hl 0 rfl) ?_
    refine tx_aload_n (x := x3.map (ad 7)) hx hb d_cSt_openKey_15 rfl (lv_at hl 3 rfl) ?_
    refine w_v (y := rv ad 7 x3) rfl ?_
    refine lv_aload_n hx hb d_cSt_openKey_16 rfl (lv_at hl 0 rfl) ?_
    obtain ⟨hl_x0_8, Heq⟩ := gl_some Heq
    refine va_get (D := D) (ci := 8) (v := rv ad 5 (S.r 8 2 x0)) (C := R_St) (T := F_St) (N := 6) hx hb hts i_St hown hK hP (cPos N 8 x0) (cw_obj (k := 8) (by decide) hl_x0_8) rfl 2 (by decide) (hts _ kw_167) (fun _ h9 => h9) rfl d_cSt_openKey_17 ?_
    refine tx_aload_n (x := x1.map (ad 3)) hx hb d_cSt_openKey_20 rfl (lv_at hl 1 rfl) ?_
    refine w_v (y := rv ad 3 x1) rfl ?_
    obtain ⟨j_3, hj_4, hl_5, Heq⟩ := gn_some Heq
    refine w_s (st' := [.ref (ad 3 j_3), rv ad 5 (S.r 8 2 x0), rv ad 7 x3, .ref (ad 8 x0)]) (congrArg (fun z9 : Option Nat => [rv ad 3 z9, rv ad 5 (S.r 8 2 x0), rv ad 7 x3, .ref (ad 8 x0)]) hj_4) ?_
    refine va_get (D := D) (ci := 3) (v := .int (S.i 3 8 j_3)) (C := R_Op) (T := F_Op) (N := 15) hx hb hts i_Op hown hK hP (cPos N 3 j_3) (cw_obj (k := 3) (by decide) hl_5) rfl 8 (by decide) (hts _ kw_78) (fun _ h9 => h9) rfl d_cSt_openKey_21 ?_
    refine tx_aload_n (x := x1.map (ad 3)) hx hb d_cSt_openKey_24 rfl (lv_at hl 1 rfl) ?_
    refine w_v (y := rv ad 3 x1) rfl ?_
    refine w_s (st' := [.ref (ad 3 j_3), .int (S.i 3 8 j_3), rv ad 5 (S.r 8 2 x0), rv ad 7 x3, .ref (ad 8 x0)]) (congrArg (fun z9 : Option Nat => [rv ad 3 z9, .int (S.i 3 8 j_3), rv ad 5 (S.r 8 2 x0), rv ad 7 x3, .ref (ad 8 x0)]) hj_4) ?_
    refine va_get (D := D) (ci := 3) (v := .int (S.i 3 9 j_3)) (C := R_Op) (T := F_Op) (N := 15) hx hb hts i_Op hown hK hP (cPos N 3 j_3) (cw_obj (k := 3) (by decide) hl_5) rfl 9 (by decide) (hts _ kw_82) (fun _ h9 => h9) rfl d_cSt_openKey_25 ?_
    obtain ⟨j_6, hj_7, hl_8, Heq⟩ := gn_some Heq
    refine w_s (st' := [.int (S.i 3 9 j_3), .int (S.i 3 8 j_3), .ref (ad 5 j_6), rv ad 7 x3, .ref (ad 8 x0)]) (congrArg (fun z9 : Option Nat => [.int (S.i 3 9 j_3), .int (S.i 3 8 j_3), rv ad 5 z9, rv ad 7 x3, .ref (ad 8 x0)]) hj_7) ?_
    refine w_s (st' := [.int (S.i 3 9 j_3), .int (S.i 3 8 j_3), .ref (ad 5 j_6), .ref (ad 7 j_1), .ref (ad 8 x0)]) (congrArg (fun z9 : Option Nat => [.int (S.i 3 9 j_3), .int (S.i 3 8 j_3), .ref (ad 5 j_6), rv ad 7 z9, .ref (ad 8 x0)]) hj_2) ?_
    obtain ⟨hl_j_1_7, Heq⟩ := gl_some Heq
    obtain ⟨o_9, h_10, Heq⟩ := ob_some Heq
    have hFc := fr_all hD hS hA
    refine va_calli (va_runV (As := [.ref (ad 7 j_1), .ref (ad 5 j_6), .int (S.i 3 8 j_3), .int (S.i 3 9 j_3)]) (rest := []) ⟨hx, hb, hml, hown, hts⟩ (g_cSt_compareKey l D H.size (ad := ad) (cc := cc) (sad := sad) (sav := sav) h_10) (cw_v 4 hts kw_681 kw_678 kw_679 kw_680 kw_2 rfl rfl (by decide +kernel) ⟨Nat.le_of_ble_eq_true rfl, Nat.le_of_ble_eq_true rfl⟩) ⟨c_blind, va_recv hK hP (ci := 8) (q0 := cPos N 8 x0) rfl (cw_obj (k := 8) (by decide) hl_x0_8), fun U hU hW => c_pre hU hW hP hK hD hev hE hN hNS hS hFc⟩ rfl rfl hl.1 rfl (lv_room (Nat.le_of_ble_eq_true rfl)) d_cSt_openKey_28 ⟨(Nat.le_trans (m := CT) (by omega) hCT), (Nat.le_trans (m := ST) (by omega) hST)⟩) hS (fun q _ h => hFc q h) hFc (fun rz u t H1 locs ht hvm hw hB hz1 hk1 hS => ?_)
    obtain ⟨hP, -, hD1⟩ := hB
    rw [ht] at hP
    have hD := hD1.weaken (fun _ q _ h => hFc q.1 h)
    generalize H1 = H at hP hS ⊢
    subst hw
    refine lv_if_ge (tgt := 44) hx hb d_cSt_openKey_31 (by decide) (fun c_11 => ?_) (fun c_11 => ?_)
    · replace Heq := (if_pos c_11).symm.trans Heq
      obtain ⟨e9, e9a, e9b⟩ := tri Heq
      refine W.cs (cells' := CT) (slots' := ST) (by omega) (by omega) ?_
      exact K0 _ _ e9 _ _ _ _ hX hP hD hS (lv_sub hl [0, 1, 2, 3] rfl)
    · replace Heq := (if_neg c_11).symm.trans Heq
      refine tx_aload_n (x := x3.map (ad 7)) hx hb d_cSt_openKey_34 rfl (lv_at hl 3 rfl) ?_
      refine w_v (y := rv ad 7 x3) rfl ?_
      refine tx_astore_n (i := 2) (x := x3.map (ad 7)) (lv' := [(2, rv ad 7 x3), (0, .ref (ad 8 x0)), (1, rv ad 3 x1), (3, rv ad 7 x3)]) hx hb d_cSt_openKey_35 rfl hl (by decide) (by simp [rv, rf_cat]) (fun ls hl => ?_)
      refine tx_aload_n (x := x3.map (ad 7)) hx hb d_cSt_openKey_36 rfl (lv_at hl 3 rfl) ?_
      refine w_v (y := rv ad 7 x3) rfl ?_
      refine w_s (st' := [.ref (ad 7 j_1)]) (congrArg (fun z9 : Option Nat => [rv ad 7 z9]) hj_2) ?_
      refine va_get (D := D) (ci := 7) (v := rv ad 7 (o_9.1.r 7 2 j_1)) (C := R_Sp) (T := F_Sp) (N := 3) hx hb hts i_Sp hown hK hP (cPos N 7 j_1) (cw_obj (k := 7) (by decide) hl_j_1_7) rfl 2 (by decide) (hts _ kw_747) (fun _ h9 => h9) rfl d_cSt_openKey_37 ?_
      refine tx_astore_n (i := 3) (x := (o_9.1.r 7 2 j_1).map (ad 7)) (lv' := [(3, rv ad 7 (o_9.1.r 7 2 j_1)), (2, rv ad 7 x3), (0, .ref (ad 8 x0)), (1, rv ad 3 x1)]) hx hb d_cSt_openKey_40 rfl hl (by decide) (by simp [rv, rf_cat]) (fun ls hl => ?_)
      refine lv_goto (tgt := 10) hx hb d_cSt_openKey_41 (by decide) ?_
      obtain ⟨e9, e9a, e9b⟩ := tri Heq
      refine W.cs (cells' := CT) (slots' := ST) (by omega) (by omega) ?_
      exact Ka _ _ e9 _ _ _ _ hX hP hD hS (lv_sub hl [2, 3, 1, 0] rfl)
noncomputable def m_cSt_openKey_L10 (N : Nat → Nat) (x0 : Nat) (S : CS) (x1 : Option Nat) (x2 : Option Nat) (x3 : Option Nat) : Option (((Nat → Nat) × CS × Option Nat × Option Nat × Option Nat) × Nat × Nat) := lpA (fun a : (Nat → Nat) × CS × Option Nat × Option Nat × Option Nat => m_cSt_openKey_B10 a.1 x0 a.2.1 a.2.2.1 a.2.2.2.1 a.2.2.2.2) FU (N, S, x1, x2, x3)
set_option maxHeartbeats 4000000 in
theorem w_cSt_openKey_L10 {p : Program} {l : Launch} {e : Env} {s : State} {m : MethodId} {args : Array Value} {below : List Frame} {meth : Method} {c : Code} {A : Nat → Prop} {D : va_G} {cc : Nat → ClassId} {sad sav : Nat → Nat} {Q : State → Prop} {ad0 : Nat → Nat → Nat} {N0 : Nat → Nat} {CT ST cR sR : Nat} (hC : MCc sad sav "JoinedTrees$Store" prog_10_method_8_code 4 none p s m args meth c A D cc) (hCT : CT ≤ cR) (hST : ST ≤ sR) {N : Nat → Nat} {x0 : Nat} {S : CS} {x1 : Option Nat} {x2 : Option Nat} {x3 : Option Nat} {o : (Nat → Nat) × CS × Option Nat × Option Nat × Option Nat} {oc os : Nat} (Heq : m_cSt_openKey_L10 N x0 S x1 x2 x3 = some (o, oc, os)) (K0 : ∀ (N : Nat → Nat) (b : CS × Option Nat × Option Nat × Option Nat), o = (N, b) → ∀ (ad : Nat → Nat → Nat) (H : Heap) (locs : List Loc) (ls : Array Slot), Ext ad0 N0 ad N → va_P D cls (cw ad cc N b.1) H → va_D A (cw ad cc N b.1) → va_S A s.heap H locs → lv_has ls 4 [(0, .ref (ad 8 x0)), (1, rv ad 3 b.2.1), (2, rv ad 7 b.2.2.1), (3, rv ad 7 b.2.2.2)] → W p l e ({ frames := 3, cells := cR, slots := sR, locals := 72 }) s m args below meth c H locs CT ST Q (F0 m 44 ls [])) : ∀ (ad : Nat → Nat → Nat) (H : Heap) (locs : List Loc) (ls : Array Slot) (cells slots : Nat), Ext ad0 N0 ad N → cells + oc = CT → slots + os = ST → va_P D cls (cw ad cc N S) H → va_D A (cw ad cc N S) → va_S A s.heap H locs → lv_has ls 4 [(0, .ref (ad 8 x0)), (1, rv ad 3 x1), (2, rv ad 7 x2), (3, rv ad 7 x3)] → W p l e ({ frames := 3, cells := cR, slots := sR, locals := 72 }) s m args below meth c H locs cells slots Q (F0 m 10 ls []) := by
  refine lpA_w2 (e := o) (G := fun (a : (Nat → Nat) × CS × Option Nat × Option Nat × Option Nat) u9 v9 => ∀ (ad : Nat → Nat → Nat) (H : Heap) (locs : List Loc) (ls : Array Slot) (cells slots : Nat), Ext ad0 N0 ad a.1 → cells + u9 = CT → slots + v9 = ST → va_P D cls (cw ad cc a.1 a.2.1) H → va_D A (cw ad cc a.1 a.2.1) → va_S A s.heap H locs → lv_has ls 4 [(0, .ref (ad 8 x0)), (1, rv ad 3 a.2.2.1), (2, rv ad 7 a.2.2.2.1), (3, rv ad 7 a.2.2.2.2)] → W p l e ({ frames := 3, cells := cR, slots := sR, locals := 72 }) s m args below meth c H locs cells slots Q (F0 m 10 ls [])) ?_ FU (N, S, x1, x2, x3) oc os Heq
  intro a o1 c9 s9 u9 v9 ho hc9 hs9 Ka Ke ad H locs ls cells slots hX hcu hsu hP hD hS hl
  refine w_cSt_openKey_B10 (CT := cells + c9) (ST := slots + s9) hC (Nat.le_trans (m := CT) (by omega) hCT) (Nat.le_trans (m := ST) (by omega) hST) ho (fun N b h => ?_) (fun N b h => ?_) _ _ _ _ _ _ hX rfl rfl hP hD hS hl
  · obtain ⟨u1, v1, h1, h2, h3⟩ := Ka _ h
    intro ad H locs ls hX hP hD hS hl
    exact h3 ad H locs ls _ _ hX (by omega) (by omega) hP hD hS hl
  · obtain ⟨h1, h2, h3⟩ := Ke _ h
    intro ad H locs ls hX hP hD hS hl
    refine W.cs (cells' := CT) (slots' := ST) (by omega) (by omega) ?_
    exact K0 N b h1.symm ad H locs ls hX hP hD hS hl
noncomputable def m_cSt_openKey_J44 (N : Nat → Nat) (x0 : Nat) (S : CS) (x1 : Option Nat) (x2 : Option Nat) (x3 : Option Nat) : Option (((Nat → Nat) × CS) × Nat × Nat) := gn x1 (N 3) (fun j_1 => gl x0 (N 8) (ov (m_cSt_openBetween N x0 S j_1 x2 x3) (fun N_6 S_7 => some ((N_6, S_7), 0, 0))))
theorem d_cSt_openKey_44 : decode prog_10_method_8_code 44 = .ok (.aload_n 0, 1) := by decide +kernel
theorem d_cSt_openKey_45 : decode prog_10_method_8_code 45 = .ok (.aload_n 1, 1) := by decide +kernel
theorem d_cSt_openKey_46 : decode prog_10_method_8_code 46 = .ok (.aload_n 2, 1) := by decide +kernel
theorem d_cSt_openKey_47 : decode prog_10_method_8_code 47 = .ok (.aload_n 3, 1) := by decide +kernel
theorem d_cSt_openKey_48 : decode prog_10_method_8_code 48 = .ok (.invokevirtual 106, 3) := by decide +kernel
theorem d_cSt_openKey_51 : decode prog_10_method_8_code 51 = .ok (.return_, 1) := by decide +kernel
set_option maxHeartbeats 4000000 in
set_option maxRecDepth 100000 in
theorem w_cSt_openKey_J44 {p : Program} {l : Launch} {e : Env} {s : State} {m : MethodId} {args : Array Value} {below : List Frame} {meth : Method} {c : Code} {A : Nat → Prop} {D : va_G} {cc : Nat → ClassId} {sad sav : Nat → Nat} {Q : State → Prop} {ad0 : Nat → Nat → Nat} {N0 : Nat → Nat} {CT ST cR sR : Nat} (hC : MCc sad sav "JoinedTrees$Store" prog_10_method_8_code 4 none p s m args meth c A D cc) (hCT : CT ≤ cR) (hST : ST ≤ sR) {N : Nat → Nat} {x0 : Nat} {S : CS} {x1 : Option Nat} {x2 : Option Nat} {x3 : Option Nat} {o : (Nat → Nat) × CS} {oc os : Nat} (Heq : m_cSt_openKey_J44 N x0 S x1 x2 x3 = some (o, oc, os)) (Kr : ∀ r : (Nat → Nat) × CS, o = r → ∀ (pc : Nat) (ad : Nat → Nat → Nat) (H : Heap) (locs : List Loc) (ls : Array Slot), decode prog_10_method_8_code pc = .ok (.return_, 1) → Ext ad0 N0 ad (r.1) → va_P D cls (cw ad cc r.1 r.2) H → va_D A (cw ad cc r.1 r.2) → va_S A s.heap H locs → W p l e ({ frames := 3, cells := cR, slots := sR, locals := 72 }) s m args below meth c H locs CT ST Q (F0 m pc ls [])) : ∀ (ad : Nat → Nat → Nat) (H : Heap) (locs : List Loc) (ls : Array Slot) (cells slots : Nat), Ext ad0 N0 ad N → cells + oc = CT → slots + os = ST → va_P D cls (cw ad cc N S) H → va_D A (cw ad cc N S) → va_S A s.heap H locs → lv_has ls 4 [(0, .ref (ad 8 x0)), (1, rv ad 3 x1), (2, rv ad 7 x2), (3, rv ad 7 x3)] → W p l e ({ frames := 3, cells := cR, slots := sR, locals := 72 }) s m args below meth c H locs cells slots Q (F0 m 44 ls []) := by
  intro ad H locs ls cells slots hX hcu hsu hP hD hS hl
  obtain ⟨hx, hb, hr, hml, hown, hts, hK, hA, hev, hE, hN, hNS⟩ := id hC
  unfold m_cSt_openKey_J44 at Heq
  refine lv_aload_n hx hb d_cSt_openKey_44 rfl (lv_at hl 0 rfl) ?_
  refine tx_aload_n (x := x1.map (ad 3)) hx hb d_cSt_openKey_45 rfl (lv_at hl 1 rfl) ?_
  refine w_v (y := rv ad 3 x1) rfl ?_
  refine tx_aload_n (x := x2.map (ad 7)) hx hb d_cSt_openKey_46 rfl (lv_at hl 2 rfl) ?_
  refine w_v (y := rv ad 7 x2) rfl ?_
  refine tx_aload_n (x := x3.map (ad 7)) hx hb d_cSt_openKey_47 rfl (lv_at hl 3 rfl) ?_
  refine w_v (y := rv ad 7 x3) rfl ?_
  obtain ⟨j_1, hj_2, hl_3, Heq⟩ := gn_some Heq
  refine w_s (st' := [rv ad 7 x3, rv ad 7 x2, .ref (ad 3 j_1), .ref (ad 8 x0)]) (congrArg (fun z9 : Option Nat => [rv ad 7 x3, rv ad 7 x2, rv ad 3 z9, .ref (ad 8 x0)]) hj_2) ?_
  obtain ⟨hl_x0_8, Heq⟩ := gl_some Heq
  have hl : lv_has ls 4 [(0, .ref (ad 8 x0))] := lv_sub hl [0] rfl
  obtain ⟨N_6, S_7, a9, b9, a8, b8, h_5, Heq, e9a, e9b⟩ := ov_some Heq
  refine w_s (st' := [rv ad 7 x3, rv ad 7 x2, .ref (ad 3 j_1), .ref (ad 8 x0)]) rfl ?_
  have hFc := fr_all hD hS hA
  refine va_callv (va_runV (As := [.ref (ad 3 j_1), rv ad 7 x2, rv ad 7 x3]) (rest := []) ⟨hx, hb, hml, hown, hts⟩ (g_cSt_openBetween l D H.size (ad := ad) (cc := cc) (sad := sad) (sav := sav) h_5) (cw_v 3 hts kw_733 kw_730 kw_731 kw_732 kw_2 rfl rfl (by decide +kernel) ⟨Nat.le_of_ble_eq_true rfl, Nat.le_of_ble_eq_true rfl⟩) ⟨c_blind, va_recv hK hP (ci := 8) (q0 := cPos N 8 x0) rfl (cw_obj (k := 8) (by decide) hl_x0_8), fun U hU hW => c_pre hU hW hP hK hD hev hE hN hNS hS hFc⟩ rfl rfl hl.1 rfl (lv_room (Nat.le_of_ble_eq_true rfl)) d_cSt_openKey_48 ⟨(Nat.le_trans (m := CT) (by omega) hCT), (Nat.le_trans (m := ST) (by omega) hST)⟩) hS (fun q _ h => hFc q h) hFc (fun ad t H1 locs ht hvm hw hB hz1 hk1 hS => ?_)
  obtain ⟨hX1, hP, -, hD1⟩ := hB
  rw [ht] at hP
  have hD := hD1.weaken (fun _ q _ h => hFc q.1 h)
  generalize H1 = H at hP hS ⊢
  have hX := hX.tr hX1
  have hl : lv_has ls 4 [(0, .ref (ad 8 x0))] := lv_cast hl (by first | rfl | simp only [hX1.2 8 x0 hl_x0_8])
  have hl_3 := Nat.lt_of_lt_of_le hl_3 (hX1.1 3)
  have hl_x0_8 := Nat.lt_of_lt_of_le hl_x0_8 (hX1.1 8)
  obtain ⟨e9, e9a, e9b⟩ := tri Heq
  refine W.cs (cells' := CT) (slots' := ST) (by omega) (by omega) ?_
  exact Kr _ e9 51 _ _ _ _ d_cSt_openKey_51 hX hP hD hS
noncomputable def m_cSt_openKey_J0 (N : Nat → Nat) (x0 : Nat) (S : CS) (x1 : Nat) : Option (((Nat → Nat) × CS) × Nat × Nat) := gl x1 (N 3) (gn (S.r 3 1 x1) (N 3) (fun j_1 => ov (m_cSt_openKey_L10 N x0 S (some x1) none (S.r 3 13 j_1)) (fun N_4 b_5 => m_cSt_openKey_J44 N_4 x0 b_5.1 b_5.2.1 b_5.2.2.1 b_5.2.2.2)))
set_option maxHeartbeats 4000000 in
set_option maxRecDepth 100000 in
theorem w_cSt_openKey_J0 {p : Program} {l : Launch} {e : Env} {s : State} {m : MethodId} {args : Array Value} {below : List Frame} {meth : Method} {c : Code} {A : Nat → Prop} {D : va_G} {cc : Nat → ClassId} {sad sav : Nat → Nat} {Q : State → Prop} {ad0 : Nat → Nat → Nat} {N0 : Nat → Nat} {CT ST cR sR : Nat} (hC : MCc sad sav "JoinedTrees$Store" prog_10_method_8_code 4 none p s m args meth c A D cc) (hCT : CT ≤ cR) (hST : ST ≤ sR) {N : Nat → Nat} {x0 : Nat} {S : CS} {x1 : Nat} {o : (Nat → Nat) × CS} {oc os : Nat} (Heq : m_cSt_openKey_J0 N x0 S x1 = some (o, oc, os)) (Kr : ∀ r : (Nat → Nat) × CS, o = r → ∀ (pc : Nat) (ad : Nat → Nat → Nat) (H : Heap) (locs : List Loc) (ls : Array Slot), decode prog_10_method_8_code pc = .ok (.return_, 1) → Ext ad0 N0 ad (r.1) → va_P D cls (cw ad cc r.1 r.2) H → va_D A (cw ad cc r.1 r.2) → va_S A s.heap H locs → W p l e ({ frames := 3, cells := cR, slots := sR, locals := 72 }) s m args below meth c H locs CT ST Q (F0 m pc ls [])) : ∀ (ad : Nat → Nat → Nat) (H : Heap) (locs : List Loc) (ls : Array Slot) (cells slots : Nat), Ext ad0 N0 ad N → cells + oc = CT → slots + os = ST → va_P D cls (cw ad cc N S) H → va_D A (cw ad cc N S) → va_S A s.heap H locs → lv_has ls 4 [(0, .ref (ad 8 x0)), (1, .ref (ad 3 x1))] → W p l e ({ frames := 3, cells := cR, slots := sR, locals := 72 }) s m args below meth c H locs cells slots Q (F0 m 0 ls []) := by
  intro ad H locs ls cells slots hX hcu hsu hP hD hS hl
  obtain ⟨hx, hb, hr, hml, hown, hts, hK, hA, hev, hE, hN, hNS⟩ := id hC
  unfold m_cSt_openKey_J0 at Heq
  refine lv_null hx hb d_cSt_openKey_0 ?_
  refine lv_astore_nN (lv' := [(2, .null), (0, .ref (ad 8 x0)), (1, .ref (ad 3 x1))]) hx hb d_cSt_openKey_1 rfl hl (by decide) rfl (fun ls hl => ?_)
  refine lv_aload_n hx hb d_cSt_openKey_2 rfl (lv_at hl 2 rfl) ?_
  obtain ⟨hl_x1_3, Heq⟩ := gl_some Heq
  refine va_get (D := D) (ci := 3) (v := rv ad 3 (S.r 3 1 x1)) (C := R_Op) (T := F_Op) (N := 15) hx hb hts i_Op hown hK hP (cPos N 3 x1) (cw_obj (k := 3) (by decide) hl_x1_3) rfl 1 (by decide) (hts _ kw_56) (fun _ h9 => h9) rfl d_cSt_openKey_3 ?_
  obtain ⟨j_1, hj_2, hl_3, Heq⟩ := gn_some Heq
  refine w_s (st' := [.ref (ad 3 j_1)]) (congrArg (fun z9 : Option Nat => [rv ad 3 z9]) hj_2) ?_
  refine va_get (D := D) (ci := 3) (v := rv ad 7 (S.r 3 13 j_1)) (C := R_Op) (T := F_Op) (N := 15) hx hb hts i_Op hown hK hP (cPos N 3 j_1) (cw_obj (k := 3) (by decide) hl_3) rfl 13 (by decide) (hts _ kw_99) (fun _ h9 => h9) rfl d_cSt_openKey_6 ?_
  refine tx_astore_n (x := (S.r 3 13 j_1).map (ad 7)) (lv' := [(3, rv ad 7 (S.r 3 13 j_1)), (2, .null), (0, .ref (ad 8 x0)), (1, .ref (ad 3 x1))]) hx hb d_cSt_openKey_9 rfl hl (by decide) rfl (fun ls hl => ?_)
  obtain ⟨N_4, b_5, a9, b9, a8, b8, h_6, Heq, e9a, e9b⟩ := ov_some Heq
  refine w_cSt_openKey_L10 hC (Nat.le_trans (m := CT) (by omega) hCT) (Nat.le_trans (m := ST) (by omega) hST) h_6 (fun N9 b9 h9 => ?_) _ _ _ _ _ _ hX rfl rfl hP hD hS (lv_sub hl [2, 3, 1, 0] rfl)
  cases h9
  intro ad H locs ls hX hP hD hS hl
  exact w_cSt_openKey_J44 hC hCT hST Heq Kr _ _ _ _ _ _ hX (by omega) (by omega) hP hD hS (lv_sub hl [0, 1, 2, 3] rfl)
noncomputable def m_cSt_openKey (N : Nat → Nat) (x0 : Nat) (S : CS) (x1 : Nat) : Option (((Nat → Nat) × CS) × Nat × Nat) := m_cSt_openKey_J0 N x0 S x1
set_option maxHeartbeats 4000000 in
theorem g_cSt_openKey (l : Launch) (D : va_G) (sz : Nat) {ad : Nat → Nat → Nat} {cc : Nat → ClassId} {sad sav : Nat → Nat} {N : Nat → Nat} {x0 : Nat} {S : CS} {x1 : Nat} {o : (Nat → Nat) × CS} {oc os : Nat} (Heq : m_cSt_openKey N x0 S x1 = some (o, oc, os)) : Met l ⟨"JoinedTrees$Store", "openKey", "(LJoinedTrees$Op;)V"⟩ (Cond.code ⟨"JoinedTrees$Store", "openKey", "(LJoinedTrees$Op;)V"⟩ prog_10_method_8_code 4 none :: gb) ({ frames := 3, cells := oc, slots := os, locals := 72 }) (cPc sad sav D (cw ad cc N S) (cty cc) sz [.ref (ad 8 x0), .ref (ad 3 x1)]) (va_Qv (fun _ : Nat → Nat → Nat => True) (fun (u : Nat → Nat → Nat) t => Ext ad N u o.1 ∧ gO D (cw u cc o.1 o.2) (cty cc) (va_A (cw ad cc N S) sz) t) (va_A (cw ad cc N S) sz)) oc os (va_A (cw ad cc N S) sz) := by
  refine Met.ofW (cc := prog_10_method_8_code) (maxL := 4) (ret := none) (by decide) rfl ?_
  intro p e s m args below meth c s₁ B hml hv
  obtain ⟨rfl, hsz, hP, hK, hD0, hev, hE, hN⟩ := hv
  have hx := B.exec
  have hb := B.bytes
  have hr := B.returns
  have hts : ∀ w9 ∈ gb, w9.before [.ref (ad 8 x0), .ref (ad 3 x1)].toArray s = true := fun w9 h => atoms_spec (ws := Cond.code ⟨"JoinedTrees$Store", "openKey", "(LJoinedTrees$Op;)V"⟩ prog_10_method_8_code 4 none :: gb) B.pre w9 (List.mem_cons_of_mem _ h)
  have hown : s.vm.findClass "JoinedTrees$Store" = some m.cls := findClass_of_methodNamed B.named
  have hlocks := B.notSynchronized
  have hNS := ns_of hP
  subst hsz
  have hD := hD0.self (sz := s.heap.size)
  generalize hAe : va_A (cw ad cc N S) s.heap.size = A at hD hev hE hNS ⊢
  have hA : ∀ q : Nat, s.heap.size ≤ q → A q := fun q h => by rw [← hAe]; exact Or.inr h
  have hS : va_S A s.heap s.heap [] := va_S.rf
  obtain ⟨ls, hl, hle⟩ : ∃ ls : Array Slot, lv_has ls 4 [(0, .ref (ad 8 x0)), (1, .ref (ad 3 x1))] ∧ entryFrame m ([.ref (ad 8 x0), .ref (ad 3 x1)] : List Value).toArray 4 = F0 m 0 ls [] := by
    exact ⟨_, lv_entry (n := 4) _ (Nat.le_of_ble_eq_true rfl), lg_entry_eq ..⟩
  rw [hle]
  refine w_cSt_openKey_J0 (ad0 := ad) (N0 := N) (CT := oc) (ST := os) (cR := oc) (sR := os) ⟨hx, hb, hr, hml, hown, hts, hK, hA, hev, hE, hN, hNS⟩ (Nat.le_refl _) (Nat.le_refl _) Heq (fun r h pc ad1 H locs ls hd hX hP hD hS => ?_) _ _ _ _ 0 0 Ext.rf (Nat.zero_add _) (Nat.zero_add _) hP hD hS (lv_sub hl [0, 1] rfl)
  subst h
  exact W.vret hx hb hr (fun t ht hW => ⟨⟨ad1, rfl, trivial, hX, by rw [ht]; exact hP, va_K.moved hW.alike hK, hD⟩, hS.F ht⟩) hS.2.2 hd
noncomputable def m_cJT_writeAtKey_J0 (N : Nat → Nat) (x0 : Nat) (S : CS) (x1 : Nat) (x2 : Nat) (x3 : Nat) (x4 : Int32) (x5 : Int32) (x6 : Int32) (x7 : Int64) : Option (((Nat → Nat) × CS × Option Nat) × Nat × Nat) := gl x0 (N 11) (gl x3 (N 5) (gl x2 (N 3) (gn (S.r 11 0 x0) (N 8) (fun j_1 => ob (m_cSt_spotWith N j_1 S x2 x3 x4 x5) (fun o_4 => on o_4.2 (gl x1 (N 4) (gn (o_4.1.r 11 0 x0) (N 8) (fun j_8 => oq (m_cSt_make N j_8 o_4.1 x1 x2 x6 x7) (fun N_13 S_14 v_15 => gn v_15 (N_13 3) (fun j_16 => gn (S_14.r 11 0 x0) (N_13 8) (fun j_19 => ob (m_cSt_keepKey N_13 j_19 S_14 j_16 x3 x4 x5) (fun o_22 => gn (o_22.r 11 0 x0) (N_13 8) (fun j_24 => ov (m_cSt_openKey N_13 j_24 o_22 j_16) (fun N_29 S_30 => some ((N_29, S_30, v_15), 0, 0)))))))))) (fun j_6 => gl j_6 (N 7) (gl x1 (N 4) (oq (m_cJT_writeOn N x0 o_4.1 x1 j_6 x6 x7) (fun N_34 S_35 v_36 => some ((N_34, S_35, v_36), 0, 0))))))))))
theorem d_cJT_writeAtKey_0 : decode prog_1_method_46_code 0 = .ok (.aload_n 0, 1) := by decide +kernel
theorem d_cJT_writeAtKey_1 : decode prog_1_method_46_code 1 = .ok (.getfield 12, 3) := by decide +kernel
theorem d_cJT_writeAtKey_4 : decode prog_1_method_46_code 4 = .ok (.aload_n 2, 1) := by decide +kernel
theorem d_cJT_writeAtKey_5 : decode prog_1_method_46_code 5 = .ok (.aload_n 3, 1) := by decide +kernel
theorem d_cJT_writeAtKey_6 : decode prog_1_method_46_code 6 = .ok (.iload 4, 2) := by decide +kernel
theorem d_cJT_writeAtKey_8 : decode prog_1_method_46_code 8 = .ok (.iload 5, 2) := by decide +kernel
theorem d_cJT_writeAtKey_10 : decode prog_1_method_46_code 10 = .ok (.invokevirtual 404, 3) := by decide +kernel
theorem d_cJT_writeAtKey_13 : decode prog_1_method_46_code 13 = .ok (.astore 9, 2) := by decide +kernel
theorem d_cJT_writeAtKey_15 : decode prog_1_method_46_code 15 = .ok (.aload 9, 2) := by decide +kernel
theorem d_cJT_writeAtKey_17 : decode prog_1_method_46_code 17 = .ok (.ifnull 15, 3) := by decide +kernel
theorem d_cJT_writeAtKey_32 : decode prog_1_method_46_code 32 = .ok (.aload_n 0, 1) := by decide +kernel
theorem d_cJT_writeAtKey_33 : decode prog_1_method_46_code 33 = .ok (.getfield 12, 3) := by decide +kernel
theorem d_cJT_writeAtKey_36 : decode prog_1_method_46_code 36 = .ok (.aload_n 1, 1) := by decide +kernel
theorem d_cJT_writeAtKey_37 : decode prog_1_method_46_code 37 = .ok (.aload_n 2, 1) := by decide +kernel
theorem d_cJT_writeAtKey_38 : decode prog_1_method_46_code 38 = .ok (.iload 6, 2) := by decide +kernel
theorem d_cJT_writeAtKey_40 : decode prog_1_method_46_code 40 = .ok (.lload 7, 2) := by decide +kernel
theorem d_cJT_writeAtKey_42 : decode prog_1_method_46_code 42 = .ok (.invokevirtual 411, 3) := by decide +kernel
theorem d_cJT_writeAtKey_45 : decode prog_1_method_46_code 45 = .ok (.astore 10, 2) := by decide +kernel
theorem d_cJT_writeAtKey_47 : decode prog_1_method_46_code 47 = .ok (.aload_n 0, 1) := by decide +kernel
theorem d_cJT_writeAtKey_48 : decode prog_1_method_46_code 48 = .ok (.getfield 12, 3) := by decide +kernel
theorem d_cJT_writeAtKey_51 : decode prog_1_method_46_code 51 = .ok (.aload 10, 2) := by decide +kernel
theorem d_cJT_writeAtKey_53 : decode prog_1_method_46_code 53 = .ok (.aload_n 3, 1) := by decide +kernel
theorem d_cJT_writeAtKey_54 : decode prog_1_method_46_code 54 = .ok (.iload 4, 2) := by decide +kernel
theorem d_cJT_writeAtKey_56 : decode prog_1_method_46_code 56 = .ok (.iload 5, 2) := by decide +kernel
theorem d_cJT_writeAtKey_58 : decode prog_1_method_46_code 58 = .ok (.invokevirtual 415, 3) := by decide +kernel
theorem d_cJT_writeAtKey_61 : decode prog_1_method_46_code 61 = .ok (.aload_n 0, 1) := by decide +kernel
theorem d_cJT_writeAtKey_62 : decode prog_1_method_46_code 62 = .ok (.getfield 12, 3) := by decide +kernel
theorem d_cJT_writeAtKey_65 : decode prog_1_method_46_code 65 = .ok (.aload 10, 2) := by decide +kernel
theorem d_cJT_writeAtKey_67 : decode prog_1_method_46_code 67 = .ok (.invokevirtual 419, 3) := by decide +kernel
theorem d_cJT_writeAtKey_70 : decode prog_1_method_46_code 70 = .ok (.aload 10, 2) := by decide +kernel
theorem d_cJT_writeAtKey_72 : decode prog_1_method_46_code 72 = .ok (.areturn, 1) := by decide +kernel
theorem d_cJT_writeAtKey_20 : decode prog_1_method_46_code 20 = .ok (.aload_n 0, 1) := by decide +kernel
theorem d_cJT_writeAtKey_21 : decode prog_1_method_46_code 21 = .ok (.aload_n 1, 1) := by decide +kernel
theorem d_cJT_writeAtKey_22 : decode prog_1_method_46_code 22 = .ok (.aload 9, 2) := by decide +kernel
theorem d_cJT_writeAtKey_24 : decode prog_1_method_46_code 24 = .ok (.iload 6, 2) := by decide +kernel
theorem d_cJT_writeAtKey_26 : decode prog_1_method_46_code 26 = .ok (.lload 7, 2) := by decide +kernel
theorem d_cJT_writeAtKey_28 : decode prog_1_method_46_code 28 = .ok (.invokevirtual 156, 3) := by decide +kernel
theorem d_cJT_writeAtKey_31 : decode prog_1_method_46_code 31 = .ok (.areturn, 1) := by decide +kernel
set_option maxHeartbeats 4000000 in
set_option maxRecDepth 100000 in
theorem w_cJT_writeAtKey_J0 {p : Program} {l : Launch} {e : Env} {s : State} {m : MethodId} {args : Array Value} {below : List Frame} {meth : Method} {c : Code} {A : Nat → Prop} {D : va_G} {cc : Nat → ClassId} {sad sav : Nat → Nat} {Q : State → Prop} {ad0 : Nat → Nat → Nat} {N0 : Nat → Nat} {CT ST cR sR : Nat} (hC : MCc sad sav "JoinedTrees" prog_1_method_46_code 11 (some (.object "JoinedTrees$Op")) p s m args meth c A D cc) (hCT : CT ≤ cR) (hST : ST ≤ sR) {N : Nat → Nat} {x0 : Nat} {S : CS} {x1 : Nat} {x2 : Nat} {x3 : Nat} {x4 : Int32} {x5 : Int32} {x6 : Int32} {x7 : Int64} {o : (Nat → Nat) × CS × Option Nat} {oc os : Nat} (Heq : m_cJT_writeAtKey_J0 N x0 S x1 x2 x3 x4 x5 x6 x7 = some (o, oc, os)) (Kr : ∀ r : (Nat → Nat) × CS × Option Nat, o = r → ∀ (pc : Nat) (ad : Nat → Nat → Nat) (H : Heap) (locs : List Loc) (ls : Array Slot), decode prog_1_method_46_code pc = .ok (.areturn, 1) → Ext ad0 N0 ad (r.1) → va_P D cls (cw ad cc r.1 r.2.1) H → va_D A (cw ad cc r.1 r.2.1) → va_S A s.heap H locs → W p l e ({ frames := 4, cells := cR, slots := sR, locals := 102 }) s m args below meth c H locs CT ST Q (F0 m pc ls [rv ad 3 r.2.2])) : ∀ (ad : Nat → Nat → Nat) (H : Heap) (locs : List Loc) (ls : Array Slot) (cells slots : Nat), Ext ad0 N0 ad N → cells + oc = CT → slots + os = ST → va_P D cls (cw ad cc N S) H → va_D A (cw ad cc N S) → va_S A s.heap H locs → lv_has ls 11 [(0, .ref (ad 11 x0)), (1, .ref (ad 4 x1)), (2, .ref (ad 3 x2)), (3, .ref (ad 5 x3)), (4, .int x4), (5, .int x5), (6, .int x6), (7, .long x7)] → W p l e ({ frames := 4, cells := cR, slots := sR, locals := 102 }) s m args below meth c H locs cells slots Q (F0 m 0 ls []) := by
  intro ad H locs ls cells slots hX hcu hsu hP hD hS hl
  obtain ⟨hx, hb, hr, hml, hown, hts, hK, hA, hev, hE, hN, hNS⟩ := id hC
  unfold m_cJT_writeAtKey_J0 at Heq
  refine lv_aload_n hx hb d_cJT_writeAtKey_0 rfl (lv_at hl 0 rfl) ?_
  obtain ⟨hl_x0_11, Heq⟩ := gl_some Heq
  refine va_get (D := D) (ci := 11) (v := rv ad 8 (S.r 11 0 x0)) (C := R_JT) (T := F_JT) (N := 13) hx hb hts i_JT hown hK hP (cPos N 11 x0) (cw_obj (k := 11) (by decide) hl_x0_11) rfl 0 (by decide) (hts _ kw_421) (fun _ h9 => h9) rfl d_cJT_writeAtKey_1 ?_
  refine lv_aload_n hx hb d_cJT_writeAtKey_4 rfl (lv_at hl 2 rfl) ?_
  refine lv_aload_n hx hb d_cJT_writeAtKey_5 rfl (lv_at hl 3 rfl) ?_
  refine lv_iload hx hb d_cJT_writeAtKey_6 (lv_at hl 4 rfl) ?_
  refine lv_iload hx hb d_cJT_writeAtKey_8 (lv_at hl 5 rfl) ?_
  obtain ⟨hl_x3_5, Heq⟩ := gl_some Heq
  obtain ⟨hl_x2_3, Heq⟩ := gl_some Heq
  obtain ⟨j_1, hj_2, hl_3, Heq⟩ := gn_some Heq
  refine w_s (st' := [.int x5, .int x4, .ref (ad 5 x3), .ref (ad 3 x2), .ref (ad 8 j_1)]) (congrArg (fun z9 : Option Nat => [.int x5, .int x4, .ref (ad 5 x3), .ref (ad 3 x2), rv ad 8 z9]) hj_2) ?_
  obtain ⟨o_4, h_5, Heq⟩ := ob_some Heq
  have hFc := fr_all hD hS hA
  refine va_callq (va_runV (As := [.ref (ad 3 x2), .ref (ad 5 x3), .int x4, .int x5]) (rest := []) ⟨hx, hb, hml, hown, hts⟩ (g_cSt_spotWith l D H.size (ad := ad) (cc := cc) (sad := sad) (sav := sav) h_5) (cw_v 4 hts kw_677 kw_674 kw_675 kw_676 kw_2 rfl rfl (by decide +kernel) ⟨Nat.le_of_ble_eq_true rfl, Nat.le_of_ble_eq_true rfl⟩) ⟨c_blind, va_recv hK hP (ci := 8) (q0 := cPos N 8 j_1) rfl (cw_obj (k := 8) (by decide) hl_3), fun U hU hW => c_pre hU hW hP hK hD hev hE hN hNS hS hFc⟩ rfl rfl hl.1 rfl (lv_room (Nat.le_of_ble_eq_true rfl)) d_cJT_writeAtKey_10 ⟨(Nat.le_trans (m := CT) (by omega) hCT), (Nat.le_trans (m := ST) (by omega) hST)⟩) hS (fun q _ h => hFc q h) hFc (fun rz u t H1 locs ht hvm hw hB hz1 hk1 hS => ?_)
  obtain ⟨hP, -, hD1⟩ := hB
  rw [ht] at hP
  have hD := hD1.weaken (fun _ q _ h => hFc q.1 h)
  generalize H1 = H at hP hS ⊢
  subst hw
  refine w_v (y := rv ad 7 o_4.2) rfl ?_
  refine tx_astore (x := o_4.2.map (ad 7)) (lv' := [(9, rv ad 7 o_4.2), (0, .ref (ad 11 x0)), (1, .ref (ad 4 x1)), (2, .ref (ad 3 x2)), (3, .ref (ad 5 x3)), (4, .int x4), (5, .int x5), (6, .int x6), (7, .long x7)]) hx hb d_cJT_writeAtKey_13 hl (by decide) rfl (fun ls hl => ?_)
  refine tx_aload (x := o_4.2.map (ad 7)) hx hb d_cJT_writeAtKey_15 (lv_at hl 0 rfl) ?_
  refine w_v (y := rv ad 7 o_4.2) rfl ?_
  rcases on_some Heq with ⟨hj_7, Heq⟩ | ⟨j_6, hj_7, Heq⟩
  · refine w_s (st' := [.null]) (congrArg (fun z9 : Option Nat => [rv ad 7 z9]) hj_7) ?_
    refine lv_ifnullN (tgt := 32) hx hb d_cJT_writeAtKey_17 (by decide) ?_
    refine lv_aload_n hx hb d_cJT_writeAtKey_32 rfl (lv_at hl 1 rfl) ?_
    refine va_get (D := D) (ci := 11) (v := rv ad 8 (o_4.1.r 11 0 x0)) (C := R_JT) (T := F_JT) (N := 13) hx hb hts i_JT hown hK hP (cPos N 11 x0) (cw_obj (k := 11) (by decide) hl_x0_11) rfl 0 (by decide) (hts _ kw_421) (fun _ h9 => h9) rfl d_cJT_writeAtKey_33 ?_
    refine lv_aload_n hx hb d_cJT_writeAtKey_36 rfl (lv_at hl 2 rfl) ?_
    refine lv_aload_n hx hb d_cJT_writeAtKey_37 rfl (lv_at hl 3 rfl) ?_
    refine lv_iload hx hb d_cJT_writeAtKey_38 (lv_at hl 7 rfl) ?_
    refine lv_lload hx hb d_cJT_writeAtKey_40 (lv_at hl 8 rfl) ?_
    obtain ⟨hl_x1_4, Heq⟩ := gl_some Heq
    obtain ⟨j_8, hj_9, hl_10, Heq⟩ := gn_some Heq
    refine w_s (st' := [.long x7, .int x6, .ref (ad 3 x2), .ref (ad 4 x1), .ref (ad 8 j_8)]) (congrArg (fun z9 : Option Nat => [.long x7, .int x6, .ref (ad 3 x2), .ref (ad 4 x1), rv ad 8 z9]) hj_9) ?_
    have hl : lv_has ls 11 [(0, .ref (ad 11 x0)), (3, .ref (ad 5 x3)), (4, .int x4), (5, .int x5)] := lv_sub hl [1, 4, 5, 6] rfl
    obtain ⟨N_13, S_14, v_15, a9, b9, a8, b8, h_12, Heq, e9a, e9b⟩ := oq_some Heq
    have hFc := fr_all hD hS hA
    refine va_callq (va_runV (As := [.ref (ad 4 x1), .ref (ad 3 x2), .int x6, .long x7]) (rest := []) ⟨hx, hb, hml, hown, hts⟩ (g_cSt_make l D H.size (ad := ad) (cc := cc) (sad := sad) (sav := sav) h_12) (cw_v 4 hts kw_709 kw_706 kw_707 kw_708 kw_2 rfl rfl (by decide +kernel) ⟨Nat.le_of_ble_eq_true rfl, Nat.le_of_ble_eq_true rfl⟩) ⟨c_blind, va_recv hK hP (ci := 8) (q0 := cPos N 8 j_8) rfl (cw_obj (k := 8) (by decide) hl_10), fun U hU hW => c_pre hU hW hP hK hD hev hE hN hNS hS hFc⟩ rfl rfl hl.1 rfl (lv_room (Nat.le_of_ble_eq_true rfl)) d_cJT_writeAtKey_42 ⟨(Nat.le_trans (m := CT) (by omega) hCT), (Nat.le_trans (m := ST) (by omega) hST)⟩) hS (fun q _ h => hFc q h) hFc (fun rz ad t H1 locs ht hvm hw hB hz1 hk1 hS => ?_)
    obtain ⟨hX1, hP, -, hD1⟩ := hB
    rw [ht] at hP
    have hD := hD1.weaken (fun _ q _ h => hFc q.1 h)
    generalize H1 = H at hP hS ⊢
    subst hw
    refine w_v (y := rv ad 3 v_15) rfl ?_
    have hX := hX.tr hX1
    have hl : lv_has ls 11 [(0, .ref (ad 11 x0)), (3, .ref (ad 5 x3)), (4, .int x4), (5, .int x5)] := lv_cast hl (by first | rfl | simp only [hX1.2 11 x0 hl_x0_11, hX1.2 5 x3 hl_x3_5])
    refine w_s (st' := [rv ad 3 v_15]) (by first | rfl | simp only [hX1.2 11 x0 hl_x0_11, hX1.2 5 x3 hl_x3_5]) ?_
    have hl_x0_11 := Nat.lt_of_lt_of_le hl_x0_11 (hX1.1 11)
    have hl_x3_5 := Nat.lt_of_lt_of_le hl_x3_5 (hX1.1 5)
    have hl_x2_3 := Nat.lt_of_lt_of_le hl_x2_3 (hX1.1 3)
    have hl_3 := Nat.lt_of_lt_of_le hl_3 (hX1.1 8)
    have hl_x1_4 := Nat.lt_of_lt_of_le hl_x1_4 (hX1.1 4)
    have hl_10 := Nat.lt_of_lt_of_le hl_10 (hX1.1 8)
    refine tx_astore (x := v_15.map (ad 3)) (lv' := [(10, rv ad 3 v_15), (0, .ref (ad 11 x0)), (3, .ref (ad 5 x3)), (4, .int x4), (5, .int x5)]) hx hb d_cJT_writeAtKey_45 hl (by decide) rfl (fun ls hl => ?_)
    refine lv_aload_n hx hb d_cJT_writeAtKey_47 rfl (lv_at hl 1 rfl) ?_
    refine va_get (D := D) (ci := 11) (v := rv ad 8 (S_14.r 11 0 x0)) (C := R_JT) (T := F_JT) (N := 13) hx hb hts i_JT hown hK hP (cPos N_13 11 x0) (cw_obj (k := 11) (by decide) hl_x0_11) rfl 0 (by decide) (hts _ kw_421) (fun _ h9 => h9) rfl d_cJT_writeAtKey_48 ?_
    refine tx_aload (x := v_15.map (ad 3)) hx hb d_cJT_writeAtKey_51 (lv_at hl 0 rfl) ?_
    refine w_v (y := rv ad 3 v_15) rfl ?_
    refine lv_aload_n hx hb d_cJT_writeAtKey_53 rfl (lv_at hl 2 rfl) ?_
    refine lv_iload hx hb d_cJT_writeAtKey_54 (lv_at hl 3 rfl) ?_
    refine lv_iload hx hb d_cJT_writeAtKey_56 (lv_at hl 4 rfl) ?_
    obtain ⟨j_16, hj_17, hl_18, Heq⟩ := gn_some Heq
    refine w_s (st' := [.int x5, .int x4, .ref (ad 5 x3), .ref (ad 3 j_16), rv ad 8 (S_14.r 11 0 x0)]) (congrArg (fun z9 : Option Nat => [.int x5, .int x4, .ref (ad 5 x3), rv ad 3 z9, rv ad 8 (S_14.r 11 0 x0)]) hj_17) ?_
    obtain ⟨j_19, hj_20, hl_21, Heq⟩ := gn_some Heq
    refine w_s (st' := [.int x5, .int x4, .ref (ad 5 x3), .ref (ad 3 j_16), .ref (ad 8 j_19)]) (congrArg (fun z9 : Option Nat => [.int x5, .int x4, .ref (ad 5 x3), .ref (ad 3 j_16), rv ad 8 z9]) hj_20) ?_
    obtain ⟨o_22, h_23, Heq⟩ := ob_some Heq
    have hFc := fr_all hD hS hA
    refine va_callv (va_runV (As := [.ref (ad 3 j_16), .ref (ad 5 x3), .int x4, .int x5]) (rest := []) ⟨hx, hb, hml, hown, hts⟩ (g_cSt_keepKey l D H.size (ad := ad) (cc := cc) (sad := sad) (sav := sav) h_23) (cw_v 4 hts kw_717 kw_714 kw_715 kw_716 kw_2 rfl rfl (by decide +kernel) ⟨Nat.le_of_ble_eq_true rfl, Nat.le_of_ble_eq_true rfl⟩) ⟨c_blind, va_recv hK hP (ci := 8) (q0 := cPos N_13 8 j_19) rfl (cw_obj (k := 8) (by decide) hl_21), fun U hU hW => c_pre hU hW hP hK hD hev hE hN hNS hS hFc⟩ rfl rfl hl.1 rfl (lv_room (Nat.le_of_ble_eq_true rfl)) d_cJT_writeAtKey_58 ⟨(Nat.le_trans (m := CT) (by omega) hCT), (Nat.le_trans (m := ST) (by omega) hST)⟩) hS (fun q _ h => hFc q h) hFc (fun u t H1 locs ht hvm hw hB hz1 hk1 hS => ?_)
    obtain ⟨hP, -, hD1⟩ := hB
    rw [ht] at hP
    have hD := hD1.weaken (fun _ q _ h => hFc q.1 h)
    generalize H1 = H at hP hS ⊢
    refine lv_aload_n hx hb d_cJT_writeAtKey_61 rfl (lv_at hl 1 rfl) ?_
    refine va_get (D := D) (ci := 11) (v := rv ad 8 (o_22.r 11 0 x0)) (C := R_JT) (T := F_JT) (N := 13) hx hb hts i_JT hown hK hP (cPos N_13 11 x0) (cw_obj (k := 11) (by decide) hl_x0_11) rfl 0 (by decide) (hts _ kw_421) (fun _ h9 => h9) rfl d_cJT_writeAtKey_62 ?_
    refine tx_aload (x := v_15.map (ad 3)) hx hb d_cJT_writeAtKey_65 (lv_at hl 0 rfl) ?_
    refine w_v (y := rv ad 3 v_15) rfl ?_
    refine w_s (st' := [.ref (ad 3 j_16), rv ad 8 (o_22.r 11 0 x0)]) (congrArg (fun z9 : Option Nat => [rv ad 3 z9, rv ad 8 (o_22.r 11 0 x0)]) hj_17) ?_
    obtain ⟨j_24, hj_25, hl_26, Heq⟩ := gn_some Heq
    refine w_s (st' := [.ref (ad 3 j_16), .ref (ad 8 j_24)]) (congrArg (fun z9 : Option Nat => [.ref (ad 3 j_16), rv ad 8 z9]) hj_25) ?_
    have hl : lv_has ls 11 [(10, rv ad 3 v_15), (0, .ref (ad 11 x0))] := lv_sub hl [0, 1] rfl
    obtain ⟨N_29, S_30, a9, b9, a8, b8, h_28, Heq, e9a, e9b⟩ := ov_some Heq
    have hFc := fr_all hD hS hA
    refine va_callv (va_runV (As := [.ref (ad 3 j_16)]) (rest := []) ⟨hx, hb, hml, hown, hts⟩ (g_cSt_openKey l D H.size (ad := ad) (cc := cc) (sad := sad) (sav := sav) h_28) (cw_v 1 hts kw_729 kw_726 kw_727 kw_728 kw_2 rfl rfl (by decide +kernel) ⟨Nat.le_of_ble_eq_true rfl, Nat.le_of_ble_eq_true rfl⟩) ⟨c_blind, va_recv hK hP (ci := 8) (q0 := cPos N_13 8 j_24) rfl (cw_obj (k := 8) (by decide) hl_26), fun U hU hW => c_pre hU hW hP hK hD hev hE hN hNS hS hFc⟩ rfl rfl hl.1 rfl (lv_room (Nat.le_of_ble_eq_true rfl)) d_cJT_writeAtKey_67 ⟨(Nat.le_trans (m := CT) (by omega) hCT), (Nat.le_trans (m := ST) (by omega) hST)⟩) hS (fun q _ h => hFc q h) hFc (fun ad t H1 locs ht hvm hw hB hz1 hk1 hS => ?_)
    obtain ⟨hX1, hP, -, hD1⟩ := hB
    rw [ht] at hP
    have hD := hD1.weaken (fun _ q _ h => hFc q.1 h)
    generalize H1 = H at hP hS ⊢
    have hX := hX.tr hX1
    have hl : lv_has ls 11 [(10, rv ad 3 v_15), (0, .ref (ad 11 x0))] := lv_cast hl (by first | rfl | simp only [hX1.rv (k := 3) (x := v_15) (fun _ q9 => by rw [hj_17] at q9; cases q9; exact hl_18), hX1.2 11 x0 hl_x0_11])
    have hl_x0_11 := Nat.lt_of_lt_of_le hl_x0_11 (hX1.1 11)
    have hl_x3_5 := Nat.lt_of_lt_of_le hl_x3_5 (hX1.1 5)
    have hl_x2_3 := Nat.lt_of_lt_of_le hl_x2_3 (hX1.1 3)
    have hl_3 := Nat.lt_of_lt_of_le hl_3 (hX1.1 8)
    have hl_x1_4 := Nat.lt_of_lt_of_le hl_x1_4 (hX1.1 4)
    have hl_10 := Nat.lt_of_lt_of_le hl_10 (hX1.1 8)
    have hl_18 := Nat.lt_of_lt_of_le hl_18 (hX1.1 3)
    have hl_21 := Nat.lt_of_lt_of_le hl_21 (hX1.1 8)
    have hl_26 := Nat.lt_of_lt_of_le hl_26 (hX1.1 8)
    refine tx_aload (x := v_15.map (ad 3)) hx hb d_cJT_writeAtKey_70 (lv_at hl 0 rfl) ?_
    refine w_v (y := rv ad 3 v_15) rfl ?_
    obtain ⟨e9, e9a, e9b⟩ := tri Heq
    refine W.cs (cells' := CT) (slots' := ST) (by omega) (by omega) ?_
    exact Kr _ e9 72 _ _ _ _ d_cJT_writeAtKey_72 hX hP hD hS
  · refine w_s (st' := [.ref (ad 7 j_6)]) (congrArg (fun z9 : Option Nat => [rv ad 7 z9]) hj_7) ?_
    refine lv_ifnull hx hb d_cJT_writeAtKey_17 ?_
    refine lv_aload_n hx hb d_cJT_writeAtKey_20 rfl (lv_at hl 1 rfl) ?_
    refine lv_aload_n hx hb d_cJT_writeAtKey_21 rfl (lv_at hl 2 rfl) ?_
    refine tx_aload (x := o_4.2.map (ad 7)) hx hb d_cJT_writeAtKey_22 (lv_at hl 0 rfl) ?_
    refine w_v (y := rv ad 7 o_4.2) rfl ?_
    refine lv_iload hx hb d_cJT_writeAtKey_24 (lv_at hl 7 rfl) ?_
    refine lv_lload hx hb d_cJT_writeAtKey_26 (lv_at hl 8 rfl) ?_
    refine w_s (st' := [.long x7, .int x6, .ref (ad 7 j_6), .ref (ad 4 x1), .ref (ad 11 x0)]) (congrArg (fun z9 : Option Nat => [.long x7, .int x6, rv ad 7 z9, .ref (ad 4 x1), .ref (ad 11 x0)]) hj_7) ?_
    obtain ⟨hl_j_6_7, Heq⟩ := gl_some Heq
    obtain ⟨hl_x1_4, Heq⟩ := gl_some Heq
    have hl : lv_has ls 11 [(0, .ref (ad 11 x0))] := lv_sub hl [1] rfl
    obtain ⟨N_34, S_35, v_36, a9, b9, a8, b8, h_33, Heq, e9a, e9b⟩ := oq_some Heq
    have hFc := fr_all hD hS hA
    refine va_callq (va_runV (As := [.ref (ad 4 x1), .ref (ad 7 j_6), .int x6, .long x7]) (rest := []) ⟨hx, hb, hml, hown, hts⟩ (g_cJT_writeOn l D H.size (ad := ad) (cc := cc) (sad := sad) (sav := sav) h_33) (cw_v 4 hts kw_693 kw_690 kw_692 kp_11 kw_1 rfl rfl (by decide +kernel) ⟨Nat.le_of_ble_eq_true rfl, Nat.le_of_ble_eq_true rfl⟩) ⟨c_blind, va_recv hK hP (ci := 11) (q0 := cPos N 11 x0) rfl (cw_obj (k := 11) (by decide) hl_x0_11), fun U hU hW => c_pre hU hW hP hK hD hev hE hN hNS hS hFc⟩ rfl rfl hl.1 rfl (lv_room (Nat.le_of_ble_eq_true rfl)) d_cJT_writeAtKey_28 ⟨(Nat.le_trans (m := CT) (by omega) hCT), (Nat.le_trans (m := ST) (by omega) hST)⟩) hS (fun q _ h => hFc q h) hFc (fun rz ad t H1 locs ht hvm hw hB hz1 hk1 hS => ?_)
    obtain ⟨hX1, hP, -, hD1⟩ := hB
    rw [ht] at hP
    have hD := hD1.weaken (fun _ q _ h => hFc q.1 h)
    generalize H1 = H at hP hS ⊢
    subst hw
    refine w_v (y := rv ad 3 v_36) rfl ?_
    have hX := hX.tr hX1
    have hl : lv_has ls 11 [(0, .ref (ad 11 x0))] := lv_cast hl (by first | rfl | simp only [hX1.2 11 x0 hl_x0_11])
    refine w_s (st' := [rv ad 3 v_36]) (by first | rfl | simp only [hX1.2 11 x0 hl_x0_11]) ?_
    have hl_x0_11 := Nat.lt_of_lt_of_le hl_x0_11 (hX1.1 11)
    have hl_x3_5 := Nat.lt_of_lt_of_le hl_x3_5 (hX1.1 5)
    have hl_x2_3 := Nat.lt_of_lt_of_le hl_x2_3 (hX1.1 3)
    have hl_3 := Nat.lt_of_lt_of_le hl_3 (hX1.1 8)
    have hl_j_6_7 := Nat.lt_of_lt_of_le hl_j_6_7 (hX1.1 7)
    have hl_x1_4 := Nat.lt_of_lt_of_le hl_x1_4 (hX1.1 4)
    obtain ⟨e9, e9a, e9b⟩ := tri Heq
    refine W.cs (cells' := CT) (slots' := ST) (by omega) (by omega) ?_
    exact Kr _ e9 31 _ _ _ _ d_cJT_writeAtKey_31 hX hP hD hS
noncomputable def m_cJT_writeAtKey (N : Nat → Nat) (x0 : Nat) (S : CS) (x1 : Nat) (x2 : Nat) (x3 : Nat) (x4 : Int32) (x5 : Int32) (x6 : Int32) (x7 : Int64) : Option (((Nat → Nat) × CS × Option Nat) × Nat × Nat) := m_cJT_writeAtKey_J0 N x0 S x1 x2 x3 x4 x5 x6 x7
set_option maxHeartbeats 4000000 in
theorem g_cJT_writeAtKey (l : Launch) (D : va_G) (sz : Nat) {ad : Nat → Nat → Nat} {cc : Nat → ClassId} {sad sav : Nat → Nat} {N : Nat → Nat} {x0 : Nat} {S : CS} {x1 : Nat} {x2 : Nat} {x3 : Nat} {x4 : Int32} {x5 : Int32} {x6 : Int32} {x7 : Int64} {o : (Nat → Nat) × CS × Option Nat} {oc os : Nat} (Heq : m_cJT_writeAtKey N x0 S x1 x2 x3 x4 x5 x6 x7 = some (o, oc, os)) : Met l ⟨"JoinedTrees", "writeAtKey", "(LJoinedTrees$Replica;LJoinedTrees$Op;LJoinedTrees$Row;IIIJ)LJoinedTrees$Op;"⟩ (Cond.code ⟨"JoinedTrees", "writeAtKey", "(LJoinedTrees$Replica;LJoinedTrees$Op;LJoinedTrees$Row;IIIJ)LJoinedTrees$Op;"⟩ prog_1_method_46_code 11 (some (.object "JoinedTrees$Op")) :: gb) ({ frames := 4, cells := oc, slots := os, locals := 102 }) (cPc sad sav D (cw ad cc N S) (cty cc) sz [.ref (ad 11 x0), .ref (ad 4 x1), .ref (ad 3 x2), .ref (ad 5 x3), .int x4, .int x5, .int x6, .long x7]) (va_Qq (fun (r : Option Nat) (u : Nat → Nat → Nat) => r = o.2.2.map (u 3)) (fun (u : Nat → Nat → Nat) t => Ext ad N u o.1 ∧ gO D (cw u cc o.1 o.2.1) (cty cc) (va_A (cw ad cc N S) sz) t) (va_A (cw ad cc N S) sz)) oc os (va_A (cw ad cc N S) sz) := by
  refine Met.ofW (cc := prog_1_method_46_code) (maxL := 11) (ret := (some (.object "JoinedTrees$Op"))) (by decide) rfl ?_
  intro p e s m args below meth c s₁ B hml hv
  obtain ⟨rfl, hsz, hP, hK, hD0, hev, hE, hN⟩ := hv
  have hx := B.exec
  have hb := B.bytes
  have hr := B.returns
  have hts : ∀ w9 ∈ gb, w9.before [.ref (ad 11 x0), .ref (ad 4 x1), .ref (ad 3 x2), .ref (ad 5 x3), .int x4, .int x5, .int x6, .long x7].toArray s = true := fun w9 h => atoms_spec (ws := Cond.code ⟨"JoinedTrees", "writeAtKey", "(LJoinedTrees$Replica;LJoinedTrees$Op;LJoinedTrees$Row;IIIJ)LJoinedTrees$Op;"⟩ prog_1_method_46_code 11 (some (.object "JoinedTrees$Op")) :: gb) B.pre w9 (List.mem_cons_of_mem _ h)
  have hown : s.vm.findClass "JoinedTrees" = some m.cls := findClass_of_methodNamed B.named
  have hlocks := B.notSynchronized
  have hNS := ns_of hP
  subst hsz
  have hD := hD0.self (sz := s.heap.size)
  generalize hAe : va_A (cw ad cc N S) s.heap.size = A at hD hev hE hNS ⊢
  have hA : ∀ q : Nat, s.heap.size ≤ q → A q := fun q h => by rw [← hAe]; exact Or.inr h
  have hS : va_S A s.heap s.heap [] := va_S.rf
  obtain ⟨ls, hl, hle⟩ : ∃ ls : Array Slot, lv_has ls 11 [(0, .ref (ad 11 x0)), (1, .ref (ad 4 x1)), (2, .ref (ad 3 x2)), (3, .ref (ad 5 x3)), (4, .int x4), (5, .int x5), (6, .int x6), (7, .long x7)] ∧ entryFrame m ([.ref (ad 11 x0), .ref (ad 4 x1), .ref (ad 3 x2), .ref (ad 5 x3), .int x4, .int x5, .int x6, .long x7] : List Value).toArray 11 = F0 m 0 ls [] := by
    exact ⟨_, lv_entry (n := 11) _ (Nat.le_of_ble_eq_true rfl), lg_entry_eq ..⟩
  rw [hle]
  refine w_cJT_writeAtKey_J0 (ad0 := ad) (N0 := N) (CT := oc) (ST := os) (cR := oc) (sR := os) ⟨hx, hb, hr, hml, hown, hts, hK, hA, hev, hE, hN, hNS⟩ (Nat.le_refl _) (Nat.le_refl _) Heq (fun r h pc ad1 H locs ls hd hX hP hD hS => ?_) _ _ _ _ 0 0 Ext.rf (Nat.zero_add _) (Nat.zero_add _) hP hD hS (lv_sub hl [0, 1, 2, 3, 4, 5, 6, 7] rfl)
  subst h
  exact W.aret hx hb hr (Or.inl ⟨_, rfl⟩) (va_rf_or _) (fun t ht hW => ⟨⟨_, ad1, rfl, rfl, hX, by rw [ht]; exact hP, va_K.moved hW.alike hK, hD⟩, hS.F ht⟩) hS.2.2 hd
noncomputable def m_cJT_set_J0 (N : Nat → Nat) (x0 : Nat) (S : CS) (x1 : Int32) (x2 : Int32) (x3 : Int32) (x4 : Int64) : Option ((((Nat → Nat) × CS × Int32) ⊕ ((Nat → Nat) × CS × Nat)) × Nat × Nat) := gl x0 (N 11) (ob (m_cJT_takeArguments N x0 S) (fun o_1 => oe (m_cJT_shown N x0 o_1.1 x1) (fun o_3 => oe (m_cJT_needValue N x0 o_3.1 x3 o_1.2 1) (fun o_6 => oe (m_cJT_needKey N x0 o_6) (fun o_9 => oe (m_cJT_mapAt N x0 o_9 x2) (fun o_12 => gn o_3.2 (N 4) (fun j_15 => oe (m_cJT_needAll N x0 o_12.1 j_15) (fun o_18 => gn (o_18.r 11 9 x0) (N 5) (fun j_21 => gn (o_18.r 11 10 x0) (N 5) (fun j_24 => ob (m_cJT_stringLength N o_18 x3 j_24) (fun o_27 => oe (m_cJT_needRoom N x0 o_27.1 1 ((o_18.i 5 1 j_21) + o_27.2)) (fun o_29 => gn (o_29.r 11 9 x0) (N 5) (fun j_32 => gn o_12.2 (N 3) (fun j_35 => oq (m_cJT_writeAtKey N x0 o_29 j_15 j_35 j_32 0 (o_29.i 5 1 j_32) x3 x4) (fun N_40 S_41 v_42 => gn (S_41.r 11 10 x0) (N_40 5) (fun j_43 => gn v_42 (N_40 3) (fun j_46 => ob (m_cJT_giveString N_40 x0 S_41 j_46 j_43) (fun o_49 => some ((.inl (N_40, o_49, o_49.i 3 0 j_46)), 0, 0)))))))) (fun t_31 => some ((.inr (N, t_31.1, t_31.2)), 1, 6)))))) (fun t_20 => some ((.inr (N, t_20.1, t_20.2)), 1, 6)))) (fun t_14 => some ((.inr (N, t_14.1, t_14.2)), 1, 6))) (fun t_11 => some ((.inr (N, t_11.1, t_11.2)), 1, 6))) (fun t_8 => some ((.inr (N, t_8.1, t_8.2)), 1, 6))) (fun t_5 => some ((.inr (N, t_5.1, t_5.2)), 1, 6))))
theorem d_cJT_set_0 : decode prog_1_method_4_code 0 = .ok (.aload_n 0, 1) := by decide +kernel
theorem d_cJT_set_1 : decode prog_1_method_4_code 1 = .ok (.invokevirtual 102, 3) := by decide +kernel
theorem d_cJT_set_4 : decode prog_1_method_4_code 4 = .ok (.istore 6, 2) := by decide +kernel
theorem d_cJT_set_6 : decode prog_1_method_4_code 6 = .ok (.aload_n 0, 1) := by decide +kernel
theorem d_cJT_set_7 : decode prog_1_method_4_code 7 = .ok (.iload_n 1, 1) := by decide +kernel
theorem d_cJT_set_8 : decode prog_1_method_4_code 8 = .ok (.invokevirtual 105, 3) := by decide +kernel
theorem d_cJT_set_11 : decode prog_1_method_4_code 11 = .ok (.astore 7, 2) := by decide +kernel
theorem d_cJT_set_13 : decode prog_1_method_4_code 13 = .ok (.aload_n 0, 1) := by decide +kernel
theorem d_cJT_set_14 : decode prog_1_method_4_code 14 = .ok (.iload_n 3, 1) := by decide +kernel
theorem d_cJT_set_15 : decode prog_1_method_4_code 15 = .ok (.iload 6, 2) := by decide +kernel
theorem d_cJT_set_17 : decode prog_1_method_4_code 17 = .ok (.iconst 1, 1) := by decide +kernel
theorem d_cJT_set_18 : decode prog_1_method_4_code 18 = .ok (.invokevirtual 109, 3) := by decide +kernel
theorem d_cJT_set_21 : decode prog_1_method_4_code 21 = .ok (.aload_n 0, 1) := by decide +kernel
theorem d_cJT_set_22 : decode prog_1_method_4_code 22 = .ok (.invokevirtual 113, 3) := by decide +kernel
theorem d_cJT_set_25 : decode prog_1_method_4_code 25 = .ok (.aload_n 0, 1) := by decide +kernel
theorem d_cJT_set_26 : decode prog_1_method_4_code 26 = .ok (.iload_n 2, 1) := by decide +kernel
theorem d_cJT_set_27 : decode prog_1_method_4_code 27 = .ok (.invokevirtual 116, 3) := by decide +kernel
theorem d_cJT_set_30 : decode prog_1_method_4_code 30 = .ok (.astore 8, 2) := by decide +kernel
theorem d_cJT_set_32 : decode prog_1_method_4_code 32 = .ok (.aload_n 0, 1) := by decide +kernel
theorem d_cJT_set_33 : decode prog_1_method_4_code 33 = .ok (.aload 7, 2) := by decide +kernel
theorem d_cJT_set_35 : decode prog_1_method_4_code 35 = .ok (.invokevirtual 120, 3) := by decide +kernel
theorem d_cJT_set_38 : decode prog_1_method_4_code 38 = .ok (.aload_n 0, 1) := by decide +kernel
theorem d_cJT_set_39 : decode prog_1_method_4_code 39 = .ok (.iconst 1, 1) := by decide +kernel
theorem d_cJT_set_40 : decode prog_1_method_4_code 40 = .ok (.aload_n 0, 1) := by decide +kernel
theorem d_cJT_set_41 : decode prog_1_method_4_code 41 = .ok (.getfield 70, 3) := by decide +kernel
theorem d_cJT_set_44 : decode prog_1_method_4_code 44 = .ok (.getfield 80, 3) := by decide +kernel
theorem d_cJT_set_47 : decode prog_1_method_4_code 47 = .ok (.iload_n 3, 1) := by decide +kernel
theorem d_cJT_set_48 : decode prog_1_method_4_code 48 = .ok (.aload_n 0, 1) := by decide +kernel
theorem d_cJT_set_49 : decode prog_1_method_4_code 49 = .ok (.getfield 73, 3) := by decide +kernel
theorem d_cJT_set_52 : decode prog_1_method_4_code 52 = .ok (.invokestatic 124, 3) := by decide +kernel
theorem d_cJT_set_55 : decode prog_1_method_4_code 55 = .ok (.iadd, 1) := by decide +kernel
theorem d_cJT_set_56 : decode prog_1_method_4_code 56 = .ok (.invokevirtual 128, 3) := by decide +kernel
theorem d_cJT_set_59 : decode prog_1_method_4_code 59 = .ok (.aload_n 0, 1) := by decide +kernel
theorem d_cJT_set_60 : decode prog_1_method_4_code 60 = .ok (.aload 7, 2) := by decide +kernel
theorem d_cJT_set_62 : decode prog_1_method_4_code 62 = .ok (.aload 8, 2) := by decide +kernel
theorem d_cJT_set_64 : decode prog_1_method_4_code 64 = .ok (.aload_n 0, 1) := by decide +kernel
theorem d_cJT_set_65 : decode prog_1_method_4_code 65 = .ok (.getfield 70, 3) := by decide +kernel
theorem d_cJT_set_68 : decode prog_1_method_4_code 68 = .ok (.iconst 0, 1) := by decide +kernel
theorem d_cJT_set_69 : decode prog_1_method_4_code 69 = .ok (.aload_n 0, 1) := by decide +kernel
theorem d_cJT_set_70 : decode prog_1_method_4_code 70 = .ok (.getfield 70, 3) := by decide +kernel
theorem d_cJT_set_73 : decode prog_1_method_4_code 73 = .ok (.getfield 80, 3) := by decide +kernel
theorem d_cJT_set_76 : decode prog_1_method_4_code 76 = .ok (.iload_n 3, 1) := by decide +kernel
theorem d_cJT_set_77 : decode prog_1_method_4_code 77 = .ok (.lload 4, 2) := by decide +kernel
theorem d_cJT_set_79 : decode prog_1_method_4_code 79 = .ok (.invokevirtual 132, 3) := by decide +kernel
theorem d_cJT_set_82 : decode prog_1_method_4_code 82 = .ok (.astore 9, 2) := by decide +kernel
theorem d_cJT_set_84 : decode prog_1_method_4_code 84 = .ok (.aload_n 0, 1) := by decide +kernel
theorem d_cJT_set_85 : decode prog_1_method_4_code 85 = .ok (.aload 9, 2) := by decide +kernel
theorem d_cJT_set_87 : decode prog_1_method_4_code 87 = .ok (.aload_n 0, 1) := by decide +kernel
theorem d_cJT_set_88 : decode prog_1_method_4_code 88 = .ok (.getfield 73, 3) := by decide +kernel
theorem d_cJT_set_91 : decode prog_1_method_4_code 91 = .ok (.invokevirtual 136, 3) := by decide +kernel
theorem d_cJT_set_94 : decode prog_1_method_4_code 94 = .ok (.aload 9, 2) := by decide +kernel
theorem d_cJT_set_96 : decode prog_1_method_4_code 96 = .ok (.getfield 140, 3) := by decide +kernel
theorem d_cJT_set_99 : decode prog_1_method_4_code 99 = .ok (.ireturn, 1) := by decide +kernel
set_option maxHeartbeats 4000000 in
set_option maxRecDepth 100000 in
theorem w_cJT_set_J0 {p : Program} {l : Launch} {e : Env} {s : State} {m : MethodId} {args : Array Value} {below : List Frame} {meth : Method} {c : Code} {A : Nat → Prop} {D : va_G} {cc : Nat → ClassId} {sad sav : Nat → Nat} {Q : State → Prop} {ad0 : Nat → Nat → Nat} {N0 : Nat → Nat} {CT ST cR sR : Nat} (hfl : l.flags = flags0) (hC : MCc sad sav "JoinedTrees" prog_1_method_4_code 10 (some .int) p s m args meth c A D cc) (hCT : CT ≤ cR) (hST : ST ≤ sR) {N : Nat → Nat} {x0 : Nat} {S : CS} {x1 : Int32} {x2 : Int32} {x3 : Int32} {x4 : Int64} {o : (((Nat → Nat) × CS × Int32) ⊕ ((Nat → Nat) × CS × Nat))} {oc os : Nat} (Heq : m_cJT_set_J0 N x0 S x1 x2 x3 x4 = some (o, oc, os)) (Kr : ∀ r : (((Nat → Nat) × CS × Int32) ⊕ ((Nat → Nat) × CS × Nat)), o = r → (∀ v9 : (Nat → Nat) × CS × Int32, r = .inl v9 → ∀ (pc : Nat) (ad : Nat → Nat → Nat) (H : Heap) (locs : List Loc) (ls : Array Slot), decode prog_1_method_4_code pc = .ok (.ireturn, 1) → Ext ad0 N0 ad (v9.1) → va_P D cls (cw ad cc v9.1 v9.2.1) H → va_D A (cw ad cc v9.1 v9.2.1) → va_S A s.heap H locs → W p l e ({ frames := 8, cells := cR, slots := sR, locals := 140 }) s m args below meth c H locs CT ST Q (F0 m pc ls [.int v9.2.2])) ∧ (∀ t9 : (Nat → Nat) × CS × Nat, r = .inr t9 → (∀ (pc : Nat) (ad : Nat → Nat → Nat) (H : Heap) (locs : List Loc) (ls : Array Slot) (cells slots : Nat), cells + 1 = CT → slots + 6 = ST → thD prog_1_method_4_code t9.2.2 pc → ls.size = 10 → Ext ad0 N0 ad t9.1 → va_P D cls (cw ad cc t9.1 t9.2.1) H → va_D A (cw ad cc t9.1 t9.2.1) → va_S A s.heap H locs → W p l e ({ frames := 8, cells := cR, slots := sR, locals := 140 }) s m args below meth c H locs cells slots Q (F0 m pc ls [])) ∧ (∀ (pc : Nat) (ad : Nat → Nat → Nat) (H : Heap) (locs : List Loc) (ls : Array Slot) (st0 rest9 : List Value) (A9 : Nat → Prop) (cells slots : Nat), cells + 1 = CT → slots + 6 = ST → Ext ad0 N0 ad t9.1 → va_D A (cw ad cc t9.1 t9.2.1) → tx_Thr p l e ({ frames := 8, cells := cR, slots := sR, locals := 140 }) s m args below meth c H locs cells slots 1 6 (F0 m pc ls st0) rest9 (exN t9.2.2) A9 (fun H1 => va_P D cls (cw ad cc t9.1 t9.2.1) H1) → (∀ q, A9 q → A q) → va_S A s.heap H locs → W p l e ({ frames := 8, cells := cR, slots := sR, locals := 140 }) s m args below meth c H locs cells slots Q (F0 m pc ls st0)))) : ∀ (ad : Nat → Nat → Nat) (H : Heap) (locs : List Loc) (ls : Array Slot) (cells slots : Nat), Ext ad0 N0 ad N → cells + oc = CT → slots + os = ST → va_P D cls (cw ad cc N S) H → va_D A (cw ad cc N S) → va_S A s.heap H locs → lv_has ls 10 [(0, .ref (ad 11 x0)), (1, .int x1), (2, .int x2), (3, .int x3), (4, .long x4)] → W p l e ({ frames := 8, cells := cR, slots := sR, locals := 140 }) s m args below meth c H locs cells slots Q (F0 m 0 ls []) := by
  intro ad H locs ls cells slots hX hcu hsu hP hD hS hl
  obtain ⟨hx, hb, hr, hml, hown, hts, hK, hA, hev, hE, hN, hNS⟩ := id hC
  unfold m_cJT_set_J0 at Heq
  refine lv_aload_n hx hb d_cJT_set_0 rfl (lv_at hl 0 rfl) ?_
  obtain ⟨hl_x0_11, Heq⟩ := gl_some Heq
  obtain ⟨o_1, h_2, Heq⟩ := ob_some Heq
  have hFc := fr_all hD hS hA
  refine va_calli (va_runV (As := []) (rest := []) ⟨hx, hb, hml, hown, hts⟩ (g_cJT_takeArguments l D H.size (ad := ad) (cc := cc) (sad := sad) (sav := sav) h_2) (cw_v 0 hts kw_589 kw_586 kw_588 kp_2 kw_1 rfl rfl (by decide +kernel) ⟨Nat.le_of_ble_eq_true rfl, Nat.le_of_ble_eq_true rfl⟩) ⟨c_blind, va_recv hK hP (ci := 11) (q0 := cPos N 11 x0) rfl (cw_obj (k := 11) (by decide) hl_x0_11), fun U hU hW => c_pre hU hW hP hK hD hev hE hN hNS hS hFc⟩ rfl rfl hl.1 rfl (lv_room (Nat.le_of_ble_eq_true rfl)) d_cJT_set_1 ⟨(Nat.le_trans (m := CT) (by omega) hCT), (Nat.le_trans (m := ST) (by omega) hST)⟩) hS (fun q _ h => hFc q h) hFc (fun rz u t H1 locs ht hvm hw hB hz1 hk1 hS => ?_)
  obtain ⟨hP, -, hD1⟩ := hB
  rw [ht] at hP
  have hD := hD1.weaken (fun _ q _ h => hFc q.1 h)
  generalize H1 = H at hP hS ⊢
  subst hw
  refine lv_istore (lv' := [(6, .int o_1.2), (0, .ref (ad 11 x0)), (1, .int x1), (2, .int x2), (3, .int x3), (4, .long x4)]) hx hb d_cJT_set_4 hl (by decide) rfl (fun ls hl => ?_)
  refine lv_aload_n hx hb d_cJT_set_6 rfl (lv_at hl 1 rfl) ?_
  refine lv_iload_n hx hb d_cJT_set_7 rfl (lv_at hl 2 rfl) ?_
  have hFc := fr_all hD hS hA
  rcases oe_some Heq with ⟨o_3, h_4, Heq⟩ | ⟨t_5, h_4, Heq⟩
  case inr =>
    obtain ⟨e9, e9a, e9b⟩ := tri Heq
    exact ((Kr _ e9).2 _ rfl).2 8 _ _ _ _ _ _ _ _ _ (by omega) (by omega) hX (d_cw _ hD) (tx_runV (As := [.int x1]) (rest := []) ⟨hx, hb, hml, hown, hts⟩ (g_cJT_shown_t l hfl D H.size (ad := ad) (cc := cc) (sad := sad) (sav := sav) h_4) (cw_v 1 hts kw_593 kw_590 kw_592 kp_3 kw_1 rfl rfl (by decide +kernel) ⟨Nat.le_of_ble_eq_true rfl, Nat.le_of_ble_eq_true rfl⟩) ⟨c_blind, va_recv hK hP (ci := 11) (q0 := cPos N 11 x0) rfl (cw_obj (k := 11) (by decide) hl_x0_11), fun U hU hW => c_pre hU hW hP hK hD hev hE hN hNS hS hFc⟩ rfl rfl hl.1 rfl (lv_room (Nat.le_of_ble_eq_true rfl)) d_cJT_set_8 ⟨(Nat.le_trans (m := CT) (by omega) hCT), (Nat.le_trans (m := ST) (by omega) hST)⟩) hFc hS
  refine va_callq (va_runV (As := [.int x1]) (rest := []) ⟨hx, hb, hml, hown, hts⟩ (g_cJT_shown l hfl D H.size (ad := ad) (cc := cc) (sad := sad) (sav := sav) h_4) (cw_v 1 hts kw_593 kw_590 kw_592 kp_3 kw_1 rfl rfl (by decide +kernel) ⟨Nat.le_of_ble_eq_true rfl, Nat.le_of_ble_eq_true rfl⟩) ⟨c_blind, va_recv hK hP (ci := 11) (q0 := cPos N 11 x0) rfl (cw_obj (k := 11) (by decide) hl_x0_11), fun U hU hW => c_pre hU hW hP hK hD hev hE hN hNS hS hFc⟩ rfl rfl hl.1 rfl (lv_room (Nat.le_of_ble_eq_true rfl)) d_cJT_set_8 ⟨(Nat.le_trans (m := CT) (by omega) hCT), (Nat.le_trans (m := ST) (by omega) hST)⟩) hS (fun q _ h => hFc q h) hFc (fun rz u t H1 locs ht hvm hw hB hz1 hk1 hS => ?_)
  obtain ⟨hP, -, hD1⟩ := hB
  rw [ht] at hP
  have hD := hD1.weaken (fun _ q _ h => hFc q.1 h)
  generalize H1 = H at hP hS ⊢
  subst hw
  refine w_v (y := rv ad 4 o_3.2) rfl ?_
  refine tx_astore (x := o_3.2.map (ad 4)) (lv' := [(7, rv ad 4 o_3.2), (6, .int o_1.2), (0, .ref (ad 11 x0)), (1, .int x1), (2, .int x2), (3, .int x3), (4, .long x4)]) hx hb d_cJT_set_11 hl (by decide) rfl (fun ls hl => ?_)
  refine lv_aload_n hx hb d_cJT_set_13 rfl (lv_at hl 2 rfl) ?_
  refine lv_iload_n hx hb d_cJT_set_14 rfl (lv_at hl 5 rfl) ?_
  refine lv_iload hx hb d_cJT_set_15 (lv_at hl 1 rfl) ?_
  refine lv_iconst (v := 1) hx hb d_cJT_set_17 (by decide) ?_
  have hFc := fr_all hD hS hA
  rcases oe_some Heq with ⟨o_6, h_7, Heq⟩ | ⟨t_8, h_7, Heq⟩
  case inr =>
    obtain ⟨e9, e9a, e9b⟩ := tri Heq
    exact ((Kr _ e9).2 _ rfl).2 18 _ _ _ _ _ _ _ _ _ (by omega) (by omega) hX (d_cw _ hD) (tx_runV (As := [.int x3, .int o_1.2, .int 1]) (rest := []) ⟨hx, hb, hml, hown, hts⟩ (g_cJT_needValue_t l hfl D H.size (ad := ad) (cc := cc) (sad := sad) (sav := sav) h_7) (cw_v 3 hts kw_604 kw_601 kw_603 kp_4 kw_1 rfl rfl (by decide +kernel) ⟨Nat.le_of_ble_eq_true rfl, Nat.le_of_ble_eq_true rfl⟩) ⟨c_blind, va_recv hK hP (ci := 11) (q0 := cPos N 11 x0) rfl (cw_obj (k := 11) (by decide) hl_x0_11), fun U hU hW => c_pre hU hW hP hK hD hev hE hN hNS hS hFc⟩ rfl rfl hl.1 rfl (lv_room (Nat.le_of_ble_eq_true rfl)) d_cJT_set_18 ⟨(Nat.le_trans (m := CT) (by omega) hCT), (Nat.le_trans (m := ST) (by omega) hST)⟩) hFc hS
  refine va_callv (va_runV (As := [.int x3, .int o_1.2, .int 1]) (rest := []) ⟨hx, hb, hml, hown, hts⟩ (g_cJT_needValue l hfl D H.size (ad := ad) (cc := cc) (sad := sad) (sav := sav) h_7) (cw_v 3 hts kw_604 kw_601 kw_603 kp_4 kw_1 rfl rfl (by decide +kernel) ⟨Nat.le_of_ble_eq_true rfl, Nat.le_of_ble_eq_true rfl⟩) ⟨c_blind, va_recv hK hP (ci := 11) (q0 := cPos N 11 x0) rfl (cw_obj (k := 11) (by decide) hl_x0_11), fun U hU hW => c_pre hU hW hP hK hD hev hE hN hNS hS hFc⟩ rfl rfl hl.1 rfl (lv_room (Nat.le_of_ble_eq_true rfl)) d_cJT_set_18 ⟨(Nat.le_trans (m := CT) (by omega) hCT), (Nat.le_trans (m := ST) (by omega) hST)⟩) hS (fun q _ h => hFc q h) hFc (fun u t H1 locs ht hvm hw hB hz1 hk1 hS => ?_)
  obtain ⟨hP, -, hD1⟩ := hB
  rw [ht] at hP
  have hD := hD1.weaken (fun _ q _ h => hFc q.1 h)
  generalize H1 = H at hP hS ⊢
  refine lv_aload_n hx hb d_cJT_set_21 rfl (lv_at hl 2 rfl) ?_
  have hFc := fr_all hD hS hA
  rcases oe_some Heq with ⟨o_9, h_10, Heq⟩ | ⟨t_11, h_10, Heq⟩
  case inr =>
    obtain ⟨e9, e9a, e9b⟩ := tri Heq
    exact ((Kr _ e9).2 _ rfl).2 22 _ _ _ _ _ _ _ _ _ (by omega) (by omega) hX (d_cw _ hD) (tx_runV (As := []) (rest := []) ⟨hx, hb, hml, hown, hts⟩ (g_cJT_needKey_t l hfl D H.size (ad := ad) (cc := cc) (sad := sad) (sav := sav) h_10) (cw_v 0 hts kw_608 kw_605 kw_607 kp_5 kw_1 rfl rfl (by decide +kernel) ⟨Nat.le_of_ble_eq_true rfl, Nat.le_of_ble_eq_true rfl⟩) ⟨c_blind, va_recv hK hP (ci := 11) (q0 := cPos N 11 x0) rfl (cw_obj (k := 11) (by decide) hl_x0_11), fun U hU hW => c_pre hU hW hP hK hD hev hE hN hNS hS hFc⟩ rfl rfl hl.1 rfl (lv_room (Nat.le_of_ble_eq_true rfl)) d_cJT_set_22 ⟨(Nat.le_trans (m := CT) (by omega) hCT), (Nat.le_trans (m := ST) (by omega) hST)⟩) hFc hS
  refine va_callv (va_runV (As := []) (rest := []) ⟨hx, hb, hml, hown, hts⟩ (g_cJT_needKey l hfl D H.size (ad := ad) (cc := cc) (sad := sad) (sav := sav) h_10) (cw_v 0 hts kw_608 kw_605 kw_607 kp_5 kw_1 rfl rfl (by decide +kernel) ⟨Nat.le_of_ble_eq_true rfl, Nat.le_of_ble_eq_true rfl⟩) ⟨c_blind, va_recv hK hP (ci := 11) (q0 := cPos N 11 x0) rfl (cw_obj (k := 11) (by decide) hl_x0_11), fun U hU hW => c_pre hU hW hP hK hD hev hE hN hNS hS hFc⟩ rfl rfl hl.1 rfl (lv_room (Nat.le_of_ble_eq_true rfl)) d_cJT_set_22 ⟨(Nat.le_trans (m := CT) (by omega) hCT), (Nat.le_trans (m := ST) (by omega) hST)⟩) hS (fun q _ h => hFc q h) hFc (fun u t H1 locs ht hvm hw hB hz1 hk1 hS => ?_)
  obtain ⟨hP, -, hD1⟩ := hB
  rw [ht] at hP
  have hD := hD1.weaken (fun _ q _ h => hFc q.1 h)
  generalize H1 = H at hP hS ⊢
  refine lv_aload_n hx hb d_cJT_set_25 rfl (lv_at hl 2 rfl) ?_
  refine lv_iload_n hx hb d_cJT_set_26 rfl (lv_at hl 4 rfl) ?_
  have hFc := fr_all hD hS hA
  rcases oe_some Heq with ⟨o_12, h_13, Heq⟩ | ⟨t_14, h_13, Heq⟩
  case inr =>
    obtain ⟨e9, e9a, e9b⟩ := tri Heq
    exact ((Kr _ e9).2 _ rfl).2 27 _ _ _ _ _ _ _ _ _ (by omega) (by omega) hX (d_cw _ hD) (tx_runV (As := [.int x2]) (rest := []) ⟨hx, hb, hml, hown, hts⟩ (g_cJT_mapAt_t l hfl D H.size (ad := ad) (cc := cc) (sad := sad) (sav := sav) h_13) (cw_v 1 hts kw_612 kw_609 kw_611 kp_6 kw_1 rfl rfl (by decide +kernel) ⟨Nat.le_of_ble_eq_true rfl, Nat.le_of_ble_eq_true rfl⟩) ⟨c_blind, va_recv hK hP (ci := 11) (q0 := cPos N 11 x0) rfl (cw_obj (k := 11) (by decide) hl_x0_11), fun U hU hW => c_pre hU hW hP hK hD hev hE hN hNS hS hFc⟩ rfl rfl hl.1 rfl (lv_room (Nat.le_of_ble_eq_true rfl)) d_cJT_set_27 ⟨(Nat.le_trans (m := CT) (by omega) hCT), (Nat.le_trans (m := ST) (by omega) hST)⟩) hFc hS
  refine va_callq (va_runV (As := [.int x2]) (rest := []) ⟨hx, hb, hml, hown, hts⟩ (g_cJT_mapAt l hfl D H.size (ad := ad) (cc := cc) (sad := sad) (sav := sav) h_13) (cw_v 1 hts kw_612 kw_609 kw_611 kp_6 kw_1 rfl rfl (by decide +kernel) ⟨Nat.le_of_ble_eq_true rfl, Nat.le_of_ble_eq_true rfl⟩) ⟨c_blind, va_recv hK hP (ci := 11) (q0 := cPos N 11 x0) rfl (cw_obj (k := 11) (by decide) hl_x0_11), fun U hU hW => c_pre hU hW hP hK hD hev hE hN hNS hS hFc⟩ rfl rfl hl.1 rfl (lv_room (Nat.le_of_ble_eq_true rfl)) d_cJT_set_27 ⟨(Nat.le_trans (m := CT) (by omega) hCT), (Nat.le_trans (m := ST) (by omega) hST)⟩) hS (fun q _ h => hFc q h) hFc (fun rz u t H1 locs ht hvm hw hB hz1 hk1 hS => ?_)
  obtain ⟨hP, -, hD1⟩ := hB
  rw [ht] at hP
  have hD := hD1.weaken (fun _ q _ h => hFc q.1 h)
  generalize H1 = H at hP hS ⊢
  subst hw
  refine w_v (y := rv ad 3 o_12.2) rfl ?_
  refine tx_astore (x := o_12.2.map (ad 3)) (lv' := [(8, rv ad 3 o_12.2), (7, rv ad 4 o_3.2), (6, .int o_1.2), (0, .ref (ad 11 x0)), (1, .int x1), (2, .int x2), (3, .int x3), (4, .long x4)]) hx hb d_cJT_set_30 hl (by decide) (by simp [rv, rf_cat]) (fun ls hl => ?_)
  refine lv_aload_n hx hb d_cJT_set_32 rfl (lv_at hl 3 rfl) ?_
  refine tx_aload (x := o_3.2.map (ad 4)) hx hb d_cJT_set_33 (lv_at hl 1 rfl) ?_
  refine w_v (y := rv ad 4 o_3.2) rfl ?_
  obtain ⟨j_15, hj_16, hl_17, Heq⟩ := gn_some Heq
  refine w_s (st' := [.ref (ad 4 j_15), .ref (ad 11 x0)]) (congrArg (fun z9 : Option Nat => [rv ad 4 z9, .ref (ad 11 x0)]) hj_16) ?_
  have hFc := fr_all hD hS hA
  rcases oe_some Heq with ⟨o_18, h_19, Heq⟩ | ⟨t_20, h_19, Heq⟩
  case inr =>
    obtain ⟨e9, e9a, e9b⟩ := tri Heq
    exact ((Kr _ e9).2 _ rfl).2 35 _ _ _ _ _ _ _ _ _ (by omega) (by omega) hX (d_cw _ hD) (tx_runV (As := [.ref (ad 4 j_15)]) (rest := []) ⟨hx, hb, hml, hown, hts⟩ (g_cJT_needAll_t l hfl D H.size (ad := ad) (cc := cc) (sad := sad) (sav := sav) h_19) (cw_v 1 hts kw_647 kw_644 kw_646 kp_8 kw_1 rfl rfl (by decide +kernel) ⟨Nat.le_of_ble_eq_true rfl, Nat.le_of_ble_eq_true rfl⟩) ⟨c_blind, va_recv hK hP (ci := 11) (q0 := cPos N 11 x0) rfl (cw_obj (k := 11) (by decide) hl_x0_11), fun U hU hW => c_pre hU hW hP hK hD hev hE hN hNS hS hFc⟩ rfl rfl hl.1 rfl (lv_room (Nat.le_of_ble_eq_true rfl)) d_cJT_set_35 ⟨(Nat.le_trans (m := CT) (by omega) hCT), (Nat.le_trans (m := ST) (by omega) hST)⟩) hFc hS
  refine va_callv (va_runV (As := [.ref (ad 4 j_15)]) (rest := []) ⟨hx, hb, hml, hown, hts⟩ (g_cJT_needAll l hfl D H.size (ad := ad) (cc := cc) (sad := sad) (sav := sav) h_19) (cw_v 1 hts kw_647 kw_644 kw_646 kp_8 kw_1 rfl rfl (by decide +kernel) ⟨Nat.le_of_ble_eq_true rfl, Nat.le_of_ble_eq_true rfl⟩) ⟨c_blind, va_recv hK hP (ci := 11) (q0 := cPos N 11 x0) rfl (cw_obj (k := 11) (by decide) hl_x0_11), fun U hU hW => c_pre hU hW hP hK hD hev hE hN hNS hS hFc⟩ rfl rfl hl.1 rfl (lv_room (Nat.le_of_ble_eq_true rfl)) d_cJT_set_35 ⟨(Nat.le_trans (m := CT) (by omega) hCT), (Nat.le_trans (m := ST) (by omega) hST)⟩) hS (fun q _ h => hFc q h) hFc (fun u t H1 locs ht hvm hw hB hz1 hk1 hS => ?_)
  obtain ⟨hP, -, hD1⟩ := hB
  rw [ht] at hP
  have hD := hD1.weaken (fun _ q _ h => hFc q.1 h)
  generalize H1 = H at hP hS ⊢
  refine lv_aload_n hx hb d_cJT_set_38 rfl (lv_at hl 3 rfl) ?_
  refine lv_iconst (v := 1) hx hb d_cJT_set_39 (by decide) ?_
  refine lv_aload_n hx hb d_cJT_set_40 rfl (lv_at hl 3 rfl) ?_
  refine va_get (D := D) (ci := 11) (v := rv ad 5 (o_18.r 11 9 x0)) (C := R_JT) (T := F_JT) (N := 13) hx hb hts i_JT hown hK hP (cPos N 11 x0) (cw_obj (k := 11) (by decide) hl_x0_11) rfl 9 (by decide) (hts _ kw_430) (fun _ h9 => h9) rfl d_cJT_set_41 ?_
  obtain ⟨j_21, hj_22, hl_23, Heq⟩ := gn_some Heq
  refine w_s (st' := [.ref (ad 5 j_21), .int 1, .ref (ad 11 x0)]) (congrArg (fun z9 : Option Nat => [rv ad 5 z9, .int 1, .ref (ad 11 x0)]) hj_22) ?_
  refine va_get (D := D) (ci := 5) (v := .int (o_18.i 5 1 j_21)) (C := R_Rw) (T := F_Rw) (N := 3) hx hb hts i_Rw hown hK hP (cPos N 5 j_21) (cw_obj (k := 5) (by decide) hl_23) rfl 1 (by decide) (hts _ kw_143) (fun _ h9 => h9) rfl d_cJT_set_44 ?_
  refine lv_iload_n hx hb d_cJT_set_47 rfl (lv_at hl 6 rfl) ?_
  refine lv_aload_n hx hb d_cJT_set_48 rfl (lv_at hl 3 rfl) ?_
  refine va_get (D := D) (ci := 11) (v := rv ad 5 (o_18.r 11 10 x0)) (C := R_JT) (T := F_JT) (N := 13) hx hb hts i_JT hown hK hP (cPos N 11 x0) (cw_obj (k := 11) (by decide) hl_x0_11) rfl 10 (by decide) (hts _ kw_431) (fun _ h9 => h9) rfl d_cJT_set_49 ?_
  obtain ⟨j_24, hj_25, hl_26, Heq⟩ := gn_some Heq
  refine w_s (st' := [.ref (ad 5 j_24), .int x3, .int (o_18.i 5 1 j_21), .int 1, .ref (ad 11 x0)]) (congrArg (fun z9 : Option Nat => [rv ad 5 z9, .int x3, .int (o_18.i 5 1 j_21), .int 1, .ref (ad 11 x0)]) hj_25) ?_
  obtain ⟨o_27, h_28, Heq⟩ := ob_some Heq
  have hFc := fr_all hD hS hA
  refine va_calli (va_runS (As := [.int x3, .ref (ad 5 j_24)]) (rest := [.int (o_18.i 5 1 j_21), .int 1, .ref (ad 11 x0)]) ⟨hx, hb, hml, hown, hts⟩ (g_cJT_stringLength l D H.size (ad := ad) (cc := cc) (sad := sad) (sav := sav) h_28) (cw_s 2 hts kw_665 kw_663 kw_664 kw_1 rfl rfl (by decide +kernel) ⟨Nat.le_of_ble_eq_true rfl, Nat.le_of_ble_eq_true rfl⟩) ⟨c_blind, fun U hU hW => c_pre hU hW hP hK hD hev hE hN hNS hS hFc⟩ rfl rfl hl.1 rfl (lv_room (Nat.le_of_ble_eq_true rfl)) d_cJT_set_52 ⟨(Nat.le_trans (m := CT) (by omega) hCT), (Nat.le_trans (m := ST) (by omega) hST)⟩) hS (fun q _ h => hFc q h) hFc (fun rz u t H1 locs ht hvm hw hB hz1 hk1 hS => ?_)
  obtain ⟨hP, -, hD1⟩ := hB
  rw [ht] at hP
  have hD := hD1.weaken (fun _ q _ h => hFc q.1 h)
  generalize H1 = H at hP hS ⊢
  subst hw
  refine lv_iadd hx hb d_cJT_set_55 ?_
  refine w_i (y := (o_18.i 5 1 j_21) + o_27.2) rfl ?_
  have hFc := fr_all hD hS hA
  rcases oe_some Heq with ⟨o_29, h_30, Heq⟩ | ⟨t_31, h_30, Heq⟩
  case inr =>
    obtain ⟨e9, e9a, e9b⟩ := tri Heq
    exact ((Kr _ e9).2 _ rfl).2 56 _ _ _ _ _ _ _ _ _ (by omega) (by omega) hX (d_cw _ hD) (tx_runV (As := [.int 1, .int ((o_18.i 5 1 j_21) + o_27.2)]) (rest := []) ⟨hx, hb, hml, hown, hts⟩ (g_cJT_needRoom_t l hfl D H.size (ad := ad) (cc := cc) (sad := sad) (sav := sav) h_30) (cw_v 2 hts kw_669 kw_666 kw_668 kp_9 kw_1 rfl rfl (by decide +kernel) ⟨Nat.le_of_ble_eq_true rfl, Nat.le_of_ble_eq_true rfl⟩) ⟨c_blind, va_recv hK hP (ci := 11) (q0 := cPos N 11 x0) rfl (cw_obj (k := 11) (by decide) hl_x0_11), fun U hU hW => c_pre hU hW hP hK hD hev hE hN hNS hS hFc⟩ rfl rfl hl.1 rfl (lv_room (Nat.le_of_ble_eq_true rfl)) d_cJT_set_56 ⟨(Nat.le_trans (m := CT) (by omega) hCT), (Nat.le_trans (m := ST) (by omega) hST)⟩) hFc hS
  refine va_callv (va_runV (As := [.int 1, .int ((o_18.i 5 1 j_21) + o_27.2)]) (rest := []) ⟨hx, hb, hml, hown, hts⟩ (g_cJT_needRoom l hfl D H.size (ad := ad) (cc := cc) (sad := sad) (sav := sav) h_30) (cw_v 2 hts kw_669 kw_666 kw_668 kp_9 kw_1 rfl rfl (by decide +kernel) ⟨Nat.le_of_ble_eq_true rfl, Nat.le_of_ble_eq_true rfl⟩) ⟨c_blind, va_recv hK hP (ci := 11) (q0 := cPos N 11 x0) rfl (cw_obj (k := 11) (by decide) hl_x0_11), fun U hU hW => c_pre hU hW hP hK hD hev hE hN hNS hS hFc⟩ rfl rfl hl.1 rfl (lv_room (Nat.le_of_ble_eq_true rfl)) d_cJT_set_56 ⟨(Nat.le_trans (m := CT) (by omega) hCT), (Nat.le_trans (m := ST) (by omega) hST)⟩) hS (fun q _ h => hFc q h) hFc (fun u t H1 locs ht hvm hw hB hz1 hk1 hS => ?_)
  obtain ⟨hP, -, hD1⟩ := hB
  rw [ht] at hP
  have hD := hD1.weaken (fun _ q _ h => hFc q.1 h)
  generalize H1 = H at hP hS ⊢
  refine lv_aload_n hx hb d_cJT_set_59 rfl (lv_at hl 3 rfl) ?_
  refine tx_aload (x := o_3.2.map (ad 4)) hx hb d_cJT_set_60 (lv_at hl 1 rfl) ?_
  refine w_v (y := rv ad 4 o_3.2) rfl ?_
  refine tx_aload (x := o_12.2.map (ad 3)) hx hb d_cJT_set_62 (lv_at hl 0 rfl) ?_
  refine w_v (y := rv ad 3 o_12.2) rfl ?_
  refine lv_aload_n hx hb d_cJT_set_64 rfl (lv_at hl 3 rfl) ?_
  refine va_get (D := D) (ci := 11) (v := rv ad 5 (o_29.r 11 9 x0)) (C := R_JT) (T := F_JT) (N := 13) hx hb hts i_JT hown hK hP (cPos N 11 x0) (cw_obj (k := 11) (by decide) hl_x0_11) rfl 9 (by decide) (hts _ kw_430) (fun _ h9 => h9) rfl d_cJT_set_65 ?_
  refine lv_iconst (v := 0) hx hb d_cJT_set_68 (by decide) ?_
  refine lv_aload_n hx hb d_cJT_set_69 rfl (lv_at hl 3 rfl) ?_
  refine va_get (D := D) (ci := 11) (v := rv ad 5 (o_29.r 11 9 x0)) (C := R_JT) (T := F_JT) (N := 13) hx hb hts i_JT hown hK hP (cPos N 11 x0) (cw_obj (k := 11) (by decide) hl_x0_11) rfl 9 (by decide) (hts _ kw_430) (fun _ h9 => h9) rfl d_cJT_set_70 ?_
  obtain ⟨j_32, hj_33, hl_34, Heq⟩ := gn_some Heq
  refine w_s (st' := [.ref (ad 5 j_32), .int 0, rv ad 5 (o_29.r 11 9 x0), rv ad 3 o_12.2, rv ad 4 o_3.2, .ref (ad 11 x0)]) (congrArg (fun z9 : Option Nat => [rv ad 5 z9, .int 0, rv ad 5 (o_29.r 11 9 x0), rv ad 3 o_12.2, rv ad 4 o_3.2, .ref (ad 11 x0)]) hj_33) ?_
  refine va_get (D := D) (ci := 5) (v := .int (o_29.i 5 1 j_32)) (C := R_Rw) (T := F_Rw) (N := 3) hx hb hts i_Rw hown hK hP (cPos N 5 j_32) (cw_obj (k := 5) (by decide) hl_34) rfl 1 (by decide) (hts _ kw_143) (fun _ h9 => h9) rfl d_cJT_set_73 ?_
  refine lv_iload_n hx hb d_cJT_set_76 rfl (lv_at hl 6 rfl) ?_
  refine lv_lload hx hb d_cJT_set_77 (lv_at hl 7 rfl) ?_
  refine w_s (st' := [.long x4, .int x3, .int (o_29.i 5 1 j_32), .int 0, .ref (ad 5 j_32), rv ad 3 o_12.2, rv ad 4 o_3.2, .ref (ad 11 x0)]) (congrArg (fun z9 : Option Nat => [.long x4, .int x3, .int (o_29.i 5 1 j_32), .int 0, rv ad 5 z9, rv ad 3 o_12.2, rv ad 4 o_3.2, .ref (ad 11 x0)]) hj_33) ?_
  obtain ⟨j_35, hj_36, hl_37, Heq⟩ := gn_some Heq
  refine w_s (st' := [.long x4, .int x3, .int (o_29.i 5 1 j_32), .int 0, .ref (ad 5 j_32), .ref (ad 3 j_35), rv ad 4 o_3.2, .ref (ad 11 x0)]) (congrArg (fun z9 : Option Nat => [.long x4, .int x3, .int (o_29.i 5 1 j_32), .int 0, .ref (ad 5 j_32), rv ad 3 z9, rv ad 4 o_3.2, .ref (ad 11 x0)]) hj_36) ?_
  refine w_s (st' := [.long x4, .int x3, .int (o_29.i 5 1 j_32), .int 0, .ref (ad 5 j_32), .ref (ad 3 j_35), .ref (ad 4 j_15), .ref (ad 11 x0)]) (congrArg (fun z9 : Option Nat => [.long x4, .int x3, .int (o_29.i 5 1 j_32), .int 0, .ref (ad 5 j_32), .ref (ad 3 j_35), rv ad 4 z9, .ref (ad 11 x0)]) hj_16) ?_
  have hl : lv_has ls 10 [(0, .ref (ad 11 x0))] := lv_sub hl [3] rfl
  obtain ⟨N_40, S_41, v_42, a9, b9, a8, b8, h_39, Heq, e9a, e9b⟩ := oq_some Heq
  have hFc := fr_all hD hS hA
  refine va_callq (va_runV (As := [.ref (ad 4 j_15), .ref (ad 3 j_35), .ref (ad 5 j_32), .int 0, .int (o_29.i 5 1 j_32), .int x3, .long x4]) (rest := []) ⟨hx, hb, hml, hown, hts⟩ (g_cJT_writeAtKey l D H.size (ad := ad) (cc := cc) (sad := sad) (sav := sav) h_39) (cw_v 7 hts kw_673 kw_670 kw_672 kp_10 kw_1 rfl rfl (by decide +kernel) ⟨Nat.le_of_ble_eq_true rfl, Nat.le_of_ble_eq_true rfl⟩) ⟨c_blind, va_recv hK hP (ci := 11) (q0 := cPos N 11 x0) rfl (cw_obj (k := 11) (by decide) hl_x0_11), fun U hU hW => c_pre hU hW hP hK hD hev hE hN hNS hS hFc⟩ rfl rfl hl.1 rfl (lv_room (Nat.le_of_ble_eq_true rfl)) d_cJT_set_79 ⟨(Nat.le_trans (m := CT) (by omega) hCT), (Nat.le_trans (m := ST) (by omega) hST)⟩) hS (fun q _ h => hFc q h) hFc (fun rz ad t H1 locs ht hvm hw hB hz1 hk1 hS => ?_)
  obtain ⟨hX1, hP, -, hD1⟩ := hB
  rw [ht] at hP
  have hD := hD1.weaken (fun _ q _ h => hFc q.1 h)
  generalize H1 = H at hP hS ⊢
  subst hw
  refine w_v (y := rv ad 3 v_42) rfl ?_
  have hX := hX.tr hX1
  have hl : lv_has ls 10 [(0, .ref (ad 11 x0))] := lv_cast hl (by first | rfl | simp only [hX1.2 11 x0 hl_x0_11])
  refine w_s (st' := [rv ad 3 v_42]) (by first | rfl | simp only [hX1.2 11 x0 hl_x0_11]) ?_
  have hl_x0_11 := Nat.lt_of_lt_of_le hl_x0_11 (hX1.1 11)
  have hl_17 := Nat.lt_of_lt_of_le hl_17 (hX1.1 4)
  have hl_23 := Nat.lt_of_lt_of_le hl_23 (hX1.1 5)
  have hl_26 := Nat.lt_of_lt_of_le hl_26 (hX1.1 5)
  have hl_34 := Nat.lt_of_lt_of_le hl_34 (hX1.1 5)
  have hl_37 := Nat.lt_of_lt_of_le hl_37 (hX1.1 3)
  refine tx_astore (x := v_42.map (ad 3)) (lv' := [(9, rv ad 3 v_42), (0, .ref (ad 11 x0))]) hx hb d_cJT_set_82 hl (by decide) rfl (fun ls hl => ?_)
  refine lv_aload_n hx hb d_cJT_set_84 rfl (lv_at hl 1 rfl) ?_
  refine tx_aload (x := v_42.map (ad 3)) hx hb d_cJT_set_85 (lv_at hl 0 rfl) ?_
  refine w_v (y := rv ad 3 v_42) rfl ?_
  refine lv_aload_n hx hb d_cJT_set_87 rfl (lv_at hl 1 rfl) ?_
  refine va_get (D := D) (ci := 11) (v := rv ad 5 (S_41.r 11 10 x0)) (C := R_JT) (T := F_JT) (N := 13) hx hb hts i_JT hown hK hP (cPos N_40 11 x0) (cw_obj (k := 11) (by decide) hl_x0_11) rfl 10 (by decide) (hts _ kw_431) (fun _ h9 => h9) rfl d_cJT_set_88 ?_
  obtain ⟨j_43, hj_44, hl_45, Heq⟩ := gn_some Heq
  refine w_s (st' := [.ref (ad 5 j_43), rv ad 3 v_42, .ref (ad 11 x0)]) (congrArg (fun z9 : Option Nat => [rv ad 5 z9, rv ad 3 v_42, .ref (ad 11 x0)]) hj_44) ?_
  obtain ⟨j_46, hj_47, hl_48, Heq⟩ := gn_some Heq
  refine w_s (st' := [.ref (ad 5 j_43), .ref (ad 3 j_46), .ref (ad 11 x0)]) (congrArg (fun z9 : Option Nat => [.ref (ad 5 j_43), rv ad 3 z9, .ref (ad 11 x0)]) hj_47) ?_
  obtain ⟨o_49, h_50, Heq⟩ := ob_some Heq
  have hFc := fr_all hD hS hA
  refine va_callv (va_runV (As := [.ref (ad 3 j_46), .ref (ad 5 j_43)]) (rest := []) ⟨hx, hb, hml, hown, hts⟩ (g_cJT_giveString l D H.size (ad := ad) (cc := cc) (sad := sad) (sav := sav) h_50) (cw_v 2 hts kw_761 kw_758 kw_760 kp_12 kw_1 rfl rfl (by decide +kernel) ⟨Nat.le_of_ble_eq_true rfl, Nat.le_of_ble_eq_true rfl⟩) ⟨c_blind, va_recv hK hP (ci := 11) (q0 := cPos N_40 11 x0) rfl (cw_obj (k := 11) (by decide) hl_x0_11), fun U hU hW => c_pre hU hW hP hK hD hev hE hN hNS hS hFc⟩ rfl rfl hl.1 rfl (lv_room (Nat.le_of_ble_eq_true rfl)) d_cJT_set_91 ⟨(Nat.le_trans (m := CT) (by omega) hCT), (Nat.le_trans (m := ST) (by omega) hST)⟩) hS (fun q _ h => hFc q h) hFc (fun u t H1 locs ht hvm hw hB hz1 hk1 hS => ?_)
  obtain ⟨hP, -, hD1⟩ := hB
  rw [ht] at hP
  have hD := hD1.weaken (fun _ q _ h => hFc q.1 h)
  generalize H1 = H at hP hS ⊢
  refine tx_aload (x := v_42.map (ad 3)) hx hb d_cJT_set_94 (lv_at hl 0 rfl) ?_
  refine w_v (y := rv ad 3 v_42) rfl ?_
  refine w_s (st' := [.ref (ad 3 j_46)]) (congrArg (fun z9 : Option Nat => [rv ad 3 z9]) hj_47) ?_
  refine va_get (D := D) (ci := 3) (v := .int (o_49.i 3 0 j_46)) (C := R_Op) (T := F_Op) (N := 15) hx hb hts i_Op hown hK hP (cPos N_40 3 j_46) (cw_obj (k := 3) (by decide) hl_48) rfl 0 (by decide) (hts _ kw_52) (fun _ h9 => h9) rfl d_cJT_set_96 ?_
  obtain ⟨e9, e9a, e9b⟩ := tri Heq
  refine W.cs (cells' := CT) (slots' := ST) (by omega) (by omega) ?_
  exact (Kr _ e9).1 _ rfl 99 _ _ _ _ d_cJT_set_99 hX hP hD hS
noncomputable def m_cJT_set (N : Nat → Nat) (x0 : Nat) (S : CS) (x1 : Int32) (x2 : Int32) (x3 : Int32) (x4 : Int64) : Option (((((Nat → Nat) × CS × Int32) ⊕ ((Nat → Nat) × CS × Nat))) × Nat × Nat) := m_cJT_set_J0 N x0 S x1 x2 x3 x4
set_option maxHeartbeats 4000000 in
theorem g_cJT_set (l : Launch) (hfl : l.flags = flags0) (D : va_G) (sz : Nat) {ad : Nat → Nat → Nat} {cc : Nat → ClassId} {sad sav : Nat → Nat} {N : Nat → Nat} {x0 : Nat} {S : CS} {x1 : Int32} {x2 : Int32} {x3 : Int32} {x4 : Int64} {o : (Nat → Nat) × CS × Int32} {oc os : Nat} (Heq : m_cJT_set N x0 S x1 x2 x3 x4 = some (.inl o, oc, os)) : Met l ⟨"JoinedTrees", "set", "(IIIJ)I"⟩ (Cond.code ⟨"JoinedTrees", "set", "(IIIJ)I"⟩ prog_1_method_4_code 10 (some .int) :: gb) ({ frames := 8, cells := oc, slots := os, locals := 140 }) (cPc sad sav D (cw ad cc N S) (cty cc) sz [.ref (ad 11 x0), .int x1, .int x2, .int x3, .long x4]) (va_Qi (fun (r : Int32) (_ : Nat → Nat → Nat) => r = o.2.2) (fun (u : Nat → Nat → Nat) t => Ext ad N u o.1 ∧ gO D (cw u cc o.1 o.2.1) (cty cc) (va_A (cw ad cc N S) sz) t) (va_A (cw ad cc N S) sz)) oc os (va_A (cw ad cc N S) sz) := by
  refine Met.ofW (cc := prog_1_method_4_code) (maxL := 10) (ret := (some .int)) (by decide) rfl ?_
  intro p e s m args below meth c s₁ B hml hv
  obtain ⟨rfl, hsz, hP, hK, hD0, hev, hE, hN⟩ := hv
  have hx := B.exec
  have hb := B.bytes
  have hr := B.returns
  have hts : ∀ w9 ∈ gb, w9.before [.ref (ad 11 x0), .int x1, .int x2, .int x3, .long x4].toArray s = true := fun w9 h => atoms_spec (ws := Cond.code ⟨"JoinedTrees", "set", "(IIIJ)I"⟩ prog_1_method_4_code 10 (some .int) :: gb) B.pre w9 (List.mem_cons_of_mem _ h)
  have hown : s.vm.findClass "JoinedTrees" = some m.cls := findClass_of_methodNamed B.named
  have hlocks := B.notSynchronized
  have hNS := ns_of hP
  subst hsz
  have hD := hD0.self (sz := s.heap.size)
  generalize hAe : va_A (cw ad cc N S) s.heap.size = A at hD hev hE hNS ⊢
  have hA : ∀ q : Nat, s.heap.size ≤ q → A q := fun q h => by rw [← hAe]; exact Or.inr h
  have hS : va_S A s.heap s.heap [] := va_S.rf
  obtain ⟨ls, hl, hle⟩ : ∃ ls : Array Slot, lv_has ls 10 [(0, .ref (ad 11 x0)), (1, .int x1), (2, .int x2), (3, .int x3), (4, .long x4)] ∧ entryFrame m ([.ref (ad 11 x0), .int x1, .int x2, .int x3, .long x4] : List Value).toArray 10 = F0 m 0 ls [] := by
    exact ⟨_, lv_entry (n := 10) _ (Nat.le_of_ble_eq_true rfl), lg_entry_eq ..⟩
  rw [hle]
  refine w_cJT_set_J0 (ad0 := ad) (N0 := N) (CT := oc) (ST := os) (cR := oc) (sR := os) hfl ⟨hx, hb, hr, hml, hown, hts, hK, hA, hev, hE, hN, hNS⟩ (Nat.le_refl _) (Nat.le_refl _) Heq (fun r h => ⟨fun v9 hv9 pc ad1 H locs ls hd hX hP hD hS => ?_, fun t9 ht9 => (by subst h; cases ht9)⟩) _ _ _ _ 0 0 Ext.rf (Nat.zero_add _) (Nat.zero_add _) hP hD hS (lv_sub hl [0, 1, 2, 3, 4] rfl)
  subst h
  cases hv9
  exact W.iret hx hb hr (fun t ht hW => ⟨⟨_, ad1, rfl, rfl, hX, by rw [ht]; exact hP, va_K.moved hW.alike hK, hD⟩, hS.F ht⟩) hS.2.2 hd
set_option maxHeartbeats 4000000 in
theorem g_cJT_set_t (l : Launch) (hfl : l.flags = flags0) (D : va_G) (sz : Nat) {ad : Nat → Nat → Nat} {cc : Nat → ClassId} {sad sav : Nat → Nat} {N : Nat → Nat} {x0 : Nat} {S : CS} {x1 : Int32} {x2 : Int32} {x3 : Int32} {x4 : Int64} {o : (Nat → Nat) × CS × Nat} {oc os : Nat} (Heq : m_cJT_set N x0 S x1 x2 x3 x4 = some (.inr o, oc, os)) : MeT l ⟨"JoinedTrees", "set", "(IIIJ)I"⟩ (Cond.code ⟨"JoinedTrees", "set", "(IIIJ)I"⟩ prog_1_method_4_code 10 (some .int) :: gb) ({ frames := 8, cells := oc, slots := os, locals := 140 }) (cPc sad sav D (cw ad cc N S) (cty cc) sz [.ref (ad 11 x0), .int x1, .int x2, .int x3, .long x4]) (exN o.2.2) (va_A (cw ad cc N S) sz) (fun H1 => ∃ ad1 : Nat → Nat → Nat, Ext ad N ad1 o.1 ∧ va_P D cls (cw ad1 cc o.1 o.2.1) H1 ∧ va_D (va_A (cw ad cc N S) sz) (cw ad1 cc o.1 o.2.1)) oc os := by
  refine MeT.ofW (cc := prog_1_method_4_code) (maxL := 10) (ret := (some .int)) (by decide) rfl ?_
  intro p e s m args below meth c s₁ B hml hno hv
  obtain ⟨rfl, hsz, hP, hK, hD0, hev, hE, hN⟩ := hv
  have hx := B.exec
  have hb := B.bytes
  have hr := B.returns
  have hts : ∀ w9 ∈ gb, w9.before [.ref (ad 11 x0), .int x1, .int x2, .int x3, .long x4].toArray s = true := fun w9 h => atoms_spec (ws := Cond.code ⟨"JoinedTrees", "set", "(IIIJ)I"⟩ prog_1_method_4_code 10 (some .int) :: gb) B.pre w9 (List.mem_cons_of_mem _ h)
  have hown : s.vm.findClass "JoinedTrees" = some m.cls := findClass_of_methodNamed B.named
  have hlocks := B.notSynchronized
  have hNS := ns_of hP
  subst hsz
  have hD := hD0.self (sz := s.heap.size)
  generalize hAe : va_A (cw ad cc N S) s.heap.size = A at hD hev hE hNS ⊢
  have hA : ∀ q : Nat, s.heap.size ≤ q → A q := fun q h => by rw [← hAe]; exact Or.inr h
  have hS : va_S A s.heap s.heap [] := va_S.rf
  obtain ⟨ls, hl, hle⟩ : ∃ ls : Array Slot, lv_has ls 10 [(0, .ref (ad 11 x0)), (1, .int x1), (2, .int x2), (3, .int x3), (4, .long x4)] ∧ entryFrame m ([.ref (ad 11 x0), .int x1, .int x2, .int x3, .long x4] : List Value).toArray 10 = F0 m 0 ls [] := by
    exact ⟨_, lv_entry (n := 10) _ (Nat.le_of_ble_eq_true rfl), lg_entry_eq ..⟩
  rw [hle]
  refine w_cJT_set_J0 (ad0 := ad) (N0 := N) (CT := oc) (ST := os) (cR := oc) (sR := os) hfl ⟨hx, hb, hr, hml, hown, hts, hK, hA, hev, hE, hN, hNS⟩ (Nat.le_refl _) (Nat.le_refl _) Heq (fun r h => ⟨fun v9 hv9 => (by subst h; cases hv9), fun t9 ht9 => ⟨fun pc ad1 H locs ls cells slots hc1 hs1 hd hsz hX hP hD hS => ?_, fun pc ad1 H locs ls st0 rest9 A9 cells slots hc1 hs1 hX hD hr9 hF9 hS => ?_⟩⟩) _ _ _ _ 0 0 Ext.rf (Nat.zero_add _) (Nat.zero_add _) hP hD hS (lv_sub hl [0, 1, 2, 3, 4] rfl)
  · subst h; cases ht9; subst hc1 hs1; exact tx_thrB hfl hx hb hno hlocks hown hts hev hN hNS hd (hsz.trans hml.symm) hP hS hA (Nat.le_refl _) (Nat.le_refl _) (Nat.le_of_ble_eq_true rfl) (Nat.le_of_ble_eq_true rfl) (fun H1 h1 => ⟨ad1, hX, h1, hD⟩)
  · subst h; cases ht9; subst hc1 hs1; exact tx_on (tx_Thr.mono hr9 (fun H1 h1 => ⟨ad1, hX, h1, hD⟩)) hno hlocks hS hF9
noncomputable def m_cJT_put_J0 (N : Nat → Nat) (x0 : Nat) (S : CS) (x1 : Int32) (x2 : Int32) (x3 : Int32) (x4 : Int32) (x5 : Int64) : Option ((((Nat → Nat) × CS × Int32) ⊕ ((Nat → Nat) × CS × Nat)) × Nat × Nat) := gl x0 (N 11) (ob (m_cJT_takeArguments N x0 S) (fun o_1 => oe (m_cJT_shown N x0 o_1.1 x1) (fun o_3 => oe (m_cJT_needValue N x0 o_3.1 x4 o_1.2 0) (fun o_6 => oe (m_cJT_listAt N x0 o_6 x2) (fun o_9 => gn o_9.2 (N 3) (fun j_12 => gn (o_6.r 11 2 x0) (N 10) (fun j_15 => ob (m_cVw_spotAt N j_15 o_9.1 j_12 x3) (fun o_18 => oe (m_cJT_needSpot N x0 o_18.1 o_18.2) (fun o_20 => gn o_3.2 (N 4) (fun j_23 => oe (m_cJT_needAll N x0 o_20 j_23) (fun o_26 => gn (o_26.r 11 9 x0) (N 5) (fun j_29 => ob (m_cJT_stringLength N o_26 x4 j_29) (fun o_32 => oe (m_cJT_needRoom N x0 o_32.1 1 o_32.2) (fun o_34 => gn o_18.2 (N 7) (fun j_37 => oq (m_cJT_writeOn N x0 o_34 j_23 j_37 x4 x5) (fun N_42 S_43 v_44 => gn (S_43.r 11 9 x0) (N_42 5) (fun j_45 => gn v_44 (N_42 3) (fun j_48 => ob (m_cJT_giveString N_42 x0 S_43 j_48 j_45) (fun o_51 => some ((.inl (N_42, o_51, o_51.i 3 0 j_48)), 0, 0))))))) (fun t_36 => some ((.inr (N, t_36.1, t_36.2)), 1, 6))))) (fun t_28 => some ((.inr (N, t_28.1, t_28.2)), 1, 6)))) (fun t_22 => some ((.inr (N, t_22.1, t_22.2)), 1, 6)))))) (fun t_11 => some ((.inr (N, t_11.1, t_11.2)), 1, 6))) (fun t_8 => some ((.inr (N, t_8.1, t_8.2)), 1, 6))) (fun t_5 => some ((.inr (N, t_5.1, t_5.2)), 1, 6))))
theorem d_cJT_put_0 : decode prog_1_method_5_code 0 = .ok (.aload_n 0, 1) := by decide +kernel
theorem d_cJT_put_1 : decode prog_1_method_5_code 1 = .ok (.invokevirtual 102, 3) := by decide +kernel
theorem d_cJT_put_4 : decode prog_1_method_5_code 4 = .ok (.istore 7, 2) := by decide +kernel
theorem d_cJT_put_6 : decode prog_1_method_5_code 6 = .ok (.aload_n 0, 1) := by decide +kernel
theorem d_cJT_put_7 : decode prog_1_method_5_code 7 = .ok (.iload_n 1, 1) := by decide +kernel
theorem d_cJT_put_8 : decode prog_1_method_5_code 8 = .ok (.invokevirtual 105, 3) := by decide +kernel
theorem d_cJT_put_11 : decode prog_1_method_5_code 11 = .ok (.astore 8, 2) := by decide +kernel
theorem d_cJT_put_13 : decode prog_1_method_5_code 13 = .ok (.aload_n 0, 1) := by decide +kernel
theorem d_cJT_put_14 : decode prog_1_method_5_code 14 = .ok (.iload 4, 2) := by decide +kernel
theorem d_cJT_put_16 : decode prog_1_method_5_code 16 = .ok (.iload 7, 2) := by decide +kernel
theorem d_cJT_put_18 : decode prog_1_method_5_code 18 = .ok (.iconst 0, 1) := by decide +kernel
theorem d_cJT_put_19 : decode prog_1_method_5_code 19 = .ok (.invokevirtual 109, 3) := by decide +kernel
theorem d_cJT_put_22 : decode prog_1_method_5_code 22 = .ok (.aload_n 0, 1) := by decide +kernel
theorem d_cJT_put_23 : decode prog_1_method_5_code 23 = .ok (.getfield 30, 3) := by decide +kernel
theorem d_cJT_put_26 : decode prog_1_method_5_code 26 = .ok (.aload_n 0, 1) := by decide +kernel
theorem d_cJT_put_27 : decode prog_1_method_5_code 27 = .ok (.iload_n 2, 1) := by decide +kernel
theorem d_cJT_put_28 : decode prog_1_method_5_code 28 = .ok (.invokevirtual 145, 3) := by decide +kernel
theorem d_cJT_put_31 : decode prog_1_method_5_code 31 = .ok (.iload_n 3, 1) := by decide +kernel
theorem d_cJT_put_32 : decode prog_1_method_5_code 32 = .ok (.invokevirtual 148, 3) := by decide +kernel
theorem d_cJT_put_35 : decode prog_1_method_5_code 35 = .ok (.astore 9, 2) := by decide +kernel
theorem d_cJT_put_37 : decode prog_1_method_5_code 37 = .ok (.aload_n 0, 1) := by decide +kernel
theorem d_cJT_put_38 : decode prog_1_method_5_code 38 = .ok (.aload 9, 2) := by decide +kernel
theorem d_cJT_put_40 : decode prog_1_method_5_code 40 = .ok (.invokevirtual 152, 3) := by decide +kernel
theorem d_cJT_put_43 : decode prog_1_method_5_code 43 = .ok (.aload_n 0, 1) := by decide +kernel
theorem d_cJT_put_44 : decode prog_1_method_5_code 44 = .ok (.aload 8, 2) := by decide +kernel
theorem d_cJT_put_46 : decode prog_1_method_5_code 46 = .ok (.invokevirtual 120, 3) := by decide +kernel
theorem d_cJT_put_49 : decode prog_1_method_5_code 49 = .ok (.aload_n 0, 1) := by decide +kernel
theorem d_cJT_put_50 : decode prog_1_method_5_code 50 = .ok (.iconst 1, 1) := by decide +kernel
theorem d_cJT_put_51 : decode prog_1_method_5_code 51 = .ok (.iload 4, 2) := by decide +kernel
theorem d_cJT_put_53 : decode prog_1_method_5_code 53 = .ok (.aload_n 0, 1) := by decide +kernel
theorem d_cJT_put_54 : decode prog_1_method_5_code 54 = .ok (.getfield 70, 3) := by decide +kernel
theorem d_cJT_put_57 : decode prog_1_method_5_code 57 = .ok (.invokestatic 124, 3) := by decide +kernel
theorem d_cJT_put_60 : decode prog_1_method_5_code 60 = .ok (.invokevirtual 128, 3) := by decide +kernel
theorem d_cJT_put_63 : decode prog_1_method_5_code 63 = .ok (.aload_n 0, 1) := by decide +kernel
theorem d_cJT_put_64 : decode prog_1_method_5_code 64 = .ok (.aload 8, 2) := by decide +kernel
theorem d_cJT_put_66 : decode prog_1_method_5_code 66 = .ok (.aload 9, 2) := by decide +kernel
theorem d_cJT_put_68 : decode prog_1_method_5_code 68 = .ok (.iload 4, 2) := by decide +kernel
theorem d_cJT_put_70 : decode prog_1_method_5_code 70 = .ok (.lload 5, 2) := by decide +kernel
theorem d_cJT_put_72 : decode prog_1_method_5_code 72 = .ok (.invokevirtual 156, 3) := by decide +kernel
theorem d_cJT_put_75 : decode prog_1_method_5_code 75 = .ok (.astore 10, 2) := by decide +kernel
theorem d_cJT_put_77 : decode prog_1_method_5_code 77 = .ok (.aload_n 0, 1) := by decide +kernel
theorem d_cJT_put_78 : decode prog_1_method_5_code 78 = .ok (.aload 10, 2) := by decide +kernel
theorem d_cJT_put_80 : decode prog_1_method_5_code 80 = .ok (.aload_n 0, 1) := by decide +kernel
theorem d_cJT_put_81 : decode prog_1_method_5_code 81 = .ok (.getfield 70, 3) := by decide +kernel
theorem d_cJT_put_84 : decode prog_1_method_5_code 84 = .ok (.invokevirtual 136, 3) := by decide +kernel
theorem d_cJT_put_87 : decode prog_1_method_5_code 87 = .ok (.aload 10, 2) := by decide +kernel
theorem d_cJT_put_89 : decode prog_1_method_5_code 89 = .ok (.getfield 140, 3) := by decide +kernel
theorem d_cJT_put_92 : decode prog_1_method_5_code 92 = .ok (.ireturn, 1) := by decide +kernel
set_option maxHeartbeats 4000000 in
set_option maxRecDepth 100000 in
theorem w_cJT_put_J0 {p : Program} {l : Launch} {e : Env} {s : State} {m : MethodId} {args : Array Value} {below : List Frame} {meth : Method} {c : Code} {A : Nat → Prop} {D : va_G} {cc : Nat → ClassId} {sad sav : Nat → Nat} {Q : State → Prop} {ad0 : Nat → Nat → Nat} {N0 : Nat → Nat} {CT ST cR sR : Nat} (hfl : l.flags = flags0) (hC : MCc sad sav "JoinedTrees" prog_1_method_5_code 11 (some .int) p s m args meth c A D cc) (hCT : CT ≤ cR) (hST : ST ≤ sR) {N : Nat → Nat} {x0 : Nat} {S : CS} {x1 : Int32} {x2 : Int32} {x3 : Int32} {x4 : Int32} {x5 : Int64} {o : (((Nat → Nat) × CS × Int32) ⊕ ((Nat → Nat) × CS × Nat))} {oc os : Nat} (Heq : m_cJT_put_J0 N x0 S x1 x2 x3 x4 x5 = some (o, oc, os)) (Kr : ∀ r : (((Nat → Nat) × CS × Int32) ⊕ ((Nat → Nat) × CS × Nat)), o = r → (∀ v9 : (Nat → Nat) × CS × Int32, r = .inl v9 → ∀ (pc : Nat) (ad : Nat → Nat → Nat) (H : Heap) (locs : List Loc) (ls : Array Slot), decode prog_1_method_5_code pc = .ok (.ireturn, 1) → Ext ad0 N0 ad (v9.1) → va_P D cls (cw ad cc v9.1 v9.2.1) H → va_D A (cw ad cc v9.1 v9.2.1) → va_S A s.heap H locs → W p l e ({ frames := 8, cells := cR, slots := sR, locals := 140 }) s m args below meth c H locs CT ST Q (F0 m pc ls [.int v9.2.2])) ∧ (∀ t9 : (Nat → Nat) × CS × Nat, r = .inr t9 → (∀ (pc : Nat) (ad : Nat → Nat → Nat) (H : Heap) (locs : List Loc) (ls : Array Slot) (cells slots : Nat), cells + 1 = CT → slots + 6 = ST → thD prog_1_method_5_code t9.2.2 pc → ls.size = 11 → Ext ad0 N0 ad t9.1 → va_P D cls (cw ad cc t9.1 t9.2.1) H → va_D A (cw ad cc t9.1 t9.2.1) → va_S A s.heap H locs → W p l e ({ frames := 8, cells := cR, slots := sR, locals := 140 }) s m args below meth c H locs cells slots Q (F0 m pc ls [])) ∧ (∀ (pc : Nat) (ad : Nat → Nat → Nat) (H : Heap) (locs : List Loc) (ls : Array Slot) (st0 rest9 : List Value) (A9 : Nat → Prop) (cells slots : Nat), cells + 1 = CT → slots + 6 = ST → Ext ad0 N0 ad t9.1 → va_D A (cw ad cc t9.1 t9.2.1) → tx_Thr p l e ({ frames := 8, cells := cR, slots := sR, locals := 140 }) s m args below meth c H locs cells slots 1 6 (F0 m pc ls st0) rest9 (exN t9.2.2) A9 (fun H1 => va_P D cls (cw ad cc t9.1 t9.2.1) H1) → (∀ q, A9 q → A q) → va_S A s.heap H locs → W p l e ({ frames := 8, cells := cR, slots := sR, locals := 140 }) s m args below meth c H locs cells slots Q (F0 m pc ls st0)))) : ∀ (ad : Nat → Nat → Nat) (H : Heap) (locs : List Loc) (ls : Array Slot) (cells slots : Nat), Ext ad0 N0 ad N → cells + oc = CT → slots + os = ST → va_P D cls (cw ad cc N S) H → va_D A (cw ad cc N S) → va_S A s.heap H locs → lv_has ls 11 [(0, .ref (ad 11 x0)), (1, .int x1), (2, .int x2), (3, .int x3), (4, .int x4), (5, .long x5)] → W p l e ({ frames := 8, cells := cR, slots := sR, locals := 140 }) s m args below meth c H locs cells slots Q (F0 m 0 ls []) := by
  intro ad H locs ls cells slots hX hcu hsu hP hD hS hl
  obtain ⟨hx, hb, hr, hml, hown, hts, hK, hA, hev, hE, hN, hNS⟩ := id hC
  unfold m_cJT_put_J0 at Heq
  refine lv_aload_n hx hb d_cJT_put_0 rfl (lv_at hl 0 rfl) ?_
  obtain ⟨hl_x0_11, Heq⟩ := gl_some Heq
  obtain ⟨o_1, h_2, Heq⟩ := ob_some Heq
  have hFc := fr_all hD hS hA
  refine va_calli (va_runV (As := []) (rest := []) ⟨hx, hb, hml, hown, hts⟩ (g_cJT_takeArguments l D H.size (ad := ad) (cc := cc) (sad := sad) (sav := sav) h_2) (cw_v 0 hts kw_589 kw_586 kw_588 kp_2 kw_1 rfl rfl (by decide +kernel) ⟨Nat.le_of_ble_eq_true rfl, Nat.le_of_ble_eq_true rfl⟩) ⟨c_blind, va_recv hK hP (ci := 11) (q0 := cPos N 11 x0) rfl (cw_obj (k := 11) (by decide) hl_x0_11), fun U hU hW => c_pre hU hW hP hK hD hev hE hN hNS hS hFc⟩ rfl rfl hl.1 rfl (lv_room (Nat.le_of_ble_eq_true rfl)) d_cJT_put_1 ⟨(Nat.le_trans (m := CT) (by omega) hCT), (Nat.le_trans (m := ST) (by omega) hST)⟩) hS (fun q _ h => hFc q h) hFc (fun rz u t H1 locs ht hvm hw hB hz1 hk1 hS => ?_)
  obtain ⟨hP, -, hD1⟩ := hB
  rw [ht] at hP
  have hD := hD1.weaken (fun _ q _ h => hFc q.1 h)
  generalize H1 = H at hP hS ⊢
  subst hw
  refine lv_istore (lv' := [(7, .int o_1.2), (0, .ref (ad 11 x0)), (1, .int x1), (2, .int x2), (3, .int x3), (4, .int x4), (5, .long x5)]) hx hb d_cJT_put_4 hl (by decide) rfl (fun ls hl => ?_)
  refine lv_aload_n hx hb d_cJT_put_6 rfl (lv_at hl 1 rfl) ?_
  refine lv_iload_n hx hb d_cJT_put_7 rfl (lv_at hl 2 rfl) ?_
  have hFc := fr_all hD hS hA
  rcases oe_some Heq with ⟨o_3, h_4, Heq⟩ | ⟨t_5, h_4, Heq⟩
  case inr =>
    obtain ⟨e9, e9a, e9b⟩ := tri Heq
    exact ((Kr _ e9).2 _ rfl).2 8 _ _ _ _ _ _ _ _ _ (by omega) (by omega) hX (d_cw _ hD) (tx_runV (As := [.int x1]) (rest := []) ⟨hx, hb, hml, hown, hts⟩ (g_cJT_shown_t l hfl D H.size (ad := ad) (cc := cc) (sad := sad) (sav := sav) h_4) (cw_v 1 hts kw_593 kw_590 kw_592 kp_3 kw_1 rfl rfl (by decide +kernel) ⟨Nat.le_of_ble_eq_true rfl, Nat.le_of_ble_eq_true rfl⟩) ⟨c_blind, va_recv hK hP (ci := 11) (q0 := cPos N 11 x0) rfl (cw_obj (k := 11) (by decide) hl_x0_11), fun U hU hW => c_pre hU hW hP hK hD hev hE hN hNS hS hFc⟩ rfl rfl hl.1 rfl (lv_room (Nat.le_of_ble_eq_true rfl)) d_cJT_put_8 ⟨(Nat.le_trans (m := CT) (by omega) hCT), (Nat.le_trans (m := ST) (by omega) hST)⟩) hFc hS
  refine va_callq (va_runV (As := [.int x1]) (rest := []) ⟨hx, hb, hml, hown, hts⟩ (g_cJT_shown l hfl D H.size (ad := ad) (cc := cc) (sad := sad) (sav := sav) h_4) (cw_v 1 hts kw_593 kw_590 kw_592 kp_3 kw_1 rfl rfl (by decide +kernel) ⟨Nat.le_of_ble_eq_true rfl, Nat.le_of_ble_eq_true rfl⟩) ⟨c_blind, va_recv hK hP (ci := 11) (q0 := cPos N 11 x0) rfl (cw_obj (k := 11) (by decide) hl_x0_11), fun U hU hW => c_pre hU hW hP hK hD hev hE hN hNS hS hFc⟩ rfl rfl hl.1 rfl (lv_room (Nat.le_of_ble_eq_true rfl)) d_cJT_put_8 ⟨(Nat.le_trans (m := CT) (by omega) hCT), (Nat.le_trans (m := ST) (by omega) hST)⟩) hS (fun q _ h => hFc q h) hFc (fun rz u t H1 locs ht hvm hw hB hz1 hk1 hS => ?_)
  obtain ⟨hP, -, hD1⟩ := hB
  rw [ht] at hP
  have hD := hD1.weaken (fun _ q _ h => hFc q.1 h)
  generalize H1 = H at hP hS ⊢
  subst hw
  refine w_v (y := rv ad 4 o_3.2) rfl ?_
  refine tx_astore (x := o_3.2.map (ad 4)) (lv' := [(8, rv ad 4 o_3.2), (7, .int o_1.2), (0, .ref (ad 11 x0)), (1, .int x1), (2, .int x2), (3, .int x3), (4, .int x4), (5, .long x5)]) hx hb d_cJT_put_11 hl (by decide) rfl (fun ls hl => ?_)
  refine lv_aload_n hx hb d_cJT_put_13 rfl (lv_at hl 2 rfl) ?_
  refine lv_iload hx hb d_cJT_put_14 (lv_at hl 6 rfl) ?_
  refine lv_iload hx hb d_cJT_put_16 (lv_at hl 1 rfl) ?_
  refine lv_iconst (v := 0) hx hb d_cJT_put_18 (by decide) ?_
  have hFc := fr_all hD hS hA
  rcases oe_some Heq with ⟨o_6, h_7, Heq⟩ | ⟨t_8, h_7, Heq⟩
  case inr =>
    obtain ⟨e9, e9a, e9b⟩ := tri Heq
    exact ((Kr _ e9).2 _ rfl).2 19 _ _ _ _ _ _ _ _ _ (by omega) (by omega) hX (d_cw _ hD) (tx_runV (As := [.int x4, .int o_1.2, .int 0]) (rest := []) ⟨hx, hb, hml, hown, hts⟩ (g_cJT_needValue_t l hfl D H.size (ad := ad) (cc := cc) (sad := sad) (sav := sav) h_7) (cw_v 3 hts kw_604 kw_601 kw_603 kp_4 kw_1 rfl rfl (by decide +kernel) ⟨Nat.le_of_ble_eq_true rfl, Nat.le_of_ble_eq_true rfl⟩) ⟨c_blind, va_recv hK hP (ci := 11) (q0 := cPos N 11 x0) rfl (cw_obj (k := 11) (by decide) hl_x0_11), fun U hU hW => c_pre hU hW hP hK hD hev hE hN hNS hS hFc⟩ rfl rfl hl.1 rfl (lv_room (Nat.le_of_ble_eq_true rfl)) d_cJT_put_19 ⟨(Nat.le_trans (m := CT) (by omega) hCT), (Nat.le_trans (m := ST) (by omega) hST)⟩) hFc hS
  refine va_callv (va_runV (As := [.int x4, .int o_1.2, .int 0]) (rest := []) ⟨hx, hb, hml, hown, hts⟩ (g_cJT_needValue l hfl D H.size (ad := ad) (cc := cc) (sad := sad) (sav := sav) h_7) (cw_v 3 hts kw_604 kw_601 kw_603 kp_4 kw_1 rfl rfl (by decide +kernel) ⟨Nat.le_of_ble_eq_true rfl, Nat.le_of_ble_eq_true rfl⟩) ⟨c_blind, va_recv hK hP (ci := 11) (q0 := cPos N 11 x0) rfl (cw_obj (k := 11) (by decide) hl_x0_11), fun U hU hW => c_pre hU hW hP hK hD hev hE hN hNS hS hFc⟩ rfl rfl hl.1 rfl (lv_room (Nat.le_of_ble_eq_true rfl)) d_cJT_put_19 ⟨(Nat.le_trans (m := CT) (by omega) hCT), (Nat.le_trans (m := ST) (by omega) hST)⟩) hS (fun q _ h => hFc q h) hFc (fun u t H1 locs ht hvm hw hB hz1 hk1 hS => ?_)
  obtain ⟨hP, -, hD1⟩ := hB
  rw [ht] at hP
  have hD := hD1.weaken (fun _ q _ h => hFc q.1 h)
  generalize H1 = H at hP hS ⊢
  refine lv_aload_n hx hb d_cJT_put_22 rfl (lv_at hl 2 rfl) ?_
  refine va_get (D := D) (ci := 11) (v := rv ad 10 (o_6.r 11 2 x0)) (C := R_JT) (T := F_JT) (N := 13) hx hb hts i_JT hown hK hP (cPos N 11 x0) (cw_obj (k := 11) (by decide) hl_x0_11) rfl 2 (by decide) (hts _ kw_423) (fun _ h9 => h9) rfl d_cJT_put_23 ?_
  refine lv_aload_n hx hb d_cJT_put_26 rfl (lv_at hl 2 rfl) ?_
  refine lv_iload_n hx hb d_cJT_put_27 rfl (lv_at hl 4 rfl) ?_
  have hFc := fr_all hD hS hA
  rcases oe_some Heq with ⟨o_9, h_10, Heq⟩ | ⟨t_11, h_10, Heq⟩
  case inr =>
    obtain ⟨e9, e9a, e9b⟩ := tri Heq
    exact ((Kr _ e9).2 _ rfl).2 28 _ _ _ _ _ _ _ _ _ (by omega) (by omega) hX (d_cw _ hD) (tx_runV (As := [.int x2]) (rest := [rv ad 10 (o_6.r 11 2 x0)]) ⟨hx, hb, hml, hown, hts⟩ (g_cJT_listAt_t l hfl D H.size (ad := ad) (cc := cc) (sad := sad) (sav := sav) h_10) (cw_v 1 hts kw_776 kw_773 kw_775 kp_13 kw_1 rfl rfl (by decide +kernel) ⟨Nat.le_of_ble_eq_true rfl, Nat.le_of_ble_eq_true rfl⟩) ⟨c_blind, va_recv hK hP (ci := 11) (q0 := cPos N 11 x0) rfl (cw_obj (k := 11) (by decide) hl_x0_11), fun U hU hW => c_pre hU hW hP hK hD hev hE hN hNS hS hFc⟩ rfl rfl hl.1 rfl (lv_room (by simp only [List.map_cons, List.map_nil, List.sum_cons, List.sum_nil, rv_cat]; exact Nat.le_of_ble_eq_true rfl)) d_cJT_put_28 ⟨(Nat.le_trans (m := CT) (by omega) hCT), (Nat.le_trans (m := ST) (by omega) hST)⟩) hFc hS
  refine va_callq (va_runV (As := [.int x2]) (rest := [rv ad 10 (o_6.r 11 2 x0)]) ⟨hx, hb, hml, hown, hts⟩ (g_cJT_listAt l hfl D H.size (ad := ad) (cc := cc) (sad := sad) (sav := sav) h_10) (cw_v 1 hts kw_776 kw_773 kw_775 kp_13 kw_1 rfl rfl (by decide +kernel) ⟨Nat.le_of_ble_eq_true rfl, Nat.le_of_ble_eq_true rfl⟩) ⟨c_blind, va_recv hK hP (ci := 11) (q0 := cPos N 11 x0) rfl (cw_obj (k := 11) (by decide) hl_x0_11), fun U hU hW => c_pre hU hW hP hK hD hev hE hN hNS hS hFc⟩ rfl rfl hl.1 rfl (lv_room (by simp only [List.map_cons, List.map_nil, List.sum_cons, List.sum_nil, rv_cat]; exact Nat.le_of_ble_eq_true rfl)) d_cJT_put_28 ⟨(Nat.le_trans (m := CT) (by omega) hCT), (Nat.le_trans (m := ST) (by omega) hST)⟩) hS (fun q _ h => hFc q h) hFc (fun rz u t H1 locs ht hvm hw hB hz1 hk1 hS => ?_)
  obtain ⟨hP, -, hD1⟩ := hB
  rw [ht] at hP
  have hD := hD1.weaken (fun _ q _ h => hFc q.1 h)
  generalize H1 = H at hP hS ⊢
  subst hw
  refine w_v (y := rv ad 3 o_9.2) rfl ?_
  refine lv_iload_n hx hb d_cJT_put_31 rfl (lv_at hl 5 rfl) ?_
  obtain ⟨j_12, hj_13, hl_14, Heq⟩ := gn_some Heq
  refine w_s (st' := [.int x3, .ref (ad 3 j_12), rv ad 10 (o_6.r 11 2 x0)]) (congrArg (fun z9 : Option Nat => [.int x3, rv ad 3 z9, rv ad 10 (o_6.r 11 2 x0)]) hj_13) ?_
  obtain ⟨j_15, hj_16, hl_17, Heq⟩ := gn_some Heq
  refine w_s (st' := [.int x3, .ref (ad 3 j_12), .ref (ad 10 j_15)]) (congrArg (fun z9 : Option Nat => [.int x3, .ref (ad 3 j_12), rv ad 10 z9]) hj_16) ?_
  obtain ⟨o_18, h_19, Heq⟩ := ob_some Heq
  have hFc := fr_all hD hS hA
  refine va_callq (va_runV (As := [.ref (ad 3 j_12), .int x3]) (rest := []) ⟨hx, hb, hml, hown, hts⟩ (g_cVw_spotAt l D H.size (ad := ad) (cc := cc) (sad := sad) (sav := sav) h_19) (cw_v 2 hts kw_780 kw_777 kw_778 kw_779 kw_6 rfl rfl (by decide +kernel) ⟨Nat.le_of_ble_eq_true rfl, Nat.le_of_ble_eq_true rfl⟩) ⟨c_blind, va_recv hK hP (ci := 10) (q0 := cPos N 10 j_15) rfl (cw_obj (k := 10) (by decide) hl_17), fun U hU hW => c_pre hU hW hP hK hD hev hE hN hNS hS hFc⟩ rfl rfl hl.1 rfl (lv_room (Nat.le_of_ble_eq_true rfl)) d_cJT_put_32 ⟨(Nat.le_trans (m := CT) (by omega) hCT), (Nat.le_trans (m := ST) (by omega) hST)⟩) hS (fun q _ h => hFc q h) hFc (fun rz u t H1 locs ht hvm hw hB hz1 hk1 hS => ?_)
  obtain ⟨hP, -, hD1⟩ := hB
  rw [ht] at hP
  have hD := hD1.weaken (fun _ q _ h => hFc q.1 h)
  generalize H1 = H at hP hS ⊢
  subst hw
  refine w_v (y := rv ad 7 o_18.2) rfl ?_
  refine tx_astore (x := o_18.2.map (ad 7)) (lv' := [(9, rv ad 7 o_18.2), (8, rv ad 4 o_3.2), (7, .int o_1.2), (0, .ref (ad 11 x0)), (1, .int x1), (2, .int x2), (3, .int x3), (4, .int x4), (5, .long x5)]) hx hb d_cJT_put_35 hl (by decide) (by simp [rv, rf_cat]) (fun ls hl => ?_)
  refine lv_aload_n hx hb d_cJT_put_37 rfl (lv_at hl 3 rfl) ?_
  refine tx_aload (x := o_18.2.map (ad 7)) hx hb d_cJT_put_38 (lv_at hl 0 rfl) ?_
  refine w_v (y := rv ad 7 o_18.2) rfl ?_
  refine w_s (st' := [rv ad 7 o_18.2, .ref (ad 11 x0)]) rfl ?_
  have hFc := fr_all hD hS hA
  rcases oe_some Heq with ⟨o_20, h_21, Heq⟩ | ⟨t_22, h_21, Heq⟩
  case inr =>
    obtain ⟨e9, e9a, e9b⟩ := tri Heq
    exact ((Kr _ e9).2 _ rfl).2 40 _ _ _ _ _ _ _ _ _ (by omega) (by omega) hX (d_cw _ hD) (tx_runV (As := [rv ad 7 o_18.2]) (rest := []) ⟨hx, hb, hml, hown, hts⟩ (g_cJT_needSpot_t l hfl D H.size (ad := ad) (cc := cc) (sad := sad) (sav := sav) h_21) (cw_v 1 hts kw_789 kw_786 kw_788 kp_14 kw_1 rfl rfl (by decide +kernel) ⟨Nat.le_of_ble_eq_true rfl, Nat.le_of_ble_eq_true rfl⟩) ⟨c_blind, va_recv hK hP (ci := 11) (q0 := cPos N 11 x0) rfl (cw_obj (k := 11) (by decide) hl_x0_11), fun U hU hW => c_pre hU hW hP hK hD hev hE hN hNS hS hFc⟩ rfl rfl hl.1 rfl (lv_room (Nat.le_of_ble_eq_true rfl)) d_cJT_put_40 ⟨(Nat.le_trans (m := CT) (by omega) hCT), (Nat.le_trans (m := ST) (by omega) hST)⟩) hFc hS
  refine va_callv (va_runV (As := [rv ad 7 o_18.2]) (rest := []) ⟨hx, hb, hml, hown, hts⟩ (g_cJT_needSpot l hfl D H.size (ad := ad) (cc := cc) (sad := sad) (sav := sav) h_21) (cw_v 1 hts kw_789 kw_786 kw_788 kp_14 kw_1 rfl rfl (by decide +kernel) ⟨Nat.le_of_ble_eq_true rfl, Nat.le_of_ble_eq_true rfl⟩) ⟨c_blind, va_recv hK hP (ci := 11) (q0 := cPos N 11 x0) rfl (cw_obj (k := 11) (by decide) hl_x0_11), fun U hU hW => c_pre hU hW hP hK hD hev hE hN hNS hS hFc⟩ rfl rfl hl.1 rfl (lv_room (Nat.le_of_ble_eq_true rfl)) d_cJT_put_40 ⟨(Nat.le_trans (m := CT) (by omega) hCT), (Nat.le_trans (m := ST) (by omega) hST)⟩) hS (fun q _ h => hFc q h) hFc (fun u t H1 locs ht hvm hw hB hz1 hk1 hS => ?_)
  obtain ⟨hP, -, hD1⟩ := hB
  rw [ht] at hP
  have hD := hD1.weaken (fun _ q _ h => hFc q.1 h)
  generalize H1 = H at hP hS ⊢
  refine lv_aload_n hx hb d_cJT_put_43 rfl (lv_at hl 3 rfl) ?_
  refine tx_aload (x := o_3.2.map (ad 4)) hx hb d_cJT_put_44 (lv_at hl 1 rfl) ?_
  refine w_v (y := rv ad 4 o_3.2) rfl ?_
  obtain ⟨j_23, hj_24, hl_25, Heq⟩ := gn_some Heq
  refine w_s (st' := [.ref (ad 4 j_23), .ref (ad 11 x0)]) (congrArg (fun z9 : Option Nat => [rv ad 4 z9, .ref (ad 11 x0)]) hj_24) ?_
  have hFc := fr_all hD hS hA
  rcases oe_some Heq with ⟨o_26, h_27, Heq⟩ | ⟨t_28, h_27, Heq⟩
  case inr =>
    obtain ⟨e9, e9a, e9b⟩ := tri Heq
    exact ((Kr _ e9).2 _ rfl).2 46 _ _ _ _ _ _ _ _ _ (by omega) (by omega) hX (d_cw _ hD) (tx_runV (As := [.ref (ad 4 j_23)]) (rest := []) ⟨hx, hb, hml, hown, hts⟩ (g_cJT_needAll_t l hfl D H.size (ad := ad) (cc := cc) (sad := sad) (sav := sav) h_27) (cw_v 1 hts kw_647 kw_644 kw_646 kp_8 kw_1 rfl rfl (by decide +kernel) ⟨Nat.le_of_ble_eq_true rfl, Nat.le_of_ble_eq_true rfl⟩) ⟨c_blind, va_recv hK hP (ci := 11) (q0 := cPos N 11 x0) rfl (cw_obj (k := 11) (by decide) hl_x0_11), fun U hU hW => c_pre hU hW hP hK hD hev hE hN hNS hS hFc⟩ rfl rfl hl.1 rfl (lv_room (Nat.le_of_ble_eq_true rfl)) d_cJT_put_46 ⟨(Nat.le_trans (m := CT) (by omega) hCT), (Nat.le_trans (m := ST) (by omega) hST)⟩) hFc hS
  refine va_callv (va_runV (As := [.ref (ad 4 j_23)]) (rest := []) ⟨hx, hb, hml, hown, hts⟩ (g_cJT_needAll l hfl D H.size (ad := ad) (cc := cc) (sad := sad) (sav := sav) h_27) (cw_v 1 hts kw_647 kw_644 kw_646 kp_8 kw_1 rfl rfl (by decide +kernel) ⟨Nat.le_of_ble_eq_true rfl, Nat.le_of_ble_eq_true rfl⟩) ⟨c_blind, va_recv hK hP (ci := 11) (q0 := cPos N 11 x0) rfl (cw_obj (k := 11) (by decide) hl_x0_11), fun U hU hW => c_pre hU hW hP hK hD hev hE hN hNS hS hFc⟩ rfl rfl hl.1 rfl (lv_room (Nat.le_of_ble_eq_true rfl)) d_cJT_put_46 ⟨(Nat.le_trans (m := CT) (by omega) hCT), (Nat.le_trans (m := ST) (by omega) hST)⟩) hS (fun q _ h => hFc q h) hFc (fun u t H1 locs ht hvm hw hB hz1 hk1 hS => ?_)
  obtain ⟨hP, -, hD1⟩ := hB
  rw [ht] at hP
  have hD := hD1.weaken (fun _ q _ h => hFc q.1 h)
  generalize H1 = H at hP hS ⊢
  refine lv_aload_n hx hb d_cJT_put_49 rfl (lv_at hl 3 rfl) ?_
  refine lv_iconst (v := 1) hx hb d_cJT_put_50 (by decide) ?_
  refine lv_iload hx hb d_cJT_put_51 (lv_at hl 7 rfl) ?_
  refine lv_aload_n hx hb d_cJT_put_53 rfl (lv_at hl 3 rfl) ?_
  refine va_get (D := D) (ci := 11) (v := rv ad 5 (o_26.r 11 9 x0)) (C := R_JT) (T := F_JT) (N := 13) hx hb hts i_JT hown hK hP (cPos N 11 x0) (cw_obj (k := 11) (by decide) hl_x0_11) rfl 9 (by decide) (hts _ kw_430) (fun _ h9 => h9) rfl d_cJT_put_54 ?_
  obtain ⟨j_29, hj_30, hl_31, Heq⟩ := gn_some Heq
  refine w_s (st' := [.ref (ad 5 j_29), .int x4, .int 1, .ref (ad 11 x0)]) (congrArg (fun z9 : Option Nat => [rv ad 5 z9, .int x4, .int 1, .ref (ad 11 x0)]) hj_30) ?_
  obtain ⟨o_32, h_33, Heq⟩ := ob_some Heq
  have hFc := fr_all hD hS hA
  refine va_calli (va_runS (As := [.int x4, .ref (ad 5 j_29)]) (rest := [.int 1, .ref (ad 11 x0)]) ⟨hx, hb, hml, hown, hts⟩ (g_cJT_stringLength l D H.size (ad := ad) (cc := cc) (sad := sad) (sav := sav) h_33) (cw_s 2 hts kw_665 kw_663 kw_664 kw_1 rfl rfl (by decide +kernel) ⟨Nat.le_of_ble_eq_true rfl, Nat.le_of_ble_eq_true rfl⟩) ⟨c_blind, fun U hU hW => c_pre hU hW hP hK hD hev hE hN hNS hS hFc⟩ rfl rfl hl.1 rfl (lv_room (Nat.le_of_ble_eq_true rfl)) d_cJT_put_57 ⟨(Nat.le_trans (m := CT) (by omega) hCT), (Nat.le_trans (m := ST) (by omega) hST)⟩) hS (fun q _ h => hFc q h) hFc (fun rz u t H1 locs ht hvm hw hB hz1 hk1 hS => ?_)
  obtain ⟨hP, -, hD1⟩ := hB
  rw [ht] at hP
  have hD := hD1.weaken (fun _ q _ h => hFc q.1 h)
  generalize H1 = H at hP hS ⊢
  subst hw
  have hFc := fr_all hD hS hA
  rcases oe_some Heq with ⟨o_34, h_35, Heq⟩ | ⟨t_36, h_35, Heq⟩
  case inr =>
    obtain ⟨e9, e9a, e9b⟩ := tri Heq
    exact ((Kr _ e9).2 _ rfl).2 60 _ _ _ _ _ _ _ _ _ (by omega) (by omega) hX (d_cw _ hD) (tx_runV (As := [.int 1, .int o_32.2]) (rest := []) ⟨hx, hb, hml, hown, hts⟩ (g_cJT_needRoom_t l hfl D H.size (ad := ad) (cc := cc) (sad := sad) (sav := sav) h_35) (cw_v 2 hts kw_669 kw_666 kw_668 kp_9 kw_1 rfl rfl (by decide +kernel) ⟨Nat.le_of_ble_eq_true rfl, Nat.le_of_ble_eq_true rfl⟩) ⟨c_blind, va_recv hK hP (ci := 11) (q0 := cPos N 11 x0) rfl (cw_obj (k := 11) (by decide) hl_x0_11), fun U hU hW => c_pre hU hW hP hK hD hev hE hN hNS hS hFc⟩ rfl rfl hl.1 rfl (lv_room (Nat.le_of_ble_eq_true rfl)) d_cJT_put_60 ⟨(Nat.le_trans (m := CT) (by omega) hCT), (Nat.le_trans (m := ST) (by omega) hST)⟩) hFc hS
  refine va_callv (va_runV (As := [.int 1, .int o_32.2]) (rest := []) ⟨hx, hb, hml, hown, hts⟩ (g_cJT_needRoom l hfl D H.size (ad := ad) (cc := cc) (sad := sad) (sav := sav) h_35) (cw_v 2 hts kw_669 kw_666 kw_668 kp_9 kw_1 rfl rfl (by decide +kernel) ⟨Nat.le_of_ble_eq_true rfl, Nat.le_of_ble_eq_true rfl⟩) ⟨c_blind, va_recv hK hP (ci := 11) (q0 := cPos N 11 x0) rfl (cw_obj (k := 11) (by decide) hl_x0_11), fun U hU hW => c_pre hU hW hP hK hD hev hE hN hNS hS hFc⟩ rfl rfl hl.1 rfl (lv_room (Nat.le_of_ble_eq_true rfl)) d_cJT_put_60 ⟨(Nat.le_trans (m := CT) (by omega) hCT), (Nat.le_trans (m := ST) (by omega) hST)⟩) hS (fun q _ h => hFc q h) hFc (fun u t H1 locs ht hvm hw hB hz1 hk1 hS => ?_)
  obtain ⟨hP, -, hD1⟩ := hB
  rw [ht] at hP
  have hD := hD1.weaken (fun _ q _ h => hFc q.1 h)
  generalize H1 = H at hP hS ⊢
  refine lv_aload_n hx hb d_cJT_put_63 rfl (lv_at hl 3 rfl) ?_
  refine tx_aload (x := o_3.2.map (ad 4)) hx hb d_cJT_put_64 (lv_at hl 1 rfl) ?_
  refine w_v (y := rv ad 4 o_3.2) rfl ?_
  refine tx_aload (x := o_18.2.map (ad 7)) hx hb d_cJT_put_66 (lv_at hl 0 rfl) ?_
  refine w_v (y := rv ad 7 o_18.2) rfl ?_
  refine lv_iload hx hb d_cJT_put_68 (lv_at hl 7 rfl) ?_
  refine lv_lload hx hb d_cJT_put_70 (lv_at hl 8 rfl) ?_
  obtain ⟨j_37, hj_38, hl_39, Heq⟩ := gn_some Heq
  refine w_s (st' := [.long x5, .int x4, .ref (ad 7 j_37), rv ad 4 o_3.2, .ref (ad 11 x0)]) (congrArg (fun z9 : Option Nat => [.long x5, .int x4, rv ad 7 z9, rv ad 4 o_3.2, .ref (ad 11 x0)]) hj_38) ?_
  refine w_s (st' := [.long x5, .int x4, .ref (ad 7 j_37), .ref (ad 4 j_23), .ref (ad 11 x0)]) (congrArg (fun z9 : Option Nat => [.long x5, .int x4, .ref (ad 7 j_37), rv ad 4 z9, .ref (ad 11 x0)]) hj_24) ?_
  have hl : lv_has ls 11 [(0, .ref (ad 11 x0))] := lv_sub hl [3] rfl
  obtain ⟨N_42, S_43, v_44, a9, b9, a8, b8, h_41, Heq, e9a, e9b⟩ := oq_some Heq
  have hFc := fr_all hD hS hA
  refine va_callq (va_runV (As := [.ref (ad 4 j_23), .ref (ad 7 j_37), .int x4, .long x5]) (rest := []) ⟨hx, hb, hml, hown, hts⟩ (g_cJT_writeOn l D H.size (ad := ad) (cc := cc) (sad := sad) (sav := sav) h_41) (cw_v 4 hts kw_693 kw_690 kw_692 kp_11 kw_1 rfl rfl (by decide +kernel) ⟨Nat.le_of_ble_eq_true rfl, Nat.le_of_ble_eq_true rfl⟩) ⟨c_blind, va_recv hK hP (ci := 11) (q0 := cPos N 11 x0) rfl (cw_obj (k := 11) (by decide) hl_x0_11), fun U hU hW => c_pre hU hW hP hK hD hev hE hN hNS hS hFc⟩ rfl rfl hl.1 rfl (lv_room (Nat.le_of_ble_eq_true rfl)) d_cJT_put_72 ⟨(Nat.le_trans (m := CT) (by omega) hCT), (Nat.le_trans (m := ST) (by omega) hST)⟩) hS (fun q _ h => hFc q h) hFc (fun rz ad t H1 locs ht hvm hw hB hz1 hk1 hS => ?_)
  obtain ⟨hX1, hP, -, hD1⟩ := hB
  rw [ht] at hP
  have hD := hD1.weaken (fun _ q _ h => hFc q.1 h)
  generalize H1 = H at hP hS ⊢
  subst hw
  refine w_v (y := rv ad 3 v_44) rfl ?_
  have hX := hX.tr hX1
  have hl : lv_has ls 11 [(0, .ref (ad 11 x0))] := lv_cast hl (by first | rfl | simp only [hX1.2 11 x0 hl_x0_11])
  refine w_s (st' := [rv ad 3 v_44]) (by first | rfl | simp only [hX1.2 11 x0 hl_x0_11]) ?_
  have hl_x0_11 := Nat.lt_of_lt_of_le hl_x0_11 (hX1.1 11)
  have hl_14 := Nat.lt_of_lt_of_le hl_14 (hX1.1 3)
  have hl_17 := Nat.lt_of_lt_of_le hl_17 (hX1.1 10)
  have hl_25 := Nat.lt_of_lt_of_le hl_25 (hX1.1 4)
  have hl_31 := Nat.lt_of_lt_of_le hl_31 (hX1.1 5)
  have hl_39 := Nat.lt_of_lt_of_le hl_39 (hX1.1 7)
  refine tx_astore (x := v_44.map (ad 3)) (lv' := [(10, rv ad 3 v_44), (0, .ref (ad 11 x0))]) hx hb d_cJT_put_75 hl (by decide) rfl (fun ls hl => ?_)
  refine lv_aload_n hx hb d_cJT_put_77 rfl (lv_at hl 1 rfl) ?_
  refine tx_aload (x := v_44.map (ad 3)) hx hb d_cJT_put_78 (lv_at hl 0 rfl) ?_
  refine w_v (y := rv ad 3 v_44) rfl ?_
  refine lv_aload_n hx hb d_cJT_put_80 rfl (lv_at hl 1 rfl) ?_
  refine va_get (D := D) (ci := 11) (v := rv ad 5 (S_43.r 11 9 x0)) (C := R_JT) (T := F_JT) (N := 13) hx hb hts i_JT hown hK hP (cPos N_42 11 x0) (cw_obj (k := 11) (by decide) hl_x0_11) rfl 9 (by decide) (hts _ kw_430) (fun _ h9 => h9) rfl d_cJT_put_81 ?_
  obtain ⟨j_45, hj_46, hl_47, Heq⟩ := gn_some Heq
  refine w_s (st' := [.ref (ad 5 j_45), rv ad 3 v_44, .ref (ad 11 x0)]) (congrArg (fun z9 : Option Nat => [rv ad 5 z9, rv ad 3 v_44, .ref (ad 11 x0)]) hj_46) ?_
  obtain ⟨j_48, hj_49, hl_50, Heq⟩ := gn_some Heq
  refine w_s (st' := [.ref (ad 5 j_45), .ref (ad 3 j_48), .ref (ad 11 x0)]) (congrArg (fun z9 : Option Nat => [.ref (ad 5 j_45), rv ad 3 z9, .ref (ad 11 x0)]) hj_49) ?_
  obtain ⟨o_51, h_52, Heq⟩ := ob_some Heq
  have hFc := fr_all hD hS hA
  refine va_callv (va_runV (As := [.ref (ad 3 j_48), .ref (ad 5 j_45)]) (rest := []) ⟨hx, hb, hml, hown, hts⟩ (g_cJT_giveString l D H.size (ad := ad) (cc := cc) (sad := sad) (sav := sav) h_52) (cw_v 2 hts kw_761 kw_758 kw_760 kp_12 kw_1 rfl rfl (by decide +kernel) ⟨Nat.le_of_ble_eq_true rfl, Nat.le_of_ble_eq_true rfl⟩) ⟨c_blind, va_recv hK hP (ci := 11) (q0 := cPos N_42 11 x0) rfl (cw_obj (k := 11) (by decide) hl_x0_11), fun U hU hW => c_pre hU hW hP hK hD hev hE hN hNS hS hFc⟩ rfl rfl hl.1 rfl (lv_room (Nat.le_of_ble_eq_true rfl)) d_cJT_put_84 ⟨(Nat.le_trans (m := CT) (by omega) hCT), (Nat.le_trans (m := ST) (by omega) hST)⟩) hS (fun q _ h => hFc q h) hFc (fun u t H1 locs ht hvm hw hB hz1 hk1 hS => ?_)
  obtain ⟨hP, -, hD1⟩ := hB
  rw [ht] at hP
  have hD := hD1.weaken (fun _ q _ h => hFc q.1 h)
  generalize H1 = H at hP hS ⊢
  refine tx_aload (x := v_44.map (ad 3)) hx hb d_cJT_put_87 (lv_at hl 0 rfl) ?_
  refine w_v (y := rv ad 3 v_44) rfl ?_
  refine w_s (st' := [.ref (ad 3 j_48)]) (congrArg (fun z9 : Option Nat => [rv ad 3 z9]) hj_49) ?_
  refine va_get (D := D) (ci := 3) (v := .int (o_51.i 3 0 j_48)) (C := R_Op) (T := F_Op) (N := 15) hx hb hts i_Op hown hK hP (cPos N_42 3 j_48) (cw_obj (k := 3) (by decide) hl_50) rfl 0 (by decide) (hts _ kw_52) (fun _ h9 => h9) rfl d_cJT_put_89 ?_
  obtain ⟨e9, e9a, e9b⟩ := tri Heq
  refine W.cs (cells' := CT) (slots' := ST) (by omega) (by omega) ?_
  exact (Kr _ e9).1 _ rfl 92 _ _ _ _ d_cJT_put_92 hX hP hD hS
noncomputable def m_cJT_put (N : Nat → Nat) (x0 : Nat) (S : CS) (x1 : Int32) (x2 : Int32) (x3 : Int32) (x4 : Int32) (x5 : Int64) : Option (((((Nat → Nat) × CS × Int32) ⊕ ((Nat → Nat) × CS × Nat))) × Nat × Nat) := m_cJT_put_J0 N x0 S x1 x2 x3 x4 x5
set_option maxHeartbeats 4000000 in
theorem g_cJT_put (l : Launch) (hfl : l.flags = flags0) (D : va_G) (sz : Nat) {ad : Nat → Nat → Nat} {cc : Nat → ClassId} {sad sav : Nat → Nat} {N : Nat → Nat} {x0 : Nat} {S : CS} {x1 : Int32} {x2 : Int32} {x3 : Int32} {x4 : Int32} {x5 : Int64} {o : (Nat → Nat) × CS × Int32} {oc os : Nat} (Heq : m_cJT_put N x0 S x1 x2 x3 x4 x5 = some (.inl o, oc, os)) : Met l ⟨"JoinedTrees", "put", "(IIIIJ)I"⟩ (Cond.code ⟨"JoinedTrees", "put", "(IIIIJ)I"⟩ prog_1_method_5_code 11 (some .int) :: gb) ({ frames := 8, cells := oc, slots := os, locals := 140 }) (cPc sad sav D (cw ad cc N S) (cty cc) sz [.ref (ad 11 x0), .int x1, .int x2, .int x3, .int x4, .long x5]) (va_Qi (fun (r : Int32) (_ : Nat → Nat → Nat) => r = o.2.2) (fun (u : Nat → Nat → Nat) t => Ext ad N u o.1 ∧ gO D (cw u cc o.1 o.2.1) (cty cc) (va_A (cw ad cc N S) sz) t) (va_A (cw ad cc N S) sz)) oc os (va_A (cw ad cc N S) sz) := by
  refine Met.ofW (cc := prog_1_method_5_code) (maxL := 11) (ret := (some .int)) (by decide) rfl ?_
  intro p e s m args below meth c s₁ B hml hv
  obtain ⟨rfl, hsz, hP, hK, hD0, hev, hE, hN⟩ := hv
  have hx := B.exec
  have hb := B.bytes
  have hr := B.returns
  have hts : ∀ w9 ∈ gb, w9.before [.ref (ad 11 x0), .int x1, .int x2, .int x3, .int x4, .long x5].toArray s = true := fun w9 h => atoms_spec (ws := Cond.code ⟨"JoinedTrees", "put", "(IIIIJ)I"⟩ prog_1_method_5_code 11 (some .int) :: gb) B.pre w9 (List.mem_cons_of_mem _ h)
  have hown : s.vm.findClass "JoinedTrees" = some m.cls := findClass_of_methodNamed B.named
  have hlocks := B.notSynchronized
  have hNS := ns_of hP
  subst hsz
  have hD := hD0.self (sz := s.heap.size)
  generalize hAe : va_A (cw ad cc N S) s.heap.size = A at hD hev hE hNS ⊢
  have hA : ∀ q : Nat, s.heap.size ≤ q → A q := fun q h => by rw [← hAe]; exact Or.inr h
  have hS : va_S A s.heap s.heap [] := va_S.rf
  obtain ⟨ls, hl, hle⟩ : ∃ ls : Array Slot, lv_has ls 11 [(0, .ref (ad 11 x0)), (1, .int x1), (2, .int x2), (3, .int x3), (4, .int x4), (5, .long x5)] ∧ entryFrame m ([.ref (ad 11 x0), .int x1, .int x2, .int x3, .int x4, .long x5] : List Value).toArray 11 = F0 m 0 ls [] := by
    exact ⟨_, lv_entry (n := 11) _ (Nat.le_of_ble_eq_true rfl), lg_entry_eq ..⟩
  rw [hle]
  refine w_cJT_put_J0 (ad0 := ad) (N0 := N) (CT := oc) (ST := os) (cR := oc) (sR := os) hfl ⟨hx, hb, hr, hml, hown, hts, hK, hA, hev, hE, hN, hNS⟩ (Nat.le_refl _) (Nat.le_refl _) Heq (fun r h => ⟨fun v9 hv9 pc ad1 H locs ls hd hX hP hD hS => ?_, fun t9 ht9 => (by subst h; cases ht9)⟩) _ _ _ _ 0 0 Ext.rf (Nat.zero_add _) (Nat.zero_add _) hP hD hS (lv_sub hl [0, 1, 2, 3, 4, 5] rfl)
  subst h
  cases hv9
  exact W.iret hx hb hr (fun t ht hW => ⟨⟨_, ad1, rfl, rfl, hX, by rw [ht]; exact hP, va_K.moved hW.alike hK, hD⟩, hS.F ht⟩) hS.2.2 hd
set_option maxHeartbeats 4000000 in
theorem g_cJT_put_t (l : Launch) (hfl : l.flags = flags0) (D : va_G) (sz : Nat) {ad : Nat → Nat → Nat} {cc : Nat → ClassId} {sad sav : Nat → Nat} {N : Nat → Nat} {x0 : Nat} {S : CS} {x1 : Int32} {x2 : Int32} {x3 : Int32} {x4 : Int32} {x5 : Int64} {o : (Nat → Nat) × CS × Nat} {oc os : Nat} (Heq : m_cJT_put N x0 S x1 x2 x3 x4 x5 = some (.inr o, oc, os)) : MeT l ⟨"JoinedTrees", "put", "(IIIIJ)I"⟩ (Cond.code ⟨"JoinedTrees", "put", "(IIIIJ)I"⟩ prog_1_method_5_code 11 (some .int) :: gb) ({ frames := 8, cells := oc, slots := os, locals := 140 }) (cPc sad sav D (cw ad cc N S) (cty cc) sz [.ref (ad 11 x0), .int x1, .int x2, .int x3, .int x4, .long x5]) (exN o.2.2) (va_A (cw ad cc N S) sz) (fun H1 => ∃ ad1 : Nat → Nat → Nat, Ext ad N ad1 o.1 ∧ va_P D cls (cw ad1 cc o.1 o.2.1) H1 ∧ va_D (va_A (cw ad cc N S) sz) (cw ad1 cc o.1 o.2.1)) oc os := by
  refine MeT.ofW (cc := prog_1_method_5_code) (maxL := 11) (ret := (some .int)) (by decide) rfl ?_
  intro p e s m args below meth c s₁ B hml hno hv
  obtain ⟨rfl, hsz, hP, hK, hD0, hev, hE, hN⟩ := hv
  have hx := B.exec
  have hb := B.bytes
  have hr := B.returns
  have hts : ∀ w9 ∈ gb, w9.before [.ref (ad 11 x0), .int x1, .int x2, .int x3, .int x4, .long x5].toArray s = true := fun w9 h => atoms_spec (ws := Cond.code ⟨"JoinedTrees", "put", "(IIIIJ)I"⟩ prog_1_method_5_code 11 (some .int) :: gb) B.pre w9 (List.mem_cons_of_mem _ h)
  have hown : s.vm.findClass "JoinedTrees" = some m.cls := findClass_of_methodNamed B.named
  have hlocks := B.notSynchronized
  have hNS := ns_of hP
  subst hsz
  have hD := hD0.self (sz := s.heap.size)
  generalize hAe : va_A (cw ad cc N S) s.heap.size = A at hD hev hE hNS ⊢
  have hA : ∀ q : Nat, s.heap.size ≤ q → A q := fun q h => by rw [← hAe]; exact Or.inr h
  have hS : va_S A s.heap s.heap [] := va_S.rf
  obtain ⟨ls, hl, hle⟩ : ∃ ls : Array Slot, lv_has ls 11 [(0, .ref (ad 11 x0)), (1, .int x1), (2, .int x2), (3, .int x3), (4, .int x4), (5, .long x5)] ∧ entryFrame m ([.ref (ad 11 x0), .int x1, .int x2, .int x3, .int x4, .long x5] : List Value).toArray 11 = F0 m 0 ls [] := by
    exact ⟨_, lv_entry (n := 11) _ (Nat.le_of_ble_eq_true rfl), lg_entry_eq ..⟩
  rw [hle]
  refine w_cJT_put_J0 (ad0 := ad) (N0 := N) (CT := oc) (ST := os) (cR := oc) (sR := os) hfl ⟨hx, hb, hr, hml, hown, hts, hK, hA, hev, hE, hN, hNS⟩ (Nat.le_refl _) (Nat.le_refl _) Heq (fun r h => ⟨fun v9 hv9 => (by subst h; cases hv9), fun t9 ht9 => ⟨fun pc ad1 H locs ls cells slots hc1 hs1 hd hsz hX hP hD hS => ?_, fun pc ad1 H locs ls st0 rest9 A9 cells slots hc1 hs1 hX hD hr9 hF9 hS => ?_⟩⟩) _ _ _ _ 0 0 Ext.rf (Nat.zero_add _) (Nat.zero_add _) hP hD hS (lv_sub hl [0, 1, 2, 3, 4, 5] rfl)
  · subst h; cases ht9; subst hc1 hs1; exact tx_thrB hfl hx hb hno hlocks hown hts hev hN hNS hd (hsz.trans hml.symm) hP hS hA (Nat.le_refl _) (Nat.le_refl _) (Nat.le_of_ble_eq_true rfl) (Nat.le_of_ble_eq_true rfl) (fun H1 h1 => ⟨ad1, hX, h1, hD⟩)
  · subst h; cases ht9; subst hc1 hs1; exact tx_on (tx_Thr.mono hr9 (fun H1 h1 => ⟨ad1, hX, h1, hD⟩)) hno hlocks hS hF9
