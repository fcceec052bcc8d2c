def m_cSv_emitChange_B30 (N : Nat → Nat) (x0 : Nat) (S : CS) (x1 : Option Nat) (x2 : Int32) : Option ((CS × Option Nat × Int32) ⊕ (CS × Option Nat)) := gn x1 (N 0) (fun j_1 => gn (S.r 0 5 j_1) (N 16) (fun j_4 => (if nI (S.z 16 j_4) ≤ x2 then some (.inr (S, x1)) else gd x2 (S.z 16 j_4) (gn (S.q 16 j_4 x2.toNatClampNeg) (N 0) (fun j_9 => gl x0 (N 6) (ob (m_cSv_emitNumber N x0 S ((S.i 0 0 j_9).toInt64)) (fun o_12 => gn (o_12.r 0 5 j_1) (N 16) (fun j_14 => gd x2 (o_12.z 16 j_14) (gn (o_12.q 16 j_14 x2.toNatClampNeg) (N 0) (fun j_18 => ob (m_cSv_emitNumber N x0 o_12 ((o_12.i 0 1 j_18).toInt64)) (fun o_21 => some (.inl (o_21, x1, (x2 + 1))))))))))))))
theorem d_cSv_emitChange_0 : decode prog_8_method_8_code 0 = .ok (.aload_n 0, 1) := by decide +kernel
theorem d_cSv_emitChange_1 : decode prog_8_method_8_code 1 = .ok (.aload_n 1, 1) := by decide +kernel
theorem d_cSv_emitChange_2 : decode prog_8_method_8_code 2 = .ok (.getfield 50, 3) := by decide +kernel
theorem d_cSv_emitChange_5 : decode prog_8_method_8_code 5 = .ok (.i2l, 1) := by decide +kernel
theorem d_cSv_emitChange_6 : decode prog_8_method_8_code 6 = .ok (.invokevirtual 38, 3) := by decide +kernel
theorem d_cSv_emitChange_9 : decode prog_8_method_8_code 9 = .ok (.aload_n 0, 1) := by decide +kernel
theorem d_cSv_emitChange_10 : decode prog_8_method_8_code 10 = .ok (.aload_n 1, 1) := by decide +kernel
theorem d_cSv_emitChange_11 : decode prog_8_method_8_code 11 = .ok (.getfield 103, 3) := by decide +kernel
theorem d_cSv_emitChange_14 : decode prog_8_method_8_code 14 = .ok (.i2l, 1) := by decide +kernel
theorem d_cSv_emitChange_15 : decode prog_8_method_8_code 15 = .ok (.invokevirtual 38, 3) := by decide +kernel
theorem d_cSv_emitChange_18 : decode prog_8_method_8_code 18 = .ok (.aload_n 0, 1) := by decide +kernel
theorem d_cSv_emitChange_19 : decode prog_8_method_8_code 19 = .ok (.aload_n 1, 1) := by decide +kernel
theorem d_cSv_emitChange_20 : decode prog_8_method_8_code 20 = .ok (.getfield 106, 3) := by decide +kernel
theorem d_cSv_emitChange_23 : decode prog_8_method_8_code 23 = .ok (.arraylength, 1) := by decide +kernel
theorem d_cSv_emitChange_24 : decode prog_8_method_8_code 24 = .ok (.i2l, 1) := by decide +kernel
theorem d_cSv_emitChange_25 : decode prog_8_method_8_code 25 = .ok (.invokevirtual 38, 3) := by decide +kernel
theorem d_cSv_emitChange_28 : decode prog_8_method_8_code 28 = .ok (.iconst 0, 1) := by decide +kernel
theorem d_cSv_emitChange_29 : decode prog_8_method_8_code 29 = .ok (.istore_n 2, 1) := by decide +kernel
theorem d_cSv_emitChange_30 : decode prog_8_method_8_code 30 = .ok (.iload_n 2, 1) := by decide +kernel
theorem d_cSv_emitChange_31 : decode prog_8_method_8_code 31 = .ok (.aload_n 1, 1) := by decide +kernel
theorem d_cSv_emitChange_32 : decode prog_8_method_8_code 32 = .ok (.getfield 106, 3) := by decide +kernel
theorem d_cSv_emitChange_35 : decode prog_8_method_8_code 35 = .ok (.arraylength, 1) := by decide +kernel
theorem d_cSv_emitChange_36 : decode prog_8_method_8_code 36 = .ok (.if_icmp .ge 37, 3) := by decide +kernel
theorem d_cSv_emitChange_39 : decode prog_8_method_8_code 39 = .ok (.aload_n 0, 1) := by decide +kernel
theorem d_cSv_emitChange_40 : decode prog_8_method_8_code 40 = .ok (.aload_n 1, 1) := by decide +kernel
theorem d_cSv_emitChange_41 : decode prog_8_method_8_code 41 = .ok (.getfield 106, 3) := by decide +kernel
theorem d_cSv_emitChange_44 : decode prog_8_method_8_code 44 = .ok (.iload_n 2, 1) := by decide +kernel
theorem d_cSv_emitChange_45 : decode prog_8_method_8_code 45 = .ok (.aaload, 1) := by decide +kernel
theorem d_cSv_emitChange_46 : decode prog_8_method_8_code 46 = .ok (.getfield 50, 3) := by decide +kernel
theorem d_cSv_emitChange_49 : decode prog_8_method_8_code 49 = .ok (.i2l, 1) := by decide +kernel
theorem d_cSv_emitChange_50 : decode prog_8_method_8_code 50 = .ok (.invokevirtual 38, 3) := by decide +kernel
theorem d_cSv_emitChange_53 : decode prog_8_method_8_code 53 = .ok (.aload_n 0, 1) := by decide +kernel
theorem d_cSv_emitChange_54 : decode prog_8_method_8_code 54 = .ok (.aload_n 1, 1) := by decide +kernel
theorem d_cSv_emitChange_55 : decode prog_8_method_8_code 55 = .ok (.getfield 106, 3) := by decide +kernel
theorem d_cSv_emitChange_58 : decode prog_8_method_8_code 58 = .ok (.iload_n 2, 1) := by decide +kernel
theorem d_cSv_emitChange_59 : decode prog_8_method_8_code 59 = .ok (.aaload, 1) := by decide +kernel
theorem d_cSv_emitChange_60 : decode prog_8_method_8_code 60 = .ok (.getfield 103, 3) := by decide +kernel
theorem d_cSv_emitChange_63 : decode prog_8_method_8_code 63 = .ok (.i2l, 1) := by decide +kernel
theorem d_cSv_emitChange_64 : decode prog_8_method_8_code 64 = .ok (.invokevirtual 38, 3) := by decide +kernel
theorem d_cSv_emitChange_67 : decode prog_8_method_8_code 67 = .ok (.iinc 2 1, 3) := by decide +kernel
theorem d_cSv_emitChange_70 : decode prog_8_method_8_code 70 = .ok (.goto (-40), 3) := by decide +kernel
set_option maxHeartbeats 4000000 in
set_option maxRecDepth 100000 in
theorem w_cSv_emitChange_B30 {p : Program} {l : Launch} {e : Env} {s : State} {m : MethodId} {args : Array Value} {below : List Frame} {meth : Method} {c : Code} {A : Nat → Prop} {D : va_G} {ad : Nat → Nat → Nat} {cc : Nat → ClassId} {sad sav : Nat → Nat} {Q : State → Prop} (hC : MCc sad sav "JoinedTrees$Saver" prog_8_method_8_code 4 none p s m args meth c A D cc) {N : Nat → Nat} {x0 : Nat} {S : CS} {x1 : Option Nat} {x2 : Int32} {o : ((CS × Option Nat × Int32) ⊕ (CS × Option Nat))} (Heq : m_cSv_emitChange_B30 N x0 S x1 x2 = some o) (Ka : ∀ b : CS × Option Nat × Int32, o = .inl b → ∀ (H : Heap) (locs : List Loc) (ls : Array Slot), va_P D cls (cw ad cc N b.1) H → va_D A (cw ad cc N b.1) → va_S A s.heap H locs → lv_has ls 4 [(0, .ref (ad 6 x0)), (1, rv ad 0 b.2.1), (2, .int b.2.2)] → W p l e ({ frames := 4, cells := 0, slots := 0, locals := 90 }) s m args below meth c H locs 0 0 Q (F0 m 30 ls [])) (K0 : ∀ b : CS × Option Nat, o = .inr b → ∀ (H : Heap) (locs : List Loc) (ls : Array Slot), va_P D cls (cw ad cc N b.1) H → va_D A (cw ad cc N b.1) → va_S A s.heap H locs → lv_has ls 4 [(0, .ref (ad 6 x0)), (1, rv ad 0 b.2)] → W p l e ({ frames := 4, cells := 0, slots := 0, locals := 90 }) s m args below meth c H locs 0 0 Q (F0 m 73 ls [])) : ∀ (H : Heap) (locs : List Loc) (ls : Array Slot), va_P D cls (cw ad cc N S) H → va_D A (cw ad cc N S) → va_S A s.heap H locs → lv_has ls 4 [(0, .ref (ad 6 x0)), (1, rv ad 0 x1), (2, .int x2)] → W p l e ({ frames := 4, cells := 0, slots := 0, locals := 90 }) s m args below meth c H locs 0 0 Q (F0 m 30 ls []) := by
  intro H locs ls hP hD hS hl
  obtain ⟨hx, hb, hr, hml, hown, hts, hK, hA, hev, hE, hN, hNS⟩ := id hC
  unfold m_cSv_emitChange_B30 at Heq
  refine lv_iload_n hx hb d_cSv_emitChange_30 rfl (lv_at hl 2 rfl) ?_
  refine tx_aload_n (x := x1.map (ad 0)) hx hb d_cSv_emitChange_31 rfl (lv_at hl 1 rfl) ?_
  refine w_v (y := rv ad 0 x1) rfl ?_
  obtain ⟨j_1, hj_2, hl_3, Heq⟩ := gn_some Heq
  refine w_s (st' := [.ref (ad 0 j_1), .int x2]) (congrArg (fun z9 : Option Nat => [rv ad 0 z9, .int x2]) hj_2) ?_
  refine va_get (D := D) (ci := 0) (v := rv ad 16 (S.r 0 5 j_1)) (C := R_Ch) (T := F_Ch) (N := 7) hx hb hts i_Ch hown hK hP (cPos N 0 j_1) (cw_obj (k := 0) (by decide) hl_3) rfl 5 (by decide) (hts _ kw_1028) (fun _ h9 => h9) rfl d_cSv_emitChange_32 ?_
  obtain ⟨j_4, hj_5, hl_6, Heq⟩ := gn_some Heq
  refine w_s (st' := [.ref (ad 16 j_4), .int x2]) (congrArg (fun z9 : Option Nat => [rv ad 16 z9, .int x2]) hj_5) ?_
  refine va_alen (v := nI (S.z 16 j_4)) hx hb hK hP (cPos N 16 j_4) 4 (cw_refs (k := 16) (by decide) hl_6) rfl rfl d_cSv_emitChange_35 ?_
  refine lv_icmp_ge (tgt := 73) hx hb d_cSv_emitChange_36 (by decide) (fun c_7 => ?_) (fun c_7 => ?_)
  · replace Heq := (if_pos c_7).symm.trans Heq
    exact K0 _ (Option.some.inj Heq).symm _ _ _ hP hD hS (lv_sub hl [0, 1] rfl)
  · replace Heq := (if_neg c_7).symm.trans Heq
    refine lv_aload_n hx hb d_cSv_emitChange_39 rfl (lv_at hl 0 rfl) ?_
    refine tx_aload_n (x := x1.map (ad 0)) hx hb d_cSv_emitChange_40 rfl (lv_at hl 1 rfl) ?_
    refine w_v (y := rv ad 0 x1) rfl ?_
    refine w_s (st' := [.ref (ad 0 j_1), .ref (ad 6 x0)]) (congrArg (fun z9 : Option Nat => [rv ad 0 z9, .ref (ad 6 x0)]) hj_2) ?_
    refine va_get (D := D) (ci := 0) (v := rv ad 16 (S.r 0 5 j_1)) (C := R_Ch) (T := F_Ch) (N := 7) hx hb hts i_Ch hown hK hP (cPos N 0 j_1) (cw_obj (k := 0) (by decide) hl_3) rfl 5 (by decide) (hts _ kw_1028) (fun _ h9 => h9) rfl d_cSv_emitChange_41 ?_
    refine lv_iload_n hx hb d_cSv_emitChange_44 rfl (lv_at hl 2 rfl) ?_
    refine w_s (st' := [.int x2, .ref (ad 16 j_4), .ref (ad 6 x0)]) (congrArg (fun z9 : Option Nat => [.int x2, rv ad 16 z9, .ref (ad 6 x0)]) hj_5) ?_
    obtain ⟨hi_8, Heq⟩ := gd_some Heq
    refine va_aldq hx hb hK hP (cPos N 16 j_4) 4 (cw_refs (k := 16) (by decide) hl_6) rfl (i := x2) hi_8 d_cSv_emitChange_45 ?_
    refine w_v (y := rv ad 0 (S.q 16 j_4 x2.toNatClampNeg)) (congrArg (rv ad 0) rfl) ?_
    obtain ⟨j_9, hj_10, hl_11, Heq⟩ := gn_some Heq
    refine w_s (st' := [.ref (ad 0 j_9), .ref (ad 6 x0)]) (congrArg (fun z9 : Option Nat => [rv ad 0 z9, .ref (ad 6 x0)]) hj_10) ?_
    refine va_get (D := D) (ci := 0) (v := .int (S.i 0 0 j_9)) (C := R_Ch) (T := F_Ch) (N := 7) hx hb hts i_Ch hown hK hP (cPos N 0 j_9) (cw_obj (k := 0) (by decide) hl_11) rfl 0 (by decide) (hts _ kw_1010) (fun _ h9 => h9) rfl d_cSv_emitChange_46 ?_
    refine lv_i2l hx hb d_cSv_emitChange_49 rfl ?_
    refine w_l (y := (S.i 0 0 j_9).toInt64) rfl ?_
    obtain ⟨hl_x0_6, Heq⟩ := gl_some Heq
    obtain ⟨o_12, h_13, Heq⟩ := ob_some Heq
    have hFc := fr_all hD hS hA
    refine va_callv (va_runV (As := [.long ((S.i 0 0 j_9).toInt64)]) (rest := []) ⟨hx, hb, hml, hown, hts⟩ (g_cSv_emitNumber l D H.size (ad := ad) (cc := cc) (sad := sad) (sav := sav) h_13) (cw_v 1 hts kw_1283 kw_1280 kw_1281 kw_1282 kw_10 rfl rfl (by decide +kernel) ⟨Nat.le_of_ble_eq_true rfl, Nat.le_of_ble_eq_true rfl⟩) ⟨c_blind, va_recv hK hP (ci := 6) (q0 := cPos N 6 x0) rfl (cw_obj (k := 6) (by decide) hl_x0_6), fun U hU hW => c_pre hU hW hP hK hD hev hE hN hNS hS hFc⟩ rfl rfl hl.1 rfl (lv_room (Nat.le_of_ble_eq_true rfl)) d_cSv_emitChange_50 ⟨Nat.le_of_ble_eq_true rfl, Nat.le_of_ble_eq_true rfl⟩) hS (fun q _ h => hFc q h) hFc (fun u t H1 locs ht hvm hw hB hz1 hk1 hS => ?_)
    obtain ⟨hP, -, hD1⟩ := hB
    rw [ht] at hP
    have hD := hD1.weaken (fun _ q _ h => hFc q.1 h)
    generalize H1 = H at hP hS ⊢
    refine W.cs (cells' := 0) (slots' := 0) rfl rfl ?_
    refine lv_aload_n hx hb d_cSv_emitChange_53 rfl (lv_at hl 0 rfl) ?_
    refine tx_aload_n (x := x1.map (ad 0)) hx hb d_cSv_emitChange_54 rfl (lv_at hl 1 rfl) ?_
    refine w_v (y := rv ad 0 x1) rfl ?_
    refine w_s (st' := [.ref (ad 0 j_1), .ref (ad 6 x0)]) (congrArg (fun z9 : Option Nat => [rv ad 0 z9, .ref (ad 6 x0)]) hj_2) ?_
    refine va_get (D := D) (ci := 0) (v := rv ad 16 (o_12.r 0 5 j_1)) (C := R_Ch) (T := F_Ch) (N := 7) hx hb hts i_Ch hown hK hP (cPos N 0 j_1) (cw_obj (k := 0) (by decide) hl_3) rfl 5 (by decide) (hts _ kw_1028) (fun _ h9 => h9) rfl d_cSv_emitChange_55 ?_
    refine lv_iload_n hx hb d_cSv_emitChange_58 rfl (lv_at hl 2 rfl) ?_
    obtain ⟨j_14, hj_15, hl_16, Heq⟩ := gn_some Heq
    refine w_s (st' := [.int x2, .ref (ad 16 j_14), .ref (ad 6 x0)]) (congrArg (fun z9 : Option Nat => [.int x2, rv ad 16 z9, .ref (ad 6 x0)]) hj_15) ?_
    obtain ⟨hi_17, Heq⟩ := gd_some Heq
    refine va_aldq hx hb hK hP (cPos N 16 j_14) 4 (cw_refs (k := 16) (by decide) hl_16) rfl (i := x2) hi_17 d_cSv_emitChange_59 ?_
    refine w_v (y := rv ad 0 (o_12.q 16 j_14 x2.toNatClampNeg)) (congrArg (rv ad 0) rfl) ?_
    obtain ⟨j_18, hj_19, hl_20, Heq⟩ := gn_some Heq
    refine w_s (st' := [.ref (ad 0 j_18), .ref (ad 6 x0)]) (congrArg (fun z9 : Option Nat => [rv ad 0 z9, .ref (ad 6 x0)]) hj_19) ?_
    refine va_get (D := D) (ci := 0) (v := .int (o_12.i 0 1 j_18)) (C := R_Ch) (T := F_Ch) (N := 7) hx hb hts i_Ch hown hK hP (cPos N 0 j_18) (cw_obj (k := 0) (by decide) hl_20) rfl 1 (by decide) (hts _ kw_1015) (fun _ h9 => h9) rfl d_cSv_emitChange_60 ?_
    refine lv_i2l hx hb d_cSv_emitChange_63 rfl ?_
    refine w_l (y := (o_12.i 0 1 j_18).toInt64) rfl ?_
    obtain ⟨o_21, h_22, Heq⟩ := ob_some Heq
    have hFc := fr_all hD hS hA
    refine va_callv (va_runV (As := [.long ((o_12.i 0 1 j_18).toInt64)]) (rest := []) ⟨hx, hb, hml, hown, hts⟩ (g_cSv_emitNumber l D H.size (ad := ad) (cc := cc) (sad := sad) (sav := sav) h_22) (cw_v 1 hts kw_1283 kw_1280 kw_1281 kw_1282 kw_10 rfl rfl (by decide +kernel) ⟨Nat.le_of_ble_eq_true rfl, Nat.le_of_ble_eq_true rfl⟩) ⟨c_blind, va_recv hK hP (ci := 6) (q0 := cPos N 6 x0) rfl (cw_obj (k := 6) (by decide) hl_x0_6), fun U hU hW => c_pre hU hW hP hK hD hev hE hN hNS hS hFc⟩ rfl rfl hl.1 rfl (lv_room (Nat.le_of_ble_eq_true rfl)) d_cSv_emitChange_64 ⟨Nat.le_of_ble_eq_true rfl, Nat.le_of_ble_eq_true rfl⟩) hS (fun q _ h => hFc q h) hFc (fun u t H1 locs ht hvm hw hB hz1 hk1 hS => ?_)
    obtain ⟨hP, -, hD1⟩ := hB
    rw [ht] at hP
    have hD := hD1.weaken (fun _ q _ h => hFc q.1 h)
    generalize H1 = H at hP hS ⊢
    refine W.cs (cells' := 0) (slots' := 0) rfl rfl ?_
    refine lv_iinc (v := x2 + 1) (lv' := [(2, .int (x2 + 1)), (0, .ref (ad 6 x0)), (1, rv ad 0 x1)]) hx hb d_cSv_emitChange_67 hl (k := 2) rfl rfl (by decide) (by simp [rv, rf_cat]) (fun ls hl => ?_)
    refine lv_goto (tgt := 30) hx hb d_cSv_emitChange_70 (by decide) ?_
    exact Ka _ (Option.some.inj Heq).symm _ _ _ hP hD hS (lv_sub hl [1, 2, 0] rfl)
def m_cSv_emitChange_L30 (N : Nat → Nat) (x0 : Nat) (S : CS) (x1 : Option Nat) (x2 : Int32) : Option (CS × Option Nat) := lp (fun a : CS × Option Nat × Int32 => m_cSv_emitChange_B30 N x0 a.1 a.2.1 a.2.2) FU (S, x1, x2)
theorem w_cSv_emitChange_L30 {p : Program} {l : Launch} {e : Env} {s : State} {m : MethodId} {args : Array Value} {below : List Frame} {meth : Method} {c : Code} {A : Nat → Prop} {D : va_G} {ad : Nat → Nat → Nat} {cc : Nat → ClassId} {sad sav : Nat → Nat} {Q : State → Prop} (hC : MCc sad sav "JoinedTrees$Saver" prog_8_method_8_code 4 none p s m args meth c A D cc) {N : Nat → Nat} {x0 : Nat} {S : CS} {x1 : Option Nat} {x2 : Int32} {o : CS × Option Nat} (Heq : m_cSv_emitChange_L30 N x0 S x1 x2 = some o) (K0 : ∀ b : CS × Option Nat, o = b → ∀ (H : Heap) (locs : List Loc) (ls : Array Slot), va_P D cls (cw ad cc N b.1) H → va_D A (cw ad cc N b.1) → va_S A s.heap H locs → lv_has ls 4 [(0, .ref (ad 6 x0)), (1, rv ad 0 b.2)] → W p l e ({ frames := 4, cells := 0, slots := 0, locals := 90 }) s m args below meth c H locs 0 0 Q (F0 m 73 ls [])) : ∀ (H : Heap) (locs : List Loc) (ls : Array Slot), va_P D cls (cw ad cc N S) H → va_D A (cw ad cc N S) → va_S A s.heap H locs → lv_has ls 4 [(0, .ref (ad 6 x0)), (1, rv ad 0 x1), (2, .int x2)] → W p l e ({ frames := 4, cells := 0, slots := 0, locals := 90 }) s m args below meth c H locs 0 0 Q (F0 m 30 ls []) := by
  refine lp_w (G := fun a : CS × Option Nat × Int32 => ∀ (H : Heap) (locs : List Loc) (ls : Array Slot), va_P D cls (cw ad cc N a.1) H → va_D A (cw ad cc N a.1) → va_S A s.heap H locs → lv_has ls 4 [(0, .ref (ad 6 x0)), (1, rv ad 0 a.2.1), (2, .int a.2.2)] → W p l e ({ frames := 4, cells := 0, slots := 0, locals := 90 }) s m args below meth c H locs 0 0 Q (F0 m 30 ls [])) ?_ FU (S, x1, x2) Heq
  intro a o1 ho Ka Ke
  exact w_cSv_emitChange_B30 hC ho (fun b h => Ka b h) (fun b h => K0 b (Ke _ h).symm)
def m_cSv_emitChange_J133 (N : Nat → Nat) (x0 : Nat) (S : CS) (x1 : Option Nat) (x2 : Int32) : Option ((CS × Option Nat × Int32) ⊕ CS) := some (.inl (S, x1, (x2 + 1)))
theorem d_cSv_emitChange_73 : decode prog_8_method_8_code 73 = .ok (.aload_n 0, 1) := by decide +kernel
theorem d_cSv_emitChange_74 : decode prog_8_method_8_code 74 = .ok (.aload_n 1, 1) := by decide +kernel
theorem d_cSv_emitChange_75 : decode prog_8_method_8_code 75 = .ok (.getfield 109, 3) := by decide +kernel
theorem d_cSv_emitChange_78 : decode prog_8_method_8_code 78 = .ok (.i2l, 1) := by decide +kernel
theorem d_cSv_emitChange_79 : decode prog_8_method_8_code 79 = .ok (.invokevirtual 38, 3) := by decide +kernel
theorem d_cSv_emitChange_82 : decode prog_8_method_8_code 82 = .ok (.aload_n 0, 1) := by decide +kernel
theorem d_cSv_emitChange_83 : decode prog_8_method_8_code 83 = .ok (.aload_n 1, 1) := by decide +kernel
theorem d_cSv_emitChange_84 : decode prog_8_method_8_code 84 = .ok (.getfield 112, 3) := by decide +kernel
theorem d_cSv_emitChange_87 : decode prog_8_method_8_code 87 = .ok (.i2l, 1) := by decide +kernel
theorem d_cSv_emitChange_88 : decode prog_8_method_8_code 88 = .ok (.invokevirtual 38, 3) := by decide +kernel
theorem d_cSv_emitChange_91 : decode prog_8_method_8_code 91 = .ok (.iconst 0, 1) := by decide +kernel
theorem d_cSv_emitChange_92 : decode prog_8_method_8_code 92 = .ok (.istore_n 2, 1) := by decide +kernel
theorem d_cSv_emitChange_93 : decode prog_8_method_8_code 93 = .ok (.iload_n 2, 1) := by decide +kernel
theorem d_cSv_emitChange_94 : decode prog_8_method_8_code 94 = .ok (.aload_n 1, 1) := by decide +kernel
theorem d_cSv_emitChange_95 : decode prog_8_method_8_code 95 = .ok (.getfield 112, 3) := by decide +kernel
theorem d_cSv_emitChange_98 : decode prog_8_method_8_code 98 = .ok (.if_icmp .ge 41, 3) := by decide +kernel
theorem d_cSv_emitChange_101 : decode prog_8_method_8_code 101 = .ok (.aload_n 0, 1) := by decide +kernel
theorem d_cSv_emitChange_102 : decode prog_8_method_8_code 102 = .ok (.getfield 15, 3) := by decide +kernel
theorem d_cSv_emitChange_105 : decode prog_8_method_8_code 105 = .ok (.getfield 115, 3) := by decide +kernel
theorem d_cSv_emitChange_108 : decode prog_8_method_8_code 108 = .ok (.bipush 8, 2) := by decide +kernel
theorem d_cSv_emitChange_110 : decode prog_8_method_8_code 110 = .ok (.aload_n 1, 1) := by decide +kernel
theorem d_cSv_emitChange_111 : decode prog_8_method_8_code 111 = .ok (.getfield 109, 3) := by decide +kernel
theorem d_cSv_emitChange_114 : decode prog_8_method_8_code 114 = .ok (.iload_n 2, 1) := by decide +kernel
theorem d_cSv_emitChange_115 : decode prog_8_method_8_code 115 = .ok (.iadd, 1) := by decide +kernel
theorem d_cSv_emitChange_116 : decode prog_8_method_8_code 116 = .ok (.imul, 1) := by decide +kernel
theorem d_cSv_emitChange_117 : decode prog_8_method_8_code 117 = .ok (.aload_n 1, 1) := by decide +kernel
theorem d_cSv_emitChange_118 : decode prog_8_method_8_code 118 = .ok (.getfield 50, 3) := by decide +kernel
theorem d_cSv_emitChange_121 : decode prog_8_method_8_code 121 = .ok (.iadd, 1) := by decide +kernel
theorem d_cSv_emitChange_122 : decode prog_8_method_8_code 122 = .ok (.aaload, 1) := by decide +kernel
theorem d_cSv_emitChange_123 : decode prog_8_method_8_code 123 = .ok (.astore_n 3, 1) := by decide +kernel
theorem d_cSv_emitChange_124 : decode prog_8_method_8_code 124 = .ok (.aload_n 3, 1) := by decide +kernel
theorem d_cSv_emitChange_125 : decode prog_8_method_8_code 125 = .ok (.ifnull 8, 3) := by decide +kernel
theorem d_cSv_emitChange_133 : decode prog_8_method_8_code 133 = .ok (.iinc 2 1, 3) := by decide +kernel
theorem d_cSv_emitChange_136 : decode prog_8_method_8_code 136 = .ok (.goto (-43), 3) := by decide +kernel
set_option maxHeartbeats 4000000 in
set_option maxRecDepth 100000 in
theorem w_cSv_emitChange_J133 {p : Program} {l : Launch} {e : Env} {s : State} {m : MethodId} {args : Array Value} {below : List Frame} {meth : Method} {c : Code} {A : Nat → Prop} {D : va_G} {ad : Nat → Nat → Nat} {cc : Nat → ClassId} {sad sav : Nat → Nat} {Q : State → Prop} (hC : MCc sad sav "JoinedTrees$Saver" prog_8_method_8_code 4 none p s m args meth c A D cc) {N : Nat → Nat} {x0 : Nat} {S : CS} {x1 : Option Nat} {x2 : Int32} {o : ((CS × Option Nat × Int32) ⊕ CS)} (Heq : m_cSv_emitChange_J133 N x0 S x1 x2 = some o) (Ka : ∀ b : CS × Option Nat × Int32, o = .inl b → ∀ (H : Heap) (locs : List Loc) (ls : Array Slot), va_P D cls (cw ad cc N b.1) H → va_D A (cw ad cc N b.1) → va_S A s.heap H locs → lv_has ls 4 [(0, .ref (ad 6 x0)), (1, rv ad 0 b.2.1), (2, .int b.2.2)] → W p l e ({ frames := 4, cells := 0, slots := 0, locals := 90 }) s m args below meth c H locs 0 0 Q (F0 m 93 ls [])) (K0 : ∀ b : CS, o = .inr b → ∀ (H : Heap) (locs : List Loc) (ls : Array Slot), va_P D cls (cw ad cc N b) H → va_D A (cw ad cc N b) → va_S A s.heap H locs → lv_has ls 4 [(0, .ref (ad 6 x0))] → W p l e ({ frames := 4, cells := 0, slots := 0, locals := 90 }) s m args below meth c H locs 0 0 Q (F0 m 139 ls [])) : ∀ (H : Heap) (locs : List Loc) (ls : Array Slot), va_P D cls (cw ad cc N S) H → va_D A (cw ad cc N S) → va_S A s.heap H locs → lv_has ls 4 [(0, .ref (ad 6 x0)), (1, rv ad 0 x1), (2, .int x2)] → W p l e ({ frames := 4, cells := 0, slots := 0, locals := 90 }) s m args below meth c H locs 0 0 Q (F0 m 133 ls []) := by
  intro H locs ls hP hD hS hl
  obtain ⟨hx, hb, hr, hml, hown, hts, hK, hA, hev, hE, hN, hNS⟩ := id hC
  unfold m_cSv_emitChange_J133 at Heq
  refine lv_iinc (v := x2 + 1) (lv' := [(2, .int (x2 + 1)), (0, .ref (ad 6 x0)), (1, rv ad 0 x1)]) hx hb d_cSv_emitChange_133 hl (k := 2) rfl rfl (by decide) (by simp [rv, rf_cat]) (fun ls hl => ?_)
  refine lv_goto (tgt := 93) hx hb d_cSv_emitChange_136 (by decide) ?_
  exact Ka _ (Option.some.inj Heq).symm _ _ _ hP hD hS (lv_sub hl [1, 2, 0] rfl)
def m_cSv_emitChange_B93 (N : Nat → Nat) (x0 : Nat) (S : CS) (x1 : Option Nat) (x2 : Int32) : Option ((CS × Option Nat × Int32) ⊕ CS) := gn x1 (N 0) (fun j_1 => (if S.i 0 4 j_1 ≤ x2 then some (.inr (S)) else gl x0 (N 6) (gn (S.r 6 0 x0) (N 8) (fun j_5 => gn (S.r 8 1 j_5) (N 15) (fun j_8 => gd ((8 * ((S.i 0 3 j_1) + x2)) + (S.i 0 0 j_1)) (S.z 15 j_8) (on (S.q 15 j_8 (((8 * ((S.i 0 3 j_1) + x2)) + (S.i 0 0 j_1)).toNatClampNeg)) (m_cSv_emitChange_J133 N x0 S x1 x2) (fun j_12 => gl j_12 (N 3) (ob (m_cSv_emitOp N x0 S j_12) (fun o_14 => m_cSv_emitChange_J133 N x0 o_14 x1 x2)))))))))
theorem d_cSv_emitChange_128 : decode prog_8_method_8_code 128 = .ok (.aload_n 0, 1) := by decide +kernel
theorem d_cSv_emitChange_129 : decode prog_8_method_8_code 129 = .ok (.aload_n 3, 1) := by decide +kernel
theorem d_cSv_emitChange_130 : decode prog_8_method_8_code 130 = .ok (.invokevirtual 119, 3) := by decide +kernel
set_option maxHeartbeats 4000000 in
set_option maxRecDepth 100000 in
theorem w_cSv_emitChange_B93 {p : Program} {l : Launch} {e : Env} {s : State} {m : MethodId} {args : Array Value} {below : List Frame} {meth : Method} {c : Code} {A : Nat → Prop} {D : va_G} {ad : Nat → Nat → Nat} {cc : Nat → ClassId} {sad sav : Nat → Nat} {Q : State → Prop} (hC : MCc sad sav "JoinedTrees$Saver" prog_8_method_8_code 4 none p s m args meth c A D cc) {N : Nat → Nat} {x0 : Nat} {S : CS} {x1 : Option Nat} {x2 : Int32} {o : ((CS × Option Nat × Int32) ⊕ CS)} (Heq : m_cSv_emitChange_B93 N x0 S x1 x2 = some o) (Ka : ∀ b : CS × Option Nat × Int32, o = .inl b → ∀ (H : Heap) (locs : List Loc) (ls : Array Slot), va_P D cls (cw ad cc N b.1) H → va_D A (cw ad cc N b.1) → va_S A s.heap H locs → lv_has ls 4 [(0, .ref (ad 6 x0)), (1, rv ad 0 b.2.1), (2, .int b.2.2)] → W p l e ({ frames := 4, cells := 0, slots := 0, locals := 90 }) s m args below meth c H locs 0 0 Q (F0 m 93 ls [])) (K0 : ∀ b : CS, o = .inr b → ∀ (H : Heap) (locs : List Loc) (ls : Array Slot), va_P D cls (cw ad cc N b) H → va_D A (cw ad cc N b) → va_S A s.heap H locs → lv_has ls 4 [(0, .ref (ad 6 x0))] → W p l e ({ frames := 4, cells := 0, slots := 0, locals := 90 }) s m args below meth c H locs 0 0 Q (F0 m 139 ls [])) : ∀ (H : Heap) (locs : List Loc) (ls : Array Slot), va_P D cls (cw ad cc N S) H → va_D A (cw ad cc N S) → va_S A s.heap H locs → lv_has ls 4 [(0, .ref (ad 6 x0)), (1, rv ad 0 x1), (2, .int x2)] → W p l e ({ frames := 4, cells := 0, slots := 0, locals := 90 }) s m args below meth c H locs 0 0 Q (F0 m 93 ls []) := by
  intro H locs ls hP hD hS hl
  obtain ⟨hx, hb, hr, hml, hown, hts, hK, hA, hev, hE, hN, hNS⟩ := id hC
  unfold m_cSv_emitChange_B93 at Heq
  refine lv_iload_n hx hb d_cSv_emitChange_93 rfl (lv_at hl 2 rfl) ?_
  refine tx_aload_n (x := x1.map (ad 0)) hx hb d_cSv_emitChange_94 rfl (lv_at hl 1 rfl) ?_
  refine w_v (y := rv ad 0 x1) rfl ?_
  obtain ⟨j_1, hj_2, hl_3, Heq⟩ := gn_some Heq
  refine w_s (st' := [.ref (ad 0 j_1), .int x2]) (congrArg (fun z9 : Option Nat => [rv ad 0 z9, .int x2]) hj_2) ?_
  refine va_get (D := D) (ci := 0) (v := .int (S.i 0 4 j_1)) (C := R_Ch) (T := F_Ch) (N := 7) hx hb hts i_Ch hown hK hP (cPos N 0 j_1) (cw_obj (k := 0) (by decide) hl_3) rfl 4 (by decide) (hts _ kw_1024) (fun _ h9 => h9) rfl d_cSv_emitChange_95 ?_
  refine lv_icmp_ge (tgt := 139) hx hb d_cSv_emitChange_98 (by decide) (fun c_4 => ?_) (fun c_4 => ?_)
  · replace Heq := (if_pos c_4).symm.trans Heq
    exact K0 _ (Option.some.inj Heq).symm _ _ _ hP hD hS (lv_sub hl [0] rfl)
  · replace Heq := (if_neg c_4).symm.trans Heq
    refine lv_aload_n hx hb d_cSv_emitChange_101 rfl (lv_at hl 0 rfl) ?_
    obtain ⟨hl_x0_6, Heq⟩ := gl_some Heq
    refine va_get (D := D) (ci := 6) (v := rv ad 8 (S.r 6 0 x0)) (C := R_Sv) (T := F_Sv) (N := 6) hx hb hts i_Sv hown hK hP (cPos N 6 x0) (cw_obj (k := 6) (by decide) hl_x0_6) rfl 0 (by decide) (hts _ kw_401) (fun _ h9 => h9) rfl d_cSv_emitChange_102 ?_
    obtain ⟨j_5, hj_6, hl_7, Heq⟩ := gn_some Heq
    refine w_s (st' := [.ref (ad 8 j_5)]) (congrArg (fun z9 : Option Nat => [rv ad 8 z9]) hj_6) ?_
    refine va_get (D := D) (ci := 8) (v := rv ad 15 (S.r 8 1 j_5)) (C := R_St) (T := F_St) (N := 6) hx hb hts i_St hown hK hP (cPos N 8 j_5) (cw_obj (k := 8) (by decide) hl_7) rfl 1 (by decide) (hts _ kw_166) (fun _ h9 => h9) rfl d_cSv_emitChange_105 ?_
    refine lv_bipush (v := 8) hx hb d_cSv_emitChange_108 (by decide) ?_
    refine tx_aload_n (x := x1.map (ad 0)) hx hb d_cSv_emitChange_110 rfl (lv_at hl 1 rfl) ?_
    refine w_v (y := rv ad 0 x1) rfl ?_
    refine w_s (st' := [.ref (ad 0 j_1), .int 8, rv ad 15 (S.r 8 1 j_5)]) (congrArg (fun z9 : Option Nat => [rv ad 0 z9, .int 8, rv ad 15 (S.r 8 1 j_5)]) hj_2) ?_
    refine va_get (D := D) (ci := 0) (v := .int (S.i 0 3 j_1)) (C := R_Ch) (T := F_Ch) (N := 7) hx hb hts i_Ch hown hK hP (cPos N 0 j_1) (cw_obj (k := 0) (by decide) hl_3) rfl 3 (by decide) (hts _ kw_1021) (fun _ h9 => h9) rfl d_cSv_emitChange_111 ?_
    refine lv_iload_n hx hb d_cSv_emitChange_114 rfl (lv_at hl 2 rfl) ?_
    refine lv_iadd hx hb d_cSv_emitChange_115 ?_
    refine w_i (y := (S.i 0 3 j_1) + x2) rfl ?_
    refine lv_imul hx hb d_cSv_emitChange_116 ?_
    refine w_i (y := 8 * ((S.i 0 3 j_1) + x2)) rfl ?_
    refine tx_aload_n (x := x1.map (ad 0)) hx hb d_cSv_emitChange_117 rfl (lv_at hl 1 rfl) ?_
    refine w_v (y := rv ad 0 x1) rfl ?_
    refine w_s (st' := [.ref (ad 0 j_1), .int (8 * ((S.i 0 3 j_1) + x2)), rv ad 15 (S.r 8 1 j_5)]) (congrArg (fun z9 : Option Nat => [rv ad 0 z9, .int (8 * ((S.i 0 3 j_1) + x2)), rv ad 15 (S.r 8 1 j_5)]) hj_2) ?_
    refine va_get (D := D) (ci := 0) (v := .int (S.i 0 0 j_1)) (C := R_Ch) (T := F_Ch) (N := 7) hx hb hts i_Ch hown hK hP (cPos N 0 j_1) (cw_obj (k := 0) (by decide) hl_3) rfl 0 (by decide) (hts _ kw_1010) (fun _ h9 => h9) rfl d_cSv_emitChange_118 ?_
    refine lv_iadd hx hb d_cSv_emitChange_121 ?_
    refine w_i (y := (8 * ((S.i 0 3 j_1) + x2)) + (S.i 0 0 j_1)) rfl ?_
    obtain ⟨j_8, hj_9, hl_10, Heq⟩ := gn_some Heq
    refine w_s (st' := [.int ((8 * ((S.i 0 3 j_1) + x2)) + (S.i 0 0 j_1)), .ref (ad 15 j_8)]) (congrArg (fun z9 : Option Nat => [.int ((8 * ((S.i 0 3 j_1) + x2)) + (S.i 0 0 j_1)), rv ad 15 z9]) hj_9) ?_
    obtain ⟨hi_11, Heq⟩ := gd_some Heq
    refine va_aldq hx hb hK hP (cPos N 15 j_8) 3 (cw_refs (k := 15) (by decide) hl_10) rfl (i := (8 * ((S.i 0 3 j_1) + x2)) + (S.i 0 0 j_1)) hi_11 d_cSv_emitChange_122 ?_
    refine w_v (y := rv ad 3 (S.q 15 j_8 (((8 * ((S.i 0 3 j_1) + x2)) + (S.i 0 0 j_1)).toNatClampNeg))) (congrArg (rv ad 3) rfl) ?_
    refine tx_astore_n (x := (S.q 15 j_8 (((8 * ((S.i 0 3 j_1) + x2)) + (S.i 0 0 j_1)).toNatClampNeg)).map (ad 3)) (lv' := [(3, rv ad 3 (S.q 15 j_8 (((8 * ((S.i 0 3 j_1) + x2)) + (S.i 0 0 j_1)).toNatClampNeg))), (0, .ref (ad 6 x0)), (1, rv ad 0 x1), (2, .int x2)]) hx hb d_cSv_emitChange_123 rfl hl (by decide) rfl (fun ls hl => ?_)
    refine tx_aload_n (x := (S.q 15 j_8 (((8 * ((S.i 0 3 j_1) + x2)) + (S.i 0 0 j_1)).toNatClampNeg)).map (ad 3)) hx hb d_cSv_emitChange_124 rfl (lv_at hl 0 rfl) ?_
    refine w_v (y := rv ad 3 (S.q 15 j_8 (((8 * ((S.i 0 3 j_1) + x2)) + (S.i 0 0 j_1)).toNatClampNeg))) rfl ?_
    rcases on_some Heq with ⟨hj_13, Heq⟩ | ⟨j_12, hj_13, Heq⟩
    · refine w_s (st' := [.null]) (congrArg (fun z9 : Option Nat => [rv ad 3 z9]) hj_13) ?_
      refine lv_ifnullN (tgt := 133) hx hb d_cSv_emitChange_125 (by decide) ?_
      exact w_cSv_emitChange_J133 hC Heq Ka K0 _ _ _ hP hD hS (lv_sub hl [1, 2, 3] rfl)
    · refine w_s (st' := [.ref (ad 3 j_12)]) (congrArg (fun z9 : Option Nat => [rv ad 3 z9]) hj_13) ?_
      refine lv_ifnull hx hb d_cSv_emitChange_125 ?_
      refine lv_aload_n hx hb d_cSv_emitChange_128 rfl (lv_at hl 1 rfl) ?_
      refine tx_aload_n (x := (S.q 15 j_8 (((8 * ((S.i 0 3 j_1) + x2)) + (S.i 0 0 j_1)).toNatClampNeg)).map (ad 3)) hx hb d_cSv_emitChange_129 rfl (lv_at hl 0 rfl) ?_
      refine w_v (y := rv ad 3 (S.q 15 j_8 (((8 * ((S.i 0 3 j_1) + x2)) + (S.i 0 0 j_1)).toNatClampNeg))) rfl ?_
      refine w_s (st' := [.ref (ad 3 j_12), .ref (ad 6 x0)]) (congrArg (fun z9 : Option Nat => [rv ad 3 z9, .ref (ad 6 x0)]) hj_13) ?_
      obtain ⟨hl_j_12_3, Heq⟩ := gl_some Heq
      obtain ⟨o_14, h_15, Heq⟩ := ob_some Heq
      have hFc := fr_all hD hS hA
      refine va_callv (va_runV (As := [.ref (ad 3 j_12)]) (rest := []) ⟨hx, hb, hml, hown, hts⟩ (g_cSv_emitOp l D H.size (ad := ad) (cc := cc) (sad := sad) (sav := sav) h_15) (cw_v 1 hts kw_1299 kw_1296 kw_1297 kw_1298 kw_10 rfl rfl (by decide +kernel) ⟨Nat.le_of_ble_eq_true rfl, Nat.le_of_ble_eq_true rfl⟩) ⟨c_blind, va_recv hK hP (ci := 6) (q0 := cPos N 6 x0) rfl (cw_obj (k := 6) (by decide) hl_x0_6), fun U hU hW => c_pre hU hW hP hK hD hev hE hN hNS hS hFc⟩ rfl rfl hl.1 rfl (lv_room (Nat.le_of_ble_eq_true rfl)) d_cSv_emitChange_130 ⟨Nat.le_of_ble_eq_true rfl, Nat.le_of_ble_eq_true rfl⟩) hS (fun q _ h => hFc q h) hFc (fun u t H1 locs ht hvm hw hB hz1 hk1 hS => ?_)
      obtain ⟨hP, -, hD1⟩ := hB
      rw [ht] at hP
      have hD := hD1.weaken (fun _ q _ h => hFc q.1 h)
      generalize H1 = H at hP hS ⊢
      refine W.cs (cells' := 0) (slots' := 0) rfl rfl ?_
      exact w_cSv_emitChange_J133 hC Heq Ka K0 _ _ _ hP hD hS (lv_sub hl [1, 2, 3] rfl)
def m_cSv_emitChange_L93 (N : Nat → Nat) (x0 : Nat) (S : CS) (x1 : Option Nat) (x2 : Int32) : Option CS := lp (fun a : CS × Option Nat × Int32 => m_cSv_emitChange_B93 N x0 a.1 a.2.1 a.2.2) FU (S, x1, x2)
theorem w_cSv_emitChange_L93 {p : Program} {l : Launch} {e : Env} {s : State} {m : MethodId} {args : Array Value} {below : List Frame} {meth : Method} {c : Code} {A : Nat → Prop} {D : va_G} {ad : Nat → Nat → Nat} {cc : Nat → ClassId} {sad sav : Nat → Nat} {Q : State → Prop} (hC : MCc sad sav "JoinedTrees$Saver" prog_8_method_8_code 4 none p s m args meth c A D cc) {N : Nat → Nat} {x0 : Nat} {S : CS} {x1 : Option Nat} {x2 : Int32} {o : CS} (Heq : m_cSv_emitChange_L93 N x0 S x1 x2 = some o) (K0 : ∀ b : CS, o = b → ∀ (H : Heap) (locs : List Loc) (ls : Array Slot), va_P D cls (cw ad cc N b) H → va_D A (cw ad cc N b) → va_S A s.heap H locs → lv_has ls 4 [(0, .ref (ad 6 x0))] → W p l e ({ frames := 4, cells := 0, slots := 0, locals := 90 }) s m args below meth c H locs 0 0 Q (F0 m 139 ls [])) : ∀ (H : Heap) (locs : List Loc) (ls : Array Slot), va_P D cls (cw ad cc N S) H → va_D A (cw ad cc N S) → va_S A s.heap H locs → lv_has ls 4 [(0, .ref (ad 6 x0)), (1, rv ad 0 x1), (2, .int x2)] → W p l e ({ frames := 4, cells := 0, slots := 0, locals := 90 }) s m args below meth c H locs 0 0 Q (F0 m 93 ls []) := by
  refine lp_w (G := fun a : CS × Option Nat × Int32 => ∀ (H : Heap) (locs : List Loc) (ls : Array Slot), va_P D cls (cw ad cc N a.1) H → va_D A (cw ad cc N a.1) → va_S A s.heap H locs → lv_has ls 4 [(0, .ref (ad 6 x0)), (1, rv ad 0 a.2.1), (2, .int a.2.2)] → W p l e ({ frames := 4, cells := 0, slots := 0, locals := 90 }) s m args below meth c H locs 0 0 Q (F0 m 93 ls [])) ?_ FU (S, x1, x2) Heq
  intro a o1 ho Ka Ke
  exact w_cSv_emitChange_B93 hC ho (fun b h => Ka b h) (fun b h => K0 b (Ke _ h).symm)
def m_cSv_emitChange_J0 (N : Nat → Nat) (x0 : Nat) (S : CS) (x1 : Nat) : Option CS := gl x1 (N 0) (gl x0 (N 6) (ob (m_cSv_emitNumber N x0 S ((S.i 0 0 x1).toInt64)) (fun o_1 => ob (m_cSv_emitNumber N x0 o_1 ((o_1.i 0 1 x1).toInt64)) (fun o_3 => gn (o_3.r 0 5 x1) (N 16) (fun j_5 => ob (m_cSv_emitNumber N x0 o_3 ((nI (o_3.z 16 j_5)).toInt64)) (fun o_8 => ob (m_cSv_emitChange_L30 N x0 o_8 (some x1) 0) (fun b_10 => gn b_10.2 (N 0) (fun j_12 => ob (m_cSv_emitNumber N x0 b_10.1 ((b_10.1.i 0 3 j_12).toInt64)) (fun o_15 => ob (m_cSv_emitNumber N x0 o_15 ((o_15.i 0 4 j_12).toInt64)) (fun o_17 => ob (m_cSv_emitChange_L93 N x0 o_17 b_10.2 0) (fun b_19 => some b_19)))))))))))
theorem d_cSv_emitChange_139 : decode prog_8_method_8_code 139 = .ok (.return_, 1) := by decide +kernel
set_option maxHeartbeats 4000000 in
set_option maxRecDepth 100000 in
theorem w_cSv_emitChange_J0 {p : Program} {l : Launch} {e : Env} {s : State} {m : MethodId} {args : Array Value} {below : List Frame} {meth : Method} {c : Code} {A : Nat → Prop} {D : va_G} {ad : Nat → Nat → Nat} {cc : Nat → ClassId} {sad sav : Nat → Nat} {Q : State → Prop} (hC : MCc sad sav "JoinedTrees$Saver" prog_8_method_8_code 4 none p s m args meth c A D cc) {N : Nat → Nat} {x0 : Nat} {S : CS} {x1 : Nat} {o : CS} (Heq : m_cSv_emitChange_J0 N x0 S x1 = some o) (Kr : ∀ r : CS, o = r → ∀ (pc : Nat) (H : Heap) (locs : List Loc) (ls : Array Slot), decode prog_8_method_8_code pc = .ok (.return_, 1) → va_P D cls (cw ad cc N r) H → va_D A (cw ad cc N r) → va_S A s.heap H locs → W p l e ({ frames := 4, cells := 0, slots := 0, locals := 90 }) s m args below meth c H locs 0 0 Q (F0 m pc ls [])) : ∀ (H : Heap) (locs : List Loc) (ls : Array Slot), va_P D cls (cw ad cc N S) H → va_D A (cw ad cc N S) → va_S A s.heap H locs → lv_has ls 4 [(0, .ref (ad 6 x0)), (1, .ref (ad 0 x1))] → W p l e ({ frames := 4, cells := 0, slots := 0, locals := 90 }) s m args below meth c H locs 0 0 Q (F0 m 0 ls []) := by
  intro H locs ls hP hD hS hl
  obtain ⟨hx, hb, hr, hml, hown, hts, hK, hA, hev, hE, hN, hNS⟩ := id hC
  unfold m_cSv_emitChange_J0 at Heq
  refine lv_aload_n hx hb d_cSv_emitChange_0 rfl (lv_at hl 0 rfl) ?_
  refine lv_aload_n hx hb d_cSv_emitChange_1 rfl (lv_at hl 1 rfl) ?_
  obtain ⟨hl_x1_0, Heq⟩ := gl_some Heq
  refine va_get (D := D) (ci := 0) (v := .int (S.i 0 0 x1)) (C := R_Ch) (T := F_Ch) (N := 7) hx hb hts i_Ch hown hK hP (cPos N 0 x1) (cw_obj (k := 0) (by decide) hl_x1_0) rfl 0 (by decide) (hts _ kw_1010) (fun _ h9 => h9) rfl d_cSv_emitChange_2 ?_
  refine lv_i2l hx hb d_cSv_emitChange_5 rfl ?_
  refine w_l (y := (S.i 0 0 x1).toInt64) rfl ?_
  obtain ⟨hl_x0_6, Heq⟩ := gl_some Heq
  obtain ⟨o_1, h_2, Heq⟩ := ob_some Heq
  have hFc := fr_all hD hS hA
  refine va_callv (va_runV (As := [.long ((S.i 0 0 x1).toInt64)]) (rest := []) ⟨hx, hb, hml, hown, hts⟩ (g_cSv_emitNumber l D H.size (ad := ad) (cc := cc) (sad := sad) (sav := sav) h_2) (cw_v 1 hts kw_1283 kw_1280 kw_1281 kw_1282 kw_10 rfl rfl (by decide +kernel) ⟨Nat.le_of_ble_eq_true rfl, Nat.le_of_ble_eq_true rfl⟩) ⟨c_blind, va_recv hK hP (ci := 6) (q0 := cPos N 6 x0) rfl (cw_obj (k := 6) (by decide) hl_x0_6), fun U hU hW => c_pre hU hW hP hK hD hev hE hN hNS hS hFc⟩ rfl rfl hl.1 rfl (lv_room (Nat.le_of_ble_eq_true rfl)) d_cSv_emitChange_6 ⟨Nat.le_of_ble_eq_true rfl, Nat.le_of_ble_eq_true rfl⟩) hS (fun q _ h => hFc q h) hFc (fun u t H1 locs ht hvm hw hB hz1 hk1 hS => ?_)
  obtain ⟨hP, -, hD1⟩ := hB
  rw [ht] at hP
  have hD := hD1.weaken (fun _ q _ h => hFc q.1 h)
  generalize H1 = H at hP hS ⊢
  refine W.cs (cells' := 0) (slots' := 0) rfl rfl ?_
  refine lv_aload_n hx hb d_cSv_emitChange_9 rfl (lv_at hl 0 rfl) ?_
  refine lv_aload_n hx hb d_cSv_emitChange_10 rfl (lv_at hl 1 rfl) ?_
  refine va_get (D := D) (ci := 0) (v := .int (o_1.i 0 1 x1)) (C := R_Ch) (T := F_Ch) (N := 7) hx hb hts i_Ch hown hK hP (cPos N 0 x1) (cw_obj (k := 0) (by decide) hl_x1_0) rfl 1 (by decide) (hts _ kw_1015) (fun _ h9 => h9) rfl d_cSv_emitChange_11 ?_
  refine lv_i2l hx hb d_cSv_emitChange_14 rfl ?_
  refine w_l (y := (o_1.i 0 1 x1).toInt64) rfl ?_
  obtain ⟨o_3, h_4, Heq⟩ := ob_some Heq
  have hFc := fr_all hD hS hA
  refine va_callv (va_runV (As := [.long ((o_1.i 0 1 x1).toInt64)]) (rest := []) ⟨hx, hb, hml, hown, hts⟩ (g_cSv_emitNumber l D H.size (ad := ad) (cc := cc) (sad := sad) (sav := sav) h_4) (cw_v 1 hts kw_1283 kw_1280 kw_1281 kw_1282 kw_10 rfl rfl (by decide +kernel) ⟨Nat.le_of_ble_eq_true rfl, Nat.le_of_ble_eq_true rfl⟩) ⟨c_blind, va_recv hK hP (ci := 6) (q0 := cPos N 6 x0) rfl (cw_obj (k := 6) (by decide) hl_x0_6), fun U hU hW => c_pre hU hW hP hK hD hev hE hN hNS hS hFc⟩ rfl rfl hl.1 rfl (lv_room (Nat.le_of_ble_eq_true rfl)) d_cSv_emitChange_15 ⟨Nat.le_of_ble_eq_true rfl, Nat.le_of_ble_eq_true rfl⟩) hS (fun q _ h => hFc q h) hFc (fun u t H1 locs ht hvm hw hB hz1 hk1 hS => ?_)
  obtain ⟨hP, -, hD1⟩ := hB
  rw [ht] at hP
  have hD := hD1.weaken (fun _ q _ h => hFc q.1 h)
  generalize H1 = H at hP hS ⊢
  refine W.cs (cells' := 0) (slots' := 0) rfl rfl ?_
  refine lv_aload_n hx hb d_cSv_emitChange_18 rfl (lv_at hl 0 rfl) ?_
  refine lv_aload_n hx hb d_cSv_emitChange_19 rfl (lv_at hl 1 rfl) ?_
  refine va_get (D := D) (ci := 0) (v := rv ad 16 (o_3.r 0 5 x1)) (C := R_Ch) (T := F_Ch) (N := 7) hx hb hts i_Ch hown hK hP (cPos N 0 x1) (cw_obj (k := 0) (by decide) hl_x1_0) rfl 5 (by decide) (hts _ kw_1028) (fun _ h9 => h9) rfl d_cSv_emitChange_20 ?_
  obtain ⟨j_5, hj_6, hl_7, Heq⟩ := gn_some Heq
  refine w_s (st' := [.ref (ad 16 j_5), .ref (ad 6 x0)]) (congrArg (fun z9 : Option Nat => [rv ad 16 z9, .ref (ad 6 x0)]) hj_6) ?_
  refine va_alen (v := nI (o_3.z 16 j_5)) hx hb hK hP (cPos N 16 j_5) 4 (cw_refs (k := 16) (by decide) hl_7) rfl rfl d_cSv_emitChange_23 ?_
  refine lv_i2l hx hb d_cSv_emitChange_24 rfl ?_
  refine w_l (y := (nI (o_3.z 16 j_5)).toInt64) rfl ?_
  obtain ⟨o_8, h_9, Heq⟩ := ob_some Heq
  have hFc := fr_all hD hS hA
  refine va_callv (va_runV (As := [.long ((nI (o_3.z 16 j_5)).toInt64)]) (rest := []) ⟨hx, hb, hml, hown, hts⟩ (g_cSv_emitNumber l D H.size (ad := ad) (cc := cc) (sad := sad) (sav := sav) h_9) (cw_v 1 hts kw_1283 kw_1280 kw_1281 kw_1282 kw_10 rfl rfl (by decide +kernel) ⟨Nat.le_of_ble_eq_true rfl, Nat.le_of_ble_eq_true rfl⟩) ⟨c_blind, va_recv hK hP (ci := 6) (q0 := cPos N 6 x0) rfl (cw_obj (k := 6) (by decide) hl_x0_6), fun U hU hW => c_pre hU hW hP hK hD hev hE hN hNS hS hFc⟩ rfl rfl hl.1 rfl (lv_room (Nat.le_of_ble_eq_true rfl)) d_cSv_emitChange_25 ⟨Nat.le_of_ble_eq_true rfl, Nat.le_of_ble_eq_true rfl⟩) hS (fun q _ h => hFc q h) hFc (fun u t H1 locs ht hvm hw hB hz1 hk1 hS => ?_)
  obtain ⟨hP, -, hD1⟩ := hB
  rw [ht] at hP
  have hD := hD1.weaken (fun _ q _ h => hFc q.1 h)
  generalize H1 = H at hP hS ⊢
  refine W.cs (cells' := 0) (slots' := 0) rfl rfl ?_
  refine lv_iconst (v := 0) hx hb d_cSv_emitChange_28 (by decide) ?_
  refine lv_istore_n (lv' := [(2, .int 0), (0, .ref (ad 6 x0)), (1, .ref (ad 0 x1))]) hx hb d_cSv_emitChange_29 rfl hl (by decide) rfl (fun ls hl => ?_)
  obtain ⟨b_10, h_11, Heq⟩ := ob_some Heq
  refine w_cSv_emitChange_L30 hC h_11 (fun b h => ?_) _ _ _ hP hD hS (lv_sub hl [1, 2, 0] rfl)
  subst h
  intro H locs ls hP hD hS hl
  refine lv_aload_n hx hb d_cSv_emitChange_73 rfl (lv_at hl 0 rfl) ?_
  refine tx_aload_n (x := b_10.2.map (ad 0)) hx hb d_cSv_emitChange_74 rfl (lv_at hl 1 rfl) ?_
  refine w_v (y := rv ad 0 b_10.2) rfl ?_
  obtain ⟨j_12, hj_13, hl_14, Heq⟩ := gn_some Heq
  refine w_s (st' := [.ref (ad 0 j_12), .ref (ad 6 x0)]) (congrArg (fun z9 : Option Nat => [rv ad 0 z9, .ref (ad 6 x0)]) hj_13) ?_
  refine va_get (D := D) (ci := 0) (v := .int (b_10.1.i 0 3 j_12)) (C := R_Ch) (T := F_Ch) (N := 7) hx hb hts i_Ch hown hK hP (cPos N 0 j_12) (cw_obj (k := 0) (by decide) hl_14) rfl 3 (by decide) (hts _ kw_1021) (fun _ h9 => h9) rfl d_cSv_emitChange_75 ?_
  refine lv_i2l hx hb d_cSv_emitChange_78 rfl ?_
  refine w_l (y := (b_10.1.i 0 3 j_12).toInt64) rfl ?_
  obtain ⟨o_15, h_16, Heq⟩ := ob_some Heq
  have hFc := fr_all hD hS hA
  refine va_callv (va_runV (As := [.long ((b_10.1.i 0 3 j_12).toInt64)]) (rest := []) ⟨hx, hb, hml, hown, hts⟩ (g_cSv_emitNumber l D H.size (ad := ad) (cc := cc) (sad := sad) (sav := sav) h_16) (cw_v 1 hts kw_1283 kw_1280 kw_1281 kw_1282 kw_10 rfl rfl (by decide +kernel) ⟨Nat.le_of_ble_eq_true rfl, Nat.le_of_ble_eq_true rfl⟩) ⟨c_blind, va_recv hK hP (ci := 6) (q0 := cPos N 6 x0) rfl (cw_obj (k := 6) (by decide) hl_x0_6), fun U hU hW => c_pre hU hW hP hK hD hev hE hN hNS hS hFc⟩ rfl rfl hl.1 rfl (lv_room (Nat.le_of_ble_eq_true rfl)) d_cSv_emitChange_79 ⟨Nat.le_of_ble_eq_true rfl, Nat.le_of_ble_eq_true rfl⟩) hS (fun q _ h => hFc q h) hFc (fun u t H1 locs ht hvm hw hB hz1 hk1 hS => ?_)
  obtain ⟨hP, -, hD1⟩ := hB
  rw [ht] at hP
  have hD := hD1.weaken (fun _ q _ h => hFc q.1 h)
  generalize H1 = H at hP hS ⊢
  refine W.cs (cells' := 0) (slots' := 0) rfl rfl ?_
  refine lv_aload_n hx hb d_cSv_emitChange_82 rfl (lv_at hl 0 rfl) ?_
  refine tx_aload_n (x := b_10.2.map (ad 0)) hx hb d_cSv_emitChange_83 rfl (lv_at hl 1 rfl) ?_
  refine w_v (y := rv ad 0 b_10.2) rfl ?_
  refine w_s (st' := [.ref (ad 0 j_12), .ref (ad 6 x0)]) (congrArg (fun z9 : Option Nat => [rv ad 0 z9, .ref (ad 6 x0)]) hj_13) ?_
  refine va_get (D := D) (ci := 0) (v := .int (o_15.i 0 4 j_12)) (C := R_Ch) (T := F_Ch) (N := 7) hx hb hts i_Ch hown hK hP (cPos N 0 j_12) (cw_obj (k := 0) (by decide) hl_14) rfl 4 (by decide) (hts _ kw_1024) (fun _ h9 => h9) rfl d_cSv_emitChange_84 ?_
  refine lv_i2l hx hb d_cSv_emitChange_87 rfl ?_
  refine w_l (y := (o_15.i 0 4 j_12).toInt64) rfl ?_
  obtain ⟨o_17, h_18, Heq⟩ := ob_some Heq
  have hFc := fr_all hD hS hA
  refine va_callv (va_runV (As := [.long ((o_15.i 0 4 j_12).toInt64)]) (rest := []) ⟨hx, hb, hml, hown, hts⟩ (g_cSv_emitNumber l D H.size (ad := ad) (cc := cc) (sad := sad) (sav := sav) h_18) (cw_v 1 hts kw_1283 kw_1280 kw_1281 kw_1282 kw_10 rfl rfl (by decide +kernel) ⟨Nat.le_of_ble_eq_true rfl, Nat.le_of_ble_eq_true rfl⟩) ⟨c_blind, va_recv hK hP (ci := 6) (q0 := cPos N 6 x0) rfl (cw_obj (k := 6) (by decide) hl_x0_6), fun U hU hW => c_pre hU hW hP hK hD hev hE hN hNS hS hFc⟩ rfl rfl hl.1 rfl (lv_room (Nat.le_of_ble_eq_true rfl)) d_cSv_emitChange_88 ⟨Nat.le_of_ble_eq_true rfl, Nat.le_of_ble_eq_true rfl⟩) hS (fun q _ h => hFc q h) hFc (fun u t H1 locs ht hvm hw hB hz1 hk1 hS => ?_)
  obtain ⟨hP, -, hD1⟩ := hB
  rw [ht] at hP
  have hD := hD1.weaken (fun _ q _ h => hFc q.1 h)
  generalize H1 = H at hP hS ⊢
  refine W.cs (cells' := 0) (slots' := 0) rfl rfl ?_
  refine lv_iconst (v := 0) hx hb d_cSv_emitChange_91 (by decide) ?_
  refine lv_istore_n (i := 2) (lv' := [(2, .int 0), (0, .ref (ad 6 x0)), (1, rv ad 0 b_10.2)]) hx hb d_cSv_emitChange_92 rfl hl (by decide) (by simp [rv, rf_cat]) (fun ls hl => ?_)
  obtain ⟨b_19, h_20, Heq⟩ := ob_some Heq
  refine w_cSv_emitChange_L93 hC h_20 (fun b h => ?_) _ _ _ hP hD hS (lv_sub hl [1, 2, 0] rfl)
  subst h
  intro H locs ls hP hD hS hl
  exact Kr _ (Option.some.inj Heq).symm 139 _ _ _ d_cSv_emitChange_139 hP hD hS
def m_cSv_emitChange (N : Nat → Nat) (x0 : Nat) (S : CS) (x1 : Nat) : Option CS := m_cSv_emitChange_J0 N x0 S x1
set_option maxHeartbeats 4000000 in
theorem g_cSv_emitChange (l : Launch) (D : va_G) (sz : Nat) {ad : Nat → Nat → Nat} {cc : Nat → ClassId} {sad sav : Nat → Nat} {N : Nat → Nat} {x0 : Nat} {S : CS} {x1 : Nat} {o : CS} (Heq : m_cSv_emitChange N x0 S x1 = some o) : Met l ⟨"JoinedTrees$Saver", "emitChange", "(LJoinedTrees$Change;)V"⟩ (Cond.code ⟨"JoinedTrees$Saver", "emitChange", "(LJoinedTrees$Change;)V"⟩ prog_8_method_8_code 4 none :: gb) ({ frames := 4, cells := 0, slots := 0, locals := 90 }) (cPc sad sav D (cw ad cc N S) (cty cc) sz [.ref (ad 6 x0), .ref (ad 0 x1)]) (va_Qv (fun _ : Unit => True) (fun _ t => gO D (cw ad cc N o) (cty cc) (va_A (cw ad cc N S) sz) t) (va_A (cw ad cc N S) sz)) 0 0 (va_A (cw ad cc N S) sz) := by
  refine Met.ofW (cc := prog_8_method_8_code) (maxL := 4) (ret := none) (by decide) rfl ?_
  intro p e s m args below meth c s₁ B hml hv
  obtain ⟨rfl, hsz, hP, hK, hD0, hev, hE, hN⟩ := hv
  have hx := B.exec
  have hb := B.bytes
  have hr := B.returns
  have hts : ∀ w9 ∈ gb, w9.before [.ref (ad 6 x0), .ref (ad 0 x1)].toArray s = true := fun w9 h => atoms_spec (ws := Cond.code ⟨"JoinedTrees$Saver", "emitChange", "(LJoinedTrees$Change;)V"⟩ prog_8_method_8_code 4 none :: gb) B.pre w9 (List.mem_cons_of_mem _ h)
  have hown : s.vm.findClass "JoinedTrees$Saver" = some m.cls := findClass_of_methodNamed B.named
  have hlocks := B.notSynchronized
  have hNS := ns_of hP
  subst hsz
  have hD := hD0.self (sz := s.heap.size)
  generalize hAe : va_A (cw ad cc N S) s.heap.size = A at hD hev hE hNS ⊢
  have hA : ∀ q : Nat, s.heap.size ≤ q → A q := fun q h => by rw [← hAe]; exact Or.inr h
  have hS : va_S A s.heap s.heap [] := va_S.rf
  obtain ⟨ls, hl, hle⟩ : ∃ ls : Array Slot, lv_has ls 4 [(0, .ref (ad 6 x0)), (1, .ref (ad 0 x1))] ∧ entryFrame m ([.ref (ad 6 x0), .ref (ad 0 x1)] : List Value).toArray 4 = F0 m 0 ls [] := by
    exact ⟨_, lv_entry (n := 4) _ (Nat.le_of_ble_eq_true rfl), lg_entry_eq ..⟩
  rw [hle]
  refine w_cSv_emitChange_J0 ⟨hx, hb, hr, hml, hown, hts, hK, hA, hev, hE, hN, hNS⟩ Heq (fun r h pc H locs ls hd hP hD hS => ?_) _ _ _ hP hD hS (lv_sub hl [0, 1] rfl)
  subst h
  exact W.vret hx hb hr (fun t ht hW => ⟨⟨(), rfl, trivial, by rw [ht]; exact hP, va_K.moved hW.alike hK, hD⟩, hS.F ht⟩) hS.2.2 hd
def m_cSv_crcOf_B4 (N : Nat → Nat) (x0 : Nat) (S : CS) (x1 : Int32) (x2 : Int32) (x3 : Int32) : Option ((CS × Int32 × Int32 × Int32) ⊕ (CS × Int32)) := (if x1 ≤ x3 then some (.inr (S, x2)) else gl x0 (N 6) (gn (S.r 6 1 x0) (N 5) (fun j_2 => ob (m_cRw_at N j_2 S x3) (fun o_5 => gd ((x2 ^^^ (if (0 : Int32) < o_5.2 then o_5.2 else 0)) &&& 15) 16 (gd (((ushr32 (x2 ^^^ (if (0 : Int32) < o_5.2 then o_5.2 else 0)) 4) ^^^ (crcT (((x2 ^^^ (if (0 : Int32) < o_5.2 then o_5.2 else 0)) &&& 15).toNatClampNeg))) &&& 15) 16 (some (.inl (o_5.1, x1, ((ushr32 ((ushr32 (x2 ^^^ (if (0 : Int32) < o_5.2 then o_5.2 else 0)) 4) ^^^ (crcT (((x2 ^^^ (if (0 : Int32) < o_5.2 then o_5.2 else 0)) &&& 15).toNatClampNeg))) 4) ^^^ (crcT ((((ushr32 (x2 ^^^ (if (0 : Int32) < o_5.2 then o_5.2 else 0)) 4) ^^^ (crcT (((x2 ^^^ (if (0 : Int32) < o_5.2 then o_5.2 else 0)) &&& 15).toNatClampNeg))) &&& 15).toNatClampNeg))), (x3 + 1)))))))))
theorem d_cSv_crcOf_0 : decode prog_8_method_10_code 0 = .ok (.iconst (-1), 1) := by decide +kernel
theorem d_cSv_crcOf_1 : decode prog_8_method_10_code 1 = .ok (.istore_n 2, 1) := by decide +kernel
theorem d_cSv_crcOf_2 : decode prog_8_method_10_code 2 = .ok (.iconst 0, 1) := by decide +kernel
theorem d_cSv_crcOf_3 : decode prog_8_method_10_code 3 = .ok (.istore_n 3, 1) := by decide +kernel
theorem d_cSv_crcOf_4 : decode prog_8_method_10_code 4 = .ok (.iload_n 3, 1) := by decide +kernel
theorem d_cSv_crcOf_5 : decode prog_8_method_10_code 5 = .ok (.iload_n 1, 1) := by decide +kernel
theorem d_cSv_crcOf_6 : decode prog_8_method_10_code 6 = .ok (.if_icmp .ge 50, 3) := by decide +kernel
theorem d_cSv_crcOf_9 : decode prog_8_method_10_code 9 = .ok (.iload_n 2, 1) := by decide +kernel
theorem d_cSv_crcOf_10 : decode prog_8_method_10_code 10 = .ok (.iconst 0, 1) := by decide +kernel
theorem d_cSv_crcOf_11 : decode prog_8_method_10_code 11 = .ok (.aload_n 0, 1) := by decide +kernel
theorem d_cSv_crcOf_12 : decode prog_8_method_10_code 12 = .ok (.getfield 19, 3) := by decide +kernel
theorem d_cSv_crcOf_15 : decode prog_8_method_10_code 15 = .ok (.iload_n 3, 1) := by decide +kernel
theorem d_cSv_crcOf_16 : decode prog_8_method_10_code 16 = .ok (.invokevirtual 84, 3) := by decide +kernel
theorem d_cSv_crcOf_19 : decode prog_8_method_10_code 19 = .ok (.invokestatic 89, 3) := by decide +kernel
theorem d_cSv_crcOf_22 : decode prog_8_method_10_code 22 = .ok (.ixor, 1) := by decide +kernel
theorem d_cSv_crcOf_23 : decode prog_8_method_10_code 23 = .ok (.istore_n 2, 1) := by decide +kernel
theorem d_cSv_crcOf_24 : decode prog_8_method_10_code 24 = .ok (.iload_n 2, 1) := by decide +kernel
theorem d_cSv_crcOf_25 : decode prog_8_method_10_code 25 = .ok (.iconst 4, 1) := by decide +kernel
theorem d_cSv_crcOf_26 : decode prog_8_method_10_code 26 = .ok (.iushr, 1) := by decide +kernel
theorem d_cSv_crcOf_27 : decode prog_8_method_10_code 27 = .ok (.getstatic 174, 3) := by decide +kernel
theorem d_cSv_crcOf_30 : decode prog_8_method_10_code 30 = .ok (.iload_n 2, 1) := by decide +kernel
theorem d_cSv_crcOf_31 : decode prog_8_method_10_code 31 = .ok (.bipush 15, 2) := by decide +kernel
theorem d_cSv_crcOf_33 : decode prog_8_method_10_code 33 = .ok (.iand, 1) := by decide +kernel
theorem d_cSv_crcOf_34 : decode prog_8_method_10_code 34 = .ok (.iaload, 1) := by decide +kernel
theorem d_cSv_crcOf_35 : decode prog_8_method_10_code 35 = .ok (.ixor, 1) := by decide +kernel
theorem d_cSv_crcOf_36 : decode prog_8_method_10_code 36 = .ok (.istore_n 2, 1) := by decide +kernel
theorem d_cSv_crcOf_37 : decode prog_8_method_10_code 37 = .ok (.iload_n 2, 1) := by decide +kernel
theorem d_cSv_crcOf_38 : decode prog_8_method_10_code 38 = .ok (.iconst 4, 1) := by decide +kernel
theorem d_cSv_crcOf_39 : decode prog_8_method_10_code 39 = .ok (.iushr, 1) := by decide +kernel
theorem d_cSv_crcOf_40 : decode prog_8_method_10_code 40 = .ok (.getstatic 174, 3) := by decide +kernel
theorem d_cSv_crcOf_43 : decode prog_8_method_10_code 43 = .ok (.iload_n 2, 1) := by decide +kernel
theorem d_cSv_crcOf_44 : decode prog_8_method_10_code 44 = .ok (.bipush 15, 2) := by decide +kernel
theorem d_cSv_crcOf_46 : decode prog_8_method_10_code 46 = .ok (.iand, 1) := by decide +kernel
theorem d_cSv_crcOf_47 : decode prog_8_method_10_code 47 = .ok (.iaload, 1) := by decide +kernel
theorem d_cSv_crcOf_48 : decode prog_8_method_10_code 48 = .ok (.ixor, 1) := by decide +kernel
theorem d_cSv_crcOf_49 : decode prog_8_method_10_code 49 = .ok (.istore_n 2, 1) := by decide +kernel
theorem d_cSv_crcOf_50 : decode prog_8_method_10_code 50 = .ok (.iinc 3 1, 3) := by decide +kernel
theorem d_cSv_crcOf_53 : decode prog_8_method_10_code 53 = .ok (.goto (-49), 3) := by decide +kernel
set_option maxHeartbeats 4000000 in
set_option maxRecDepth 100000 in
theorem w_cSv_crcOf_B4 {p : Program} {l : Launch} {e : Env} {s : State} {m : MethodId} {args : Array Value} {below : List Frame} {meth : Method} {c : Code} {A : Nat → Prop} {D : va_G} {ad : Nat → Nat → Nat} {cc : Nat → ClassId} {sad sav : Nat → Nat} {Q : State → Prop} (hC : MCc sad sav "JoinedTrees$Saver" prog_8_method_10_code 4 (some .int) p s m args meth c A D cc) {N : Nat → Nat} {x0 : Nat} {S : CS} {x1 : Int32} {x2 : Int32} {x3 : Int32} {o : ((CS × Int32 × Int32 × Int32) ⊕ (CS × Int32))} (Heq : m_cSv_crcOf_B4 N x0 S x1 x2 x3 = some o) (Ka : ∀ b : CS × Int32 × Int32 × Int32, o = .inl b → ∀ (H : Heap) (locs : List Loc) (ls : Array Slot), va_P D cls (cw ad cc N b.1) H → va_D A (cw ad cc N b.1) → va_S A s.heap H locs → lv_has ls 4 [(0, .ref (ad 6 x0)), (1, .int b.2.1), (2, .int b.2.2.1), (3, .int b.2.2.2)] → W p l e ({ frames := 1, cells := 0, slots := 0, locals := 24 }) s m args below meth c H locs 0 0 Q (F0 m 4 ls [])) (K0 : ∀ b : CS × Int32, o = .inr b → ∀ (H : Heap) (locs : List Loc) (ls : Array Slot), va_P D cls (cw ad cc N b.1) H → va_D A (cw ad cc N b.1) → va_S A s.heap H locs → lv_has ls 4 [(0, .ref (ad 6 x0)), (2, .int b.2)] → W p l e ({ frames := 1, cells := 0, slots := 0, locals := 24 }) s m args below meth c H locs 0 0 Q (F0 m 56 ls [])) : ∀ (H : Heap) (locs : List Loc) (ls : Array Slot), va_P D cls (cw ad cc N S) H → va_D A (cw ad cc N S) → va_S A s.heap H locs → lv_has ls 4 [(0, .ref (ad 6 x0)), (1, .int x1), (2, .int x2), (3, .int x3)] → W p l e ({ frames := 1, cells := 0, slots := 0, locals := 24 }) s m args below meth c H locs 0 0 Q (F0 m 4 ls []) := by
  intro H locs ls hP hD hS hl
  obtain ⟨hx, hb, hr, hml, hown, hts, hK, hA, hev, hE, hN, hNS⟩ := id hC
  unfold m_cSv_crcOf_B4 at Heq
  refine lv_iload_n hx hb d_cSv_crcOf_4 rfl (lv_at hl 3 rfl) ?_
  refine lv_iload_n hx hb d_cSv_crcOf_5 rfl (lv_at hl 1 rfl) ?_
  refine lv_icmp_ge (tgt := 56) hx hb d_cSv_crcOf_6 (by decide) (fun c_1 => ?_) (fun c_1 => ?_)
  · replace Heq := (if_pos c_1).symm.trans Heq
    exact K0 _ (Option.some.inj Heq).symm _ _ _ hP hD hS (lv_sub hl [0, 2] rfl)
  · replace Heq := (if_neg c_1).symm.trans Heq
    refine lv_iload_n hx hb d_cSv_crcOf_9 rfl (lv_at hl 2 rfl) ?_
    refine lv_iconst (v := 0) hx hb d_cSv_crcOf_10 (by decide) ?_
    refine lv_aload_n hx hb d_cSv_crcOf_11 rfl (lv_at hl 0 rfl) ?_
    obtain ⟨hl_x0_6, Heq⟩ := gl_some Heq
    refine va_get (D := D) (ci := 6) (v := rv ad 5 (S.r 6 1 x0)) (C := R_Sv) (T := F_Sv) (N := 6) hx hb hts i_Sv hown hK hP (cPos N 6 x0) (cw_obj (k := 6) (by decide) hl_x0_6) rfl 1 (by decide) (hts _ kw_402) (fun _ h9 => h9) rfl d_cSv_crcOf_12 ?_
    refine lv_iload_n hx hb d_cSv_crcOf_15 rfl (lv_at hl 3 rfl) ?_
    obtain ⟨j_2, hj_3, hl_4, Heq⟩ := gn_some Heq
    refine w_s (st' := [.int x3, .ref (ad 5 j_2), .int 0, .int x2]) (congrArg (fun z9 : Option Nat => [.int x3, rv ad 5 z9, .int 0, .int x2]) hj_3) ?_
    obtain ⟨o_5, h_6, Heq⟩ := ob_some Heq
    have hFc := fr_all hD hS hA
    refine va_calli (va_runV (As := [.int x3]) (rest := [.int 0, .int x2]) ⟨hx, hb, hml, hown, hts⟩ (g_cRw_at l D H.size (ad := ad) (cc := cc) (sad := sad) (sav := sav) h_6) (cw_v 1 hts kw_689 kw_1290 kw_687 kw_688 kw_4 rfl rfl (by decide +kernel) ⟨Nat.le_of_ble_eq_true rfl, Nat.le_of_ble_eq_true rfl⟩) ⟨c_blind, va_recv hK hP (ci := 5) (q0 := cPos N 5 j_2) rfl (cw_obj (k := 5) (by decide) hl_4), fun U hU hW => c_pre hU hW hP hK hD hev hE hN hNS hS hFc⟩ rfl rfl hl.1 rfl (lv_room (Nat.le_of_ble_eq_true rfl)) d_cSv_crcOf_16 ⟨Nat.le_of_ble_eq_true rfl, Nat.le_of_ble_eq_true rfl⟩) hS (fun q _ h => hFc q h) hFc (fun rz u t H1 locs ht hvm hw hB hz1 hk1 hS => ?_)
    obtain ⟨hP, -, hD1⟩ := hB
    rw [ht] at hP
    have hD := hD1.weaken (fun _ q _ h => hFc q.1 h)
    generalize H1 = H at hP hS ⊢
    refine W.cs (cells' := 0) (slots' := 0) rfl rfl ?_
    subst hw
    refine va_mmax hx hb (hml.trans hl.1.symm) hown (hts _ kw_1312) (hts _ kw_1102) (hts _ kw_21) (hts _ kw_1103) (Nat.le_of_ble_eq_true rfl) (Nat.le_of_ble_eq_true rfl) (Nat.le_of_ble_eq_true rfl) (Nat.le_of_ble_eq_true rfl) d_cSv_crcOf_19 ?_
    refine lv_ixor hx hb d_cSv_crcOf_22 ?_
    refine w_i (y := x2 ^^^ (if (0 : Int32) < o_5.2 then o_5.2 else 0)) rfl ?_
    refine lv_istore_n (lv' := [(2, .int (x2 ^^^ (if (0 : Int32) < o_5.2 then o_5.2 else 0))), (0, .ref (ad 6 x0)), (1, .int x1), (3, .int x3)]) hx hb d_cSv_crcOf_23 rfl hl (by decide) rfl (fun ls hl => ?_)
    refine lv_iload_n hx hb d_cSv_crcOf_24 rfl (lv_at hl 0 rfl) ?_
    refine lv_iconst (v := 4) hx hb d_cSv_crcOf_25 (by decide) ?_
    refine lv_iushr hx hb d_cSv_crcOf_26 rfl ?_
    refine w_i (y := ushr32 (x2 ^^^ (if (0 : Int32) < o_5.2 then o_5.2 else 0)) 4) rfl ?_
    obtain ⟨tc, hZc, hTc⟩ := hev.1.2
    refine va_gets hx hb hZc hS hown (hts _ kw_1313) (fun _ h9 => h9) d_cSv_crcOf_27 ?_
    refine lv_iload_n hx hb d_cSv_crcOf_30 rfl (lv_at hl 0 rfl) ?_
    refine lv_bipush (v := 15) hx hb d_cSv_crcOf_31 (by decide) ?_
    refine lv_iand hx hb d_cSv_crcOf_33 ?_
    refine w_i (y := (x2 ^^^ (if (0 : Int32) < o_5.2 then o_5.2 else 0)) &&& 15) rfl ?_
    obtain ⟨hi_7, Heq⟩ := gd_some Heq
    refine va_ti hx hb hTc hS (i := (x2 ^^^ (if (0 : Int32) < o_5.2 then o_5.2 else 0)) &&& 15) hi_7 (v := .int (crcT (((x2 ^^^ (if (0 : Int32) < o_5.2 then o_5.2 else 0)) &&& 15).toNatClampNeg))) rfl d_cSv_crcOf_34 ?_
    refine lv_ixor hx hb d_cSv_crcOf_35 ?_
    refine w_i (y := (ushr32 (x2 ^^^ (if (0 : Int32) < o_5.2 then o_5.2 else 0)) 4) ^^^ (crcT (((x2 ^^^ (if (0 : Int32) < o_5.2 then o_5.2 else 0)) &&& 15).toNatClampNeg))) rfl ?_
    refine lv_istore_n (lv' := [(2, .int ((ushr32 (x2 ^^^ (if (0 : Int32) < o_5.2 then o_5.2 else 0)) 4) ^^^ (crcT (((x2 ^^^ (if (0 : Int32) < o_5.2 then o_5.2 else 0)) &&& 15).toNatClampNeg)))), (0, .ref (ad 6 x0)), (1, .int x1), (3, .int x3)]) hx hb d_cSv_crcOf_36 rfl hl (by decide) rfl (fun ls hl => ?_)
    refine lv_iload_n hx hb d_cSv_crcOf_37 rfl (lv_at hl 0 rfl) ?_
    refine lv_iconst (v := 4) hx hb d_cSv_crcOf_38 (by decide) ?_
    refine lv_iushr hx hb d_cSv_crcOf_39 rfl ?_
    refine w_i (y := ushr32 ((ushr32 (x2 ^^^ (if (0 : Int32) < o_5.2 then o_5.2 else 0)) 4) ^^^ (crcT (((x2 ^^^ (if (0 : Int32) < o_5.2 then o_5.2 else 0)) &&& 15).toNatClampNeg))) 4) rfl ?_
    refine va_gets hx hb hZc hS hown (hts _ kw_1313) (fun _ h9 => h9) d_cSv_crcOf_40 ?_
    refine lv_iload_n hx hb d_cSv_crcOf_43 rfl (lv_at hl 0 rfl) ?_
    refine lv_bipush (v := 15) hx hb d_cSv_crcOf_44 (by decide) ?_
    refine lv_iand hx hb d_cSv_crcOf_46 ?_
    refine w_i (y := ((ushr32 (x2 ^^^ (if (0 : Int32) < o_5.2 then o_5.2 else 0)) 4) ^^^ (crcT (((x2 ^^^ (if (0 : Int32) < o_5.2 then o_5.2 else 0)) &&& 15).toNatClampNeg))) &&& 15) rfl ?_
    obtain ⟨hi_8, Heq⟩ := gd_some Heq
    refine va_ti hx hb hTc hS (i := ((ushr32 (x2 ^^^ (if (0 : Int32) < o_5.2 then o_5.2 else 0)) 4) ^^^ (crcT (((x2 ^^^ (if (0 : Int32) < o_5.2 then o_5.2 else 0)) &&& 15).toNatClampNeg))) &&& 15) hi_8 (v := .int (crcT ((((ushr32 (x2 ^^^ (if (0 : Int32) < o_5.2 then o_5.2 else 0)) 4) ^^^ (crcT (((x2 ^^^ (if (0 : Int32) < o_5.2 then o_5.2 else 0)) &&& 15).toNatClampNeg))) &&& 15).toNatClampNeg))) rfl d_cSv_crcOf_47 ?_
    refine lv_ixor hx hb d_cSv_crcOf_48 ?_
    refine w_i (y := (ushr32 ((ushr32 (x2 ^^^ (if (0 : Int32) < o_5.2 then o_5.2 else 0)) 4) ^^^ (crcT (((x2 ^^^ (if (0 : Int32) < o_5.2 then o_5.2 else 0)) &&& 15).toNatClampNeg))) 4) ^^^ (crcT ((((ushr32 (x2 ^^^ (if (0 : Int32) < o_5.2 then o_5.2 else 0)) 4) ^^^ (crcT (((x2 ^^^ (if (0 : Int32) < o_5.2 then o_5.2 else 0)) &&& 15).toNatClampNeg))) &&& 15).toNatClampNeg))) rfl ?_
    refine lv_istore_n (lv' := [(2, .int ((ushr32 ((ushr32 (x2 ^^^ (if (0 : Int32) < o_5.2 then o_5.2 else 0)) 4) ^^^ (crcT (((x2 ^^^ (if (0 : Int32) < o_5.2 then o_5.2 else 0)) &&& 15).toNatClampNeg))) 4) ^^^ (crcT ((((ushr32 (x2 ^^^ (if (0 : Int32) < o_5.2 then o_5.2 else 0)) 4) ^^^ (crcT (((x2 ^^^ (if (0 : Int32) < o_5.2 then o_5.2 else 0)) &&& 15).toNatClampNeg))) &&& 15).toNatClampNeg)))), (0, .ref (ad 6 x0)), (1, .int x1), (3, .int x3)]) hx hb d_cSv_crcOf_49 rfl hl (by decide) rfl (fun ls hl => ?_)
    refine lv_iinc (v := x3 + 1) (lv' := [(3, .int (x3 + 1)), (2, .int ((ushr32 ((ushr32 (x2 ^^^ (if (0 : Int32) < o_5.2 then o_5.2 else 0)) 4) ^^^ (crcT (((x2 ^^^ (if (0 : Int32) < o_5.2 then o_5.2 else 0)) &&& 15).toNatClampNeg))) 4) ^^^ (crcT ((((ushr32 (x2 ^^^ (if (0 : Int32) < o_5.2 then o_5.2 else 0)) 4) ^^^ (crcT (((x2 ^^^ (if (0 : Int32) < o_5.2 then o_5.2 else 0)) &&& 15).toNatClampNeg))) &&& 15).toNatClampNeg)))), (0, .ref (ad 6 x0)), (1, .int x1)]) hx hb d_cSv_crcOf_50 hl (k := 3) rfl rfl (by decide) rfl (fun ls hl => ?_)
    refine lv_goto (tgt := 4) hx hb d_cSv_crcOf_53 (by decide) ?_
    exact Ka _ (Option.some.inj Heq).symm _ _ _ hP hD hS (lv_sub hl [2, 3, 1, 0] rfl)
def m_cSv_crcOf_L4 (N : Nat → Nat) (x0 : Nat) (S : CS) (x1 : Int32) (x2 : Int32) (x3 : Int32) : Option (CS × Int32) := lp (fun a : CS × Int32 × Int32 × Int32 => m_cSv_crcOf_B4 N x0 a.1 a.2.1 a.2.2.1 a.2.2.2) FU (S, x1, x2, x3)
theorem w_cSv_crcOf_L4 {p : Program} {l : Launch} {e : Env} {s : State} {m : MethodId} {args : Array Value} {below : List Frame} {meth : Method} {c : Code} {A : Nat → Prop} {D : va_G} {ad : Nat → Nat → Nat} {cc : Nat → ClassId} {sad sav : Nat → Nat} {Q : State → Prop} (hC : MCc sad sav "JoinedTrees$Saver" prog_8_method_10_code 4 (some .int) p s m args meth c A D cc) {N : Nat → Nat} {x0 : Nat} {S : CS} {x1 : Int32} {x2 : Int32} {x3 : Int32} {o : CS × Int32} (Heq : m_cSv_crcOf_L4 N x0 S x1 x2 x3 = some o) (K0 : ∀ b : CS × Int32, o = b → ∀ (H : Heap) (locs : List Loc) (ls : Array Slot), va_P D cls (cw ad cc N b.1) H → va_D A (cw ad cc N b.1) → va_S A s.heap H locs → lv_has ls 4 [(0, .ref (ad 6 x0)), (2, .int b.2)] → W p l e ({ frames := 1, cells := 0, slots := 0, locals := 24 }) s m args below meth c H locs 0 0 Q (F0 m 56 ls [])) : ∀ (H : Heap) (locs : List Loc) (ls : Array Slot), va_P D cls (cw ad cc N S) H → va_D A (cw ad cc N S) → va_S A s.heap H locs → lv_has ls 4 [(0, .ref (ad 6 x0)), (1, .int x1), (2, .int x2), (3, .int x3)] → W p l e ({ frames := 1, cells := 0, slots := 0, locals := 24 }) s m args below meth c H locs 0 0 Q (F0 m 4 ls []) := by
  refine lp_w (G := fun a : CS × Int32 × Int32 × Int32 => ∀ (H : Heap) (locs : List Loc) (ls : Array Slot), va_P D cls (cw ad cc N a.1) H → va_D A (cw ad cc N a.1) → va_S A s.heap H locs → lv_has ls 4 [(0, .ref (ad 6 x0)), (1, .int a.2.1), (2, .int a.2.2.1), (3, .int a.2.2.2)] → W p l e ({ frames := 1, cells := 0, slots := 0, locals := 24 }) s m args below meth c H locs 0 0 Q (F0 m 4 ls [])) ?_ FU (S, x1, x2, x3) Heq
  intro a o1 ho Ka Ke
  exact w_cSv_crcOf_B4 hC ho (fun b h => Ka b h) (fun b h => K0 b (Ke _ h).symm)
def m_cSv_crcOf_J0 (N : Nat → Nat) (x0 : Nat) (S : CS) (x1 : Int32) : Option (CS × Int32) := ob (m_cSv_crcOf_L4 N x0 S x1 (-1) 0) (fun b_1 => some (b_1.1, b_1.2 ^^^ (-1)))
theorem d_cSv_crcOf_56 : decode prog_8_method_10_code 56 = .ok (.iload_n 2, 1) := by decide +kernel
theorem d_cSv_crcOf_57 : decode prog_8_method_10_code 57 = .ok (.iconst (-1), 1) := by decide +kernel
theorem d_cSv_crcOf_58 : decode prog_8_method_10_code 58 = .ok (.ixor, 1) := by decide +kernel
theorem d_cSv_crcOf_59 : decode prog_8_method_10_code 59 = .ok (.ireturn, 1) := by decide +kernel
set_option maxHeartbeats 4000000 in
set_option maxRecDepth 100000 in
theorem w_cSv_crcOf_J0 {p : Program} {l : Launch} {e : Env} {s : State} {m : MethodId} {args : Array Value} {below : List Frame} {meth : Method} {c : Code} {A : Nat → Prop} {D : va_G} {ad : Nat → Nat → Nat} {cc : Nat → ClassId} {sad sav : Nat → Nat} {Q : State → Prop} (hC : MCc sad sav "JoinedTrees$Saver" prog_8_method_10_code 4 (some .int) p s m args meth c A D cc) {N : Nat → Nat} {x0 : Nat} {S : CS} {x1 : Int32} {o : CS × Int32} (Heq : m_cSv_crcOf_J0 N x0 S x1 = some o) (Kr : ∀ r : CS × Int32, o = r → ∀ (pc : Nat) (H : Heap) (locs : List Loc) (ls : Array Slot), decode prog_8_method_10_code pc = .ok (.ireturn, 1) → va_P D cls (cw ad cc N r.1) H → va_D A (cw ad cc N r.1) → va_S A s.heap H locs → W p l e ({ frames := 1, cells := 0, slots := 0, locals := 24 }) s m args below meth c H locs 0 0 Q (F0 m pc ls [.int r.2])) : ∀ (H : Heap) (locs : List Loc) (ls : Array Slot), va_P D cls (cw ad cc N S) H → va_D A (cw ad cc N S) → va_S A s.heap H locs → lv_has ls 4 [(0, .ref (ad 6 x0)), (1, .int x1)] → W p l e ({ frames := 1, cells := 0, slots := 0, locals := 24 }) s m args below meth c H locs 0 0 Q (F0 m 0 ls []) := by
  intro H locs ls hP hD hS hl
  obtain ⟨hx, hb, hr, hml, hown, hts, hK, hA, hev, hE, hN, hNS⟩ := id hC
  unfold m_cSv_crcOf_J0 at Heq
  refine lv_iconst (v := (-1)) hx hb d_cSv_crcOf_0 (by decide) ?_
  refine lv_istore_n (lv' := [(2, .int (-1)), (0, .ref (ad 6 x0)), (1, .int x1)]) hx hb d_cSv_crcOf_1 rfl hl (by decide) rfl (fun ls hl => ?_)
  refine lv_iconst (v := 0) hx hb d_cSv_crcOf_2 (by decide) ?_
  refine lv_istore_n (lv' := [(3, .int 0), (2, .int (-1)), (0, .ref (ad 6 x0)), (1, .int x1)]) hx hb d_cSv_crcOf_3 rfl hl (by decide) rfl (fun ls hl => ?_)
  obtain ⟨b_1, h_2, Heq⟩ := ob_some Heq
  refine w_cSv_crcOf_L4 hC h_2 (fun b h => ?_) _ _ _ hP hD hS (lv_sub hl [2, 3, 1, 0] rfl)
  subst h
  intro H locs ls hP hD hS hl
  refine lv_iload_n hx hb d_cSv_crcOf_56 rfl (lv_at hl 1 rfl) ?_
  refine lv_iconst (v := (-1)) hx hb d_cSv_crcOf_57 (by decide) ?_
  refine lv_ixor hx hb d_cSv_crcOf_58 ?_
  refine w_i (y := b_1.2 ^^^ (-1)) rfl ?_
  exact Kr _ (Option.some.inj Heq).symm 59 _ _ _ d_cSv_crcOf_59 hP hD hS
def m_cSv_crcOf (N : Nat → Nat) (x0 : Nat) (S : CS) (x1 : Int32) : Option (CS × Int32) := m_cSv_crcOf_J0 N x0 S x1
set_option maxHeartbeats 4000000 in
theorem g_cSv_crcOf (l : Launch) (D : va_G) (sz : Nat) {ad : Nat → Nat → Nat} {cc : Nat → ClassId} {sad sav : Nat → Nat} {N : Nat → Nat} {x0 : Nat} {S : CS} {x1 : Int32} {o : CS × Int32} (Heq : m_cSv_crcOf N x0 S x1 = some o) : Met l ⟨"JoinedTrees$Saver", "crcOf", "(I)I"⟩ (Cond.code ⟨"JoinedTrees$Saver", "crcOf", "(I)I"⟩ prog_8_method_10_code 4 (some .int) :: gb) ({ frames := 1, cells := 0, slots := 0, locals := 24 }) (cPc sad sav D (cw ad cc N S) (cty cc) sz [.ref (ad 6 x0), .int x1]) (va_Qi (fun (r : Int32) (_ : Unit) => r = o.2) (fun _ t => gO D (cw ad cc N o.1) (cty cc) (va_A (cw ad cc N S) sz) t) (va_A (cw ad cc N S) sz)) 0 0 (va_A (cw ad cc N S) sz) := by
  refine Met.ofW (cc := prog_8_method_10_code) (maxL := 4) (ret := (some .int)) (by decide) rfl ?_
  intro p e s m args below meth c s₁ B hml hv
  obtain ⟨rfl, hsz, hP, hK, hD0, hev, hE, hN⟩ := hv
  have hx := B.exec
  have hb := B.bytes
  have hr := B.returns
  have hts : ∀ w9 ∈ gb, w9.before [.ref (ad 6 x0), .int x1].toArray s = true := fun w9 h => atoms_spec (ws := Cond.code ⟨"JoinedTrees$Saver", "crcOf", "(I)I"⟩ prog_8_method_10_code 4 (some .int) :: gb) B.pre w9 (List.mem_cons_of_mem _ h)
  have hown : s.vm.findClass "JoinedTrees$Saver" = some m.cls := findClass_of_methodNamed B.named
  have hlocks := B.notSynchronized
  have hNS := ns_of hP
  subst hsz
  have hD := hD0.self (sz := s.heap.size)
  generalize hAe : va_A (cw ad cc N S) s.heap.size = A at hD hev hE hNS ⊢
  have hA : ∀ q : Nat, s.heap.size ≤ q → A q := fun q h => by rw [← hAe]; exact Or.inr h
  have hS : va_S A s.heap s.heap [] := va_S.rf
  obtain ⟨ls, hl, hle⟩ : ∃ ls : Array Slot, lv_has ls 4 [(0, .ref (ad 6 x0)), (1, .int x1)] ∧ entryFrame m ([.ref (ad 6 x0), .int x1] : List Value).toArray 4 = F0 m 0 ls [] := by
    exact ⟨_, lv_entry (n := 4) _ (Nat.le_of_ble_eq_true rfl), lg_entry_eq ..⟩
  rw [hle]
  refine w_cSv_crcOf_J0 ⟨hx, hb, hr, hml, hown, hts, hK, hA, hev, hE, hN, hNS⟩ Heq (fun r h pc H locs ls hd hP hD hS => ?_) _ _ _ hP hD hS (lv_sub hl [0, 1] rfl)
  subst h
  exact W.iret hx hb hr (fun t ht hW => ⟨⟨_, (), rfl, rfl, by rw [ht]; exact hP, va_K.moved hW.alike hK, hD⟩, hS.F ht⟩) hS.2.2 hd
def m_cSv_writeSaved_J77 (N : Nat → Nat) (x0 : Nat) (S : CS) (x1 : Option Nat) (x2 : Int32) (x3 : Int32) : Option ((CS × Option Nat × Int32 × Int32) ⊕ (CS × Option Nat × Int32)) := some (.inl (S, x1, x2, (x3 + 1)))
theorem d_cSv_writeSaved_0 : decode prog_8_method_2_code 0 = .ok (.aload_n 0, 1) := by decide +kernel
theorem d_cSv_writeSaved_1 : decode prog_8_method_2_code 1 = .ok (.iconst 0, 1) := by decide +kernel
theorem d_cSv_writeSaved_2 : decode prog_8_method_2_code 2 = .ok (.putfield 23, 3) := by decide +kernel
theorem d_cSv_writeSaved_5 : decode prog_8_method_2_code 5 = .ok (.aload_n 0, 1) := by decide +kernel
theorem d_cSv_writeSaved_6 : decode prog_8_method_2_code 6 = .ok (.getfield 19, 3) := by decide +kernel
theorem d_cSv_writeSaved_9 : decode prog_8_method_2_code 9 = .ok (.invokevirtual 27, 3) := by decide +kernel
theorem d_cSv_writeSaved_12 : decode prog_8_method_2_code 12 = .ok (.aload_n 0, 1) := by decide +kernel
theorem d_cSv_writeSaved_13 : decode prog_8_method_2_code 13 = .ok (.aload_n 1, 1) := by decide +kernel
theorem d_cSv_writeSaved_14 : decode prog_8_method_2_code 14 = .ok (.getfield 32, 3) := by decide +kernel
theorem d_cSv_writeSaved_17 : decode prog_8_method_2_code 17 = .ok (.i2l, 1) := by decide +kernel
theorem d_cSv_writeSaved_18 : decode prog_8_method_2_code 18 = .ok (.invokevirtual 38, 3) := by decide +kernel
theorem d_cSv_writeSaved_21 : decode prog_8_method_2_code 21 = .ok (.iconst 0, 1) := by decide +kernel
theorem d_cSv_writeSaved_22 : decode prog_8_method_2_code 22 = .ok (.istore_n 2, 1) := by decide +kernel
theorem d_cSv_writeSaved_23 : decode prog_8_method_2_code 23 = .ok (.iload_n 2, 1) := by decide +kernel
theorem d_cSv_writeSaved_24 : decode prog_8_method_2_code 24 = .ok (.bipush 8, 2) := by decide +kernel
theorem d_cSv_writeSaved_26 : decode prog_8_method_2_code 26 = .ok (.if_icmp .ge 63, 3) := by decide +kernel
theorem d_cSv_writeSaved_29 : decode prog_8_method_2_code 29 = .ok (.iconst 0, 1) := by decide +kernel
theorem d_cSv_writeSaved_30 : decode prog_8_method_2_code 30 = .ok (.istore_n 3, 1) := by decide +kernel
theorem d_cSv_writeSaved_31 : decode prog_8_method_2_code 31 = .ok (.iload_n 3, 1) := by decide +kernel
theorem d_cSv_writeSaved_32 : decode prog_8_method_2_code 32 = .ok (.aload_n 0, 1) := by decide +kernel
theorem d_cSv_writeSaved_33 : decode prog_8_method_2_code 33 = .ok (.getfield 15, 3) := by decide +kernel
theorem d_cSv_writeSaved_36 : decode prog_8_method_2_code 36 = .ok (.getfield 42, 3) := by decide +kernel
theorem d_cSv_writeSaved_39 : decode prog_8_method_2_code 39 = .ok (.if_icmp .ge 44, 3) := by decide +kernel
theorem d_cSv_writeSaved_42 : decode prog_8_method_2_code 42 = .ok (.aload_n 0, 1) := by decide +kernel
theorem d_cSv_writeSaved_43 : decode prog_8_method_2_code 43 = .ok (.getfield 15, 3) := by decide +kernel
theorem d_cSv_writeSaved_46 : decode prog_8_method_2_code 46 = .ok (.getfield 47, 3) := by decide +kernel
theorem d_cSv_writeSaved_49 : decode prog_8_method_2_code 49 = .ok (.iload_n 3, 1) := by decide +kernel
theorem d_cSv_writeSaved_50 : decode prog_8_method_2_code 50 = .ok (.aaload, 1) := by decide +kernel
theorem d_cSv_writeSaved_51 : decode prog_8_method_2_code 51 = .ok (.astore 4, 2) := by decide +kernel
theorem d_cSv_writeSaved_53 : decode prog_8_method_2_code 53 = .ok (.aload 4, 2) := by decide +kernel
theorem d_cSv_writeSaved_55 : decode prog_8_method_2_code 55 = .ok (.getfield 50, 3) := by decide +kernel
theorem d_cSv_writeSaved_58 : decode prog_8_method_2_code 58 = .ok (.iload_n 2, 1) := by decide +kernel
theorem d_cSv_writeSaved_59 : decode prog_8_method_2_code 59 = .ok (.if_icmp .ne 18, 3) := by decide +kernel
theorem d_cSv_writeSaved_77 : decode prog_8_method_2_code 77 = .ok (.iinc 3 1, 3) := by decide +kernel
theorem d_cSv_writeSaved_80 : decode prog_8_method_2_code 80 = .ok (.goto (-49), 3) := by decide +kernel
set_option maxHeartbeats 4000000 in
set_option maxRecDepth 100000 in
theorem w_cSv_writeSaved_J77 {p : Program} {l : Launch} {e : Env} {s : State} {m : MethodId} {args : Array Value} {below : List Frame} {meth : Method} {c : Code} {A : Nat → Prop} {D : va_G} {ad : Nat → Nat → Nat} {cc : Nat → ClassId} {sad sav : Nat → Nat} {Q : State → Prop} (hC : MCc sad sav "JoinedTrees$Saver" prog_8_method_2_code 5 none p s m args meth c A D cc) {N : Nat → Nat} {x0 : Nat} {S : CS} {x1 : Option Nat} {x2 : Int32} {x3 : Int32} {o : ((CS × Option Nat × Int32 × Int32) ⊕ (CS × Option Nat × Int32))} (Heq : m_cSv_writeSaved_J77 N x0 S x1 x2 x3 = some o) (Ka : ∀ b : CS × Option Nat × Int32 × Int32, o = .inl b → ∀ (H : Heap) (locs : List Loc) (ls : Array Slot), va_P D cls (cw ad cc N b.1) H → va_D A (cw ad cc N b.1) → va_S A s.heap H locs → lv_has ls 5 [(0, .ref (ad 6 x0)), (1, rv ad 4 b.2.1), (2, .int b.2.2.1), (3, .int b.2.2.2)] → W p l e ({ frames := 5, cells := 0, slots := 0, locals := 113 }) s m args below meth c H locs 0 0 Q (F0 m 31 ls [])) (K0 : ∀ b : CS × Option Nat × Int32, o = .inr b → ∀ (H : Heap) (locs : List Loc) (ls : Array Slot), va_P D cls (cw ad cc N b.1) H → va_D A (cw ad cc N b.1) → va_S A s.heap H locs → lv_has ls 5 [(0, .ref (ad 6 x0)), (1, rv ad 4 b.2.1), (2, .int b.2.2)] → W p l e ({ frames := 5, cells := 0, slots := 0, locals := 113 }) s m args below meth c H locs 0 0 Q (F0 m 83 ls [])) : ∀ (H : Heap) (locs : List Loc) (ls : Array Slot), va_P D cls (cw ad cc N S) H → va_D A (cw ad cc N S) → va_S A s.heap H locs → lv_has ls 5 [(0, .ref (ad 6 x0)), (1, rv ad 4 x1), (2, .int x2), (3, .int x3)] → W p l e ({ frames := 5, cells := 0, slots := 0, locals := 113 }) s m args below meth c H locs 0 0 Q (F0 m 77 ls []) := by
  intro H locs ls hP hD hS hl
  obtain ⟨hx, hb, hr, hml, hown, hts, hK, hA, hev, hE, hN, hNS⟩ := id hC
  unfold m_cSv_writeSaved_J77 at Heq
  refine lv_iinc (v := x3 + 1) (lv' := [(3, .int (x3 + 1)), (0, .ref (ad 6 x0)), (1, rv ad 4 x1), (2, .int x2)]) hx hb d_cSv_writeSaved_77 hl (k := 3) rfl rfl (by decide) rfl (fun ls hl => ?_)
  refine lv_goto (tgt := 31) hx hb d_cSv_writeSaved_80 (by decide) ?_
  exact Ka _ (Option.some.inj Heq).symm _ _ _ hP hD hS (lv_sub hl [1, 2, 3, 0] rfl)
def m_cSv_writeSaved_B31 (N : Nat → Nat) (x0 : Nat) (S : CS) (x1 : Option Nat) (x2 : Int32) (x3 : Int32) : Option ((CS × Option Nat × Int32 × Int32) ⊕ (CS × Option Nat × Int32)) := gl x0 (N 6) (gn (S.r 6 0 x0) (N 8) (fun j_1 => (if S.i 8 4 j_1 ≤ x3 then some (.inr (S, x1, x2)) else gn (S.r 8 3 j_1) (N 16) (fun j_5 => gd x3 (S.z 16 j_5) (gn (S.q 16 j_5 x3.toNatClampNeg) (N 0) (fun j_9 => (if S.i 0 0 j_9 = x2 then gn x1 (N 4) (fun j_13 => ob (m_cRp_holds N j_13 S j_9) (fun o_16 => (if o_16.2 = 0 then m_cSv_writeSaved_J77 N x0 o_16.1 x1 x2 x3 else ob (m_cSv_emitChange N x0 o_16.1 j_9) (fun o_19 => m_cSv_writeSaved_J77 N x0 o_19 x1 x2 x3)))) else m_cSv_writeSaved_J77 N x0 S x1 x2 x3)))))))
theorem d_cSv_writeSaved_62 : decode prog_8_method_2_code 62 = .ok (.aload_n 1, 1) := by decide +kernel
theorem d_cSv_writeSaved_63 : decode prog_8_method_2_code 63 = .ok (.aload 4, 2) := by decide +kernel
theorem d_cSv_writeSaved_65 : decode prog_8_method_2_code 65 = .ok (.invokevirtual 55, 3) := by decide +kernel
theorem d_cSv_writeSaved_68 : decode prog_8_method_2_code 68 = .ok (.ifCond .eq 9, 3) := by decide +kernel
theorem d_cSv_writeSaved_71 : decode prog_8_method_2_code 71 = .ok (.aload_n 0, 1) := by decide +kernel
theorem d_cSv_writeSaved_72 : decode prog_8_method_2_code 72 = .ok (.aload 4, 2) := by decide +kernel
theorem d_cSv_writeSaved_74 : decode prog_8_method_2_code 74 = .ok (.invokevirtual 59, 3) := by decide +kernel
set_option maxHeartbeats 4000000 in
set_option maxRecDepth 100000 in
theorem w_cSv_writeSaved_B31 {p : Program} {l : Launch} {e : Env} {s : State} {m : MethodId} {args : Array Value} {below : List Frame} {meth : Method} {c : Code} {A : Nat → Prop} {D : va_G} {ad : Nat → Nat → Nat} {cc : Nat → ClassId} {sad sav : Nat → Nat} {Q : State → Prop} (hC : MCc sad sav "JoinedTrees$Saver" prog_8_method_2_code 5 none p s m args meth c A D cc) {N : Nat → Nat} {x0 : Nat} {S : CS} {x1 : Option Nat} {x2 : Int32} {x3 : Int32} {o : ((CS × Option Nat × Int32 × Int32) ⊕ (CS × Option Nat × Int32))} (Heq : m_cSv_writeSaved_B31 N x0 S x1 x2 x3 = some o) (Ka : ∀ b : CS × Option Nat × Int32 × Int32, o = .inl b → ∀ (H : Heap) (locs : List Loc) (ls : Array Slot), va_P D cls (cw ad cc N b.1) H → va_D A (cw ad cc N b.1) → va_S A s.heap H locs → lv_has ls 5 [(0, .ref (ad 6 x0)), (1, rv ad 4 b.2.1), (2, .int b.2.2.1), (3, .int b.2.2.2)] → W p l e ({ frames := 5, cells := 0, slots := 0, locals := 113 }) s m args below meth c H locs 0 0 Q (F0 m 31 ls [])) (K0 : ∀ b : CS × Option Nat × Int32, o = .inr b → ∀ (H : Heap) (locs : List Loc) (ls : Array Slot), va_P D cls (cw ad cc N b.1) H → va_D A (cw ad cc N b.1) → va_S A s.heap H locs → lv_has ls 5 [(0, .ref (ad 6 x0)), (1, rv ad 4 b.2.1), (2, .int b.2.2)] → W p l e ({ frames := 5, cells := 0, slots := 0, locals := 113 }) s m args below meth c H locs 0 0 Q (F0 m 83 ls [])) : ∀ (H : Heap) (locs : List Loc) (ls : Array Slot), va_P D cls (cw ad cc N S) H → va_D A (cw ad cc N S) → va_S A s.heap H locs → lv_has ls 5 [(0, .ref (ad 6 x0)), (1, rv ad 4 x1), (2, .int x2), (3, .int x3)] → W p l e ({ frames := 5, cells := 0, slots := 0, locals := 113 }) s m args below meth c H locs 0 0 Q (F0 m 31 ls []) := by
  intro H locs ls hP hD hS hl
  obtain ⟨hx, hb, hr, hml, hown, hts, hK, hA, hev, hE, hN, hNS⟩ := id hC
  unfold m_cSv_writeSaved_B31 at Heq
  refine lv_iload_n hx hb d_cSv_writeSaved_31 rfl (lv_at hl 3 rfl) ?_
  refine lv_aload_n hx hb d_cSv_writeSaved_32 rfl (lv_at hl 0 rfl) ?_
  obtain ⟨hl_x0_6, Heq⟩ := gl_some Heq
  refine va_get (D := D) (ci := 6) (v := rv ad 8 (S.r 6 0 x0)) (C := R_Sv) (T := F_Sv) (N := 6) hx hb hts i_Sv hown hK hP (cPos N 6 x0) (cw_obj (k := 6) (by decide) hl_x0_6) rfl 0 (by decide) (hts _ kw_401) (fun _ h9 => h9) rfl d_cSv_writeSaved_33 ?_
  obtain ⟨j_1, hj_2, hl_3, Heq⟩ := gn_some Heq
  refine w_s (st' := [.ref (ad 8 j_1), .int x3]) (congrArg (fun z9 : Option Nat => [rv ad 8 z9, .int x3]) hj_2) ?_
  refine va_get (D := D) (ci := 8) (v := .int (S.i 8 4 j_1)) (C := R_St) (T := F_St) (N := 6) hx hb hts i_St hown hK hP (cPos N 8 j_1) (cw_obj (k := 8) (by decide) hl_3) rfl 4 (by decide) (hts _ kw_174) (fun _ h9 => h9) rfl d_cSv_writeSaved_36 ?_
  refine lv_icmp_ge (tgt := 83) hx hb d_cSv_writeSaved_39 (by decide) (fun c_4 => ?_) (fun c_4 => ?_)
  · replace Heq := (if_pos c_4).symm.trans Heq
    exact K0 _ (Option.some.inj Heq).symm _ _ _ hP hD hS (lv_sub hl [0, 1, 2] rfl)
  · replace Heq := (if_neg c_4).symm.trans Heq
    refine lv_aload_n hx hb d_cSv_writeSaved_42 rfl (lv_at hl 0 rfl) ?_
    refine va_get (D := D) (ci := 6) (v := rv ad 8 (S.r 6 0 x0)) (C := R_Sv) (T := F_Sv) (N := 6) hx hb hts i_Sv hown hK hP (cPos N 6 x0) (cw_obj (k := 6) (by decide) hl_x0_6) rfl 0 (by decide) (hts _ kw_401) (fun _ h9 => h9) rfl d_cSv_writeSaved_43 ?_
    refine w_s (st' := [.ref (ad 8 j_1)]) (congrArg (fun z9 : Option Nat => [rv ad 8 z9]) hj_2) ?_
    refine va_get (D := D) (ci := 8) (v := rv ad 16 (S.r 8 3 j_1)) (C := R_St) (T := F_St) (N := 6) hx hb hts i_St hown hK hP (cPos N 8 j_1) (cw_obj (k := 8) (by decide) hl_3) rfl 3 (by decide) (hts _ kw_172) (fun _ h9 => h9) rfl d_cSv_writeSaved_46 ?_
    refine lv_iload_n hx hb d_cSv_writeSaved_49 rfl (lv_at hl 3 rfl) ?_
    obtain ⟨j_5, hj_6, hl_7, Heq⟩ := gn_some Heq
    refine w_s (st' := [.int x3, .ref (ad 16 j_5)]) (congrArg (fun z9 : Option Nat => [.int x3, rv ad 16 z9]) hj_6) ?_
    obtain ⟨hi_8, Heq⟩ := gd_some Heq
    refine va_aldq hx hb hK hP (cPos N 16 j_5) 4 (cw_refs (k := 16) (by decide) hl_7) rfl (i := x3) hi_8 d_cSv_writeSaved_50 ?_
    refine w_v (y := rv ad 0 (S.q 16 j_5 x3.toNatClampNeg)) (congrArg (rv ad 0) rfl) ?_
    refine tx_astore (x := (S.q 16 j_5 x3.toNatClampNeg).map (ad 0)) (lv' := [(4, rv ad 0 (S.q 16 j_5 x3.toNatClampNeg)), (0, .ref (ad 6 x0)), (1, rv ad 4 x1), (2, .int x2), (3, .int x3)]) hx hb d_cSv_writeSaved_51 hl (by decide) rfl (fun ls hl => ?_)
    refine tx_aload (x := (S.q 16 j_5 x3.toNatClampNeg).map (ad 0)) hx hb d_cSv_writeSaved_53 (lv_at hl 0 rfl) ?_
    refine w_v (y := rv ad 0 (S.q 16 j_5 x3.toNatClampNeg)) rfl ?_
    obtain ⟨j_9, hj_10, hl_11, Heq⟩ := gn_some Heq
    refine w_s (st' := [.ref (ad 0 j_9)]) (congrArg (fun z9 : Option Nat => [rv ad 0 z9]) hj_10) ?_
    refine va_get (D := D) (ci := 0) (v := .int (S.i 0 0 j_9)) (C := R_Ch) (T := F_Ch) (N := 7) hx hb hts i_Ch hown hK hP (cPos N 0 j_9) (cw_obj (k := 0) (by decide) hl_11) rfl 0 (by decide) (hts _ kw_1010) (fun _ h9 => h9) rfl d_cSv_writeSaved_55 ?_
    refine lv_iload_n hx hb d_cSv_writeSaved_58 rfl (lv_at hl 3 rfl) ?_
    refine lv_icmp_ne (tgt := 77) hx hb d_cSv_writeSaved_59 (by decide) (fun c_12 => ?_) (fun c_12 => ?_)
    · replace Heq := (if_neg c_12).symm.trans Heq
      exact w_cSv_writeSaved_J77 hC Heq Ka K0 _ _ _ hP hD hS (lv_sub hl [1, 2, 3, 4] rfl)
    · replace Heq := (if_pos c_12).symm.trans Heq
      refine tx_aload_n (x := x1.map (ad 4)) hx hb d_cSv_writeSaved_62 rfl (lv_at hl 2 rfl) ?_
      refine w_v (y := rv ad 4 x1) rfl ?_
      refine tx_aload (x := (S.q 16 j_5 x3.toNatClampNeg).map (ad 0)) hx hb d_cSv_writeSaved_63 (lv_at hl 0 rfl) ?_
      refine w_v (y := rv ad 0 (S.q 16 j_5 x3.toNatClampNeg)) rfl ?_
      refine w_s (st' := [.ref (ad 0 j_9), rv ad 4 x1]) (congrArg (fun z9 : Option Nat => [rv ad 0 z9, rv ad 4 x1]) hj_10) ?_
      obtain ⟨j_13, hj_14, hl_15, Heq⟩ := gn_some Heq
      refine w_s (st' := [.ref (ad 0 j_9), .ref (ad 4 j_13)]) (congrArg (fun z9 : Option Nat => [.ref (ad 0 j_9), rv ad 4 z9]) hj_14) ?_
      obtain ⟨o_16, h_17, Heq⟩ := ob_some Heq
      have hFc := fr_all hD hS hA
      refine va_calli (va_runV (As := [.ref (ad 0 j_9)]) (rest := []) ⟨hx, hb, hml, hown, hts⟩ (g_cRp_holds l D H.size (ad := ad) (cc := cc) (sad := sad) (sav := sav) h_17) (cw_v 1 hts kw_1083 kw_1291 kw_1081 kw_1082 kw_5 rfl rfl (by decide +kernel) ⟨Nat.le_of_ble_eq_true rfl, Nat.le_of_ble_eq_true rfl⟩) ⟨c_blind, va_recv hK hP (ci := 4) (q0 := cPos N 4 j_13) rfl (cw_obj (k := 4) (by decide) hl_15), fun U hU hW => c_pre hU hW hP hK hD hev hE hN hNS hS hFc⟩ rfl rfl hl.1 rfl (lv_room (Nat.le_of_ble_eq_true rfl)) d_cSv_writeSaved_65 ⟨Nat.le_of_ble_eq_true rfl, Nat.le_of_ble_eq_true rfl⟩) hS (fun q _ h => hFc q h) hFc (fun rz u t H1 locs ht hvm hw hB hz1 hk1 hS => ?_)
      obtain ⟨hP, -, hD1⟩ := hB
      rw [ht] at hP
      have hD := hD1.weaken (fun _ q _ h => hFc q.1 h)
      generalize H1 = H at hP hS ⊢
      refine W.cs (cells' := 0) (slots' := 0) rfl rfl ?_
      subst hw
      refine lv_if_eq (tgt := 77) hx hb d_cSv_writeSaved_68 (by decide) (fun c_18 => ?_) (fun c_18 => ?_)
      · replace Heq := (if_pos c_18).symm.trans Heq
        exact w_cSv_writeSaved_J77 hC Heq Ka K0 _ _ _ hP hD hS (lv_sub hl [1, 2, 3, 4] rfl)
      · replace Heq := (if_neg c_18).symm.trans Heq
        refine lv_aload_n hx hb d_cSv_writeSaved_71 rfl (lv_at hl 1 rfl) ?_
        refine tx_aload (x := (S.q 16 j_5 x3.toNatClampNeg).map (ad 0)) hx hb d_cSv_writeSaved_72 (lv_at hl 0 rfl) ?_
        refine w_v (y := rv ad 0 (S.q 16 j_5 x3.toNatClampNeg)) rfl ?_
        refine w_s (st' := [.ref (ad 0 j_9), .ref (ad 6 x0)]) (congrArg (fun z9 : Option Nat => [rv ad 0 z9, .ref (ad 6 x0)]) hj_10) ?_
        obtain ⟨o_19, h_20, Heq⟩ := ob_some Heq
        have hFc := fr_all hD hS hA
        refine va_callv (va_runV (As := [.ref (ad 0 j_9)]) (rest := []) ⟨hx, hb, hml, hown, hts⟩ (g_cSv_emitChange l D H.size (ad := ad) (cc := cc) (sad := sad) (sav := sav) h_20) (cw_v 1 hts kw_1295 kw_1292 kw_1293 kw_1294 kw_10 rfl rfl (by decide +kernel) ⟨Nat.le_of_ble_eq_true rfl, Nat.le_of_ble_eq_true rfl⟩) ⟨c_blind, va_recv hK hP (ci := 6) (q0 := cPos N 6 x0) rfl (cw_obj (k := 6) (by decide) hl_x0_6), fun U hU hW => c_pre hU hW hP hK hD hev hE hN hNS hS hFc⟩ rfl rfl hl.1 rfl (lv_room (Nat.le_of_ble_eq_true rfl)) d_cSv_writeSaved_74 ⟨Nat.le_of_ble_eq_true rfl, Nat.le_of_ble_eq_true rfl⟩) hS (fun q _ h => hFc q h) hFc (fun u t H1 locs ht hvm hw hB hz1 hk1 hS => ?_)
        obtain ⟨hP, -, hD1⟩ := hB
        rw [ht] at hP
        have hD := hD1.weaken (fun _ q _ h => hFc q.1 h)
        generalize H1 = H at hP hS ⊢
        refine W.cs (cells' := 0) (slots' := 0) rfl rfl ?_
        exact w_cSv_writeSaved_J77 hC Heq Ka K0 _ _ _ hP hD hS (lv_sub hl [1, 2, 3, 4] rfl)
def m_cSv_writeSaved_L31 (N : Nat → Nat) (x0 : Nat) (S : CS) (x1 : Option Nat) (x2 : Int32) (x3 : Int32) : Option (CS × Option Nat × Int32) := lp (fun a : CS × Option Nat × Int32 × Int32 => m_cSv_writeSaved_B31 N x0 a.1 a.2.1 a.2.2.1 a.2.2.2) FU (S, x1, x2, x3)
theorem w_cSv_writeSaved_L31 {p : Program} {l : Launch} {e : Env} {s : State} {m : MethodId} {args : Array Value} {below : List Frame} {meth : Method} {c : Code} {A : Nat → Prop} {D : va_G} {ad : Nat → Nat → Nat} {cc : Nat → ClassId} {sad sav : Nat → Nat} {Q : State → Prop} (hC : MCc sad sav "JoinedTrees$Saver" prog_8_method_2_code 5 none p s m args meth c A D cc) {N : Nat → Nat} {x0 : Nat} {S : CS} {x1 : Option Nat} {x2 : Int32} {x3 : Int32} {o : CS × Option Nat × Int32} (Heq : m_cSv_writeSaved_L31 N x0 S x1 x2 x3 = some o) (K0 : ∀ b : CS × Option Nat × Int32, o = b → ∀ (H : Heap) (locs : List Loc) (ls : Array Slot), va_P D cls (cw ad cc N b.1) H → va_D A (cw ad cc N b.1) → va_S A s.heap H locs → lv_has ls 5 [(0, .ref (ad 6 x0)), (1, rv ad 4 b.2.1), (2, .int b.2.2)] → W p l e ({ frames := 5, cells := 0, slots := 0, locals := 113 }) s m args below meth c H locs 0 0 Q (F0 m 83 ls [])) : ∀ (H : Heap) (locs : List Loc) (ls : Array Slot), va_P D cls (cw ad cc N S) H → va_D A (cw ad cc N S) → va_S A s.heap H locs → lv_has ls 5 [(0, .ref (ad 6 x0)), (1, rv ad 4 x1), (2, .int x2), (3, .int x3)] → W p l e ({ frames := 5, cells := 0, slots := 0, locals := 113 }) s m args below meth c H locs 0 0 Q (F0 m 31 ls []) := by
  refine lp_w (G := fun a : CS × Option Nat × Int32 × Int32 => ∀ (H : Heap) (locs : List Loc) (ls : Array Slot), va_P D cls (cw ad cc N a.1) H → va_D A (cw ad cc N a.1) → va_S A s.heap H locs → lv_has ls 5 [(0, .ref (ad 6 x0)), (1, rv ad 4 a.2.1), (2, .int a.2.2.1), (3, .int a.2.2.2)] → W p l e ({ frames := 5, cells := 0, slots := 0, locals := 113 }) s m args below meth c H locs 0 0 Q (F0 m 31 ls [])) ?_ FU (S, x1, x2, x3) Heq
  intro a o1 ho Ka Ke
  exact w_cSv_writeSaved_B31 hC ho (fun b h => Ka b h) (fun b h => K0 b (Ke _ h).symm)
def m_cSv_writeSaved_B23 (N : Nat → Nat) (x0 : Nat) (S : CS) (x1 : Option Nat) (x2 : Int32) : Option ((CS × Option Nat × Int32) ⊕ CS) := (if 8 ≤ x2 then some (.inr (S)) else ob (m_cSv_writeSaved_L31 N x0 S x1 x2 0) (fun b_2 => some (.inl (b_2.1, b_2.2.1, (b_2.2.2 + 1)))))
theorem d_cSv_writeSaved_83 : decode prog_8_method_2_code 83 = .ok (.iinc 2 1, 3) := by decide +kernel
theorem d_cSv_writeSaved_86 : decode prog_8_method_2_code 86 = .ok (.goto (-63), 3) := by decide +kernel
set_option maxHeartbeats 4000000 in
set_option maxRecDepth 100000 in
theorem w_cSv_writeSaved_B23 {p : Program} {l : Launch} {e : Env} {s : State} {m : MethodId} {args : Array Value} {below : List Frame} {meth : Method} {c : Code} {A : Nat → Prop} {D : va_G} {ad : Nat → Nat → Nat} {cc : Nat → ClassId} {sad sav : Nat → Nat} {Q : State → Prop} (hC : MCc sad sav "JoinedTrees$Saver" prog_8_method_2_code 5 none p s m args meth c A D cc) {N : Nat → Nat} {x0 : Nat} {S : CS} {x1 : Option Nat} {x2 : Int32} {o : ((CS × Option Nat × Int32) ⊕ CS)} (Heq : m_cSv_writeSaved_B23 N x0 S x1 x2 = some o) (Ka : ∀ b : CS × Option Nat × Int32, o = .inl b → ∀ (H : Heap) (locs : List Loc) (ls : Array Slot), va_P D cls (cw ad cc N b.1) H → va_D A (cw ad cc N b.1) → va_S A s.heap H locs → lv_has ls 5 [(0, .ref (ad 6 x0)), (1, rv ad 4 b.2.1), (2, .int b.2.2)] → W p l e ({ frames := 5, cells := 0, slots := 0, locals := 113 }) s m args below meth c H locs 0 0 Q (F0 m 23 ls [])) (K0 : ∀ b : CS, o = .inr b → ∀ (H : Heap) (locs : List Loc) (ls : Array Slot), va_P D cls (cw ad cc N b) H → va_D A (cw ad cc N b) → va_S A s.heap H locs → lv_has ls 5 [(0, .ref (ad 6 x0))] → W p l e ({ frames := 5, cells := 0, slots := 0, locals := 113 }) s m args below meth c H locs 0 0 Q (F0 m 89 ls [])) : ∀ (H : Heap) (locs : List Loc) (ls : Array Slot), va_P D cls (cw ad cc N S) H → va_D A (cw ad cc N S) → va_S A s.heap H locs → lv_has ls 5 [(0, .ref (ad 6 x0)), (1, rv ad 4 x1), (2, .int x2)] → W p l e ({ frames := 5, cells := 0, slots := 0, locals := 113 }) s m args below meth c H locs 0 0 Q (F0 m 23 ls []) := by
  intro H locs ls hP hD hS hl
  obtain ⟨hx, hb, hr, hml, hown, hts, hK, hA, hev, hE, hN, hNS⟩ := id hC
  unfold m_cSv_writeSaved_B23 at Heq
  refine lv_iload_n hx hb d_cSv_writeSaved_23 rfl (lv_at hl 2 rfl) ?_
  refine lv_bipush (v := 8) hx hb d_cSv_writeSaved_24 (by decide) ?_
  refine lv_icmp_ge (tgt := 89) hx hb d_cSv_writeSaved_26 (by decide) (fun c_1 => ?_) (fun c_1 => ?_)
  · replace Heq := (if_pos c_1).symm.trans Heq
    exact K0 _ (Option.some.inj Heq).symm _ _ _ hP hD hS (lv_sub hl [0] rfl)
  · replace Heq := (if_neg c_1).symm.trans Heq
    refine lv_iconst (v := 0) hx hb d_cSv_writeSaved_29 (by decide) ?_
    refine lv_istore_n (lv' := [(3, .int 0), (0, .ref (ad 6 x0)), (1, rv ad 4 x1), (2, .int x2)]) hx hb d_cSv_writeSaved_30 rfl hl (by decide) rfl (fun ls hl => ?_)
    obtain ⟨b_2, h_3, Heq⟩ := ob_some Heq
    refine w_cSv_writeSaved_L31 hC h_3 (fun b h => ?_) _ _ _ hP hD hS (lv_sub hl [1, 2, 3, 0] rfl)
    subst h
    intro H locs ls hP hD hS hl
    refine lv_iinc (v := b_2.2.2 + 1) (lv' := [(2, .int (b_2.2.2 + 1)), (0, .ref (ad 6 x0)), (1, rv ad 4 b_2.2.1)]) hx hb d_cSv_writeSaved_83 hl (k := 2) rfl rfl (by decide) (by simp [rv, rf_cat]) (fun ls hl => ?_)
    refine lv_goto (tgt := 23) hx hb d_cSv_writeSaved_86 (by decide) ?_
    exact Ka _ (Option.some.inj Heq).symm _ _ _ hP hD hS (lv_sub hl [1, 2, 0] rfl)
def m_cSv_writeSaved_L23 (N : Nat → Nat) (x0 : Nat) (S : CS) (x1 : Option Nat) (x2 : Int32) : Option CS := lp (fun a : CS × Option Nat × Int32 => m_cSv_writeSaved_B23 N x0 a.1 a.2.1 a.2.2) FU (S, x1, x2)
theorem w_cSv_writeSaved_L23 {p : Program} {l : Launch} {e : Env} {s : State} {m : MethodId} {args : Array Value} {below : List Frame} {meth : Method} {c : Code} {A : Nat → Prop} {D : va_G} {ad : Nat → Nat → Nat} {cc : Nat → ClassId} {sad sav : Nat → Nat} {Q : State → Prop} (hC : MCc sad sav "JoinedTrees$Saver" prog_8_method_2_code 5 none p s m args meth c A D cc) {N : Nat → Nat} {x0 : Nat} {S : CS} {x1 : Option Nat} {x2 : Int32} {o : CS} (Heq : m_cSv_writeSaved_L23 N x0 S x1 x2 = some o) (K0 : ∀ b : CS, o = b → ∀ (H : Heap) (locs : List Loc) (ls : Array Slot), va_P D cls (cw ad cc N b) H → va_D A (cw ad cc N b) → va_S A s.heap H locs → lv_has ls 5 [(0, .ref (ad 6 x0))] → W p l e ({ frames := 5, cells := 0, slots := 0, locals := 113 }) s m args below meth c H locs 0 0 Q (F0 m 89 ls [])) : ∀ (H : Heap) (locs : List Loc) (ls : Array Slot), va_P D cls (cw ad cc N S) H → va_D A (cw ad cc N S) → va_S A s.heap H locs → lv_has ls 5 [(0, .ref (ad 6 x0)), (1, rv ad 4 x1), (2, .int x2)] → W p l e ({ frames := 5, cells := 0, slots := 0, locals := 113 }) s m args below meth c H locs 0 0 Q (F0 m 23 ls []) := by
  refine lp_w (G := fun a : CS × Option Nat × Int32 => ∀ (H : Heap) (locs : List Loc) (ls : Array Slot), va_P D cls (cw ad cc N a.1) H → va_D A (cw ad cc N a.1) → va_S A s.heap H locs → lv_has ls 5 [(0, .ref (ad 6 x0)), (1, rv ad 4 a.2.1), (2, .int a.2.2)] → W p l e ({ frames := 5, cells := 0, slots := 0, locals := 113 }) s m args below meth c H locs 0 0 Q (F0 m 23 ls [])) ?_ FU (S, x1, x2) Heq
  intro a o1 ho Ka Ke
  exact w_cSv_writeSaved_B23 hC ho (fun b h => Ka b h) (fun b h => K0 b (Ke _ h).symm)
def m_cSv_writeSaved_J0 (N : Nat → Nat) (x0 : Nat) (S : CS) (x1 : Nat) : Option CS := gl x0 (N 6) (gn (S.r 6 1 x0) (N 5) (fun j_1 => ob (m_cRw_clear N j_1 (S.setI 6 3 x0 0)) (fun o_4 => gl x1 (N 4) (ob (m_cSv_emitNumber N x0 o_4 ((o_4.i 4 5 x1).toInt64)) (fun o_6 => ob (m_cSv_writeSaved_L23 N x0 o_6 (some x1) 0) (fun b_8 => gn (b_8.r 6 1 x0) (N 5) (fun j_10 => ob (m_cSv_crcOf N x0 b_8 (b_8.i 5 1 j_10)) (fun o_13 => ob (m_cRw_writeInt N j_10 o_13.1 o_13.2) (fun o_15 => some o_15)))))))))
theorem d_cSv_writeSaved_89 : decode prog_8_method_2_code 89 = .ok (.aload_n 0, 1) := by decide +kernel
theorem d_cSv_writeSaved_90 : decode prog_8_method_2_code 90 = .ok (.getfield 19, 3) := by decide +kernel
theorem d_cSv_writeSaved_93 : decode prog_8_method_2_code 93 = .ok (.aload_n 0, 1) := by decide +kernel
theorem d_cSv_writeSaved_94 : decode prog_8_method_2_code 94 = .ok (.aload_n 0, 1) := by decide +kernel
theorem d_cSv_writeSaved_95 : decode prog_8_method_2_code 95 = .ok (.getfield 19, 3) := by decide +kernel
theorem d_cSv_writeSaved_98 : decode prog_8_method_2_code 98 = .ok (.getfield 63, 3) := by decide +kernel
theorem d_cSv_writeSaved_101 : decode prog_8_method_2_code 101 = .ok (.invokevirtual 66, 3) := by decide +kernel
theorem d_cSv_writeSaved_104 : decode prog_8_method_2_code 104 = .ok (.invokevirtual 70, 3) := by decide +kernel
theorem d_cSv_writeSaved_107 : decode prog_8_method_2_code 107 = .ok (.return_, 1) := by decide +kernel
set_option maxHeartbeats 4000000 in
set_option maxRecDepth 100000 in
theorem w_cSv_writeSaved_J0 {p : Program} {l : Launch} {e : Env} {s : State} {m : MethodId} {args : Array Value} {below : List Frame} {meth : Method} {c : Code} {A : Nat → Prop} {D : va_G} {ad : Nat → Nat → Nat} {cc : Nat → ClassId} {sad sav : Nat → Nat} {Q : State → Prop} (hC : MCc sad sav "JoinedTrees$Saver" prog_8_method_2_code 5 none p s m args meth c A D cc) {N : Nat → Nat} {x0 : Nat} {S : CS} {x1 : Nat} {o : CS} (Heq : m_cSv_writeSaved_J0 N x0 S x1 = some o) (Kr : ∀ r : CS, o = r → ∀ (pc : Nat) (H : Heap) (locs : List Loc) (ls : Array Slot), decode prog_8_method_2_code pc = .ok (.return_, 1) → va_P D cls (cw ad cc N r) H → va_D A (cw ad cc N r) → va_S A s.heap H locs → W p l e ({ frames := 5, cells := 0, slots := 0, locals := 113 }) s m args below meth c H locs 0 0 Q (F0 m pc ls [])) : ∀ (H : Heap) (locs : List Loc) (ls : Array Slot), va_P D cls (cw ad cc N S) H → va_D A (cw ad cc N S) → va_S A s.heap H locs → lv_has ls 5 [(0, .ref (ad 6 x0)), (1, .ref (ad 4 x1))] → W p l e ({ frames := 5, cells := 0, slots := 0, locals := 113 }) s m args below meth c H locs 0 0 Q (F0 m 0 ls []) := by
  intro H locs ls hP hD hS hl
  obtain ⟨hx, hb, hr, hml, hown, hts, hK, hA, hev, hE, hN, hNS⟩ := id hC
  unfold m_cSv_writeSaved_J0 at Heq
  refine lv_aload_n hx hb d_cSv_writeSaved_0 rfl (lv_at hl 0 rfl) ?_
  refine lv_iconst (v := 0) hx hb d_cSv_writeSaved_1 (by decide) ?_
  obtain ⟨hl_x0_6, Heq⟩ := gl_some Heq
  refine va_put (D := D) (ci := 6) (v := .int 0) (ty := .boolean) (C := R_Sv) (T := F_Sv) (N := 6) hx hb hts i_Sv t_Sv t_Sv_ok n_Sv hown hK hP hD hS (cPos N 6 x0) (cw_obj (k := 6) (by decide) hl_x0_6) rfl 3 (by decide) (hts _ kw_405) (fun _ h9 => h9) rfl (by decide +kernel) (by decide) (by decide) (Nat.le_of_ble_eq_true rfl) d_cSv_writeSaved_2 (fun H locs hP hD hS => ?_)
  have hD := (congrArg (fun w9 => va_D A w9) (cw_setI (ad := ad) (cc := cc) (S := S) (k := 6) (f := 3) (v := 0) (by decide) rfl hl_x0_6)).mp hD
  have hP := (congrArg (fun w9 => va_P D cls w9 H) (cw_setI (ad := ad) (cc := cc) (S := S) (k := 6) (f := 3) (v := 0) (by decide) rfl hl_x0_6)).mp hP
  refine lv_aload_n hx hb d_cSv_writeSaved_5 rfl (lv_at hl 0 rfl) ?_
  refine va_get (D := D) (ci := 6) (v := rv ad 5 ((S.setI 6 3 x0 0).r 6 1 x0)) (C := R_Sv) (T := F_Sv) (N := 6) hx hb hts i_Sv hown hK hP (cPos N 6 x0) (cw_obj (k := 6) (by decide) hl_x0_6) rfl 1 (by decide) (hts _ kw_402) (fun _ h9 => h9) rfl d_cSv_writeSaved_6 ?_
  refine w_v (y := rv ad 5 (S.r 6 1 x0)) (congrArg (rv ad 5) rfl) ?_
  obtain ⟨j_1, hj_2, hl_3, Heq⟩ := gn_some Heq
  refine w_s (st' := [.ref (ad 5 j_1)]) (congrArg (fun z9 : Option Nat => [rv ad 5 z9]) hj_2) ?_
  obtain ⟨o_4, h_5, Heq⟩ := ob_some Heq
  have hFc := fr_all hD hS hA
  refine va_callv (va_runV (As := []) (rest := []) ⟨hx, hb, hml, hown, hts⟩ (g_cRw_clear l D H.size (ad := ad) (cc := cc) (sad := sad) (sav := sav) h_5) (cw_v 0 hts kw_576 kw_1279 kw_574 kw_575 kw_4 rfl rfl (by decide +kernel) ⟨Nat.le_of_ble_eq_true rfl, Nat.le_of_ble_eq_true rfl⟩) ⟨c_blind, va_recv hK hP (ci := 5) (q0 := cPos N 5 j_1) rfl (cw_obj (k := 5) (by decide) hl_3), fun U hU hW => c_pre hU hW hP hK hD hev hE hN hNS hS hFc⟩ rfl rfl hl.1 rfl (lv_room (Nat.le_of_ble_eq_true rfl)) d_cSv_writeSaved_9 ⟨Nat.le_of_ble_eq_true rfl, Nat.le_of_ble_eq_true rfl⟩) hS (fun q _ h => hFc q h) hFc (fun u t H1 locs ht hvm hw hB hz1 hk1 hS => ?_)
  obtain ⟨hP, -, hD1⟩ := hB
  rw [ht] at hP
  have hD := hD1.weaken (fun _ q _ h => hFc q.1 h)
  generalize H1 = H at hP hS ⊢
  refine W.cs (cells' := 0) (slots' := 0) rfl rfl ?_
  refine lv_aload_n hx hb d_cSv_writeSaved_12 rfl (lv_at hl 0 rfl) ?_
  refine lv_aload_n hx hb d_cSv_writeSaved_13 rfl (lv_at hl 1 rfl) ?_
  obtain ⟨hl_x1_4, Heq⟩ := gl_some Heq
  refine va_get (D := D) (ci := 4) (v := .int (o_4.i 4 5 x1)) (C := R_Rp) (T := F_Rp) (N := 10) hx hb hts i_Rp hown hK hP (cPos N 4 x1) (cw_obj (k := 4) (by decide) hl_x1_4) rfl 5 (by decide) (hts _ kw_217) (fun _ h9 => h9) rfl d_cSv_writeSaved_14 ?_
  refine lv_i2l hx hb d_cSv_writeSaved_17 rfl ?_
  refine w_l (y := (o_4.i 4 5 x1).toInt64) rfl ?_
  obtain ⟨o_6, h_7, Heq⟩ := ob_some Heq
  have hFc := fr_all hD hS hA
  refine va_callv (va_runV (As := [.long ((o_4.i 4 5 x1).toInt64)]) (rest := []) ⟨hx, hb, hml, hown, hts⟩ (g_cSv_emitNumber l D H.size (ad := ad) (cc := cc) (sad := sad) (sav := sav) h_7) (cw_v 1 hts kw_1283 kw_1280 kw_1281 kw_1282 kw_10 rfl rfl (by decide +kernel) ⟨Nat.le_of_ble_eq_true rfl, Nat.le_of_ble_eq_true rfl⟩) ⟨c_blind, va_recv hK hP (ci := 6) (q0 := cPos N 6 x0) rfl (cw_obj (k := 6) (by decide) hl_x0_6), fun U hU hW => c_pre hU hW hP hK hD hev hE hN hNS hS hFc⟩ rfl rfl hl.1 rfl (lv_room (Nat.le_of_ble_eq_true rfl)) d_cSv_writeSaved_18 ⟨Nat.le_of_ble_eq_true rfl, Nat.le_of_ble_eq_true rfl⟩) hS (fun q _ h => hFc q h) hFc (fun u t H1 locs ht hvm hw hB hz1 hk1 hS => ?_)
  obtain ⟨hP, -, hD1⟩ := hB
  rw [ht] at hP
  have hD := hD1.weaken (fun _ q _ h => hFc q.1 h)
  generalize H1 = H at hP hS ⊢
  refine W.cs (cells' := 0) (slots' := 0) rfl rfl ?_
  refine lv_iconst (v := 0) hx hb d_cSv_writeSaved_21 (by decide) ?_
  refine lv_istore_n (lv' := [(2, .int 0), (0, .ref (ad 6 x0)), (1, .ref (ad 4 x1))]) hx hb d_cSv_writeSaved_22 rfl hl (by decide) rfl (fun ls hl => ?_)
  obtain ⟨b_8, h_9, Heq⟩ := ob_some Heq
  refine w_cSv_writeSaved_L23 hC h_9 (fun b h => ?_) _ _ _ hP hD hS (lv_sub hl [1, 2, 0] rfl)
  subst h
  intro H locs ls hP hD hS hl
  refine lv_aload_n hx hb d_cSv_writeSaved_89 rfl (lv_at hl 0 rfl) ?_
  refine va_get (D := D) (ci := 6) (v := rv ad 5 (b_8.r 6 1 x0)) (C := R_Sv) (T := F_Sv) (N := 6) hx hb hts i_Sv hown hK hP (cPos N 6 x0) (cw_obj (k := 6) (by decide) hl_x0_6) rfl 1 (by decide) (hts _ kw_402) (fun _ h9 => h9) rfl d_cSv_writeSaved_90 ?_
  refine lv_aload_n hx hb d_cSv_writeSaved_93 rfl (lv_at hl 0 rfl) ?_
  refine lv_aload_n hx hb d_cSv_writeSaved_94 rfl (lv_at hl 0 rfl) ?_
  refine va_get (D := D) (ci := 6) (v := rv ad 5 (b_8.r 6 1 x0)) (C := R_Sv) (T := F_Sv) (N := 6) hx hb hts i_Sv hown hK hP (cPos N 6 x0) (cw_obj (k := 6) (by decide) hl_x0_6) rfl 1 (by decide) (hts _ kw_402) (fun _ h9 => h9) rfl d_cSv_writeSaved_95 ?_
  obtain ⟨j_10, hj_11, hl_12, Heq⟩ := gn_some Heq
  refine w_s (st' := [.ref (ad 5 j_10), .ref (ad 6 x0), rv ad 5 (b_8.r 6 1 x0)]) (congrArg (fun z9 : Option Nat => [rv ad 5 z9, .ref (ad 6 x0), rv ad 5 (b_8.r 6 1 x0)]) hj_11) ?_
  refine va_get (D := D) (ci := 5) (v := .int (b_8.i 5 1 j_10)) (C := R_Rw) (T := F_Rw) (N := 3) hx hb hts i_Rw hown hK hP (cPos N 5 j_10) (cw_obj (k := 5) (by decide) hl_12) rfl 1 (by decide) (hts _ kw_145) (fun _ h9 => h9) rfl d_cSv_writeSaved_98 ?_
  obtain ⟨o_13, h_14, Heq⟩ := ob_some Heq
  have hFc := fr_all hD hS hA
  refine va_calli (va_runV (As := [.int (b_8.i 5 1 j_10)]) (rest := [rv ad 5 (b_8.r 6 1 x0)]) ⟨hx, hb, hml, hown, hts⟩ (g_cSv_crcOf l D H.size (ad := ad) (cc := cc) (sad := sad) (sav := sav) h_14) (cw_v 1 hts kw_1311 kw_1308 kw_1309 kw_1310 kw_10 rfl rfl (by decide +kernel) ⟨Nat.le_of_ble_eq_true rfl, Nat.le_of_ble_eq_true rfl⟩) ⟨c_blind, va_recv hK hP (ci := 6) (q0 := cPos N 6 x0) rfl (cw_obj (k := 6) (by decide) hl_x0_6), fun U hU hW => c_pre hU hW hP hK hD hev hE hN hNS hS hFc⟩ rfl rfl hl.1 rfl (lv_room (by simp only [List.map_cons, List.map_nil, List.sum_cons, List.sum_nil, rv_cat]; exact Nat.le_of_ble_eq_true rfl)) d_cSv_writeSaved_101 ⟨Nat.le_of_ble_eq_true rfl, Nat.le_of_ble_eq_true rfl⟩) hS (fun q _ h => hFc q h) hFc (fun rz u t H1 locs ht hvm hw hB hz1 hk1 hS => ?_)
  obtain ⟨hP, -, hD1⟩ := hB
  rw [ht] at hP
  have hD := hD1.weaken (fun _ q _ h => hFc q.1 h)
  generalize H1 = H at hP hS ⊢
  refine W.cs (cells' := 0) (slots' := 0) rfl rfl ?_
  subst hw
  refine w_s (st' := [.int o_13.2, .ref (ad 5 j_10)]) (congrArg (fun z9 : Option Nat => [.int o_13.2, rv ad 5 z9]) hj_11) ?_
  obtain ⟨o_15, h_16, Heq⟩ := ob_some Heq
  have hFc := fr_all hD hS hA
  refine va_callv (va_runV (As := [.int o_13.2]) (rest := []) ⟨hx, hb, hml, hown, hts⟩ (g_cRw_writeInt l D H.size (ad := ad) (cc := cc) (sad := sad) (sav := sav) h_16) (cw_v 1 hts kw_545 kw_1315 kw_543 kw_544 kw_4 rfl rfl (by decide +kernel) ⟨Nat.le_of_ble_eq_true rfl, Nat.le_of_ble_eq_true rfl⟩) ⟨c_blind, va_recv hK hP (ci := 5) (q0 := cPos N 5 j_10) rfl (cw_obj (k := 5) (by decide) hl_12), fun U hU hW => c_pre hU hW hP hK hD hev hE hN hNS hS hFc⟩ rfl rfl hl.1 rfl (lv_room (Nat.le_of_ble_eq_true rfl)) d_cSv_writeSaved_104 ⟨Nat.le_of_ble_eq_true rfl, Nat.le_of_ble_eq_true rfl⟩) hS (fun q _ h => hFc q h) hFc (fun u t H1 locs ht hvm hw hB hz1 hk1 hS => ?_)
  obtain ⟨hP, -, hD1⟩ := hB
  rw [ht] at hP
  have hD := hD1.weaken (fun _ q _ h => hFc q.1 h)
  generalize H1 = H at hP hS ⊢
  refine W.cs (cells' := 0) (slots' := 0) rfl rfl ?_
  exact Kr _ (Option.some.inj Heq).symm 107 _ _ _ d_cSv_writeSaved_107 hP hD hS
def m_cSv_writeSaved (N : Nat → Nat) (x0 : Nat) (S : CS) (x1 : Nat) : Option CS := m_cSv_writeSaved_J0 N x0 S x1
set_option maxHeartbeats 4000000 in
theorem g_cSv_writeSaved (l : Launch) (D : va_G) (sz : Nat) {ad : Nat → Nat → Nat} {cc : Nat → ClassId} {sad sav : Nat → Nat} {N : Nat → Nat} {x0 : Nat} {S : CS} {x1 : Nat} {o : CS} (Heq : m_cSv_writeSaved N x0 S x1 = some o) : Met l ⟨"JoinedTrees$Saver", "writeSaved", "(LJoinedTrees$Replica;)V"⟩ (Cond.code ⟨"JoinedTrees$Saver", "writeSaved", "(LJoinedTrees$Replica;)V"⟩ prog_8_method_2_code 5 none :: gb) ({ frames := 5, cells := 0, slots := 0, locals := 113 }) (cPc sad sav D (cw ad cc N S) (cty cc) sz [.ref (ad 6 x0), .ref (ad 4 x1)]) (va_Qv (fun _ : Unit => True) (fun _ t => gO D (cw ad cc N o) (cty cc) (va_A (cw ad cc N S) sz) t) (va_A (cw ad cc N S) sz)) 0 0 (va_A (cw ad cc N S) sz) := by
  refine Met.ofW (cc := prog_8_method_2_code) (maxL := 5) (ret := none) (by decide) rfl ?_
  intro p e s m args below meth c s₁ B hml hv
  obtain ⟨rfl, hsz, hP, hK, hD0, hev, hE, hN⟩ := hv
  have hx := B.exec
  have hb := B.bytes
  have hr := B.returns
  have hts : ∀ w9 ∈ gb, w9.before [.ref (ad 6 x0), .ref (ad 4 x1)].toArray s = true := fun w9 h => atoms_spec (ws := Cond.code ⟨"JoinedTrees$Saver", "writeSaved", "(LJoinedTrees$Replica;)V"⟩ prog_8_method_2_code 5 none :: gb) B.pre w9 (List.mem_cons_of_mem _ h)
  have hown : s.vm.findClass "JoinedTrees$Saver" = some m.cls := findClass_of_methodNamed B.named
  have hlocks := B.notSynchronized
  have hNS := ns_of hP
  subst hsz
  have hD := hD0.self (sz := s.heap.size)
  generalize hAe : va_A (cw ad cc N S) s.heap.size = A at hD hev hE hNS ⊢
  have hA : ∀ q : Nat, s.heap.size ≤ q → A q := fun q h => by rw [← hAe]; exact Or.inr h
  have hS : va_S A s.heap s.heap [] := va_S.rf
  obtain ⟨ls, hl, hle⟩ : ∃ ls : Array Slot, lv_has ls 5 [(0, .ref (ad 6 x0)), (1, .ref (ad 4 x1))] ∧ entryFrame m ([.ref (ad 6 x0), .ref (ad 4 x1)] : List Value).toArray 5 = F0 m 0 ls [] := by
    exact ⟨_, lv_entry (n := 5) _ (Nat.le_of_ble_eq_true rfl), lg_entry_eq ..⟩
  rw [hle]
  refine w_cSv_writeSaved_J0 ⟨hx, hb, hr, hml, hown, hts, hK, hA, hev, hE, hN, hNS⟩ Heq (fun r h pc H locs ls hd hP hD hS => ?_) _ _ _ hP hD hS (lv_sub hl [0, 1] rfl)
  subst h
  exact W.vret hx hb hr (fun t ht hW => ⟨⟨(), rfl, trivial, by rw [ht]; exact hP, va_K.moved hW.alike hK, hD⟩, hS.F ht⟩) hS.2.2 hd
