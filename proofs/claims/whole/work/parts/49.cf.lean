noncomputable def m_cJT_add_J86 (N : Nat → Nat) (x0 : Nat) (S : CS) (x4 : Int64) (x7 : Option Nat) (x8 : Option Nat) (t0 : Int32) (t1 : Int32) (t2 : Option Nat) : Option ((((Nat → Nat) × CS × Int32) ⊕ ((Nat → Nat) × CS × Nat)) × Nat × Nat) := gn t2 (N 11) (fun j_1 => oe (m_cJT_needRoom N j_1 S t1 t0) (fun o_4 => gn x8 (N 7) (fun j_7 => gn x7 (N 4) (fun j_10 => gl x0 (N 11) (oq (m_cJT_writeOn N x0 o_4 j_10 j_7 10 x4) (fun N_15 S_16 v_17 => gn v_17 (N_15 3) (fun j_18 => some ((.inl (N_15, S_16, S_16.i 3 0 j_18)), 0, 0))))))) (fun t_6 => some ((.inr (N, t_6.1, t_6.2)), 1, 6)))
theorem d_cJT_add_0 : decode prog_1_method_9_code 0 = .ok (.aload_n 0, 1) := by decide +kernel
theorem d_cJT_add_1 : decode prog_1_method_9_code 1 = .ok (.invokevirtual 102, 3) := by decide +kernel
theorem d_cJT_add_4 : decode prog_1_method_9_code 4 = .ok (.istore 6, 2) := by decide +kernel
theorem d_cJT_add_6 : decode prog_1_method_9_code 6 = .ok (.aload_n 0, 1) := by decide +kernel
theorem d_cJT_add_7 : decode prog_1_method_9_code 7 = .ok (.iload_n 1, 1) := by decide +kernel
theorem d_cJT_add_8 : decode prog_1_method_9_code 8 = .ok (.invokevirtual 105, 3) := by decide +kernel
theorem d_cJT_add_11 : decode prog_1_method_9_code 11 = .ok (.astore 7, 2) := by decide +kernel
theorem d_cJT_add_13 : decode prog_1_method_9_code 13 = .ok (.aload_n 0, 1) := by decide +kernel
theorem d_cJT_add_14 : decode prog_1_method_9_code 14 = .ok (.iload 6, 2) := by decide +kernel
theorem d_cJT_add_16 : decode prog_1_method_9_code 16 = .ok (.iload_n 3, 1) := by decide +kernel
theorem d_cJT_add_17 : decode prog_1_method_9_code 17 = .ok (.invokevirtual 189, 3) := by decide +kernel
theorem d_cJT_add_20 : decode prog_1_method_9_code 20 = .ok (.aload_n 0, 1) := by decide +kernel
theorem d_cJT_add_21 : decode prog_1_method_9_code 21 = .ok (.iload_n 2, 1) := by decide +kernel
theorem d_cJT_add_22 : decode prog_1_method_9_code 22 = .ok (.iload_n 3, 1) := by decide +kernel
theorem d_cJT_add_23 : decode prog_1_method_9_code 23 = .ok (.invokevirtual 192, 3) := by decide +kernel
theorem d_cJT_add_26 : decode prog_1_method_9_code 26 = .ok (.astore 8, 2) := by decide +kernel
theorem d_cJT_add_28 : decode prog_1_method_9_code 28 = .ok (.aload_n 0, 1) := by decide +kernel
theorem d_cJT_add_29 : decode prog_1_method_9_code 29 = .ok (.getfield 30, 3) := by decide +kernel
theorem d_cJT_add_32 : decode prog_1_method_9_code 32 = .ok (.aload 8, 2) := by decide +kernel
theorem d_cJT_add_34 : decode prog_1_method_9_code 34 = .ok (.invokevirtual 196, 3) := by decide +kernel
theorem d_cJT_add_37 : decode prog_1_method_9_code 37 = .ok (.aload_n 0, 1) := by decide +kernel
theorem d_cJT_add_38 : decode prog_1_method_9_code 38 = .ok (.getfield 30, 3) := by decide +kernel
theorem d_cJT_add_41 : decode prog_1_method_9_code 41 = .ok (.invokevirtual 199, 3) := by decide +kernel
theorem d_cJT_add_44 : decode prog_1_method_9_code 44 = .ok (.aload_n 0, 1) := by decide +kernel
theorem d_cJT_add_45 : decode prog_1_method_9_code 45 = .ok (.getfield 30, 3) := by decide +kernel
theorem d_cJT_add_48 : decode prog_1_method_9_code 48 = .ok (.getfield 202, 3) := by decide +kernel
theorem d_cJT_add_51 : decode prog_1_method_9_code 51 = .ok (.ifCond .ne 11, 3) := by decide +kernel
theorem d_cJT_add_62 : decode prog_1_method_9_code 62 = .ok (.aload_n 0, 1) := by decide +kernel
theorem d_cJT_add_63 : decode prog_1_method_9_code 63 = .ok (.aload 7, 2) := by decide +kernel
theorem d_cJT_add_65 : decode prog_1_method_9_code 65 = .ok (.invokevirtual 120, 3) := by decide +kernel
theorem d_cJT_add_68 : decode prog_1_method_9_code 68 = .ok (.aload_n 0, 1) := by decide +kernel
theorem d_cJT_add_69 : decode prog_1_method_9_code 69 = .ok (.iconst 1, 1) := by decide +kernel
theorem d_cJT_add_70 : decode prog_1_method_9_code 70 = .ok (.iload_n 3, 1) := by decide +kernel
theorem d_cJT_add_71 : decode prog_1_method_9_code 71 = .ok (.iconst (-1), 1) := by decide +kernel
theorem d_cJT_add_72 : decode prog_1_method_9_code 72 = .ok (.if_icmp .ne 13, 3) := by decide +kernel
theorem d_cJT_add_85 : decode prog_1_method_9_code 85 = .ok (.iconst 0, 1) := by decide +kernel
theorem d_cJT_add_86 : decode prog_1_method_9_code 86 = .ok (.invokevirtual 128, 3) := by decide +kernel
theorem d_cJT_add_89 : decode prog_1_method_9_code 89 = .ok (.aload_n 0, 1) := by decide +kernel
theorem d_cJT_add_90 : decode prog_1_method_9_code 90 = .ok (.aload 7, 2) := by decide +kernel
theorem d_cJT_add_92 : decode prog_1_method_9_code 92 = .ok (.aload 8, 2) := by decide +kernel
theorem d_cJT_add_94 : decode prog_1_method_9_code 94 = .ok (.bipush 10, 2) := by decide +kernel
theorem d_cJT_add_96 : decode prog_1_method_9_code 96 = .ok (.lload 4, 2) := by decide +kernel
theorem d_cJT_add_98 : decode prog_1_method_9_code 98 = .ok (.invokevirtual 156, 3) := by decide +kernel
theorem d_cJT_add_101 : decode prog_1_method_9_code 101 = .ok (.getfield 140, 3) := by decide +kernel
theorem d_cJT_add_104 : decode prog_1_method_9_code 104 = .ok (.ireturn, 1) := by decide +kernel
set_option maxHeartbeats 4000000 in
set_option maxRecDepth 100000 in
theorem w_cJT_add_J86 {p : Program} {l : Launch} {e : Env} {s : State} {m : MethodId} {args : Array Value} {below : List Frame} {meth : Method} {c : Code} {A : Nat → Prop} {D : va_G} {cc : Nat → ClassId} {sad sav : Nat → Nat} {Q : State → Prop} {ad0 : Nat → Nat → Nat} {N0 : Nat → Nat} {CT ST cR sR : Nat} (hfl : l.flags = flags0) (hC : MCc sad sav "JoinedTrees" prog_1_method_9_code 9 (some .int) p s m args meth c A D cc) (hCT : CT ≤ cR) (hST : ST ≤ sR) {N : Nat → Nat} {x0 : Nat} {S : CS} {x4 : Int64} {x7 : Option Nat} {x8 : Option Nat} {t0 : Int32} {t1 : Int32} {t2 : Option Nat} {o : (((Nat → Nat) × CS × Int32) ⊕ ((Nat → Nat) × CS × Nat))} {oc os : Nat} (Heq : m_cJT_add_J86 N x0 S x4 x7 x8 t0 t1 t2 = some (o, oc, os)) (Kr : ∀ r : (((Nat → Nat) × CS × Int32) ⊕ ((Nat → Nat) × CS × Nat)), o = r → (∀ v9 : (Nat → Nat) × CS × Int32, r = .inl v9 → ∀ (pc : Nat) (ad : Nat → Nat → Nat) (H : Heap) (locs : List Loc) (ls : Array Slot), decode prog_1_method_9_code pc = .ok (.ireturn, 1) → Ext ad0 N0 ad (v9.1) → va_P D cls (cw ad cc v9.1 v9.2.1) H → va_D A (cw ad cc v9.1 v9.2.1) → va_S A s.heap H locs → W p l e ({ frames := 9, cells := cR, slots := sR, locals := 163 }) s m args below meth c H locs CT ST Q (F0 m pc ls [.int v9.2.2])) ∧ (∀ t9 : (Nat → Nat) × CS × Nat, r = .inr t9 → (∀ (pc : Nat) (ad : Nat → Nat → Nat) (H : Heap) (locs : List Loc) (ls : Array Slot) (cells slots : Nat), cells + 1 = CT → slots + 6 = ST → thD prog_1_method_9_code t9.2.2 pc → ls.size = 9 → Ext ad0 N0 ad t9.1 → va_P D cls (cw ad cc t9.1 t9.2.1) H → va_D A (cw ad cc t9.1 t9.2.1) → va_S A s.heap H locs → W p l e ({ frames := 9, cells := cR, slots := sR, locals := 163 }) s m args below meth c H locs cells slots Q (F0 m pc ls [])) ∧ (∀ (pc : Nat) (ad : Nat → Nat → Nat) (H : Heap) (locs : List Loc) (ls : Array Slot) (st0 rest9 : List Value) (A9 : Nat → Prop) (cells slots : Nat), cells + 1 = CT → slots + 6 = ST → Ext ad0 N0 ad t9.1 → va_D A (cw ad cc t9.1 t9.2.1) → tx_Thr p l e ({ frames := 9, cells := cR, slots := sR, locals := 163 }) s m args below meth c H locs cells slots 1 6 (F0 m pc ls st0) rest9 (exN t9.2.2) A9 (fun H1 => va_P D cls (cw ad cc t9.1 t9.2.1) H1) → (∀ q, A9 q → A q) → va_S A s.heap H locs → W p l e ({ frames := 9, cells := cR, slots := sR, locals := 163 }) s m args below meth c H locs cells slots Q (F0 m pc ls st0)))) : ∀ (ad : Nat → Nat → Nat) (H : Heap) (locs : List Loc) (ls : Array Slot) (cells slots : Nat), Ext ad0 N0 ad N → cells + oc = CT → slots + os = ST → va_P D cls (cw ad cc N S) H → va_D A (cw ad cc N S) → va_S A s.heap H locs → lv_has ls 9 [(0, .ref (ad 11 x0)), (4, .long x4), (7, rv ad 4 x7), (8, rv ad 7 x8)] → W p l e ({ frames := 9, cells := cR, slots := sR, locals := 163 }) s m args below meth c H locs cells slots Q (F0 m 86 ls [.int t0, .int t1, rv ad 11 t2]) := by
  intro ad H locs ls cells slots hX hcu hsu hP hD hS hl
  obtain ⟨hx, hb, hr, hml, hown, hts, hK, hA, hev, hE, hN, hNS⟩ := id hC
  unfold m_cJT_add_J86 at Heq
  obtain ⟨j_1, hj_2, hl_3, Heq⟩ := gn_some Heq
  refine w_s (st' := [.int t0, .int t1, .ref (ad 11 j_1)]) (congrArg (fun z9 : Option Nat => [.int t0, .int t1, rv ad 11 z9]) hj_2) ?_
  have hFc := fr_all hD hS hA
  rcases oe_some Heq with ⟨o_4, h_5, Heq⟩ | ⟨t_6, h_5, Heq⟩
  case inr =>
    obtain ⟨e9, e9a, e9b⟩ := tri Heq
    exact ((Kr _ e9).2 _ rfl).2 86 _ _ _ _ _ _ _ _ _ (by omega) (by omega) hX (d_cw _ hD) (tx_runV (As := [.int t1, .int t0]) (rest := []) ⟨hx, hb, hml, hown, hts⟩ (g_cJT_needRoom_t l hfl D H.size (ad := ad) (cc := cc) (sad := sad) (sav := sav) h_5) (cw_v 2 hts kw_669 kw_666 kw_668 kp_9 kw_1 rfl rfl (by decide +kernel) ⟨Nat.le_of_ble_eq_true rfl, Nat.le_of_ble_eq_true rfl⟩) ⟨c_blind, va_recv hK hP (ci := 11) (q0 := cPos N 11 j_1) rfl (cw_obj (k := 11) (by decide) hl_3), fun U hU hW => c_pre hU hW hP hK hD hev hE hN hNS hS hFc⟩ rfl rfl hl.1 rfl (lv_room (Nat.le_of_ble_eq_true rfl)) d_cJT_add_86 ⟨(Nat.le_trans (m := CT) (by omega) hCT), (Nat.le_trans (m := ST) (by omega) hST)⟩) hFc hS
  refine va_callv (va_runV (As := [.int t1, .int t0]) (rest := []) ⟨hx, hb, hml, hown, hts⟩ (g_cJT_needRoom l hfl D H.size (ad := ad) (cc := cc) (sad := sad) (sav := sav) h_5) (cw_v 2 hts kw_669 kw_666 kw_668 kp_9 kw_1 rfl rfl (by decide +kernel) ⟨Nat.le_of_ble_eq_true rfl, Nat.le_of_ble_eq_true rfl⟩) ⟨c_blind, va_recv hK hP (ci := 11) (q0 := cPos N 11 j_1) rfl (cw_obj (k := 11) (by decide) hl_3), fun U hU hW => c_pre hU hW hP hK hD hev hE hN hNS hS hFc⟩ rfl rfl hl.1 rfl (lv_room (Nat.le_of_ble_eq_true rfl)) d_cJT_add_86 ⟨(Nat.le_trans (m := CT) (by omega) hCT), (Nat.le_trans (m := ST) (by omega) hST)⟩) hS (fun q _ h => hFc q h) hFc (fun u t H1 locs ht hvm hw hB hz1 hk1 hS => ?_)
  obtain ⟨hP, -, hD1⟩ := hB
  rw [ht] at hP
  have hD := hD1.weaken (fun _ q _ h => hFc q.1 h)
  generalize H1 = H at hP hS ⊢
  refine lv_aload_n hx hb d_cJT_add_89 rfl (lv_at hl 0 rfl) ?_
  refine tx_aload (x := x7.map (ad 4)) hx hb d_cJT_add_90 (lv_at hl 2 rfl) ?_
  refine w_v (y := rv ad 4 x7) rfl ?_
  refine tx_aload (x := x8.map (ad 7)) hx hb d_cJT_add_92 (lv_at hl 3 rfl) ?_
  refine w_v (y := rv ad 7 x8) rfl ?_
  refine lv_bipush (v := 10) hx hb d_cJT_add_94 (by decide) ?_
  refine lv_lload hx hb d_cJT_add_96 (lv_at hl 1 rfl) ?_
  obtain ⟨j_7, hj_8, hl_9, Heq⟩ := gn_some Heq
  refine w_s (st' := [.long x4, .int 10, .ref (ad 7 j_7), rv ad 4 x7, .ref (ad 11 x0)]) (congrArg (fun z9 : Option Nat => [.long x4, .int 10, rv ad 7 z9, rv ad 4 x7, .ref (ad 11 x0)]) hj_8) ?_
  obtain ⟨j_10, hj_11, hl_12, Heq⟩ := gn_some Heq
  refine w_s (st' := [.long x4, .int 10, .ref (ad 7 j_7), .ref (ad 4 j_10), .ref (ad 11 x0)]) (congrArg (fun z9 : Option Nat => [.long x4, .int 10, .ref (ad 7 j_7), rv ad 4 z9, .ref (ad 11 x0)]) hj_11) ?_
  obtain ⟨hl_x0_11, Heq⟩ := gl_some Heq
  have hl : lv_has ls 9 [(0, .ref (ad 11 x0))] := lv_sub hl [0] rfl
  obtain ⟨N_15, S_16, v_17, a9, b9, a8, b8, h_14, Heq, e9a, e9b⟩ := oq_some Heq
  have hFc := fr_all hD hS hA
  refine va_callq (va_runV (As := [.ref (ad 4 j_10), .ref (ad 7 j_7), .int 10, .long x4]) (rest := []) ⟨hx, hb, hml, hown, hts⟩ (g_cJT_writeOn l D H.size (ad := ad) (cc := cc) (sad := sad) (sav := sav) h_14) (cw_v 4 hts kw_693 kw_690 kw_692 kp_11 kw_1 rfl rfl (by decide +kernel) ⟨Nat.le_of_ble_eq_true rfl, Nat.le_of_ble_eq_true rfl⟩) ⟨c_blind, va_recv hK hP (ci := 11) (q0 := cPos N 11 x0) rfl (cw_obj (k := 11) (by decide) hl_x0_11), fun U hU hW => c_pre hU hW hP hK hD hev hE hN hNS hS hFc⟩ rfl rfl hl.1 rfl (lv_room (Nat.le_of_ble_eq_true rfl)) d_cJT_add_98 ⟨(Nat.le_trans (m := CT) (by omega) hCT), (Nat.le_trans (m := ST) (by omega) hST)⟩) hS (fun q _ h => hFc q h) hFc (fun rz ad t H1 locs ht hvm hw hB hz1 hk1 hS => ?_)
  obtain ⟨hX1, hP, -, hD1⟩ := hB
  rw [ht] at hP
  have hD := hD1.weaken (fun _ q _ h => hFc q.1 h)
  generalize H1 = H at hP hS ⊢
  subst hw
  refine w_v (y := rv ad 3 v_17) rfl ?_
  have hX := hX.tr hX1
  have hl : lv_has ls 9 [(0, .ref (ad 11 x0))] := lv_cast hl (by first | rfl | simp only [hX1.2 11 x0 hl_x0_11])
  refine w_s (st' := [rv ad 3 v_17]) (by first | rfl | simp only [hX1.2 11 x0 hl_x0_11]) ?_
  have hl_3 := Nat.lt_of_lt_of_le hl_3 (hX1.1 11)
  have hl_9 := Nat.lt_of_lt_of_le hl_9 (hX1.1 7)
  have hl_12 := Nat.lt_of_lt_of_le hl_12 (hX1.1 4)
  have hl_x0_11 := Nat.lt_of_lt_of_le hl_x0_11 (hX1.1 11)
  obtain ⟨j_18, hj_19, hl_20, Heq⟩ := gn_some Heq
  refine w_s (st' := [.ref (ad 3 j_18)]) (congrArg (fun z9 : Option Nat => [rv ad 3 z9]) hj_19) ?_
  refine va_get (D := D) (ci := 3) (v := .int (S_16.i 3 0 j_18)) (C := R_Op) (T := F_Op) (N := 15) hx hb hts i_Op hown hK hP (cPos N_15 3 j_18) (cw_obj (k := 3) (by decide) hl_20) rfl 0 (by decide) (hts _ kw_52) (fun _ h9 => h9) rfl d_cJT_add_101 ?_
  obtain ⟨e9, e9a, e9b⟩ := tri Heq
  refine W.cs (cells' := CT) (slots' := ST) (by omega) (by omega) ?_
  exact (Kr _ e9).1 _ rfl 104 _ _ _ _ d_cJT_add_104 hX hP hD hS
noncomputable def m_cJT_add_J0 (N : Nat → Nat) (x0 : Nat) (S : CS) (x1 : Int32) (x2 : Int32) (x3 : Int32) (x4 : Int64) : Option ((((Nat → Nat) × CS × Int32) ⊕ ((Nat → Nat) × CS × Nat)) × Nat × Nat) := gl x0 (N 11) (ob (m_cJT_takeArguments N x0 S) (fun o_1 => oe (m_cJT_shown N x0 o_1.1 x1) (fun o_3 => oe (m_cJT_needPlace N x0 o_3.1 o_1.2 x3) (fun o_6 => oe (m_cJT_placeAt N x0 o_6 x2 x3) (fun o_9 => gn o_9.2 (N 7) (fun j_12 => gn (o_9.1.r 11 2 x0) (N 10) (fun j_15 => ob (m_cVw_gather N j_15 o_9.1 j_12) (fun o_18 => gn (o_18.r 11 2 x0) (N 10) (fun j_20 => ob (m_cVw_keepCounters N j_20 o_18) (fun o_23 => gn (o_23.r 11 2 x0) (N 10) (fun j_25 => (if o_23.i 10 3 j_25 = 0 then some ((.inr (N, o_23, 3)), 1, 6) else gn o_3.2 (N 4) (fun j_29 => oe (m_cJT_needAll N x0 o_23 j_29) (fun o_32 => (if x3 = (-1) then gn (o_32.r 11 9 x0) (N 5) (fun j_36 => m_cJT_add_J86 N x0 o_32 x4 o_3.2 o_9.2 (o_32.i 5 1 j_36) 1 (some x0)) else m_cJT_add_J86 N x0 o_32 x4 o_3.2 o_9.2 0 1 (some x0))) (fun t_34 => some ((.inr (N, t_34.1, t_34.2)), 1, 6))))))))))) (fun t_11 => some ((.inr (N, t_11.1, t_11.2)), 1, 6))) (fun t_8 => some ((.inr (N, t_8.1, t_8.2)), 1, 6))) (fun t_5 => some ((.inr (N, t_5.1, t_5.2)), 1, 6))))
theorem d_cJT_add_75 : decode prog_1_method_9_code 75 = .ok (.aload_n 0, 1) := by decide +kernel
theorem d_cJT_add_76 : decode prog_1_method_9_code 76 = .ok (.getfield 70, 3) := by decide +kernel
theorem d_cJT_add_79 : decode prog_1_method_9_code 79 = .ok (.getfield 80, 3) := by decide +kernel
theorem d_cJT_add_82 : decode prog_1_method_9_code 82 = .ok (.goto 4, 3) := by decide +kernel
theorem d_cJT_add_54 : decode prog_1_method_9_code 54 = .ok (.new 178, 3) := by decide +kernel
theorem d_cJT_add_57 : decode prog_1_method_9_code 57 = .ok (.dup, 1) := by decide +kernel
theorem d_cJT_add_58 : decode prog_1_method_9_code 58 = .ok (.invokespecial 180, 3) := by decide +kernel
theorem d_cJT_add_61 : decode prog_1_method_9_code 61 = .ok (.athrow, 1) := by decide +kernel
set_option maxHeartbeats 4000000 in
set_option maxRecDepth 100000 in
theorem w_cJT_add_J0 {p : Program} {l : Launch} {e : Env} {s : State} {m : MethodId} {args : Array Value} {below : List Frame} {meth : Method} {c : Code} {A : Nat → Prop} {D : va_G} {cc : Nat → ClassId} {sad sav : Nat → Nat} {Q : State → Prop} {ad0 : Nat → Nat → Nat} {N0 : Nat → Nat} {CT ST cR sR : Nat} (hfl : l.flags = flags0) (hC : MCc sad sav "JoinedTrees" prog_1_method_9_code 9 (some .int) p s m args meth c A D cc) (hCT : CT ≤ cR) (hST : ST ≤ sR) {N : Nat → Nat} {x0 : Nat} {S : CS} {x1 : Int32} {x2 : Int32} {x3 : Int32} {x4 : Int64} {o : (((Nat → Nat) × CS × Int32) ⊕ ((Nat → Nat) × CS × Nat))} {oc os : Nat} (Heq : m_cJT_add_J0 N x0 S x1 x2 x3 x4 = some (o, oc, os)) (Kr : ∀ r : (((Nat → Nat) × CS × Int32) ⊕ ((Nat → Nat) × CS × Nat)), o = r → (∀ v9 : (Nat → Nat) × CS × Int32, r = .inl v9 → ∀ (pc : Nat) (ad : Nat → Nat → Nat) (H : Heap) (locs : List Loc) (ls : Array Slot), decode prog_1_method_9_code pc = .ok (.ireturn, 1) → Ext ad0 N0 ad (v9.1) → va_P D cls (cw ad cc v9.1 v9.2.1) H → va_D A (cw ad cc v9.1 v9.2.1) → va_S A s.heap H locs → W p l e ({ frames := 9, cells := cR, slots := sR, locals := 163 }) s m args below meth c H locs CT ST Q (F0 m pc ls [.int v9.2.2])) ∧ (∀ t9 : (Nat → Nat) × CS × Nat, r = .inr t9 → (∀ (pc : Nat) (ad : Nat → Nat → Nat) (H : Heap) (locs : List Loc) (ls : Array Slot) (cells slots : Nat), cells + 1 = CT → slots + 6 = ST → thD prog_1_method_9_code t9.2.2 pc → ls.size = 9 → Ext ad0 N0 ad t9.1 → va_P D cls (cw ad cc t9.1 t9.2.1) H → va_D A (cw ad cc t9.1 t9.2.1) → va_S A s.heap H locs → W p l e ({ frames := 9, cells := cR, slots := sR, locals := 163 }) s m args below meth c H locs cells slots Q (F0 m pc ls [])) ∧ (∀ (pc : Nat) (ad : Nat → Nat → Nat) (H : Heap) (locs : List Loc) (ls : Array Slot) (st0 rest9 : List Value) (A9 : Nat → Prop) (cells slots : Nat), cells + 1 = CT → slots + 6 = ST → Ext ad0 N0 ad t9.1 → va_D A (cw ad cc t9.1 t9.2.1) → tx_Thr p l e ({ frames := 9, cells := cR, slots := sR, locals := 163 }) s m args below meth c H locs cells slots 1 6 (F0 m pc ls st0) rest9 (exN t9.2.2) A9 (fun H1 => va_P D cls (cw ad cc t9.1 t9.2.1) H1) → (∀ q, A9 q → A q) → va_S A s.heap H locs → W p l e ({ frames := 9, cells := cR, slots := sR, locals := 163 }) s m args below meth c H locs cells slots Q (F0 m pc ls st0)))) : ∀ (ad : Nat → Nat → Nat) (H : Heap) (locs : List Loc) (ls : Array Slot) (cells slots : Nat), Ext ad0 N0 ad N → cells + oc = CT → slots + os = ST → va_P D cls (cw ad cc N S) H → va_D A (cw ad cc N S) → va_S A s.heap H locs → lv_has ls 9 [(0, .ref (ad 11 x0)), (1, .int x1), (2, .int x2), (3, .int x3), (4, .long x4)] → W p l e ({ frames := 9, cells := cR, slots := sR, locals := 163 }) s m args below meth c H locs cells slots Q (F0 m 0 ls []) := by
  intro ad H locs ls cells slots hX hcu hsu hP hD hS hl
  obtain ⟨hx, hb, hr, hml, hown, hts, hK, hA, hev, hE, hN, hNS⟩ := id hC
  unfold m_cJT_add_J0 at Heq
  refine lv_aload_n hx hb d_cJT_add_0 rfl (lv_at hl 0 rfl) ?_
  obtain ⟨hl_x0_11, Heq⟩ := gl_some Heq
  obtain ⟨o_1, h_2, Heq⟩ := ob_some Heq
  have hFc := fr_all hD hS hA
  refine va_calli (va_runV (As := []) (rest := []) ⟨hx, hb, hml, hown, hts⟩ (g_cJT_takeArguments l D H.size (ad := ad) (cc := cc) (sad := sad) (sav := sav) h_2) (cw_v 0 hts kw_589 kw_586 kw_588 kp_2 kw_1 rfl rfl (by decide +kernel) ⟨Nat.le_of_ble_eq_true rfl, Nat.le_of_ble_eq_true rfl⟩) ⟨c_blind, va_recv hK hP (ci := 11) (q0 := cPos N 11 x0) rfl (cw_obj (k := 11) (by decide) hl_x0_11), fun U hU hW => c_pre hU hW hP hK hD hev hE hN hNS hS hFc⟩ rfl rfl hl.1 rfl (lv_room (Nat.le_of_ble_eq_true rfl)) d_cJT_add_1 ⟨(Nat.le_trans (m := CT) (by omega) hCT), (Nat.le_trans (m := ST) (by omega) hST)⟩) hS (fun q _ h => hFc q h) hFc (fun rz u t H1 locs ht hvm hw hB hz1 hk1 hS => ?_)
  obtain ⟨hP, -, hD1⟩ := hB
  rw [ht] at hP
  have hD := hD1.weaken (fun _ q _ h => hFc q.1 h)
  generalize H1 = H at hP hS ⊢
  subst hw
  refine lv_istore (lv' := [(6, .int o_1.2), (0, .ref (ad 11 x0)), (1, .int x1), (2, .int x2), (3, .int x3), (4, .long x4)]) hx hb d_cJT_add_4 hl (by decide) rfl (fun ls hl => ?_)
  refine lv_aload_n hx hb d_cJT_add_6 rfl (lv_at hl 1 rfl) ?_
  refine lv_iload_n hx hb d_cJT_add_7 rfl (lv_at hl 2 rfl) ?_
  have hFc := fr_all hD hS hA
  rcases oe_some Heq with ⟨o_3, h_4, Heq⟩ | ⟨t_5, h_4, Heq⟩
  case inr =>
    obtain ⟨e9, e9a, e9b⟩ := tri Heq
    exact ((Kr _ e9).2 _ rfl).2 8 _ _ _ _ _ _ _ _ _ (by omega) (by omega) hX (d_cw _ hD) (tx_runV (As := [.int x1]) (rest := []) ⟨hx, hb, hml, hown, hts⟩ (g_cJT_shown_t l hfl D H.size (ad := ad) (cc := cc) (sad := sad) (sav := sav) h_4) (cw_v 1 hts kw_593 kw_590 kw_592 kp_3 kw_1 rfl rfl (by decide +kernel) ⟨Nat.le_of_ble_eq_true rfl, Nat.le_of_ble_eq_true rfl⟩) ⟨c_blind, va_recv hK hP (ci := 11) (q0 := cPos N 11 x0) rfl (cw_obj (k := 11) (by decide) hl_x0_11), fun U hU hW => c_pre hU hW hP hK hD hev hE hN hNS hS hFc⟩ rfl rfl hl.1 rfl (lv_room (Nat.le_of_ble_eq_true rfl)) d_cJT_add_8 ⟨(Nat.le_trans (m := CT) (by omega) hCT), (Nat.le_trans (m := ST) (by omega) hST)⟩) hFc hS
  refine va_callq (va_runV (As := [.int x1]) (rest := []) ⟨hx, hb, hml, hown, hts⟩ (g_cJT_shown l hfl D H.size (ad := ad) (cc := cc) (sad := sad) (sav := sav) h_4) (cw_v 1 hts kw_593 kw_590 kw_592 kp_3 kw_1 rfl rfl (by decide +kernel) ⟨Nat.le_of_ble_eq_true rfl, Nat.le_of_ble_eq_true rfl⟩) ⟨c_blind, va_recv hK hP (ci := 11) (q0 := cPos N 11 x0) rfl (cw_obj (k := 11) (by decide) hl_x0_11), fun U hU hW => c_pre hU hW hP hK hD hev hE hN hNS hS hFc⟩ rfl rfl hl.1 rfl (lv_room (Nat.le_of_ble_eq_true rfl)) d_cJT_add_8 ⟨(Nat.le_trans (m := CT) (by omega) hCT), (Nat.le_trans (m := ST) (by omega) hST)⟩) hS (fun q _ h => hFc q h) hFc (fun rz u t H1 locs ht hvm hw hB hz1 hk1 hS => ?_)
  obtain ⟨hP, -, hD1⟩ := hB
  rw [ht] at hP
  have hD := hD1.weaken (fun _ q _ h => hFc q.1 h)
  generalize H1 = H at hP hS ⊢
  subst hw
  refine w_v (y := rv ad 4 o_3.2) rfl ?_
  refine tx_astore (x := o_3.2.map (ad 4)) (lv' := [(7, rv ad 4 o_3.2), (6, .int o_1.2), (0, .ref (ad 11 x0)), (1, .int x1), (2, .int x2), (3, .int x3), (4, .long x4)]) hx hb d_cJT_add_11 hl (by decide) rfl (fun ls hl => ?_)
  refine lv_aload_n hx hb d_cJT_add_13 rfl (lv_at hl 2 rfl) ?_
  refine lv_iload hx hb d_cJT_add_14 (lv_at hl 1 rfl) ?_
  refine lv_iload_n hx hb d_cJT_add_16 rfl (lv_at hl 5 rfl) ?_
  have hFc := fr_all hD hS hA
  rcases oe_some Heq with ⟨o_6, h_7, Heq⟩ | ⟨t_8, h_7, Heq⟩
  case inr =>
    obtain ⟨e9, e9a, e9b⟩ := tri Heq
    exact ((Kr _ e9).2 _ rfl).2 17 _ _ _ _ _ _ _ _ _ (by omega) (by omega) hX (d_cw _ hD) (tx_runV (As := [.int o_1.2, .int x3]) (rest := []) ⟨hx, hb, hml, hown, hts⟩ (g_cJT_needPlace_t l hfl D H.size (ad := ad) (cc := cc) (sad := sad) (sav := sav) h_7) (cw_v 2 hts kw_843 kw_840 kw_842 kp_19 kw_1 rfl rfl (by decide +kernel) ⟨Nat.le_of_ble_eq_true rfl, Nat.le_of_ble_eq_true rfl⟩) ⟨c_blind, va_recv hK hP (ci := 11) (q0 := cPos N 11 x0) rfl (cw_obj (k := 11) (by decide) hl_x0_11), fun U hU hW => c_pre hU hW hP hK hD hev hE hN hNS hS hFc⟩ rfl rfl hl.1 rfl (lv_room (Nat.le_of_ble_eq_true rfl)) d_cJT_add_17 ⟨(Nat.le_trans (m := CT) (by omega) hCT), (Nat.le_trans (m := ST) (by omega) hST)⟩) hFc hS
  refine va_callv (va_runV (As := [.int o_1.2, .int x3]) (rest := []) ⟨hx, hb, hml, hown, hts⟩ (g_cJT_needPlace l hfl D H.size (ad := ad) (cc := cc) (sad := sad) (sav := sav) h_7) (cw_v 2 hts kw_843 kw_840 kw_842 kp_19 kw_1 rfl rfl (by decide +kernel) ⟨Nat.le_of_ble_eq_true rfl, Nat.le_of_ble_eq_true rfl⟩) ⟨c_blind, va_recv hK hP (ci := 11) (q0 := cPos N 11 x0) rfl (cw_obj (k := 11) (by decide) hl_x0_11), fun U hU hW => c_pre hU hW hP hK hD hev hE hN hNS hS hFc⟩ rfl rfl hl.1 rfl (lv_room (Nat.le_of_ble_eq_true rfl)) d_cJT_add_17 ⟨(Nat.le_trans (m := CT) (by omega) hCT), (Nat.le_trans (m := ST) (by omega) hST)⟩) hS (fun q _ h => hFc q h) hFc (fun u t H1 locs ht hvm hw hB hz1 hk1 hS => ?_)
  obtain ⟨hP, -, hD1⟩ := hB
  rw [ht] at hP
  have hD := hD1.weaken (fun _ q _ h => hFc q.1 h)
  generalize H1 = H at hP hS ⊢
  refine lv_aload_n hx hb d_cJT_add_20 rfl (lv_at hl 2 rfl) ?_
  refine lv_iload_n hx hb d_cJT_add_21 rfl (lv_at hl 4 rfl) ?_
  refine lv_iload_n hx hb d_cJT_add_22 rfl (lv_at hl 5 rfl) ?_
  have hFc := fr_all hD hS hA
  rcases oe_some Heq with ⟨o_9, h_10, Heq⟩ | ⟨t_11, h_10, Heq⟩
  case inr =>
    obtain ⟨e9, e9a, e9b⟩ := tri Heq
    exact ((Kr _ e9).2 _ rfl).2 23 _ _ _ _ _ _ _ _ _ (by omega) (by omega) hX (d_cw _ hD) (tx_runV (As := [.int x2, .int x3]) (rest := []) ⟨hx, hb, hml, hown, hts⟩ (g_cJT_placeAt_t l hfl D H.size (ad := ad) (cc := cc) (sad := sad) (sav := sav) h_10) (cw_v 2 hts kw_847 kw_844 kw_846 kp_20 kw_1 rfl rfl (by decide +kernel) ⟨Nat.le_of_ble_eq_true rfl, Nat.le_of_ble_eq_true rfl⟩) ⟨c_blind, va_recv hK hP (ci := 11) (q0 := cPos N 11 x0) rfl (cw_obj (k := 11) (by decide) hl_x0_11), fun U hU hW => c_pre hU hW hP hK hD hev hE hN hNS hS hFc⟩ rfl rfl hl.1 rfl (lv_room (Nat.le_of_ble_eq_true rfl)) d_cJT_add_23 ⟨(Nat.le_trans (m := CT) (by omega) hCT), (Nat.le_trans (m := ST) (by omega) hST)⟩) hFc hS
  refine va_callq (va_runV (As := [.int x2, .int x3]) (rest := []) ⟨hx, hb, hml, hown, hts⟩ (g_cJT_placeAt l hfl D H.size (ad := ad) (cc := cc) (sad := sad) (sav := sav) h_10) (cw_v 2 hts kw_847 kw_844 kw_846 kp_20 kw_1 rfl rfl (by decide +kernel) ⟨Nat.le_of_ble_eq_true rfl, Nat.le_of_ble_eq_true rfl⟩) ⟨c_blind, va_recv hK hP (ci := 11) (q0 := cPos N 11 x0) rfl (cw_obj (k := 11) (by decide) hl_x0_11), fun U hU hW => c_pre hU hW hP hK hD hev hE hN hNS hS hFc⟩ rfl rfl hl.1 rfl (lv_room (Nat.le_of_ble_eq_true rfl)) d_cJT_add_23 ⟨(Nat.le_trans (m := CT) (by omega) hCT), (Nat.le_trans (m := ST) (by omega) hST)⟩) hS (fun q _ h => hFc q h) hFc (fun rz u t H1 locs ht hvm hw hB hz1 hk1 hS => ?_)
  obtain ⟨hP, -, hD1⟩ := hB
  rw [ht] at hP
  have hD := hD1.weaken (fun _ q _ h => hFc q.1 h)
  generalize H1 = H at hP hS ⊢
  subst hw
  refine w_v (y := rv ad 7 o_9.2) rfl ?_
  refine tx_astore (x := o_9.2.map (ad 7)) (lv' := [(8, rv ad 7 o_9.2), (7, rv ad 4 o_3.2), (6, .int o_1.2), (0, .ref (ad 11 x0)), (1, .int x1), (2, .int x2), (3, .int x3), (4, .long x4)]) hx hb d_cJT_add_26 hl (by decide) (by simp [rv, rf_cat]) (fun ls hl => ?_)
  refine lv_aload_n hx hb d_cJT_add_28 rfl (lv_at hl 3 rfl) ?_
  refine va_get (D := D) (ci := 11) (v := rv ad 10 (o_9.1.r 11 2 x0)) (C := R_JT) (T := F_JT) (N := 13) hx hb hts i_JT hown hK hP (cPos N 11 x0) (cw_obj (k := 11) (by decide) hl_x0_11) rfl 2 (by decide) (hts _ kw_423) (fun _ h9 => h9) rfl d_cJT_add_29 ?_
  refine tx_aload (x := o_9.2.map (ad 7)) hx hb d_cJT_add_32 (lv_at hl 0 rfl) ?_
  refine w_v (y := rv ad 7 o_9.2) rfl ?_
  obtain ⟨j_12, hj_13, hl_14, Heq⟩ := gn_some Heq
  refine w_s (st' := [.ref (ad 7 j_12), rv ad 10 (o_9.1.r 11 2 x0)]) (congrArg (fun z9 : Option Nat => [rv ad 7 z9, rv ad 10 (o_9.1.r 11 2 x0)]) hj_13) ?_
  obtain ⟨j_15, hj_16, hl_17, Heq⟩ := gn_some Heq
  refine w_s (st' := [.ref (ad 7 j_12), .ref (ad 10 j_15)]) (congrArg (fun z9 : Option Nat => [.ref (ad 7 j_12), rv ad 10 z9]) hj_16) ?_
  obtain ⟨o_18, h_19, Heq⟩ := ob_some Heq
  have hFc := fr_all hD hS hA
  refine va_callv (va_runV (As := [.ref (ad 7 j_12)]) (rest := []) ⟨hx, hb, hml, hown, hts⟩ (g_cVw_gather l D H.size (ad := ad) (cc := cc) (sad := sad) (sav := sav) h_19) (cw_v 1 hts kw_697 kw_694 kw_695 kw_696 kw_6 rfl rfl (by decide +kernel) ⟨Nat.le_of_ble_eq_true rfl, Nat.le_of_ble_eq_true rfl⟩) ⟨c_blind, va_recv hK hP (ci := 10) (q0 := cPos N 10 j_15) rfl (cw_obj (k := 10) (by decide) hl_17), fun U hU hW => c_pre hU hW hP hK hD hev hE hN hNS hS hFc⟩ rfl rfl hl.1 rfl (lv_room (Nat.le_of_ble_eq_true rfl)) d_cJT_add_34 ⟨(Nat.le_trans (m := CT) (by omega) hCT), (Nat.le_trans (m := ST) (by omega) hST)⟩) hS (fun q _ h => hFc q h) hFc (fun u t H1 locs ht hvm hw hB hz1 hk1 hS => ?_)
  obtain ⟨hP, -, hD1⟩ := hB
  rw [ht] at hP
  have hD := hD1.weaken (fun _ q _ h => hFc q.1 h)
  generalize H1 = H at hP hS ⊢
  refine lv_aload_n hx hb d_cJT_add_37 rfl (lv_at hl 3 rfl) ?_
  refine va_get (D := D) (ci := 11) (v := rv ad 10 (o_18.r 11 2 x0)) (C := R_JT) (T := F_JT) (N := 13) hx hb hts i_JT hown hK hP (cPos N 11 x0) (cw_obj (k := 11) (by decide) hl_x0_11) rfl 2 (by decide) (hts _ kw_423) (fun _ h9 => h9) rfl d_cJT_add_38 ?_
  obtain ⟨j_20, hj_21, hl_22, Heq⟩ := gn_some Heq
  refine w_s (st' := [.ref (ad 10 j_20)]) (congrArg (fun z9 : Option Nat => [rv ad 10 z9]) hj_21) ?_
  obtain ⟨o_23, h_24, Heq⟩ := ob_some Heq
  have hFc := fr_all hD hS hA
  refine va_callv (va_runV (As := []) (rest := []) ⟨hx, hb, hml, hown, hts⟩ (g_cVw_keepCounters l D H.size (ad := ad) (cc := cc) (sad := sad) (sav := sav) h_24) (cw_v 0 hts kw_705 kw_702 kw_703 kw_704 kw_6 rfl rfl (by decide +kernel) ⟨Nat.le_of_ble_eq_true rfl, Nat.le_of_ble_eq_true rfl⟩) ⟨c_blind, va_recv hK hP (ci := 10) (q0 := cPos N 10 j_20) rfl (cw_obj (k := 10) (by decide) hl_22), fun U hU hW => c_pre hU hW hP hK hD hev hE hN hNS hS hFc⟩ rfl rfl hl.1 rfl (lv_room (Nat.le_of_ble_eq_true rfl)) d_cJT_add_41 ⟨(Nat.le_trans (m := CT) (by omega) hCT), (Nat.le_trans (m := ST) (by omega) hST)⟩) hS (fun q _ h => hFc q h) hFc (fun u t H1 locs ht hvm hw hB hz1 hk1 hS => ?_)
  obtain ⟨hP, -, hD1⟩ := hB
  rw [ht] at hP
  have hD := hD1.weaken (fun _ q _ h => hFc q.1 h)
  generalize H1 = H at hP hS ⊢
  refine lv_aload_n hx hb d_cJT_add_44 rfl (lv_at hl 3 rfl) ?_
  refine va_get (D := D) (ci := 11) (v := rv ad 10 (o_23.r 11 2 x0)) (C := R_JT) (T := F_JT) (N := 13) hx hb hts i_JT hown hK hP (cPos N 11 x0) (cw_obj (k := 11) (by decide) hl_x0_11) rfl 2 (by decide) (hts _ kw_423) (fun _ h9 => h9) rfl d_cJT_add_45 ?_
  obtain ⟨j_25, hj_26, hl_27, Heq⟩ := gn_some Heq
  refine w_s (st' := [.ref (ad 10 j_25)]) (congrArg (fun z9 : Option Nat => [rv ad 10 z9]) hj_26) ?_
  refine va_get (D := D) (ci := 10) (v := .int (o_23.i 10 3 j_25)) (C := R_Vw) (T := F_Vw) (N := 5) hx hb hts i_Vw hown hK hP (cPos N 10 j_25) (cw_obj (k := 10) (by decide) hl_27) rfl 3 (by decide) (hts _ kw_267) (fun _ h9 => h9) rfl d_cJT_add_48 ?_
  refine lv_if_ne (tgt := 62) hx hb d_cJT_add_51 (by decide) (fun c_28 => ?_) (fun c_28 => ?_)
  · replace Heq := (if_neg c_28).symm.trans Heq
    refine lv_aload_n hx hb d_cJT_add_62 rfl (lv_at hl 3 rfl) ?_
    refine tx_aload (x := o_3.2.map (ad 4)) hx hb d_cJT_add_63 (lv_at hl 1 rfl) ?_
    refine w_v (y := rv ad 4 o_3.2) rfl ?_
    obtain ⟨j_29, hj_30, hl_31, Heq⟩ := gn_some Heq
    refine w_s (st' := [.ref (ad 4 j_29), .ref (ad 11 x0)]) (congrArg (fun z9 : Option Nat => [rv ad 4 z9, .ref (ad 11 x0)]) hj_30) ?_
    have hFc := fr_all hD hS hA
    rcases oe_some Heq with ⟨o_32, h_33, Heq⟩ | ⟨t_34, h_33, Heq⟩
    case inr =>
      obtain ⟨e9, e9a, e9b⟩ := tri Heq
      exact ((Kr _ e9).2 _ rfl).2 65 _ _ _ _ _ _ _ _ _ (by omega) (by omega) hX (d_cw _ hD) (tx_runV (As := [.ref (ad 4 j_29)]) (rest := []) ⟨hx, hb, hml, hown, hts⟩ (g_cJT_needAll_t l hfl D H.size (ad := ad) (cc := cc) (sad := sad) (sav := sav) h_33) (cw_v 1 hts kw_647 kw_644 kw_646 kp_8 kw_1 rfl rfl (by decide +kernel) ⟨Nat.le_of_ble_eq_true rfl, Nat.le_of_ble_eq_true rfl⟩) ⟨c_blind, va_recv hK hP (ci := 11) (q0 := cPos N 11 x0) rfl (cw_obj (k := 11) (by decide) hl_x0_11), fun U hU hW => c_pre hU hW hP hK hD hev hE hN hNS hS hFc⟩ rfl rfl hl.1 rfl (lv_room (Nat.le_of_ble_eq_true rfl)) d_cJT_add_65 ⟨(Nat.le_trans (m := CT) (by omega) hCT), (Nat.le_trans (m := ST) (by omega) hST)⟩) hFc hS
    refine va_callv (va_runV (As := [.ref (ad 4 j_29)]) (rest := []) ⟨hx, hb, hml, hown, hts⟩ (g_cJT_needAll l hfl D H.size (ad := ad) (cc := cc) (sad := sad) (sav := sav) h_33) (cw_v 1 hts kw_647 kw_644 kw_646 kp_8 kw_1 rfl rfl (by decide +kernel) ⟨Nat.le_of_ble_eq_true rfl, Nat.le_of_ble_eq_true rfl⟩) ⟨c_blind, va_recv hK hP (ci := 11) (q0 := cPos N 11 x0) rfl (cw_obj (k := 11) (by decide) hl_x0_11), fun U hU hW => c_pre hU hW hP hK hD hev hE hN hNS hS hFc⟩ rfl rfl hl.1 rfl (lv_room (Nat.le_of_ble_eq_true rfl)) d_cJT_add_65 ⟨(Nat.le_trans (m := CT) (by omega) hCT), (Nat.le_trans (m := ST) (by omega) hST)⟩) hS (fun q _ h => hFc q h) hFc (fun u t H1 locs ht hvm hw hB hz1 hk1 hS => ?_)
    obtain ⟨hP, -, hD1⟩ := hB
    rw [ht] at hP
    have hD := hD1.weaken (fun _ q _ h => hFc q.1 h)
    generalize H1 = H at hP hS ⊢
    refine lv_aload_n hx hb d_cJT_add_68 rfl (lv_at hl 3 rfl) ?_
    refine lv_iconst (v := 1) hx hb d_cJT_add_69 (by decide) ?_
    refine lv_iload_n hx hb d_cJT_add_70 rfl (lv_at hl 6 rfl) ?_
    refine lv_iconst (v := (-1)) hx hb d_cJT_add_71 (by decide) ?_
    refine lv_icmp_ne (tgt := 85) hx hb d_cJT_add_72 (by decide) (fun c_35 => ?_) (fun c_35 => ?_)
    · replace Heq := (if_neg c_35).symm.trans Heq
      refine lv_iconst (v := 0) hx hb d_cJT_add_85 (by decide) ?_
      exact w_cJT_add_J86 hfl hC hCT hST Heq Kr _ _ _ _ _ _ hX (by omega) (by omega) hP hD hS (lv_sub hl [3, 7, 1, 0] rfl)
    · replace Heq := (if_pos c_35).symm.trans Heq
      refine lv_aload_n hx hb d_cJT_add_75 rfl (lv_at hl 3 rfl) ?_
      refine va_get (D := D) (ci := 11) (v := rv ad 5 (o_32.r 11 9 x0)) (C := R_JT) (T := F_JT) (N := 13) hx hb hts i_JT hown hK hP (cPos N 11 x0) (cw_obj (k := 11) (by decide) hl_x0_11) rfl 9 (by decide) (hts _ kw_430) (fun _ h9 => h9) rfl d_cJT_add_76 ?_
      obtain ⟨j_36, hj_37, hl_38, Heq⟩ := gn_some Heq
      refine w_s (st' := [.ref (ad 5 j_36), .int 1, .ref (ad 11 x0)]) (congrArg (fun z9 : Option Nat => [rv ad 5 z9, .int 1, .ref (ad 11 x0)]) hj_37) ?_
      refine va_get (D := D) (ci := 5) (v := .int (o_32.i 5 1 j_36)) (C := R_Rw) (T := F_Rw) (N := 3) hx hb hts i_Rw hown hK hP (cPos N 5 j_36) (cw_obj (k := 5) (by decide) hl_38) rfl 1 (by decide) (hts _ kw_143) (fun _ h9 => h9) rfl d_cJT_add_79 ?_
      refine lv_goto (tgt := 86) hx hb d_cJT_add_82 (by decide) ?_
      exact w_cJT_add_J86 hfl hC hCT hST Heq Kr _ _ _ _ _ _ hX (by omega) (by omega) hP hD hS (lv_sub hl [3, 7, 1, 0] rfl)
  · replace Heq := (if_pos c_28).symm.trans Heq
    obtain ⟨e9, e9a, e9b⟩ := tri Heq
    exact ((Kr _ e9).2 _ rfl).1 54 _ _ _ _ _ _ (by omega) (by omega) ⟨⟨show 1 ≤ 3 by decide, show 3 ≤ 5 by decide⟩, d_cJT_add_54, d_cJT_add_57, d_cJT_add_58, d_cJT_add_61⟩ hl.1 hX hP hD hS
noncomputable def m_cJT_add (N : Nat → Nat) (x0 : Nat) (S : CS) (x1 : Int32) (x2 : Int32) (x3 : Int32) (x4 : Int64) : Option (((((Nat → Nat) × CS × Int32) ⊕ ((Nat → Nat) × CS × Nat))) × Nat × Nat) := m_cJT_add_J0 N x0 S x1 x2 x3 x4
set_option maxHeartbeats 4000000 in
theorem g_cJT_add (l : Launch) (hfl : l.flags = flags0) (D : va_G) (sz : Nat) {ad : Nat → Nat → Nat} {cc : Nat → ClassId} {sad sav : Nat → Nat} {N : Nat → Nat} {x0 : Nat} {S : CS} {x1 : Int32} {x2 : Int32} {x3 : Int32} {x4 : Int64} {o : (Nat → Nat) × CS × Int32} {oc os : Nat} (Heq : m_cJT_add N x0 S x1 x2 x3 x4 = some (.inl o, oc, os)) : Met l ⟨"JoinedTrees", "add", "(IIIJ)I"⟩ (Cond.code ⟨"JoinedTrees", "add", "(IIIJ)I"⟩ prog_1_method_9_code 9 (some .int) :: gb) ({ frames := 9, cells := oc, slots := os, locals := 163 }) (cPc sad sav D (cw ad cc N S) (cty cc) sz [.ref (ad 11 x0), .int x1, .int x2, .int x3, .long x4]) (va_Qi (fun (r : Int32) (_ : Nat → Nat → Nat) => r = o.2.2) (fun (u : Nat → Nat → Nat) t => Ext ad N u o.1 ∧ gO D (cw u cc o.1 o.2.1) (cty cc) (va_A (cw ad cc N S) sz) t) (va_A (cw ad cc N S) sz)) oc os (va_A (cw ad cc N S) sz) := by
  refine Met.ofW (cc := prog_1_method_9_code) (maxL := 9) (ret := (some .int)) (by decide) rfl ?_
  intro p e s m args below meth c s₁ B hml hv
  obtain ⟨rfl, hsz, hP, hK, hD0, hev, hE, hN⟩ := hv
  have hx := B.exec
  have hb := B.bytes
  have hr := B.returns
  have hts : ∀ w9 ∈ gb, w9.before [.ref (ad 11 x0), .int x1, .int x2, .int x3, .long x4].toArray s = true := fun w9 h => atoms_spec (ws := Cond.code ⟨"JoinedTrees", "add", "(IIIJ)I"⟩ prog_1_method_9_code 9 (some .int) :: gb) B.pre w9 (List.mem_cons_of_mem _ h)
  have hown : s.vm.findClass "JoinedTrees" = some m.cls := findClass_of_methodNamed B.named
  have hlocks := B.notSynchronized
  have hNS := ns_of hP
  subst hsz
  have hD := hD0.self (sz := s.heap.size)
  generalize hAe : va_A (cw ad cc N S) s.heap.size = A at hD hev hE hNS ⊢
  have hA : ∀ q : Nat, s.heap.size ≤ q → A q := fun q h => by rw [← hAe]; exact Or.inr h
  have hS : va_S A s.heap s.heap [] := va_S.rf
  obtain ⟨ls, hl, hle⟩ : ∃ ls : Array Slot, lv_has ls 9 [(0, .ref (ad 11 x0)), (1, .int x1), (2, .int x2), (3, .int x3), (4, .long x4)] ∧ entryFrame m ([.ref (ad 11 x0), .int x1, .int x2, .int x3, .long x4] : List Value).toArray 9 = F0 m 0 ls [] := by
    exact ⟨_, lv_entry (n := 9) _ (Nat.le_of_ble_eq_true rfl), lg_entry_eq ..⟩
  rw [hle]
  refine w_cJT_add_J0 (ad0 := ad) (N0 := N) (CT := oc) (ST := os) (cR := oc) (sR := os) hfl ⟨hx, hb, hr, hml, hown, hts, hK, hA, hev, hE, hN, hNS⟩ (Nat.le_refl _) (Nat.le_refl _) Heq (fun r h => ⟨fun v9 hv9 pc ad1 H locs ls hd hX hP hD hS => ?_, fun t9 ht9 => (by subst h; cases ht9)⟩) _ _ _ _ 0 0 Ext.rf (Nat.zero_add _) (Nat.zero_add _) hP hD hS (lv_sub hl [0, 1, 2, 3, 4] rfl)
  subst h
  cases hv9
  exact W.iret hx hb hr (fun t ht hW => ⟨⟨_, ad1, rfl, rfl, hX, by rw [ht]; exact hP, va_K.moved hW.alike hK, hD⟩, hS.F ht⟩) hS.2.2 hd
set_option maxHeartbeats 4000000 in
theorem g_cJT_add_t (l : Launch) (hfl : l.flags = flags0) (D : va_G) (sz : Nat) {ad : Nat → Nat → Nat} {cc : Nat → ClassId} {sad sav : Nat → Nat} {N : Nat → Nat} {x0 : Nat} {S : CS} {x1 : Int32} {x2 : Int32} {x3 : Int32} {x4 : Int64} {o : (Nat → Nat) × CS × Nat} {oc os : Nat} (Heq : m_cJT_add N x0 S x1 x2 x3 x4 = some (.inr o, oc, os)) : MeT l ⟨"JoinedTrees", "add", "(IIIJ)I"⟩ (Cond.code ⟨"JoinedTrees", "add", "(IIIJ)I"⟩ prog_1_method_9_code 9 (some .int) :: gb) ({ frames := 9, cells := oc, slots := os, locals := 163 }) (cPc sad sav D (cw ad cc N S) (cty cc) sz [.ref (ad 11 x0), .int x1, .int x2, .int x3, .long x4]) (exN o.2.2) (va_A (cw ad cc N S) sz) (fun H1 => ∃ ad1 : Nat → Nat → Nat, Ext ad N ad1 o.1 ∧ va_P D cls (cw ad1 cc o.1 o.2.1) H1 ∧ va_D (va_A (cw ad cc N S) sz) (cw ad1 cc o.1 o.2.1)) oc os := by
  refine MeT.ofW (cc := prog_1_method_9_code) (maxL := 9) (ret := (some .int)) (by decide) rfl ?_
  intro p e s m args below meth c s₁ B hml hno hv
  obtain ⟨rfl, hsz, hP, hK, hD0, hev, hE, hN⟩ := hv
  have hx := B.exec
  have hb := B.bytes
  have hr := B.returns
  have hts : ∀ w9 ∈ gb, w9.before [.ref (ad 11 x0), .int x1, .int x2, .int x3, .long x4].toArray s = true := fun w9 h => atoms_spec (ws := Cond.code ⟨"JoinedTrees", "add", "(IIIJ)I"⟩ prog_1_method_9_code 9 (some .int) :: gb) B.pre w9 (List.mem_cons_of_mem _ h)
  have hown : s.vm.findClass "JoinedTrees" = some m.cls := findClass_of_methodNamed B.named
  have hlocks := B.notSynchronized
  have hNS := ns_of hP
  subst hsz
  have hD := hD0.self (sz := s.heap.size)
  generalize hAe : va_A (cw ad cc N S) s.heap.size = A at hD hev hE hNS ⊢
  have hA : ∀ q : Nat, s.heap.size ≤ q → A q := fun q h => by rw [← hAe]; exact Or.inr h
  have hS : va_S A s.heap s.heap [] := va_S.rf
  obtain ⟨ls, hl, hle⟩ : ∃ ls : Array Slot, lv_has ls 9 [(0, .ref (ad 11 x0)), (1, .int x1), (2, .int x2), (3, .int x3), (4, .long x4)] ∧ entryFrame m ([.ref (ad 11 x0), .int x1, .int x2, .int x3, .long x4] : List Value).toArray 9 = F0 m 0 ls [] := by
    exact ⟨_, lv_entry (n := 9) _ (Nat.le_of_ble_eq_true rfl), lg_entry_eq ..⟩
  rw [hle]
  refine w_cJT_add_J0 (ad0 := ad) (N0 := N) (CT := oc) (ST := os) (cR := oc) (sR := os) hfl ⟨hx, hb, hr, hml, hown, hts, hK, hA, hev, hE, hN, hNS⟩ (Nat.le_refl _) (Nat.le_refl _) Heq (fun r h => ⟨fun v9 hv9 => (by subst h; cases hv9), fun t9 ht9 => ⟨fun pc ad1 H locs ls cells slots hc1 hs1 hd hsz hX hP hD hS => ?_, fun pc ad1 H locs ls st0 rest9 A9 cells slots hc1 hs1 hX hD hr9 hF9 hS => ?_⟩⟩) _ _ _ _ 0 0 Ext.rf (Nat.zero_add _) (Nat.zero_add _) hP hD hS (lv_sub hl [0, 1, 2, 3, 4] rfl)
  · subst h; cases ht9; subst hc1 hs1; exact tx_thrB hfl hx hb hno hlocks hown hts hev hN hNS hd (hsz.trans hml.symm) hP hS hA (Nat.le_refl _) (Nat.le_refl _) (Nat.le_of_ble_eq_true rfl) (Nat.le_of_ble_eq_true rfl) (fun H1 h1 => ⟨ad1, hX, h1, hD⟩)
  · subst h; cases ht9; subst hc1 hs1; exact tx_on (tx_Thr.mono hr9 (fun H1 h1 => ⟨ad1, hX, h1, hD⟩)) hno hlocks hS hF9
noncomputable def m_cJT_writeValues_J201 (N : Nat → Nat) (x0 : Nat) (S : CS) (x1 : Option Nat) (x2 : Option Nat) (x3 : Int32) (x4 : Int32) (x5 : Option Nat) (x7 : Option Nat) : Option ((((Nat → Nat) × CS × Option Nat × Option Nat × Int32 × Int32) ⊕ ((Nat → Nat) × CS × Int32)) × Nat × Nat) := gn x5 (N 9) (fun j_1 => some ((.inl (N, (S.setR 9 8 j_1 x7), x1, x2, x3, (x4 + 1))), 0, 0))
theorem d_cJT_writeValues_0 : decode prog_1_method_52_code 0 = .ok (.iconst 0, 1) := by decide +kernel
theorem d_cJT_writeValues_1 : decode prog_1_method_52_code 1 = .ok (.istore_n 3, 1) := by decide +kernel
theorem d_cJT_writeValues_2 : decode prog_1_method_52_code 2 = .ok (.iconst 0, 1) := by decide +kernel
theorem d_cJT_writeValues_3 : decode prog_1_method_52_code 3 = .ok (.istore 4, 2) := by decide +kernel
theorem d_cJT_writeValues_5 : decode prog_1_method_52_code 5 = .ok (.iload 4, 2) := by decide +kernel
theorem d_cJT_writeValues_7 : decode prog_1_method_52_code 7 = .ok (.aload_n 0, 1) := by decide +kernel
theorem d_cJT_writeValues_8 : decode prog_1_method_52_code 8 = .ok (.getfield 37, 3) := by decide +kernel
theorem d_cJT_writeValues_11 : decode prog_1_method_52_code 11 = .ok (.getfield 212, 3) := by decide +kernel
theorem d_cJT_writeValues_14 : decode prog_1_method_52_code 14 = .ok (.if_icmp .ge 200, 3) := by decide +kernel
theorem d_cJT_writeValues_17 : decode prog_1_method_52_code 17 = .ok (.aload_n 0, 1) := by decide +kernel
theorem d_cJT_writeValues_18 : decode prog_1_method_52_code 18 = .ok (.getfield 37, 3) := by decide +kernel
theorem d_cJT_writeValues_21 : decode prog_1_method_52_code 21 = .ok (.getfield 443, 3) := by decide +kernel
theorem d_cJT_writeValues_24 : decode prog_1_method_52_code 24 = .ok (.iload 4, 2) := by decide +kernel
theorem d_cJT_writeValues_26 : decode prog_1_method_52_code 26 = .ok (.aaload, 1) := by decide +kernel
theorem d_cJT_writeValues_27 : decode prog_1_method_52_code 27 = .ok (.astore 5, 2) := by decide +kernel
theorem d_cJT_writeValues_29 : decode prog_1_method_52_code 29 = .ok (.aload 5, 2) := by decide +kernel
theorem d_cJT_writeValues_31 : decode prog_1_method_52_code 31 = .ok (.getfield 447, 3) := by decide +kernel
theorem d_cJT_writeValues_34 : decode prog_1_method_52_code 34 = .ok (.astore 6, 2) := by decide +kernel
theorem d_cJT_writeValues_36 : decode prog_1_method_52_code 36 = .ok (.aload 6, 2) := by decide +kernel
theorem d_cJT_writeValues_38 : decode prog_1_method_52_code 38 = .ok (.ifnonnull 42, 3) := by decide +kernel
theorem d_cJT_writeValues_41 : decode prog_1_method_52_code 41 = .ok (.aload_n 0, 1) := by decide +kernel
theorem d_cJT_writeValues_42 : decode prog_1_method_52_code 42 = .ok (.aload_n 1, 1) := by decide +kernel
theorem d_cJT_writeValues_43 : decode prog_1_method_52_code 43 = .ok (.aload_n 2, 1) := by decide +kernel
theorem d_cJT_writeValues_44 : decode prog_1_method_52_code 44 = .ok (.aload_n 0, 1) := by decide +kernel
theorem d_cJT_writeValues_45 : decode prog_1_method_52_code 45 = .ok (.getfield 70, 3) := by decide +kernel
theorem d_cJT_writeValues_48 : decode prog_1_method_52_code 48 = .ok (.iconst 0, 1) := by decide +kernel
theorem d_cJT_writeValues_49 : decode prog_1_method_52_code 49 = .ok (.aload_n 0, 1) := by decide +kernel
theorem d_cJT_writeValues_50 : decode prog_1_method_52_code 50 = .ok (.getfield 70, 3) := by decide +kernel
theorem d_cJT_writeValues_53 : decode prog_1_method_52_code 53 = .ok (.getfield 80, 3) := by decide +kernel
theorem d_cJT_writeValues_56 : decode prog_1_method_52_code 56 = .ok (.aload 5, 2) := by decide +kernel
theorem d_cJT_writeValues_58 : decode prog_1_method_52_code 58 = .ok (.getfield 453, 3) := by decide +kernel
theorem d_cJT_writeValues_61 : decode prog_1_method_52_code 61 = .ok (.aload 5, 2) := by decide +kernel
theorem d_cJT_writeValues_63 : decode prog_1_method_52_code 63 = .ok (.getfield 454, 3) := by decide +kernel
theorem d_cJT_writeValues_66 : decode prog_1_method_52_code 66 = .ok (.invokevirtual 132, 3) := by decide +kernel
theorem d_cJT_writeValues_69 : decode prog_1_method_52_code 69 = .ok (.astore 7, 2) := by decide +kernel
theorem d_cJT_writeValues_71 : decode prog_1_method_52_code 71 = .ok (.aload 7, 2) := by decide +kernel
theorem d_cJT_writeValues_73 : decode prog_1_method_52_code 73 = .ok (.getfield 140, 3) := by decide +kernel
theorem d_cJT_writeValues_76 : decode prog_1_method_52_code 76 = .ok (.istore_n 3, 1) := by decide +kernel
theorem d_cJT_writeValues_77 : decode prog_1_method_52_code 77 = .ok (.goto 89, 3) := by decide +kernel
theorem d_cJT_writeValues_166 : decode prog_1_method_52_code 166 = .ok (.aload 5, 2) := by decide +kernel
theorem d_cJT_writeValues_168 : decode prog_1_method_52_code 168 = .ok (.getfield 453, 3) := by decide +kernel
theorem d_cJT_writeValues_171 : decode prog_1_method_52_code 171 = .ok (.iconst 4, 1) := by decide +kernel
theorem d_cJT_writeValues_172 : decode prog_1_method_52_code 172 = .ok (.if_icmp .ne 29, 3) := by decide +kernel
theorem d_cJT_writeValues_201 : decode prog_1_method_52_code 201 = .ok (.aload 5, 2) := by decide +kernel
theorem d_cJT_writeValues_203 : decode prog_1_method_52_code 203 = .ok (.aload 7, 2) := by decide +kernel
theorem d_cJT_writeValues_205 : decode prog_1_method_52_code 205 = .ok (.putfield 458, 3) := by decide +kernel
theorem d_cJT_writeValues_208 : decode prog_1_method_52_code 208 = .ok (.iinc 4 1, 3) := by decide +kernel
theorem d_cJT_writeValues_211 : decode prog_1_method_52_code 211 = .ok (.goto (-206), 3) := by decide +kernel
set_option maxHeartbeats 4000000 in
set_option maxRecDepth 100000 in
theorem w_cJT_writeValues_J201 {p : Program} {l : Launch} {e : Env} {s : State} {m : MethodId} {args : Array Value} {below : List Frame} {meth : Method} {c : Code} {A : Nat → Prop} {D : va_G} {cc : Nat → ClassId} {sad sav : Nat → Nat} {Q : State → Prop} {ad0 : Nat → Nat → Nat} {N0 : Nat → Nat} {CT ST cR sR : Nat} (hC : MCc sad sav "JoinedTrees" prog_1_method_52_code 8 (some .int) p s m args meth c A D cc) (hCT : CT ≤ cR) (hST : ST ≤ sR) {N : Nat → Nat} {x0 : Nat} {S : CS} {x1 : Option Nat} {x2 : Option Nat} {x3 : Int32} {x4 : Int32} {x5 : Option Nat} {x7 : Option Nat} {o : (((Nat → Nat) × CS × Option Nat × Option Nat × Int32 × Int32) ⊕ ((Nat → Nat) × CS × Int32))} {oc os : Nat} (Heq : m_cJT_writeValues_J201 N x0 S x1 x2 x3 x4 x5 x7 = some (o, oc, os)) (Ka : ∀ (N : Nat → Nat) (b : CS × Option Nat × Option Nat × Int32 × Int32), o = .inl (N, b) → ∀ (ad : Nat → Nat → Nat) (H : Heap) (locs : List Loc) (ls : Array Slot), Ext ad0 N0 ad N → va_P D cls (cw ad cc N b.1) H → va_D A (cw ad cc N b.1) → va_S A s.heap H locs → lv_has ls 8 [(0, .ref (ad 11 x0)), (1, rv ad 4 b.2.1), (2, rv ad 3 b.2.2.1), (3, .int b.2.2.2.1), (4, .int b.2.2.2.2)] → W p l e ({ frames := 5, cells := cR, slots := sR, locals := 132 }) s m args below meth c H locs CT ST Q (F0 m 5 ls [])) (K0 : ∀ (N : Nat → Nat) (b : CS × Int32), o = .inr (N, b) → ∀ (ad : Nat → Nat → Nat) (H : Heap) (locs : List Loc) (ls : Array Slot), Ext ad0 N0 ad N → va_P D cls (cw ad cc N b.1) H → va_D A (cw ad cc N b.1) → va_S A s.heap H locs → lv_has ls 8 [(0, .ref (ad 11 x0)), (3, .int b.2)] → W p l e ({ frames := 5, cells := cR, slots := sR, locals := 132 }) s m args below meth c H locs CT ST Q (F0 m 214 ls [])) : ∀ (ad : Nat → Nat → Nat) (H : Heap) (locs : List Loc) (ls : Array Slot) (cells slots : Nat), Ext ad0 N0 ad N → cells + oc = CT → slots + os = ST → va_P D cls (cw ad cc N S) H → va_D A (cw ad cc N S) → va_S A s.heap H locs → lv_has ls 8 [(0, .ref (ad 11 x0)), (1, rv ad 4 x1), (2, rv ad 3 x2), (3, .int x3), (4, .int x4), (5, rv ad 9 x5), (7, rv ad 3 x7)] → W p l e ({ frames := 5, cells := cR, slots := sR, locals := 132 }) s m args below meth c H locs cells slots Q (F0 m 201 ls []) := by
  intro ad H locs ls cells slots hX hcu hsu hP hD hS hl
  obtain ⟨hx, hb, hr, hml, hown, hts, hK, hA, hev, hE, hN, hNS⟩ := id hC
  unfold m_cJT_writeValues_J201 at Heq
  refine tx_aload (x := x5.map (ad 9)) hx hb d_cJT_writeValues_201 (lv_at hl 5 rfl) ?_
  refine w_v (y := rv ad 9 x5) rfl ?_
  refine tx_aload (x := x7.map (ad 3)) hx hb d_cJT_writeValues_203 (lv_at hl 6 rfl) ?_
  refine w_v (y := rv ad 3 x7) rfl ?_
  obtain ⟨j_1, hj_2, hl_3, Heq⟩ := gn_some Heq
  refine w_s (st' := [rv ad 3 x7, .ref (ad 9 j_1)]) (congrArg (fun z9 : Option Nat => [rv ad 3 x7, rv ad 9 z9]) hj_2) ?_
  refine w_v (y := rv ad 3 x7) rfl ?_
  refine va_put (D := D) (ci := 9) (v := rv ad 3 x7) (ty := .object "JoinedTrees$Op") (C := R_Va) (T := F_Va) (N := 10) hx hb hts i_Va t_Va t_Va_ok n_Va hown hK hP hD hS (cPos N 9 j_1) (cw_obj (k := 9) (by decide) hl_3) rfl 8 (by decide) (hts _ kw_318) (fun _ h9 => h9) rfl (by decide +kernel) (rv_nar (Or.inl ⟨_, rfl⟩)) (rv_fit (Or.inl ⟨_, rfl⟩)) (Nat.le_of_ble_eq_true rfl) d_cJT_writeValues_205 (fun H locs hP hD hS => ?_)
  have hD := (congrArg (fun w9 => va_D A w9) (cw_setR (ad := ad) (cc := cc) (S := S) (k := 9) (f := 8) (t := 3) (v := x7) (by decide) rfl hl_3)).mp hD
  have hP := (congrArg (fun w9 => va_P D cls w9 H) (cw_setR (ad := ad) (cc := cc) (S := S) (k := 9) (f := 8) (t := 3) (v := x7) (by decide) rfl hl_3)).mp hP
  refine lv_iinc (v := x4 + 1) (lv' := [(4, .int (x4 + 1)), (0, .ref (ad 11 x0)), (1, rv ad 4 x1), (2, rv ad 3 x2), (3, .int x3), (5, rv ad 9 x5), (7, rv ad 3 x7)]) hx hb d_cJT_writeValues_208 hl (k := 4) rfl rfl (by decide) rfl (fun ls hl => ?_)
  refine lv_goto (tgt := 5) hx hb d_cJT_writeValues_211 (by decide) ?_
  obtain ⟨e9, e9a, e9b⟩ := tri Heq
  refine W.cs (cells' := CT) (slots' := ST) (by omega) (by omega) ?_
  exact Ka _ _ e9 _ _ _ _ hX hP hD hS (lv_sub hl [1, 2, 3, 4, 0] rfl)
noncomputable def m_cJT_writeValues_J166 (N : Nat → Nat) (x0 : Nat) (S : CS) (x1 : Option Nat) (x2 : Option Nat) (x3 : Int32) (x4 : Int32) (x5 : Option Nat) (x7 : Option Nat) : Option ((((Nat → Nat) × CS × Option Nat × Option Nat × Int32 × Int32) ⊕ ((Nat → Nat) × CS × Int32)) × Nat × Nat) := gn x5 (N 9) (fun j_1 => (if S.i 9 0 j_1 = 4 then gl x0 (N 11) (gn (S.r 11 3 x0) (N 1) (fun j_5 => gn (S.r 1 1 j_5) (N 5) (fun j_8 => gn x7 (N 3) (fun j_11 => gn (S.r 11 0 x0) (N 8) (fun j_14 => ob (m_cSt_keepString N j_14 S j_11 j_8 (S.i 9 5 j_1) (S.i 9 6 j_1)) (fun o_17 => m_cJT_writeValues_J201 N x0 o_17 x1 x2 x3 x4 x5 x7)))))) else m_cJT_writeValues_J201 N x0 S x1 x2 x3 x4 x5 x7))
theorem d_cJT_writeValues_175 : decode prog_1_method_52_code 175 = .ok (.aload_n 0, 1) := by decide +kernel
theorem d_cJT_writeValues_176 : decode prog_1_method_52_code 176 = .ok (.getfield 12, 3) := by decide +kernel
theorem d_cJT_writeValues_179 : decode prog_1_method_52_code 179 = .ok (.aload 7, 2) := by decide +kernel
theorem d_cJT_writeValues_181 : decode prog_1_method_52_code 181 = .ok (.aload_n 0, 1) := by decide +kernel
theorem d_cJT_writeValues_182 : decode prog_1_method_52_code 182 = .ok (.getfield 37, 3) := by decide +kernel
theorem d_cJT_writeValues_185 : decode prog_1_method_52_code 185 = .ok (.getfield 213, 3) := by decide +kernel
theorem d_cJT_writeValues_188 : decode prog_1_method_52_code 188 = .ok (.aload 5, 2) := by decide +kernel
theorem d_cJT_writeValues_190 : decode prog_1_method_52_code 190 = .ok (.getfield 468, 3) := by decide +kernel
theorem d_cJT_writeValues_193 : decode prog_1_method_52_code 193 = .ok (.aload 5, 2) := by decide +kernel
theorem d_cJT_writeValues_195 : decode prog_1_method_52_code 195 = .ok (.getfield 469, 3) := by decide +kernel
theorem d_cJT_writeValues_198 : decode prog_1_method_52_code 198 = .ok (.invokevirtual 437, 3) := by decide +kernel
set_option maxHeartbeats 4000000 in
set_option maxRecDepth 100000 in
theorem w_cJT_writeValues_J166 {p : Program} {l : Launch} {e : Env} {s : State} {m : MethodId} {args : Array Value} {below : List Frame} {meth : Method} {c : Code} {A : Nat → Prop} {D : va_G} {cc : Nat → ClassId} {sad sav : Nat → Nat} {Q : State → Prop} {ad0 : Nat → Nat → Nat} {N0 : Nat → Nat} {CT ST cR sR : Nat} (hC : MCc sad sav "JoinedTrees" prog_1_method_52_code 8 (some .int) p s m args meth c A D cc) (hCT : CT ≤ cR) (hST : ST ≤ sR) {N : Nat → Nat} {x0 : Nat} {S : CS} {x1 : Option Nat} {x2 : Option Nat} {x3 : Int32} {x4 : Int32} {x5 : Option Nat} {x7 : Option Nat} {o : (((Nat → Nat) × CS × Option Nat × Option Nat × Int32 × Int32) ⊕ ((Nat → Nat) × CS × Int32))} {oc os : Nat} (Heq : m_cJT_writeValues_J166 N x0 S x1 x2 x3 x4 x5 x7 = some (o, oc, os)) (Ka : ∀ (N : Nat → Nat) (b : CS × Option Nat × Option Nat × Int32 × Int32), o = .inl (N, b) → ∀ (ad : Nat → Nat → Nat) (H : Heap) (locs : List Loc) (ls : Array Slot), Ext ad0 N0 ad N → va_P D cls (cw ad cc N b.1) H → va_D A (cw ad cc N b.1) → va_S A s.heap H locs → lv_has ls 8 [(0, .ref (ad 11 x0)), (1, rv ad 4 b.2.1), (2, rv ad 3 b.2.2.1), (3, .int b.2.2.2.1), (4, .int b.2.2.2.2)] → W p l e ({ frames := 5, cells := cR, slots := sR, locals := 132 }) s m args below meth c H locs CT ST Q (F0 m 5 ls [])) (K0 : ∀ (N : Nat → Nat) (b : CS × Int32), o = .inr (N, b) → ∀ (ad : Nat → Nat → Nat) (H : Heap) (locs : List Loc) (ls : Array Slot), Ext ad0 N0 ad N → va_P D cls (cw ad cc N b.1) H → va_D A (cw ad cc N b.1) → va_S A s.heap H locs → lv_has ls 8 [(0, .ref (ad 11 x0)), (3, .int b.2)] → W p l e ({ frames := 5, cells := cR, slots := sR, locals := 132 }) s m args below meth c H locs CT ST Q (F0 m 214 ls [])) : ∀ (ad : Nat → Nat → Nat) (H : Heap) (locs : List Loc) (ls : Array Slot) (cells slots : Nat), Ext ad0 N0 ad N → cells + oc = CT → slots + os = ST → va_P D cls (cw ad cc N S) H → va_D A (cw ad cc N S) → va_S A s.heap H locs → lv_has ls 8 [(0, .ref (ad 11 x0)), (1, rv ad 4 x1), (2, rv ad 3 x2), (3, .int x3), (4, .int x4), (5, rv ad 9 x5), (7, rv ad 3 x7)] → W p l e ({ frames := 5, cells := cR, slots := sR, locals := 132 }) s m args below meth c H locs cells slots Q (F0 m 166 ls []) := by
  intro ad H locs ls cells slots hX hcu hsu hP hD hS hl
  obtain ⟨hx, hb, hr, hml, hown, hts, hK, hA, hev, hE, hN, hNS⟩ := id hC
  unfold m_cJT_writeValues_J166 at Heq
  refine tx_aload (x := x5.map (ad 9)) hx hb d_cJT_writeValues_166 (lv_at hl 5 rfl) ?_
  refine w_v (y := rv ad 9 x5) rfl ?_
  obtain ⟨j_1, hj_2, hl_3, Heq⟩ := gn_some Heq
  refine w_s (st' := [.ref (ad 9 j_1)]) (congrArg (fun z9 : Option Nat => [rv ad 9 z9]) hj_2) ?_
  refine va_get (D := D) (ci := 9) (v := .int (S.i 9 0 j_1)) (C := R_Va) (T := F_Va) (N := 10) hx hb hts i_Va hown hK hP (cPos N 9 j_1) (cw_obj (k := 9) (by decide) hl_3) rfl 0 (by decide) (hts _ kw_296) (fun _ h9 => h9) rfl d_cJT_writeValues_168 ?_
  refine lv_iconst (v := 4) hx hb d_cJT_writeValues_171 (by decide) ?_
  refine lv_icmp_ne (tgt := 201) hx hb d_cJT_writeValues_172 (by decide) (fun c_4 => ?_) (fun c_4 => ?_)
  · replace Heq := (if_neg c_4).symm.trans Heq
    exact w_cJT_writeValues_J201 hC hCT hST Heq Ka K0 _ _ _ _ _ _ hX (by omega) (by omega) hP hD hS (lv_sub hl [0, 1, 2, 3, 4, 5, 6] rfl)
  · replace Heq := (if_pos c_4).symm.trans Heq
    refine lv_aload_n hx hb d_cJT_writeValues_175 rfl (lv_at hl 0 rfl) ?_
    obtain ⟨hl_x0_11, Heq⟩ := gl_some Heq
    refine va_get (D := D) (ci := 11) (v := rv ad 8 (S.r 11 0 x0)) (C := R_JT) (T := F_JT) (N := 13) hx hb hts i_JT hown hK hP (cPos N 11 x0) (cw_obj (k := 11) (by decide) hl_x0_11) rfl 0 (by decide) (hts _ kw_421) (fun _ h9 => h9) rfl d_cJT_writeValues_176 ?_
    refine tx_aload (x := x7.map (ad 3)) hx hb d_cJT_writeValues_179 (lv_at hl 6 rfl) ?_
    refine w_v (y := rv ad 3 x7) rfl ?_
    refine lv_aload_n hx hb d_cJT_writeValues_181 rfl (lv_at hl 0 rfl) ?_
    refine va_get (D := D) (ci := 11) (v := rv ad 1 (S.r 11 3 x0)) (C := R_JT) (T := F_JT) (N := 13) hx hb hts i_JT hown hK hP (cPos N 11 x0) (cw_obj (k := 11) (by decide) hl_x0_11) rfl 3 (by decide) (hts _ kw_424) (fun _ h9 => h9) rfl d_cJT_writeValues_182 ?_
    obtain ⟨j_5, hj_6, hl_7, Heq⟩ := gn_some Heq
    refine w_s (st' := [.ref (ad 1 j_5), rv ad 3 x7, rv ad 8 (S.r 11 0 x0)]) (congrArg (fun z9 : Option Nat => [rv ad 1 z9, rv ad 3 x7, rv ad 8 (S.r 11 0 x0)]) hj_6) ?_
    refine va_get (D := D) (ci := 1) (v := rv ad 5 (S.r 1 1 j_5)) (C := R_Rd) (T := F_Rd) (N := 10) hx hb hts i_Rd hown hK hP (cPos N 1 j_5) (cw_obj (k := 1) (by decide) hl_7) rfl 1 (by decide) (hts _ kw_345) (fun _ h9 => h9) rfl d_cJT_writeValues_185 ?_
    refine tx_aload (x := x5.map (ad 9)) hx hb d_cJT_writeValues_188 (lv_at hl 5 rfl) ?_
    refine w_v (y := rv ad 9 x5) rfl ?_
    refine w_s (st' := [.ref (ad 9 j_1), rv ad 5 (S.r 1 1 j_5), rv ad 3 x7, rv ad 8 (S.r 11 0 x0)]) (congrArg (fun z9 : Option Nat => [rv ad 9 z9, rv ad 5 (S.r 1 1 j_5), rv ad 3 x7, rv ad 8 (S.r 11 0 x0)]) hj_2) ?_
    refine va_get (D := D) (ci := 9) (v := .int (S.i 9 5 j_1)) (C := R_Va) (T := F_Va) (N := 10) hx hb hts i_Va hown hK hP (cPos N 9 j_1) (cw_obj (k := 9) (by decide) hl_3) rfl 5 (by decide) (hts _ kw_311) (fun _ h9 => h9) rfl d_cJT_writeValues_190 ?_
    refine tx_aload (x := x5.map (ad 9)) hx hb d_cJT_writeValues_193 (lv_at hl 5 rfl) ?_
    refine w_v (y := rv ad 9 x5) rfl ?_
    refine w_s (st' := [.ref (ad 9 j_1), .int (S.i 9 5 j_1), rv ad 5 (S.r 1 1 j_5), rv ad 3 x7, rv ad 8 (S.r 11 0 x0)]) (congrArg (fun z9 : Option Nat => [rv ad 9 z9, .int (S.i 9 5 j_1), rv ad 5 (S.r 1 1 j_5), rv ad 3 x7, rv ad 8 (S.r 11 0 x0)]) hj_2) ?_
    refine va_get (D := D) (ci := 9) (v := .int (S.i 9 6 j_1)) (C := R_Va) (T := F_Va) (N := 10) hx hb hts i_Va hown hK hP (cPos N 9 j_1) (cw_obj (k := 9) (by decide) hl_3) rfl 6 (by decide) (hts _ kw_314) (fun _ h9 => h9) rfl d_cJT_writeValues_195 ?_
    obtain ⟨j_8, hj_9, hl_10, Heq⟩ := gn_some Heq
    refine w_s (st' := [.int (S.i 9 6 j_1), .int (S.i 9 5 j_1), .ref (ad 5 j_8), rv ad 3 x7, rv ad 8 (S.r 11 0 x0)]) (congrArg (fun z9 : Option Nat => [.int (S.i 9 6 j_1), .int (S.i 9 5 j_1), rv ad 5 z9, rv ad 3 x7, rv ad 8 (S.r 11 0 x0)]) hj_9) ?_
    obtain ⟨j_11, hj_12, hl_13, Heq⟩ := gn_some Heq
    refine w_s (st' := [.int (S.i 9 6 j_1), .int (S.i 9 5 j_1), .ref (ad 5 j_8), .ref (ad 3 j_11), rv ad 8 (S.r 11 0 x0)]) (congrArg (fun z9 : Option Nat => [.int (S.i 9 6 j_1), .int (S.i 9 5 j_1), .ref (ad 5 j_8), rv ad 3 z9, rv ad 8 (S.r 11 0 x0)]) hj_12) ?_
    obtain ⟨j_14, hj_15, hl_16, Heq⟩ := gn_some Heq
    refine w_s (st' := [.int (S.i 9 6 j_1), .int (S.i 9 5 j_1), .ref (ad 5 j_8), .ref (ad 3 j_11), .ref (ad 8 j_14)]) (congrArg (fun z9 : Option Nat => [.int (S.i 9 6 j_1), .int (S.i 9 5 j_1), .ref (ad 5 j_8), .ref (ad 3 j_11), rv ad 8 z9]) hj_15) ?_
    obtain ⟨o_17, h_18, Heq⟩ := ob_some Heq
    have hFc := fr_all hD hS hA
    refine va_callv (va_runV (As := [.ref (ad 3 j_11), .ref (ad 5 j_8), .int (S.i 9 5 j_1), .int (S.i 9 6 j_1)]) (rest := []) ⟨hx, hb, hml, hown, hts⟩ (g_cSt_keepString l D H.size (ad := ad) (cc := cc) (sad := sad) (sav := sav) h_18) (cw_v 4 hts kw_765 kw_762 kw_763 kw_764 kw_2 rfl rfl (by decide +kernel) ⟨Nat.le_of_ble_eq_true rfl, Nat.le_of_ble_eq_true rfl⟩) ⟨c_blind, va_recv hK hP (ci := 8) (q0 := cPos N 8 j_14) rfl (cw_obj (k := 8) (by decide) hl_16), fun U hU hW => c_pre hU hW hP hK hD hev hE hN hNS hS hFc⟩ rfl rfl hl.1 rfl (lv_room (Nat.le_of_ble_eq_true rfl)) d_cJT_writeValues_198 ⟨(Nat.le_trans (m := CT) (by omega) hCT), (Nat.le_trans (m := ST) (by omega) hST)⟩) hS (fun q _ h => hFc q h) hFc (fun u t H1 locs ht hvm hw hB hz1 hk1 hS => ?_)
    obtain ⟨hP, -, hD1⟩ := hB
    rw [ht] at hP
    have hD := hD1.weaken (fun _ q _ h => hFc q.1 h)
    generalize H1 = H at hP hS ⊢
    exact w_cJT_writeValues_J201 hC hCT hST Heq Ka K0 _ _ _ _ _ _ hX (by omega) (by omega) hP hD hS (lv_sub hl [0, 1, 2, 3, 4, 5, 6] rfl)
noncomputable def m_cJT_writeValues_B5 (N : Nat → Nat) (x0 : Nat) (S : CS) (x1 : Option Nat) (x2 : Option Nat) (x3 : Int32) (x4 : Int32) : Option ((((Nat → Nat) × CS × Option Nat × Option Nat × Int32 × Int32) ⊕ ((Nat → Nat) × CS × Int32)) × Nat × Nat) := gl x0 (N 11) (gn (S.r 11 3 x0) (N 1) (fun j_1 => (if S.i 1 3 j_1 ≤ x4 then some ((.inr (N, S, x3)), 0, 0) else gn (S.r 1 0 j_1) (N 18) (fun j_5 => gd x4 (S.z 18 j_5) (gn (S.q 18 j_5 x4.toNatClampNeg) (N 9) (fun j_9 => on (S.r 9 2 j_9) (gn (S.r 11 9 x0) (N 5) (fun j_14 => gn x2 (N 3) (fun j_17 => gn x1 (N 4) (fun j_20 => oq (m_cJT_writeAtKey N x0 S j_20 j_17 j_14 0 (S.i 5 1 j_14) (S.i 9 0 j_9) (S.l 9 1 j_9)) (fun N_25 S_26 v_27 => gn v_27 (N_25 3) (fun j_28 => m_cJT_writeValues_J166 N_25 x0 S_26 x1 x2 (S_26.i 3 0 j_28) x4 (S.q 18 j_5 x4.toNatClampNeg) v_27)))))) (fun j_12 => gl j_12 (N 9) ((if S.i 9 0 j_12 = 6 then gn (S.r 1 1 j_1) (N 5) (fun j_44 => gn (S.r 9 8 j_12) (N 3) (fun j_47 => gn x1 (N 4) (fun j_50 => gv x2 (N 3) (oq (m_cJT_writeAtKey N x0 S j_50 j_47 j_44 (S.i 9 3 j_9) (S.i 9 4 j_9) (S.i 9 0 j_9) (S.l 9 1 j_9)) (fun N_56 S_57 v_58 => m_cJT_writeValues_J166 N_56 x0 S_57 x1 x2 x3 x4 (S.q 18 j_5 x4.toNatClampNeg) v_58))))) else gn (S.r 9 8 j_12) (N 3) (fun j_32 => gn x1 (N 4) (fun j_35 => gv x2 (N 3) (oq (m_cJT_writeBehind N x0 S j_35 j_32 (S.r 9 9 j_12) (S.i 9 0 j_9) (S.l 9 1 j_9)) (fun N_41 S_42 v_43 => m_cJT_writeValues_J166 N_41 x0 (S_42.setR 9 9 j_12 v_43) x1 x2 x3 x4 (S.q 18 j_5 x4.toNatClampNeg) v_43)))))))))))))
theorem d_cJT_writeValues_80 : decode prog_1_method_52_code 80 = .ok (.aload 6, 2) := by decide +kernel
theorem d_cJT_writeValues_82 : decode prog_1_method_52_code 82 = .ok (.getfield 453, 3) := by decide +kernel
theorem d_cJT_writeValues_85 : decode prog_1_method_52_code 85 = .ok (.bipush 6, 2) := by decide +kernel
theorem d_cJT_writeValues_87 : decode prog_1_method_52_code 87 = .ok (.if_icmp .ne 45, 3) := by decide +kernel
theorem d_cJT_writeValues_132 : decode prog_1_method_52_code 132 = .ok (.aload_n 0, 1) := by decide +kernel
theorem d_cJT_writeValues_133 : decode prog_1_method_52_code 133 = .ok (.aload_n 1, 1) := by decide +kernel
theorem d_cJT_writeValues_134 : decode prog_1_method_52_code 134 = .ok (.aload 6, 2) := by decide +kernel
theorem d_cJT_writeValues_136 : decode prog_1_method_52_code 136 = .ok (.getfield 458, 3) := by decide +kernel
theorem d_cJT_writeValues_139 : decode prog_1_method_52_code 139 = .ok (.aload 6, 2) := by decide +kernel
theorem d_cJT_writeValues_141 : decode prog_1_method_52_code 141 = .ok (.getfield 465, 3) := by decide +kernel
theorem d_cJT_writeValues_144 : decode prog_1_method_52_code 144 = .ok (.aload 5, 2) := by decide +kernel
theorem d_cJT_writeValues_146 : decode prog_1_method_52_code 146 = .ok (.getfield 453, 3) := by decide +kernel
theorem d_cJT_writeValues_149 : decode prog_1_method_52_code 149 = .ok (.aload 5, 2) := by decide +kernel
theorem d_cJT_writeValues_151 : decode prog_1_method_52_code 151 = .ok (.getfield 454, 3) := by decide +kernel
theorem d_cJT_writeValues_154 : decode prog_1_method_52_code 154 = .ok (.invokevirtual 164, 3) := by decide +kernel
theorem d_cJT_writeValues_157 : decode prog_1_method_52_code 157 = .ok (.astore 7, 2) := by decide +kernel
theorem d_cJT_writeValues_159 : decode prog_1_method_52_code 159 = .ok (.aload 6, 2) := by decide +kernel
theorem d_cJT_writeValues_161 : decode prog_1_method_52_code 161 = .ok (.aload 7, 2) := by decide +kernel
theorem d_cJT_writeValues_163 : decode prog_1_method_52_code 163 = .ok (.putfield 465, 3) := by decide +kernel
theorem d_cJT_writeValues_90 : decode prog_1_method_52_code 90 = .ok (.aload_n 0, 1) := by decide +kernel
theorem d_cJT_writeValues_91 : decode prog_1_method_52_code 91 = .ok (.aload_n 1, 1) := by decide +kernel
theorem d_cJT_writeValues_92 : decode prog_1_method_52_code 92 = .ok (.aload 6, 2) := by decide +kernel
theorem d_cJT_writeValues_94 : decode prog_1_method_52_code 94 = .ok (.getfield 458, 3) := by decide +kernel
theorem d_cJT_writeValues_97 : decode prog_1_method_52_code 97 = .ok (.aload_n 0, 1) := by decide +kernel
theorem d_cJT_writeValues_98 : decode prog_1_method_52_code 98 = .ok (.getfield 37, 3) := by decide +kernel
theorem d_cJT_writeValues_101 : decode prog_1_method_52_code 101 = .ok (.getfield 213, 3) := by decide +kernel
theorem d_cJT_writeValues_104 : decode prog_1_method_52_code 104 = .ok (.aload 5, 2) := by decide +kernel
theorem d_cJT_writeValues_106 : decode prog_1_method_52_code 106 = .ok (.getfield 461, 3) := by decide +kernel
theorem d_cJT_writeValues_109 : decode prog_1_method_52_code 109 = .ok (.aload 5, 2) := by decide +kernel
theorem d_cJT_writeValues_111 : decode prog_1_method_52_code 111 = .ok (.getfield 464, 3) := by decide +kernel
theorem d_cJT_writeValues_114 : decode prog_1_method_52_code 114 = .ok (.aload 5, 2) := by decide +kernel
theorem d_cJT_writeValues_116 : decode prog_1_method_52_code 116 = .ok (.getfield 453, 3) := by decide +kernel
theorem d_cJT_writeValues_119 : decode prog_1_method_52_code 119 = .ok (.aload 5, 2) := by decide +kernel
theorem d_cJT_writeValues_121 : decode prog_1_method_52_code 121 = .ok (.getfield 454, 3) := by decide +kernel
theorem d_cJT_writeValues_124 : decode prog_1_method_52_code 124 = .ok (.invokevirtual 132, 3) := by decide +kernel
theorem d_cJT_writeValues_127 : decode prog_1_method_52_code 127 = .ok (.astore 7, 2) := by decide +kernel
theorem d_cJT_writeValues_129 : decode prog_1_method_52_code 129 = .ok (.goto 37, 3) := by decide +kernel
set_option maxHeartbeats 4000000 in
set_option maxRecDepth 100000 in
theorem w_cJT_writeValues_B5 {p : Program} {l : Launch} {e : Env} {s : State} {m : MethodId} {args : Array Value} {below : List Frame} {meth : Method} {c : Code} {A : Nat → Prop} {D : va_G} {cc : Nat → ClassId} {sad sav : Nat → Nat} {Q : State → Prop} {ad0 : Nat → Nat → Nat} {N0 : Nat → Nat} {CT ST cR sR : Nat} (hC : MCc sad sav "JoinedTrees" prog_1_method_52_code 8 (some .int) p s m args meth c A D cc) (hCT : CT ≤ cR) (hST : ST ≤ sR) {N : Nat → Nat} {x0 : Nat} {S : CS} {x1 : Option Nat} {x2 : Option Nat} {x3 : Int32} {x4 : Int32} {o : (((Nat → Nat) × CS × Option Nat × Option Nat × Int32 × Int32) ⊕ ((Nat → Nat) × CS × Int32))} {oc os : Nat} (Heq : m_cJT_writeValues_B5 N x0 S x1 x2 x3 x4 = some (o, oc, os)) (Ka : ∀ (N : Nat → Nat) (b : CS × Option Nat × Option Nat × Int32 × Int32), o = .inl (N, b) → ∀ (ad : Nat → Nat → Nat) (H : Heap) (locs : List Loc) (ls : Array Slot), Ext ad0 N0 ad N → va_P D cls (cw ad cc N b.1) H → va_D A (cw ad cc N b.1) → va_S A s.heap H locs → lv_has ls 8 [(0, .ref (ad 11 x0)), (1, rv ad 4 b.2.1), (2, rv ad 3 b.2.2.1), (3, .int b.2.2.2.1), (4, .int b.2.2.2.2)] → W p l e ({ frames := 5, cells := cR, slots := sR, locals := 132 }) s m args below meth c H locs CT ST Q (F0 m 5 ls [])) (K0 : ∀ (N : Nat → Nat) (b : CS × Int32), o = .inr (N, b) → ∀ (ad : Nat → Nat → Nat) (H : Heap) (locs : List Loc) (ls : Array Slot), Ext ad0 N0 ad N → va_P D cls (cw ad cc N b.1) H → va_D A (cw ad cc N b.1) → va_S A s.heap H locs → lv_has ls 8 [(0, .ref (ad 11 x0)), (3, .int b.2)] → W p l e ({ frames := 5, cells := cR, slots := sR, locals := 132 }) s m args below meth c H locs CT ST Q (F0 m 214 ls [])) : ∀ (ad : Nat → Nat → Nat) (H : Heap) (locs : List Loc) (ls : Array Slot) (cells slots : Nat), Ext ad0 N0 ad N → cells + oc = CT → slots + os = ST → va_P D cls (cw ad cc N S) H → va_D A (cw ad cc N S) → va_S A s.heap H locs → lv_has ls 8 [(0, .ref (ad 11 x0)), (1, rv ad 4 x1), (2, rv ad 3 x2), (3, .int x3), (4, .int x4)] → W p l e ({ frames := 5, cells := cR, slots := sR, locals := 132 }) s m args below meth c H locs cells slots Q (F0 m 5 ls []) := by
  intro ad H locs ls cells slots hX hcu hsu hP hD hS hl
  obtain ⟨hx, hb, hr, hml, hown, hts, hK, hA, hev, hE, hN, hNS⟩ := id hC
  unfold m_cJT_writeValues_B5 at Heq
  refine lv_iload hx hb d_cJT_writeValues_5 (lv_at hl 4 rfl) ?_
  refine lv_aload_n hx hb d_cJT_writeValues_7 rfl (lv_at hl 0 rfl) ?_
  obtain ⟨hl_x0_11, Heq⟩ := gl_some Heq
  refine va_get (D := D) (ci := 11) (v := rv ad 1 (S.r 11 3 x0)) (C := R_JT) (T := F_JT) (N := 13) hx hb hts i_JT hown hK hP (cPos N 11 x0) (cw_obj (k := 11) (by decide) hl_x0_11) rfl 3 (by decide) (hts _ kw_424) (fun _ h9 => h9) rfl d_cJT_writeValues_8 ?_
  obtain ⟨j_1, hj_2, hl_3, Heq⟩ := gn_some Heq
  refine w_s (st' := [.ref (ad 1 j_1), .int x4]) (congrArg (fun z9 : Option Nat => [rv ad 1 z9, .int x4]) hj_2) ?_
  refine va_get (D := D) (ci := 1) (v := .int (S.i 1 3 j_1)) (C := R_Rd) (T := F_Rd) (N := 10) hx hb hts i_Rd hown hK hP (cPos N 1 j_1) (cw_obj (k := 1) (by decide) hl_3) rfl 3 (by decide) (hts _ kw_348) (fun _ h9 => h9) rfl d_cJT_writeValues_11 ?_
  refine lv_icmp_ge (tgt := 214) hx hb d_cJT_writeValues_14 (by decide) (fun c_4 => ?_) (fun c_4 => ?_)
  · replace Heq := (if_pos c_4).symm.trans Heq
    obtain ⟨e9, e9a, e9b⟩ := tri Heq
    refine W.cs (cells' := CT) (slots' := ST) (by omega) (by omega) ?_
    exact K0 _ _ e9 _ _ _ _ hX hP hD hS (lv_sub hl [0, 3] rfl)
  · replace Heq := (if_neg c_4).symm.trans Heq
    refine lv_aload_n hx hb d_cJT_writeValues_17 rfl (lv_at hl 0 rfl) ?_
    refine va_get (D := D) (ci := 11) (v := rv ad 1 (S.r 11 3 x0)) (C := R_JT) (T := F_JT) (N := 13) hx hb hts i_JT hown hK hP (cPos N 11 x0) (cw_obj (k := 11) (by decide) hl_x0_11) rfl 3 (by decide) (hts _ kw_424) (fun _ h9 => h9) rfl d_cJT_writeValues_18 ?_
    refine w_s (st' := [.ref (ad 1 j_1)]) (congrArg (fun z9 : Option Nat => [rv ad 1 z9]) hj_2) ?_
    refine va_get (D := D) (ci := 1) (v := rv ad 18 (S.r 1 0 j_1)) (C := R_Rd) (T := F_Rd) (N := 10) hx hb hts i_Rd hown hK hP (cPos N 1 j_1) (cw_obj (k := 1) (by decide) hl_3) rfl 0 (by decide) (hts _ kw_343) (fun _ h9 => h9) rfl d_cJT_writeValues_21 ?_
    refine lv_iload hx hb d_cJT_writeValues_24 (lv_at hl 4 rfl) ?_
    obtain ⟨j_5, hj_6, hl_7, Heq⟩ := gn_some Heq
    refine w_s (st' := [.int x4, .ref (ad 18 j_5)]) (congrArg (fun z9 : Option Nat => [.int x4, rv ad 18 z9]) hj_6) ?_
    obtain ⟨hi_8, Heq⟩ := gd_some Heq
    refine va_aldq hx hb hK hP (cPos N 18 j_5) 6 (cw_refs (k := 18) (by decide) hl_7) rfl (i := x4) hi_8 d_cJT_writeValues_26 ?_
    refine w_v (y := rv ad 9 (S.q 18 j_5 x4.toNatClampNeg)) (congrArg (rv ad 9) rfl) ?_
    refine tx_astore (x := (S.q 18 j_5 x4.toNatClampNeg).map (ad 9)) (lv' := [(5, rv ad 9 (S.q 18 j_5 x4.toNatClampNeg)), (0, .ref (ad 11 x0)), (1, rv ad 4 x1), (2, rv ad 3 x2), (3, .int x3), (4, .int x4)]) hx hb d_cJT_writeValues_27 hl (by decide) rfl (fun ls hl => ?_)
    refine tx_aload (x := (S.q 18 j_5 x4.toNatClampNeg).map (ad 9)) hx hb d_cJT_writeValues_29 (lv_at hl 0 rfl) ?_
    refine w_v (y := rv ad 9 (S.q 18 j_5 x4.toNatClampNeg)) rfl ?_
    obtain ⟨j_9, hj_10, hl_11, Heq⟩ := gn_some Heq
    refine w_s (st' := [.ref (ad 9 j_9)]) (congrArg (fun z9 : Option Nat => [rv ad 9 z9]) hj_10) ?_
    refine va_get (D := D) (ci := 9) (v := rv ad 9 (S.r 9 2 j_9)) (C := R_Va) (T := F_Va) (N := 10) hx hb hts i_Va hown hK hP (cPos N 9 j_9) (cw_obj (k := 9) (by decide) hl_11) rfl 2 (by decide) (hts _ kw_302) (fun _ h9 => h9) rfl d_cJT_writeValues_31 ?_
    refine tx_astore (x := (S.r 9 2 j_9).map (ad 9)) (lv' := [(6, rv ad 9 (S.r 9 2 j_9)), (5, rv ad 9 (S.q 18 j_5 x4.toNatClampNeg)), (0, .ref (ad 11 x0)), (1, rv ad 4 x1), (2, rv ad 3 x2), (3, .int x3), (4, .int x4)]) hx hb d_cJT_writeValues_34 hl (by decide) (by simp [rv, rf_cat]) (fun ls hl => ?_)
    refine tx_aload (x := (S.r 9 2 j_9).map (ad 9)) hx hb d_cJT_writeValues_36 (lv_at hl 0 rfl) ?_
    refine w_v (y := rv ad 9 (S.r 9 2 j_9)) rfl ?_
    rcases on_some Heq with ⟨hj_13, Heq⟩ | ⟨j_12, hj_13, Heq⟩
    · refine w_s (st' := [.null]) (congrArg (fun z9 : Option Nat => [rv ad 9 z9]) hj_13) ?_
      refine lv_ifnonnullN hx hb d_cJT_writeValues_38 ?_
      refine lv_aload_n hx hb d_cJT_writeValues_41 rfl (lv_at hl 2 rfl) ?_
      refine tx_aload_n (x := x1.map (ad 4)) hx hb d_cJT_writeValues_42 rfl (lv_at hl 3 rfl) ?_
      refine w_v (y := rv ad 4 x1) rfl ?_
      refine tx_aload_n (x := x2.map (ad 3)) hx hb d_cJT_writeValues_43 rfl (lv_at hl 4 rfl) ?_
      refine w_v (y := rv ad 3 x2) rfl ?_
      refine lv_aload_n hx hb d_cJT_writeValues_44 rfl (lv_at hl 2 rfl) ?_
      refine va_get (D := D) (ci := 11) (v := rv ad 5 (S.r 11 9 x0)) (C := R_JT) (T := F_JT) (N := 13) hx hb hts i_JT hown hK hP (cPos N 11 x0) (cw_obj (k := 11) (by decide) hl_x0_11) rfl 9 (by decide) (hts _ kw_430) (fun _ h9 => h9) rfl d_cJT_writeValues_45 ?_
      refine lv_iconst (v := 0) hx hb d_cJT_writeValues_48 (by decide) ?_
      refine lv_aload_n hx hb d_cJT_writeValues_49 rfl (lv_at hl 2 rfl) ?_
      refine va_get (D := D) (ci := 11) (v := rv ad 5 (S.r 11 9 x0)) (C := R_JT) (T := F_JT) (N := 13) hx hb hts i_JT hown hK hP (cPos N 11 x0) (cw_obj (k := 11) (by decide) hl_x0_11) rfl 9 (by decide) (hts _ kw_430) (fun _ h9 => h9) rfl d_cJT_writeValues_50 ?_
      obtain ⟨j_14, hj_15, hl_16, Heq⟩ := gn_some Heq
      refine w_s (st' := [.ref (ad 5 j_14), .int 0, rv ad 5 (S.r 11 9 x0), rv ad 3 x2, rv ad 4 x1, .ref (ad 11 x0)]) (congrArg (fun z9 : Option Nat => [rv ad 5 z9, .int 0, rv ad 5 (S.r 11 9 x0), rv ad 3 x2, rv ad 4 x1, .ref (ad 11 x0)]) hj_15) ?_
      refine va_get (D := D) (ci := 5) (v := .int (S.i 5 1 j_14)) (C := R_Rw) (T := F_Rw) (N := 3) hx hb hts i_Rw hown hK hP (cPos N 5 j_14) (cw_obj (k := 5) (by decide) hl_16) rfl 1 (by decide) (hts _ kw_143) (fun _ h9 => h9) rfl d_cJT_writeValues_53 ?_
      refine tx_aload (x := (S.q 18 j_5 x4.toNatClampNeg).map (ad 9)) hx hb d_cJT_writeValues_56 (lv_at hl 1 rfl) ?_
      refine w_v (y := rv ad 9 (S.q 18 j_5 x4.toNatClampNeg)) rfl ?_
      refine w_s (st' := [.ref (ad 9 j_9), .int (S.i 5 1 j_14), .int 0, rv ad 5 (S.r 11 9 x0), rv ad 3 x2, rv ad 4 x1, .ref (ad 11 x0)]) (congrArg (fun z9 : Option Nat => [rv ad 9 z9, .int (S.i 5 1 j_14), .int 0, rv ad 5 (S.r 11 9 x0), rv ad 3 x2, rv ad 4 x1, .ref (ad 11 x0)]) hj_10) ?_
      refine va_get (D := D) (ci := 9) (v := .int (S.i 9 0 j_9)) (C := R_Va) (T := F_Va) (N := 10) hx hb hts i_Va hown hK hP (cPos N 9 j_9) (cw_obj (k := 9) (by decide) hl_11) rfl 0 (by decide) (hts _ kw_296) (fun _ h9 => h9) rfl d_cJT_writeValues_58 ?_
      refine tx_aload (x := (S.q 18 j_5 x4.toNatClampNeg).map (ad 9)) hx hb d_cJT_writeValues_61 (lv_at hl 1 rfl) ?_
      refine w_v (y := rv ad 9 (S.q 18 j_5 x4.toNatClampNeg)) rfl ?_
      refine w_s (st' := [.ref (ad 9 j_9), .int (S.i 9 0 j_9), .int (S.i 5 1 j_14), .int 0, rv ad 5 (S.r 11 9 x0), rv ad 3 x2, rv ad 4 x1, .ref (ad 11 x0)]) (congrArg (fun z9 : Option Nat => [rv ad 9 z9, .int (S.i 9 0 j_9), .int (S.i 5 1 j_14), .int 0, rv ad 5 (S.r 11 9 x0), rv ad 3 x2, rv ad 4 x1, .ref (ad 11 x0)]) hj_10) ?_
      refine va_get (D := D) (ci := 9) (v := .long (S.l 9 1 j_9)) (C := R_Va) (T := F_Va) (N := 10) hx hb hts i_Va hown hK hP (cPos N 9 j_9) (cw_obj (k := 9) (by decide) hl_11) rfl 1 (by decide) (hts _ kw_299) (fun _ h9 => h9) rfl d_cJT_writeValues_63 ?_
      refine w_s (st' := [.long (S.l 9 1 j_9), .int (S.i 9 0 j_9), .int (S.i 5 1 j_14), .int 0, .ref (ad 5 j_14), rv ad 3 x2, rv ad 4 x1, .ref (ad 11 x0)]) (congrArg (fun z9 : Option Nat => [.long (S.l 9 1 j_9), .int (S.i 9 0 j_9), .int (S.i 5 1 j_14), .int 0, rv ad 5 z9, rv ad 3 x2, rv ad 4 x1, .ref (ad 11 x0)]) hj_15) ?_
      obtain ⟨j_17, hj_18, hl_19, Heq⟩ := gn_some Heq
      refine w_s (st' := [.long (S.l 9 1 j_9), .int (S.i 9 0 j_9), .int (S.i 5 1 j_14), .int 0, .ref (ad 5 j_14), .ref (ad 3 j_17), rv ad 4 x1, .ref (ad 11 x0)]) (congrArg (fun z9 : Option Nat => [.long (S.l 9 1 j_9), .int (S.i 9 0 j_9), .int (S.i 5 1 j_14), .int 0, .ref (ad 5 j_14), rv ad 3 z9, rv ad 4 x1, .ref (ad 11 x0)]) hj_18) ?_
      obtain ⟨j_20, hj_21, hl_22, Heq⟩ := gn_some Heq
      refine w_s (st' := [.long (S.l 9 1 j_9), .int (S.i 9 0 j_9), .int (S.i 5 1 j_14), .int 0, .ref (ad 5 j_14), .ref (ad 3 j_17), .ref (ad 4 j_20), .ref (ad 11 x0)]) (congrArg (fun z9 : Option Nat => [.long (S.l 9 1 j_9), .int (S.i 9 0 j_9), .int (S.i 5 1 j_14), .int 0, .ref (ad 5 j_14), .ref (ad 3 j_17), rv ad 4 z9, .ref (ad 11 x0)]) hj_21) ?_
      have hl : lv_has ls 8 [(5, rv ad 9 (S.q 18 j_5 x4.toNatClampNeg)), (0, .ref (ad 11 x0)), (1, rv ad 4 x1), (2, rv ad 3 x2), (4, .int x4)] := lv_sub hl [1, 2, 3, 4, 6] rfl
      obtain ⟨N_25, S_26, v_27, a9, b9, a8, b8, h_24, Heq, e9a, e9b⟩ := oq_some Heq
      have hFc := fr_all hD hS hA
      refine va_callq (va_runV (As := [.ref (ad 4 j_20), .ref (ad 3 j_17), .ref (ad 5 j_14), .int 0, .int (S.i 5 1 j_14), .int (S.i 9 0 j_9), .long (S.l 9 1 j_9)]) (rest := []) ⟨hx, hb, hml, hown, hts⟩ (g_cJT_writeAtKey l D H.size (ad := ad) (cc := cc) (sad := sad) (sav := sav) h_24) (cw_v 7 hts kw_673 kw_670 kw_672 kp_10 kw_1 rfl rfl (by decide +kernel) ⟨Nat.le_of_ble_eq_true rfl, Nat.le_of_ble_eq_true rfl⟩) ⟨c_blind, va_recv hK hP (ci := 11) (q0 := cPos N 11 x0) rfl (cw_obj (k := 11) (by decide) hl_x0_11), fun U hU hW => c_pre hU hW hP hK hD hev hE hN hNS hS hFc⟩ rfl rfl hl.1 rfl (lv_room (Nat.le_of_ble_eq_true rfl)) d_cJT_writeValues_66 ⟨(Nat.le_trans (m := CT) (by omega) hCT), (Nat.le_trans (m := ST) (by omega) hST)⟩) hS (fun q _ h => hFc q h) hFc (fun rz ad t H1 locs ht hvm hw hB hz1 hk1 hS => ?_)
      obtain ⟨hX1, hP, -, hD1⟩ := hB
      rw [ht] at hP
      have hD := hD1.weaken (fun _ q _ h => hFc q.1 h)
      generalize H1 = H at hP hS ⊢
      subst hw
      refine w_v (y := rv ad 3 v_27) rfl ?_
      have hX := hX.tr hX1
      have hl : lv_has ls 8 [(5, rv ad 9 (S.q 18 j_5 x4.toNatClampNeg)), (0, .ref (ad 11 x0)), (1, rv ad 4 x1), (2, rv ad 3 x2), (4, .int x4)] := lv_cast hl (by first | rfl | simp only [hX1.rv (k := 9) (x := S.q 18 j_5 x4.toNatClampNeg) (fun _ q9 => by rw [hj_10] at q9; cases q9; exact hl_11), hX1.2 11 x0 hl_x0_11, hX1.rv (k := 4) (x := x1) (fun _ q9 => by rw [hj_21] at q9; cases q9; exact hl_22), hX1.rv (k := 3) (x := x2) (fun _ q9 => by rw [hj_18] at q9; cases q9; exact hl_19)])
      refine w_s (st' := [rv ad 3 v_27]) (by first | rfl | simp only [hX1.rv (k := 9) (x := S.q 18 j_5 x4.toNatClampNeg) (fun _ q9 => by rw [hj_10] at q9; cases q9; exact hl_11), hX1.2 11 x0 hl_x0_11, hX1.rv (k := 4) (x := x1) (fun _ q9 => by rw [hj_21] at q9; cases q9; exact hl_22), hX1.rv (k := 3) (x := x2) (fun _ q9 => by rw [hj_18] at q9; cases q9; exact hl_19)]) ?_
      have hl_x0_11 := Nat.lt_of_lt_of_le hl_x0_11 (hX1.1 11)
      have hl_3 := Nat.lt_of_lt_of_le hl_3 (hX1.1 1)
      have hl_7 := Nat.lt_of_lt_of_le hl_7 (hX1.1 18)
      have hl_11 := Nat.lt_of_lt_of_le hl_11 (hX1.1 9)
      have hl_16 := Nat.lt_of_lt_of_le hl_16 (hX1.1 5)
      have hl_19 := Nat.lt_of_lt_of_le hl_19 (hX1.1 3)
      have hl_22 := Nat.lt_of_lt_of_le hl_22 (hX1.1 4)
      refine tx_astore (x := v_27.map (ad 3)) (lv' := [(7, rv ad 3 v_27), (5, rv ad 9 (S.q 18 j_5 x4.toNatClampNeg)), (0, .ref (ad 11 x0)), (1, rv ad 4 x1), (2, rv ad 3 x2), (4, .int x4)]) hx hb d_cJT_writeValues_69 hl (by decide) rfl (fun ls hl => ?_)
      refine tx_aload (x := v_27.map (ad 3)) hx hb d_cJT_writeValues_71 (lv_at hl 0 rfl) ?_
      refine w_v (y := rv ad 3 v_27) rfl ?_
      obtain ⟨j_28, hj_29, hl_30, Heq⟩ := gn_some Heq
      refine w_s (st' := [.ref (ad 3 j_28)]) (congrArg (fun z9 : Option Nat => [rv ad 3 z9]) hj_29) ?_
      refine va_get (D := D) (ci := 3) (v := .int (S_26.i 3 0 j_28)) (C := R_Op) (T := F_Op) (N := 15) hx hb hts i_Op hown hK hP (cPos N_25 3 j_28) (cw_obj (k := 3) (by decide) hl_30) rfl 0 (by decide) (hts _ kw_52) (fun _ h9 => h9) rfl d_cJT_writeValues_73 ?_
      refine lv_istore_n (i := 3) (lv' := [(3, .int (S_26.i 3 0 j_28)), (7, rv ad 3 v_27), (5, rv ad 9 (S.q 18 j_5 x4.toNatClampNeg)), (0, .ref (ad 11 x0)), (1, rv ad 4 x1), (2, rv ad 3 x2), (4, .int x4)]) hx hb d_cJT_writeValues_76 rfl hl (by decide) (by simp [rv, rf_cat]) (fun ls hl => ?_)
      refine lv_goto (tgt := 166) hx hb d_cJT_writeValues_77 (by decide) ?_
      exact w_cJT_writeValues_J166 hC hCT hST Heq Ka K0 _ _ _ _ _ _ hX (by omega) (by omega) hP hD hS (lv_sub hl [3, 4, 5, 0, 6, 2, 1] rfl)
    · refine w_s (st' := [.ref (ad 9 j_12)]) (congrArg (fun z9 : Option Nat => [rv ad 9 z9]) hj_13) ?_
      refine lv_ifnonnull (tgt := 80) hx hb d_cJT_writeValues_38 (by decide) ?_
      refine tx_aload (x := (S.r 9 2 j_9).map (ad 9)) hx hb d_cJT_writeValues_80 (lv_at hl 0 rfl) ?_
      refine w_v (y := rv ad 9 (S.r 9 2 j_9)) rfl ?_
      refine w_s (st' := [.ref (ad 9 j_12)]) (congrArg (fun z9 : Option Nat => [rv ad 9 z9]) hj_13) ?_
      obtain ⟨hl_j_12_9, Heq⟩ := gl_some Heq
      refine va_get (D := D) (ci := 9) (v := .int (S.i 9 0 j_12)) (C := R_Va) (T := F_Va) (N := 10) hx hb hts i_Va hown hK hP (cPos N 9 j_12) (cw_obj (k := 9) (by decide) hl_j_12_9) rfl 0 (by decide) (hts _ kw_296) (fun _ h9 => h9) rfl d_cJT_writeValues_82 ?_
      refine lv_bipush (v := 6) hx hb d_cJT_writeValues_85 (by decide) ?_
      refine lv_icmp_ne (tgt := 132) hx hb d_cJT_writeValues_87 (by decide) (fun c_31 => ?_) (fun c_31 => ?_)
      · replace Heq := (if_neg c_31).symm.trans Heq
        refine lv_aload_n hx hb d_cJT_writeValues_132 rfl (lv_at hl 2 rfl) ?_
        refine tx_aload_n (x := x1.map (ad 4)) hx hb d_cJT_writeValues_133 rfl (lv_at hl 3 rfl) ?_
        refine w_v (y := rv ad 4 x1) rfl ?_
        refine tx_aload (x := (S.r 9 2 j_9).map (ad 9)) hx hb d_cJT_writeValues_134 (lv_at hl 0 rfl) ?_
        refine w_v (y := rv ad 9 (S.r 9 2 j_9)) rfl ?_
        refine w_s (st' := [.ref (ad 9 j_12), rv ad 4 x1, .ref (ad 11 x0)]) (congrArg (fun z9 : Option Nat => [rv ad 9 z9, rv ad 4 x1, .ref (ad 11 x0)]) hj_13) ?_
        refine va_get (D := D) (ci := 9) (v := rv ad 3 (S.r 9 8 j_12)) (C := R_Va) (T := F_Va) (N := 10) hx hb hts i_Va hown hK hP (cPos N 9 j_12) (cw_obj (k := 9) (by decide) hl_j_12_9) rfl 8 (by decide) (hts _ kw_318) (fun _ h9 => h9) rfl d_cJT_writeValues_136 ?_
        refine tx_aload (x := (S.r 9 2 j_9).map (ad 9)) hx hb d_cJT_writeValues_139 (lv_at hl 0 rfl) ?_
        refine w_v (y := rv ad 9 (S.r 9 2 j_9)) rfl ?_
        refine w_s (st' := [.ref (ad 9 j_12), rv ad 3 (S.r 9 8 j_12), rv ad 4 x1, .ref (ad 11 x0)]) (congrArg (fun z9 : Option Nat => [rv ad 9 z9, rv ad 3 (S.r 9 8 j_12), rv ad 4 x1, .ref (ad 11 x0)]) hj_13) ?_
        refine va_get (D := D) (ci := 9) (v := rv ad 3 (S.r 9 9 j_12)) (C := R_Va) (T := F_Va) (N := 10) hx hb hts i_Va hown hK hP (cPos N 9 j_12) (cw_obj (k := 9) (by decide) hl_j_12_9) rfl 9 (by decide) (hts _ kw_320) (fun _ h9 => h9) rfl d_cJT_writeValues_141 ?_
        refine tx_aload (x := (S.q 18 j_5 x4.toNatClampNeg).map (ad 9)) hx hb d_cJT_writeValues_144 (lv_at hl 1 rfl) ?_
        refine w_v (y := rv ad 9 (S.q 18 j_5 x4.toNatClampNeg)) rfl ?_
        refine w_s (st' := [.ref (ad 9 j_9), rv ad 3 (S.r 9 9 j_12), rv ad 3 (S.r 9 8 j_12), rv ad 4 x1, .ref (ad 11 x0)]) (congrArg (fun z9 : Option Nat => [rv ad 9 z9, rv ad 3 (S.r 9 9 j_12), rv ad 3 (S.r 9 8 j_12), rv ad 4 x1, .ref (ad 11 x0)]) hj_10) ?_
        refine va_get (D := D) (ci := 9) (v := .int (S.i 9 0 j_9)) (C := R_Va) (T := F_Va) (N := 10) hx hb hts i_Va hown hK hP (cPos N 9 j_9) (cw_obj (k := 9) (by decide) hl_11) rfl 0 (by decide) (hts _ kw_296) (fun _ h9 => h9) rfl d_cJT_writeValues_146 ?_
        refine tx_aload (x := (S.q 18 j_5 x4.toNatClampNeg).map (ad 9)) hx hb d_cJT_writeValues_149 (lv_at hl 1 rfl) ?_
        refine w_v (y := rv ad 9 (S.q 18 j_5 x4.toNatClampNeg)) rfl ?_
        refine w_s (st' := [.ref (ad 9 j_9), .int (S.i 9 0 j_9), rv ad 3 (S.r 9 9 j_12), rv ad 3 (S.r 9 8 j_12), rv ad 4 x1, .ref (ad 11 x0)]) (congrArg (fun z9 : Option Nat => [rv ad 9 z9, .int (S.i 9 0 j_9), rv ad 3 (S.r 9 9 j_12), rv ad 3 (S.r 9 8 j_12), rv ad 4 x1, .ref (ad 11 x0)]) hj_10) ?_
        refine va_get (D := D) (ci := 9) (v := .long (S.l 9 1 j_9)) (C := R_Va) (T := F_Va) (N := 10) hx hb hts i_Va hown hK hP (cPos N 9 j_9) (cw_obj (k := 9) (by decide) hl_11) rfl 1 (by decide) (hts _ kw_299) (fun _ h9 => h9) rfl d_cJT_writeValues_151 ?_
        obtain ⟨j_32, hj_33, hl_34, Heq⟩ := gn_some Heq
        refine w_s (st' := [.long (S.l 9 1 j_9), .int (S.i 9 0 j_9), rv ad 3 (S.r 9 9 j_12), .ref (ad 3 j_32), rv ad 4 x1, .ref (ad 11 x0)]) (congrArg (fun z9 : Option Nat => [.long (S.l 9 1 j_9), .int (S.i 9 0 j_9), rv ad 3 (S.r 9 9 j_12), rv ad 3 z9, rv ad 4 x1, .ref (ad 11 x0)]) hj_33) ?_
        obtain ⟨j_35, hj_36, hl_37, Heq⟩ := gn_some Heq
        refine w_s (st' := [.long (S.l 9 1 j_9), .int (S.i 9 0 j_9), rv ad 3 (S.r 9 9 j_12), .ref (ad 3 j_32), .ref (ad 4 j_35), .ref (ad 11 x0)]) (congrArg (fun z9 : Option Nat => [.long (S.l 9 1 j_9), .int (S.i 9 0 j_9), rv ad 3 (S.r 9 9 j_12), .ref (ad 3 j_32), rv ad 4 z9, .ref (ad 11 x0)]) hj_36) ?_
        obtain ⟨hv_38, Heq⟩ := gv_some Heq
        obtain ⟨N_41, S_42, v_43, a9, b9, a8, b8, h_40, Heq, e9a, e9b⟩ := oq_some Heq
        refine w_s (st' := [.long (S.l 9 1 j_9), .int (S.i 9 0 j_9), rv ad 3 (S.r 9 9 j_12), .ref (ad 3 j_32), .ref (ad 4 j_35), .ref (ad 11 x0)]) rfl ?_
        have hFc := fr_all hD hS hA
        refine va_callq (va_runV (As := [.ref (ad 4 j_35), .ref (ad 3 j_32), rv ad 3 (S.r 9 9 j_12), .int (S.i 9 0 j_9), .long (S.l 9 1 j_9)]) (rest := []) ⟨hx, hb, hml, hown, hts⟩ (g_cJT_writeBehind l D H.size (ad := ad) (cc := cc) (sad := sad) (sav := sav) h_40) (cw_v 5 hts kw_804 kw_801 kw_803 kp_16 kw_1 rfl rfl (by decide +kernel) ⟨Nat.le_of_ble_eq_true rfl, Nat.le_of_ble_eq_true rfl⟩) ⟨c_blind, va_recv hK hP (ci := 11) (q0 := cPos N 11 x0) rfl (cw_obj (k := 11) (by decide) hl_x0_11), fun U hU hW => c_pre hU hW hP hK hD hev hE hN hNS hS hFc⟩ rfl rfl hl.1 rfl (lv_room (Nat.le_of_ble_eq_true rfl)) d_cJT_writeValues_154 ⟨(Nat.le_trans (m := CT) (by omega) hCT), (Nat.le_trans (m := ST) (by omega) hST)⟩) hS (fun q _ h => hFc q h) hFc (fun rz ad t H1 locs ht hvm hw hB hz1 hk1 hS => ?_)
        obtain ⟨hX1, hP, -, hD1⟩ := hB
        rw [ht] at hP
        have hD := hD1.weaken (fun _ q _ h => hFc q.1 h)
        generalize H1 = H at hP hS ⊢
        subst hw
        refine w_v (y := rv ad 3 v_43) rfl ?_
        have hX := hX.tr hX1
        have hl : lv_has ls 8 [(6, rv ad 9 (S.r 9 2 j_9)), (5, rv ad 9 (S.q 18 j_5 x4.toNatClampNeg)), (0, .ref (ad 11 x0)), (1, rv ad 4 x1), (2, rv ad 3 x2), (3, .int x3), (4, .int x4)] := lv_cast hl (by first | rfl | simp only [hX1.rv (k := 9) (x := S.r 9 2 j_9) (fun _ q9 => by rw [hj_13] at q9; cases q9; exact hl_j_12_9), hX1.rv (k := 9) (x := S.q 18 j_5 x4.toNatClampNeg) (fun _ q9 => by rw [hj_10] at q9; cases q9; exact hl_11), hX1.2 11 x0 hl_x0_11, hX1.rv (k := 4) (x := x1) (fun _ q9 => by rw [hj_36] at q9; cases q9; exact hl_37), hX1.rv (k := 3) (x := x2) hv_38])
        refine w_s (st' := [rv ad 3 v_43]) (by first | rfl | simp only [hX1.rv (k := 9) (x := S.r 9 2 j_9) (fun _ q9 => by rw [hj_13] at q9; cases q9; exact hl_j_12_9), hX1.rv (k := 9) (x := S.q 18 j_5 x4.toNatClampNeg) (fun _ q9 => by rw [hj_10] at q9; cases q9; exact hl_11), hX1.2 11 x0 hl_x0_11, hX1.rv (k := 4) (x := x1) (fun _ q9 => by rw [hj_36] at q9; cases q9; exact hl_37), hX1.rv (k := 3) (x := x2) hv_38]) ?_
        have hl_x0_11 := Nat.lt_of_lt_of_le hl_x0_11 (hX1.1 11)
        have hl_3 := Nat.lt_of_lt_of_le hl_3 (hX1.1 1)
        have hl_7 := Nat.lt_of_lt_of_le hl_7 (hX1.1 18)
        have hl_11 := Nat.lt_of_lt_of_le hl_11 (hX1.1 9)
        have hl_j_12_9 := Nat.lt_of_lt_of_le hl_j_12_9 (hX1.1 9)
        have hl_34 := Nat.lt_of_lt_of_le hl_34 (hX1.1 3)
        have hl_37 := Nat.lt_of_lt_of_le hl_37 (hX1.1 4)
        have hv_38 := fun j9 q9 => Nat.lt_of_lt_of_le (hv_38 j9 q9) (hX1.1 3)
        refine tx_astore (x := v_43.map (ad 3)) (lv' := [(7, rv ad 3 v_43), (6, rv ad 9 (S.r 9 2 j_9)), (5, rv ad 9 (S.q 18 j_5 x4.toNatClampNeg)), (0, .ref (ad 11 x0)), (1, rv ad 4 x1), (2, rv ad 3 x2), (3, .int x3), (4, .int x4)]) hx hb d_cJT_writeValues_157 hl (by decide) (by simp [rv, rf_cat]) (fun ls hl => ?_)
        refine tx_aload (x := (S.r 9 2 j_9).map (ad 9)) hx hb d_cJT_writeValues_159 (lv_at hl 1 rfl) ?_
        refine w_v (y := rv ad 9 (S.r 9 2 j_9)) rfl ?_
        refine tx_aload (x := v_43.map (ad 3)) hx hb d_cJT_writeValues_161 (lv_at hl 0 rfl) ?_
        refine w_v (y := rv ad 3 v_43) rfl ?_
        refine w_s (st' := [rv ad 3 v_43, .ref (ad 9 j_12)]) (congrArg (fun z9 : Option Nat => [rv ad 3 v_43, rv ad 9 z9]) hj_13) ?_
        refine w_v (y := rv ad 3 v_43) rfl ?_
        refine va_put (D := D) (ci := 9) (v := rv ad 3 v_43) (ty := .object "JoinedTrees$Op") (C := R_Va) (T := F_Va) (N := 10) hx hb hts i_Va t_Va t_Va_ok n_Va hown hK hP hD hS (cPos N_41 9 j_12) (cw_obj (k := 9) (by decide) hl_j_12_9) rfl 9 (by decide) (hts _ kw_320) (fun _ h9 => h9) rfl (by decide +kernel) (rv_nar (Or.inl ⟨_, rfl⟩)) (rv_fit (Or.inl ⟨_, rfl⟩)) (Nat.le_of_ble_eq_true rfl) d_cJT_writeValues_163 (fun H locs hP hD hS => ?_)
        have hD := (congrArg (fun w9 => va_D A w9) (cw_setR (ad := ad) (cc := cc) (S := S_42) (k := 9) (f := 9) (t := 3) (v := v_43) (by decide) rfl hl_j_12_9)).mp hD
        have hP := (congrArg (fun w9 => va_P D cls w9 H) (cw_setR (ad := ad) (cc := cc) (S := S_42) (k := 9) (f := 9) (t := 3) (v := v_43) (by decide) rfl hl_j_12_9)).mp hP
        exact w_cJT_writeValues_J166 hC hCT hST Heq Ka K0 _ _ _ _ _ _ hX (by omega) (by omega) hP hD hS (lv_sub hl [3, 4, 5, 6, 7, 2, 0] rfl)
      · replace Heq := (if_pos c_31).symm.trans Heq
        refine lv_aload_n hx hb d_cJT_writeValues_90 rfl (lv_at hl 2 rfl) ?_
        refine tx_aload_n (x := x1.map (ad 4)) hx hb d_cJT_writeValues_91 rfl (lv_at hl 3 rfl) ?_
        refine w_v (y := rv ad 4 x1) rfl ?_
        refine tx_aload (x := (S.r 9 2 j_9).map (ad 9)) hx hb d_cJT_writeValues_92 (lv_at hl 0 rfl) ?_
        refine w_v (y := rv ad 9 (S.r 9 2 j_9)) rfl ?_
        refine w_s (st' := [.ref (ad 9 j_12), rv ad 4 x1, .ref (ad 11 x0)]) (congrArg (fun z9 : Option Nat => [rv ad 9 z9, rv ad 4 x1, .ref (ad 11 x0)]) hj_13) ?_
        refine va_get (D := D) (ci := 9) (v := rv ad 3 (S.r 9 8 j_12)) (C := R_Va) (T := F_Va) (N := 10) hx hb hts i_Va hown hK hP (cPos N 9 j_12) (cw_obj (k := 9) (by decide) hl_j_12_9) rfl 8 (by decide) (hts _ kw_318) (fun _ h9 => h9) rfl d_cJT_writeValues_94 ?_
        refine lv_aload_n hx hb d_cJT_writeValues_97 rfl (lv_at hl 2 rfl) ?_
        refine va_get (D := D) (ci := 11) (v := rv ad 1 (S.r 11 3 x0)) (C := R_JT) (T := F_JT) (N := 13) hx hb hts i_JT hown hK hP (cPos N 11 x0) (cw_obj (k := 11) (by decide) hl_x0_11) rfl 3 (by decide) (hts _ kw_424) (fun _ h9 => h9) rfl d_cJT_writeValues_98 ?_
        refine w_s (st' := [.ref (ad 1 j_1), rv ad 3 (S.r 9 8 j_12), rv ad 4 x1, .ref (ad 11 x0)]) (congrArg (fun z9 : Option Nat => [rv ad 1 z9, rv ad 3 (S.r 9 8 j_12), rv ad 4 x1, .ref (ad 11 x0)]) hj_2) ?_
        refine va_get (D := D) (ci := 1) (v := rv ad 5 (S.r 1 1 j_1)) (C := R_Rd) (T := F_Rd) (N := 10) hx hb hts i_Rd hown hK hP (cPos N 1 j_1) (cw_obj (k := 1) (by decide) hl_3) rfl 1 (by decide) (hts _ kw_345) (fun _ h9 => h9) rfl d_cJT_writeValues_101 ?_
        refine tx_aload (x := (S.q 18 j_5 x4.toNatClampNeg).map (ad 9)) hx hb d_cJT_writeValues_104 (lv_at hl 1 rfl) ?_
        refine w_v (y := rv ad 9 (S.q 18 j_5 x4.toNatClampNeg)) rfl ?_
        refine w_s (st' := [.ref (ad 9 j_9), rv ad 5 (S.r 1 1 j_1), rv ad 3 (S.r 9 8 j_12), rv ad 4 x1, .ref (ad 11 x0)]) (congrArg (fun z9 : Option Nat => [rv ad 9 z9, rv ad 5 (S.r 1 1 j_1), rv ad 3 (S.r 9 8 j_12), rv ad 4 x1, .ref (ad 11 x0)]) hj_10) ?_
        refine va_get (D := D) (ci := 9) (v := .int (S.i 9 3 j_9)) (C := R_Va) (T := F_Va) (N := 10) hx hb hts i_Va hown hK hP (cPos N 9 j_9) (cw_obj (k := 9) (by decide) hl_11) rfl 3 (by decide) (hts _ kw_305) (fun _ h9 => h9) rfl d_cJT_writeValues_106 ?_
        refine tx_aload (x := (S.q 18 j_5 x4.toNatClampNeg).map (ad 9)) hx hb d_cJT_writeValues_109 (lv_at hl 1 rfl) ?_
        refine w_v (y := rv ad 9 (S.q 18 j_5 x4.toNatClampNeg)) rfl ?_
        refine w_s (st' := [.ref (ad 9 j_9), .int (S.i 9 3 j_9), rv ad 5 (S.r 1 1 j_1), rv ad 3 (S.r 9 8 j_12), rv ad 4 x1, .ref (ad 11 x0)]) (congrArg (fun z9 : Option Nat => [rv ad 9 z9, .int (S.i 9 3 j_9), rv ad 5 (S.r 1 1 j_1), rv ad 3 (S.r 9 8 j_12), rv ad 4 x1, .ref (ad 11 x0)]) hj_10) ?_
        refine va_get (D := D) (ci := 9) (v := .int (S.i 9 4 j_9)) (C := R_Va) (T := F_Va) (N := 10) hx hb hts i_Va hown hK hP (cPos N 9 j_9) (cw_obj (k := 9) (by decide) hl_11) rfl 4 (by decide) (hts _ kw_308) (fun _ h9 => h9) rfl d_cJT_writeValues_111 ?_
        refine tx_aload (x := (S.q 18 j_5 x4.toNatClampNeg).map (ad 9)) hx hb d_cJT_writeValues_114 (lv_at hl 1 rfl) ?_
        refine w_v (y := rv ad 9 (S.q 18 j_5 x4.toNatClampNeg)) rfl ?_
        refine w_s (st' := [.ref (ad 9 j_9), .int (S.i 9 4 j_9), .int (S.i 9 3 j_9), rv ad 5 (S.r 1 1 j_1), rv ad 3 (S.r 9 8 j_12), rv ad 4 x1, .ref (ad 11 x0)]) (congrArg (fun z9 : Option Nat => [rv ad 9 z9, .int (S.i 9 4 j_9), .int (S.i 9 3 j_9), rv ad 5 (S.r 1 1 j_1), rv ad 3 (S.r 9 8 j_12), rv ad 4 x1, .ref (ad 11 x0)]) hj_10) ?_
        refine va_get (D := D) (ci := 9) (v := .int (S.i 9 0 j_9)) (C := R_Va) (T := F_Va) (N := 10) hx hb hts i_Va hown hK hP (cPos N 9 j_9) (cw_obj (k := 9) (by decide) hl_11) rfl 0 (by decide) (hts _ kw_296) (fun _ h9 => h9) rfl d_cJT_writeValues_116 ?_
        refine tx_aload (x := (S.q 18 j_5 x4.toNatClampNeg).map (ad 9)) hx hb d_cJT_writeValues_119 (lv_at hl 1 rfl) ?_
        refine w_v (y := rv ad 9 (S.q 18 j_5 x4.toNatClampNeg)) rfl ?_
        refine w_s (st' := [.ref (ad 9 j_9), .int (S.i 9 0 j_9), .int (S.i 9 4 j_9), .int (S.i 9 3 j_9), rv ad 5 (S.r 1 1 j_1), rv ad 3 (S.r 9 8 j_12), rv ad 4 x1, .ref (ad 11 x0)]) (congrArg (fun z9 : Option Nat => [rv ad 9 z9, .int (S.i 9 0 j_9), .int (S.i 9 4 j_9), .int (S.i 9 3 j_9), rv ad 5 (S.r 1 1 j_1), rv ad 3 (S.r 9 8 j_12), rv ad 4 x1, .ref (ad 11 x0)]) hj_10) ?_
        refine va_get (D := D) (ci := 9) (v := .long (S.l 9 1 j_9)) (C := R_Va) (T := F_Va) (N := 10) hx hb hts i_Va hown hK hP (cPos N 9 j_9) (cw_obj (k := 9) (by decide) hl_11) rfl 1 (by decide) (hts _ kw_299) (fun _ h9 => h9) rfl d_cJT_writeValues_121 ?_
        obtain ⟨j_44, hj_45, hl_46, Heq⟩ := gn_some Heq
        refine w_s (st' := [.long (S.l 9 1 j_9), .int (S.i 9 0 j_9), .int (S.i 9 4 j_9), .int (S.i 9 3 j_9), .ref (ad 5 j_44), rv ad 3 (S.r 9 8 j_12), rv ad 4 x1, .ref (ad 11 x0)]) (congrArg (fun z9 : Option Nat => [.long (S.l 9 1 j_9), .int (S.i 9 0 j_9), .int (S.i 9 4 j_9), .int (S.i 9 3 j_9), rv ad 5 z9, rv ad 3 (S.r 9 8 j_12), rv ad 4 x1, .ref (ad 11 x0)]) hj_45) ?_
        obtain ⟨j_47, hj_48, hl_49, Heq⟩ := gn_some Heq
        refine w_s (st' := [.long (S.l 9 1 j_9), .int (S.i 9 0 j_9), .int (S.i 9 4 j_9), .int (S.i 9 3 j_9), .ref (ad 5 j_44), .ref (ad 3 j_47), rv ad 4 x1, .ref (ad 11 x0)]) (congrArg (fun z9 : Option Nat => [.long (S.l 9 1 j_9), .int (S.i 9 0 j_9), .int (S.i 9 4 j_9), .int (S.i 9 3 j_9), .ref (ad 5 j_44), rv ad 3 z9, rv ad 4 x1, .ref (ad 11 x0)]) hj_48) ?_
        obtain ⟨j_50, hj_51, hl_52, Heq⟩ := gn_some Heq
        refine w_s (st' := [.long (S.l 9 1 j_9), .int (S.i 9 0 j_9), .int (S.i 9 4 j_9), .int (S.i 9 3 j_9), .ref (ad 5 j_44), .ref (ad 3 j_47), .ref (ad 4 j_50), .ref (ad 11 x0)]) (congrArg (fun z9 : Option Nat => [.long (S.l 9 1 j_9), .int (S.i 9 0 j_9), .int (S.i 9 4 j_9), .int (S.i 9 3 j_9), .ref (ad 5 j_44), .ref (ad 3 j_47), rv ad 4 z9, .ref (ad 11 x0)]) hj_51) ?_
        have hl : lv_has ls 8 [(5, rv ad 9 (S.q 18 j_5 x4.toNatClampNeg)), (0, .ref (ad 11 x0)), (1, rv ad 4 x1), (2, rv ad 3 x2), (3, .int x3), (4, .int x4)] := lv_sub hl [1, 2, 3, 4, 5, 6] rfl
        obtain ⟨hv_53, Heq⟩ := gv_some Heq
        obtain ⟨N_56, S_57, v_58, a9, b9, a8, b8, h_55, Heq, e9a, e9b⟩ := oq_some Heq
        have hFc := fr_all hD hS hA
        refine va_callq (va_runV (As := [.ref (ad 4 j_50), .ref (ad 3 j_47), .ref (ad 5 j_44), .int (S.i 9 3 j_9), .int (S.i 9 4 j_9), .int (S.i 9 0 j_9), .long (S.l 9 1 j_9)]) (rest := []) ⟨hx, hb, hml, hown, hts⟩ (g_cJT_writeAtKey l D H.size (ad := ad) (cc := cc) (sad := sad) (sav := sav) h_55) (cw_v 7 hts kw_673 kw_670 kw_672 kp_10 kw_1 rfl rfl (by decide +kernel) ⟨Nat.le_of_ble_eq_true rfl, Nat.le_of_ble_eq_true rfl⟩) ⟨c_blind, va_recv hK hP (ci := 11) (q0 := cPos N 11 x0) rfl (cw_obj (k := 11) (by decide) hl_x0_11), fun U hU hW => c_pre hU hW hP hK hD hev hE hN hNS hS hFc⟩ rfl rfl hl.1 rfl (lv_room (Nat.le_of_ble_eq_true rfl)) d_cJT_writeValues_124 ⟨(Nat.le_trans (m := CT) (by omega) hCT), (Nat.le_trans (m := ST) (by omega) hST)⟩) hS (fun q _ h => hFc q h) hFc (fun rz ad t H1 locs ht hvm hw hB hz1 hk1 hS => ?_)
        obtain ⟨hX1, hP, -, hD1⟩ := hB
        rw [ht] at hP
        have hD := hD1.weaken (fun _ q _ h => hFc q.1 h)
        generalize H1 = H at hP hS ⊢
        subst hw
        refine w_v (y := rv ad 3 v_58) rfl ?_
        have hX := hX.tr hX1
        have hl : lv_has ls 8 [(5, rv ad 9 (S.q 18 j_5 x4.toNatClampNeg)), (0, .ref (ad 11 x0)), (1, rv ad 4 x1), (2, rv ad 3 x2), (3, .int x3), (4, .int x4)] := lv_cast hl (by first | rfl | simp only [hX1.rv (k := 9) (x := S.q 18 j_5 x4.toNatClampNeg) (fun _ q9 => by rw [hj_10] at q9; cases q9; exact hl_11), hX1.2 11 x0 hl_x0_11, hX1.rv (k := 4) (x := x1) (fun _ q9 => by rw [hj_51] at q9; cases q9; exact hl_52), hX1.rv (k := 3) (x := x2) hv_53])
        refine w_s (st' := [rv ad 3 v_58]) (by first | rfl | simp only [hX1.rv (k := 9) (x := S.q 18 j_5 x4.toNatClampNeg) (fun _ q9 => by rw [hj_10] at q9; cases q9; exact hl_11), hX1.2 11 x0 hl_x0_11, hX1.rv (k := 4) (x := x1) (fun _ q9 => by rw [hj_51] at q9; cases q9; exact hl_52), hX1.rv (k := 3) (x := x2) hv_53]) ?_
        have hl_x0_11 := Nat.lt_of_lt_of_le hl_x0_11 (hX1.1 11)
        have hl_3 := Nat.lt_of_lt_of_le hl_3 (hX1.1 1)
        have hl_7 := Nat.lt_of_lt_of_le hl_7 (hX1.1 18)
        have hl_11 := Nat.lt_of_lt_of_le hl_11 (hX1.1 9)
        have hl_j_12_9 := Nat.lt_of_lt_of_le hl_j_12_9 (hX1.1 9)
        have hl_46 := Nat.lt_of_lt_of_le hl_46 (hX1.1 5)
        have hl_49 := Nat.lt_of_lt_of_le hl_49 (hX1.1 3)
        have hl_52 := Nat.lt_of_lt_of_le hl_52 (hX1.1 4)
        have hv_53 := fun j9 q9 => Nat.lt_of_lt_of_le (hv_53 j9 q9) (hX1.1 3)
        refine tx_astore (x := v_58.map (ad 3)) (lv' := [(7, rv ad 3 v_58), (5, rv ad 9 (S.q 18 j_5 x4.toNatClampNeg)), (0, .ref (ad 11 x0)), (1, rv ad 4 x1), (2, rv ad 3 x2), (3, .int x3), (4, .int x4)]) hx hb d_cJT_writeValues_127 hl (by decide) rfl (fun ls hl => ?_)
        refine lv_goto (tgt := 166) hx hb d_cJT_writeValues_129 (by decide) ?_
        exact w_cJT_writeValues_J166 hC hCT hST Heq Ka K0 _ _ _ _ _ _ hX (by omega) (by omega) hP hD hS (lv_sub hl [2, 3, 4, 5, 6, 1, 0] rfl)
noncomputable def m_cJT_writeValues_L5 (N : Nat → Nat) (x0 : Nat) (S : CS) (x1 : Option Nat) (x2 : Option Nat) (x3 : Int32) (x4 : Int32) : Option (((Nat → Nat) × CS × Int32) × Nat × Nat) := lpA (fun a : (Nat → Nat) × CS × Option Nat × Option Nat × Int32 × Int32 => m_cJT_writeValues_B5 a.1 x0 a.2.1 a.2.2.1 a.2.2.2.1 a.2.2.2.2.1 a.2.2.2.2.2) FU (N, S, x1, x2, x3, x4)
set_option maxHeartbeats 4000000 in
theorem w_cJT_writeValues_L5 {p : Program} {l : Launch} {e : Env} {s : State} {m : MethodId} {args : Array Value} {below : List Frame} {meth : Method} {c : Code} {A : Nat → Prop} {D : va_G} {cc : Nat → ClassId} {sad sav : Nat → Nat} {Q : State → Prop} {ad0 : Nat → Nat → Nat} {N0 : Nat → Nat} {CT ST cR sR : Nat} (hC : MCc sad sav "JoinedTrees" prog_1_method_52_code 8 (some .int) p s m args meth c A D cc) (hCT : CT ≤ cR) (hST : ST ≤ sR) {N : Nat → Nat} {x0 : Nat} {S : CS} {x1 : Option Nat} {x2 : Option Nat} {x3 : Int32} {x4 : Int32} {o : (Nat → Nat) × CS × Int32} {oc os : Nat} (Heq : m_cJT_writeValues_L5 N x0 S x1 x2 x3 x4 = some (o, oc, os)) (K0 : ∀ (N : Nat → Nat) (b : CS × Int32), o = (N, b) → ∀ (ad : Nat → Nat → Nat) (H : Heap) (locs : List Loc) (ls : Array Slot), Ext ad0 N0 ad N → va_P D cls (cw ad cc N b.1) H → va_D A (cw ad cc N b.1) → va_S A s.heap H locs → lv_has ls 8 [(0, .ref (ad 11 x0)), (3, .int b.2)] → W p l e ({ frames := 5, cells := cR, slots := sR, locals := 132 }) s m args below meth c H locs CT ST Q (F0 m 214 ls [])) : ∀ (ad : Nat → Nat → Nat) (H : Heap) (locs : List Loc) (ls : Array Slot) (cells slots : Nat), Ext ad0 N0 ad N → cells + oc = CT → slots + os = ST → va_P D cls (cw ad cc N S) H → va_D A (cw ad cc N S) → va_S A s.heap H locs → lv_has ls 8 [(0, .ref (ad 11 x0)), (1, rv ad 4 x1), (2, rv ad 3 x2), (3, .int x3), (4, .int x4)] → W p l e ({ frames := 5, cells := cR, slots := sR, locals := 132 }) s m args below meth c H locs cells slots Q (F0 m 5 ls []) := by
  refine lpA_w2 (e := o) (G := fun (a : (Nat → Nat) × CS × Option Nat × Option Nat × Int32 × Int32) u9 v9 => ∀ (ad : Nat → Nat → Nat) (H : Heap) (locs : List Loc) (ls : Array Slot) (cells slots : Nat), Ext ad0 N0 ad a.1 → cells + u9 = CT → slots + v9 = ST → va_P D cls (cw ad cc a.1 a.2.1) H → va_D A (cw ad cc a.1 a.2.1) → va_S A s.heap H locs → lv_has ls 8 [(0, .ref (ad 11 x0)), (1, rv ad 4 a.2.2.1), (2, rv ad 3 a.2.2.2.1), (3, .int a.2.2.2.2.1), (4, .int a.2.2.2.2.2)] → W p l e ({ frames := 5, cells := cR, slots := sR, locals := 132 }) s m args below meth c H locs cells slots Q (F0 m 5 ls [])) ?_ FU (N, S, x1, x2, x3, x4) oc os Heq
  intro a o1 c9 s9 u9 v9 ho hc9 hs9 Ka Ke ad H locs ls cells slots hX hcu hsu hP hD hS hl
  refine w_cJT_writeValues_B5 (CT := cells + c9) (ST := slots + s9) hC (Nat.le_trans (m := CT) (by omega) hCT) (Nat.le_trans (m := ST) (by omega) hST) ho (fun N b h => ?_) (fun N b h => ?_) _ _ _ _ _ _ hX rfl rfl hP hD hS hl
  · obtain ⟨u1, v1, h1, h2, h3⟩ := Ka _ h
    intro ad H locs ls hX hP hD hS hl
    exact h3 ad H locs ls _ _ hX (by omega) (by omega) hP hD hS hl
  · obtain ⟨h1, h2, h3⟩ := Ke _ h
    intro ad H locs ls hX hP hD hS hl
    refine W.cs (cells' := CT) (slots' := ST) (by omega) (by omega) ?_
    exact K0 N b h1.symm ad H locs ls hX hP hD hS hl
noncomputable def m_cJT_writeValues_J0 (N : Nat → Nat) (x0 : Nat) (S : CS) (x1 : Nat) (x2 : Nat) : Option (((Nat → Nat) × CS × Int32) × Nat × Nat) := ov (m_cJT_writeValues_L5 N x0 S (some x1) (some x2) 0 0) (fun N_1 b_2 => some ((N_1, b_2.1, b_2.2), 0, 0))
theorem d_cJT_writeValues_214 : decode prog_1_method_52_code 214 = .ok (.iload_n 3, 1) := by decide +kernel
theorem d_cJT_writeValues_215 : decode prog_1_method_52_code 215 = .ok (.ireturn, 1) := by decide +kernel
set_option maxHeartbeats 4000000 in
set_option maxRecDepth 100000 in
theorem w_cJT_writeValues_J0 {p : Program} {l : Launch} {e : Env} {s : State} {m : MethodId} {args : Array Value} {below : List Frame} {meth : Method} {c : Code} {A : Nat → Prop} {D : va_G} {cc : Nat → ClassId} {sad sav : Nat → Nat} {Q : State → Prop} {ad0 : Nat → Nat → Nat} {N0 : Nat → Nat} {CT ST cR sR : Nat} (hC : MCc sad sav "JoinedTrees" prog_1_method_52_code 8 (some .int) p s m args meth c A D cc) (hCT : CT ≤ cR) (hST : ST ≤ sR) {N : Nat → Nat} {x0 : Nat} {S : CS} {x1 : Nat} {x2 : Nat} {o : (Nat → Nat) × CS × Int32} {oc os : Nat} (Heq : m_cJT_writeValues_J0 N x0 S x1 x2 = some (o, oc, os)) (Kr : ∀ r : (Nat → Nat) × CS × Int32, o = r → ∀ (pc : Nat) (ad : Nat → Nat → Nat) (H : Heap) (locs : List Loc) (ls : Array Slot), decode prog_1_method_52_code pc = .ok (.ireturn, 1) → Ext ad0 N0 ad (r.1) → va_P D cls (cw ad cc r.1 r.2.1) H → va_D A (cw ad cc r.1 r.2.1) → va_S A s.heap H locs → W p l e ({ frames := 5, cells := cR, slots := sR, locals := 132 }) s m args below meth c H locs CT ST Q (F0 m pc ls [.int r.2.2])) : ∀ (ad : Nat → Nat → Nat) (H : Heap) (locs : List Loc) (ls : Array Slot) (cells slots : Nat), Ext ad0 N0 ad N → cells + oc = CT → slots + os = ST → va_P D cls (cw ad cc N S) H → va_D A (cw ad cc N S) → va_S A s.heap H locs → lv_has ls 8 [(0, .ref (ad 11 x0)), (1, .ref (ad 4 x1)), (2, .ref (ad 3 x2))] → W p l e ({ frames := 5, cells := cR, slots := sR, locals := 132 }) s m args below meth c H locs cells slots Q (F0 m 0 ls []) := by
  intro ad H locs ls cells slots hX hcu hsu hP hD hS hl
  obtain ⟨hx, hb, hr, hml, hown, hts, hK, hA, hev, hE, hN, hNS⟩ := id hC
  unfold m_cJT_writeValues_J0 at Heq
  refine lv_iconst (v := 0) hx hb d_cJT_writeValues_0 (by decide) ?_
  refine lv_istore_n (lv' := [(3, .int 0), (0, .ref (ad 11 x0)), (1, .ref (ad 4 x1)), (2, .ref (ad 3 x2))]) hx hb d_cJT_writeValues_1 rfl hl (by decide) rfl (fun ls hl => ?_)
  refine lv_iconst (v := 0) hx hb d_cJT_writeValues_2 (by decide) ?_
  refine lv_istore (lv' := [(4, .int 0), (3, .int 0), (0, .ref (ad 11 x0)), (1, .ref (ad 4 x1)), (2, .ref (ad 3 x2))]) hx hb d_cJT_writeValues_3 hl (by decide) rfl (fun ls hl => ?_)
  obtain ⟨N_1, b_2, a9, b9, a8, b8, h_3, Heq, e9a, e9b⟩ := ov_some Heq
  refine w_cJT_writeValues_L5 hC (Nat.le_trans (m := CT) (by omega) hCT) (Nat.le_trans (m := ST) (by omega) hST) h_3 (fun N9 b9 h9 => ?_) _ _ _ _ _ _ hX rfl rfl hP hD hS (lv_sub hl [2, 3, 4, 1, 0] rfl)
  cases h9
  intro ad H locs ls hX hP hD hS hl
  refine lv_iload_n hx hb d_cJT_writeValues_214 rfl (lv_at hl 1 rfl) ?_
  obtain ⟨e9, e9a, e9b⟩ := tri Heq
  refine W.cs (cells' := CT) (slots' := ST) (by omega) (by omega) ?_
  exact Kr _ e9 215 _ _ _ _ d_cJT_writeValues_215 hX hP hD hS
noncomputable def m_cJT_writeValues (N : Nat → Nat) (x0 : Nat) (S : CS) (x1 : Nat) (x2 : Nat) : Option (((Nat → Nat) × CS × Int32) × Nat × Nat) := m_cJT_writeValues_J0 N x0 S x1 x2
set_option maxHeartbeats 4000000 in
theorem g_cJT_writeValues (l : Launch) (D : va_G) (sz : Nat) {ad : Nat → Nat → Nat} {cc : Nat → ClassId} {sad sav : Nat → Nat} {N : Nat → Nat} {x0 : Nat} {S : CS} {x1 : Nat} {x2 : Nat} {o : (Nat → Nat) × CS × Int32} {oc os : Nat} (Heq : m_cJT_writeValues N x0 S x1 x2 = some (o, oc, os)) : Met l ⟨"JoinedTrees", "writeValues", "(LJoinedTrees$Replica;LJoinedTrees$Op;)I"⟩ (Cond.code ⟨"JoinedTrees", "writeValues", "(LJoinedTrees$Replica;LJoinedTrees$Op;)I"⟩ prog_1_method_52_code 8 (some .int) :: gb) ({ frames := 5, cells := oc, slots := os, locals := 132 }) (cPc sad sav D (cw ad cc N S) (cty cc) sz [.ref (ad 11 x0), .ref (ad 4 x1), .ref (ad 3 x2)]) (va_Qi (fun (r : Int32) (_ : Nat → Nat → Nat) => r = o.2.2) (fun (u : Nat → Nat → Nat) t => Ext ad N u o.1 ∧ gO D (cw u cc o.1 o.2.1) (cty cc) (va_A (cw ad cc N S) sz) t) (va_A (cw ad cc N S) sz)) oc os (va_A (cw ad cc N S) sz) := by
  refine Met.ofW (cc := prog_1_method_52_code) (maxL := 8) (ret := (some .int)) (by decide) rfl ?_
  intro p e s m args below meth c s₁ B hml hv
  obtain ⟨rfl, hsz, hP, hK, hD0, hev, hE, hN⟩ := hv
  have hx := B.exec
  have hb := B.bytes
  have hr := B.returns
  have hts : ∀ w9 ∈ gb, w9.before [.ref (ad 11 x0), .ref (ad 4 x1), .ref (ad 3 x2)].toArray s = true := fun w9 h => atoms_spec (ws := Cond.code ⟨"JoinedTrees", "writeValues", "(LJoinedTrees$Replica;LJoinedTrees$Op;)I"⟩ prog_1_method_52_code 8 (some .int) :: gb) B.pre w9 (List.mem_cons_of_mem _ h)
  have hown : s.vm.findClass "JoinedTrees" = some m.cls := findClass_of_methodNamed B.named
  have hlocks := B.notSynchronized
  have hNS := ns_of hP
  subst hsz
  have hD := hD0.self (sz := s.heap.size)
  generalize hAe : va_A (cw ad cc N S) s.heap.size = A at hD hev hE hNS ⊢
  have hA : ∀ q : Nat, s.heap.size ≤ q → A q := fun q h => by rw [← hAe]; exact Or.inr h
  have hS : va_S A s.heap s.heap [] := va_S.rf
  obtain ⟨ls, hl, hle⟩ : ∃ ls : Array Slot, lv_has ls 8 [(0, .ref (ad 11 x0)), (1, .ref (ad 4 x1)), (2, .ref (ad 3 x2))] ∧ entryFrame m ([.ref (ad 11 x0), .ref (ad 4 x1), .ref (ad 3 x2)] : List Value).toArray 8 = F0 m 0 ls [] := by
    exact ⟨_, lv_entry (n := 8) _ (Nat.le_of_ble_eq_true rfl), lg_entry_eq ..⟩
  rw [hle]
  refine w_cJT_writeValues_J0 (ad0 := ad) (N0 := N) (CT := oc) (ST := os) (cR := oc) (sR := os) ⟨hx, hb, hr, hml, hown, hts, hK, hA, hev, hE, hN, hNS⟩ (Nat.le_refl _) (Nat.le_refl _) Heq (fun r h pc ad1 H locs ls hd hX hP hD hS => ?_) _ _ _ _ 0 0 Ext.rf (Nat.zero_add _) (Nat.zero_add _) hP hD hS (lv_sub hl [0, 1, 2] rfl)
  subst h
  exact W.iret hx hb hr (fun t ht hW => ⟨⟨_, ad1, rfl, rfl, hX, by rw [ht]; exact hP, va_K.moved hW.alike hK, hD⟩, hS.F ht⟩) hS.2.2 hd
