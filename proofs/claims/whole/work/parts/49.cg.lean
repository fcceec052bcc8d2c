noncomputable def m_cJT_read_J0 (N : Nat → Nat) (x0 : Nat) (S : CS) (x1 : Int32) (x2 : Int32) : Option ((((Nat → Nat) × CS × Int32) ⊕ ((Nat → Nat) × CS × Nat)) × Nat × Nat) := gl x0 (N 11) (ob (m_cJT_takeArguments N x0 S) (fun o_1 => oe (m_cJT_shown N x0 o_1.1 x1) (fun o_3 => (if o_1.2 = 2 then oe (m_cJT_needKey N x0 o_3.1) (fun o_7 => gn (o_7.r 11 10 x0) (N 5) (fun j_10 => gn (o_7.r 11 3 x0) (N 1) (fun j_13 => ob (m_cRd_parse N j_13 o_7 j_10) (fun o_16 => (if o_16.2 = 0 then gn (o_16.1.r 11 3 x0) (N 1) (fun j_48 => some ((.inr (N, (o_16.1.setI 11 12 x0 (o_16.1.i 1 4 j_48)), 1)), 1, 6)) else oe (m_cJT_mapAt N x0 o_16.1 x2) (fun o_19 => gn o_3.2 (N 4) (fun j_22 => oe (m_cJT_needAll N x0 o_19.1 j_22) (fun o_25 => gn (o_25.r 11 3 x0) (N 1) (fun j_28 => gn (o_25.r 11 9 x0) (N 5) (fun j_31 => gn (o_25.r 1 1 j_28) (N 5) (fun j_34 => oe (m_cJT_needRoom N x0 o_25 (o_25.i 1 3 j_28) ((o_25.i 5 1 j_31) + (o_25.i 5 1 j_34))) (fun o_37 => gn o_19.2 (N 3) (fun j_40 => oq (m_cJT_writeValues N x0 o_37 j_22 j_40) (fun N_45 S_46 v_47 => some ((.inl (N_45, S_46, v_47)), 0, 0)))) (fun t_39 => some ((.inr (N, t_39.1, t_39.2)), 1, 6)))))) (fun t_27 => some ((.inr (N, t_27.1, t_27.2)), 1, 6)))) (fun t_21 => some ((.inr (N, t_21.1, t_21.2)), 1, 6))))))) (fun t_9 => some ((.inr (N, t_9.1, t_9.2)), 1, 6)) else some ((.inr (N, o_3.1, 1)), 1, 6))) (fun t_5 => some ((.inr (N, t_5.1, t_5.2)), 1, 6))))
theorem d_cJT_read_0 : decode prog_1_method_10_code 0 = .ok (.aload_n 0, 1) := by decide +kernel
theorem d_cJT_read_1 : decode prog_1_method_10_code 1 = .ok (.invokevirtual 102, 3) := by decide +kernel
theorem d_cJT_read_4 : decode prog_1_method_10_code 4 = .ok (.istore_n 3, 1) := by decide +kernel
theorem d_cJT_read_5 : decode prog_1_method_10_code 5 = .ok (.aload_n 0, 1) := by decide +kernel
theorem d_cJT_read_6 : decode prog_1_method_10_code 6 = .ok (.iload_n 1, 1) := by decide +kernel
theorem d_cJT_read_7 : decode prog_1_method_10_code 7 = .ok (.invokevirtual 105, 3) := by decide +kernel
theorem d_cJT_read_10 : decode prog_1_method_10_code 10 = .ok (.astore 4, 2) := by decide +kernel
theorem d_cJT_read_12 : decode prog_1_method_10_code 12 = .ok (.iload_n 3, 1) := by decide +kernel
theorem d_cJT_read_13 : decode prog_1_method_10_code 13 = .ok (.iconst 2, 1) := by decide +kernel
theorem d_cJT_read_14 : decode prog_1_method_10_code 14 = .ok (.if_icmp .eq 11, 3) := by decide +kernel
theorem d_cJT_read_25 : decode prog_1_method_10_code 25 = .ok (.aload_n 0, 1) := by decide +kernel
theorem d_cJT_read_26 : decode prog_1_method_10_code 26 = .ok (.invokevirtual 113, 3) := by decide +kernel
theorem d_cJT_read_29 : decode prog_1_method_10_code 29 = .ok (.aload_n 0, 1) := by decide +kernel
theorem d_cJT_read_30 : decode prog_1_method_10_code 30 = .ok (.getfield 37, 3) := by decide +kernel
theorem d_cJT_read_33 : decode prog_1_method_10_code 33 = .ok (.aload_n 0, 1) := by decide +kernel
theorem d_cJT_read_34 : decode prog_1_method_10_code 34 = .ok (.getfield 73, 3) := by decide +kernel
theorem d_cJT_read_37 : decode prog_1_method_10_code 37 = .ok (.invokevirtual 205, 3) := by decide +kernel
theorem d_cJT_read_40 : decode prog_1_method_10_code 40 = .ok (.ifCond .ne 22, 3) := by decide +kernel
theorem d_cJT_read_62 : decode prog_1_method_10_code 62 = .ok (.aload_n 0, 1) := by decide +kernel
theorem d_cJT_read_63 : decode prog_1_method_10_code 63 = .ok (.iload_n 2, 1) := by decide +kernel
theorem d_cJT_read_64 : decode prog_1_method_10_code 64 = .ok (.invokevirtual 116, 3) := by decide +kernel
theorem d_cJT_read_67 : decode prog_1_method_10_code 67 = .ok (.astore 5, 2) := by decide +kernel
theorem d_cJT_read_69 : decode prog_1_method_10_code 69 = .ok (.aload_n 0, 1) := by decide +kernel
theorem d_cJT_read_70 : decode prog_1_method_10_code 70 = .ok (.aload 4, 2) := by decide +kernel
theorem d_cJT_read_72 : decode prog_1_method_10_code 72 = .ok (.invokevirtual 120, 3) := by decide +kernel
theorem d_cJT_read_75 : decode prog_1_method_10_code 75 = .ok (.aload_n 0, 1) := by decide +kernel
theorem d_cJT_read_76 : decode prog_1_method_10_code 76 = .ok (.aload_n 0, 1) := by decide +kernel
theorem d_cJT_read_77 : decode prog_1_method_10_code 77 = .ok (.getfield 37, 3) := by decide +kernel
theorem d_cJT_read_80 : decode prog_1_method_10_code 80 = .ok (.getfield 212, 3) := by decide +kernel
theorem d_cJT_read_83 : decode prog_1_method_10_code 83 = .ok (.aload_n 0, 1) := by decide +kernel
theorem d_cJT_read_84 : decode prog_1_method_10_code 84 = .ok (.getfield 70, 3) := by decide +kernel
theorem d_cJT_read_87 : decode prog_1_method_10_code 87 = .ok (.getfield 80, 3) := by decide +kernel
theorem d_cJT_read_90 : decode prog_1_method_10_code 90 = .ok (.aload_n 0, 1) := by decide +kernel
theorem d_cJT_read_91 : decode prog_1_method_10_code 91 = .ok (.getfield 37, 3) := by decide +kernel
theorem d_cJT_read_94 : decode prog_1_method_10_code 94 = .ok (.getfield 213, 3) := by decide +kernel
theorem d_cJT_read_97 : decode prog_1_method_10_code 97 = .ok (.getfield 80, 3) := by decide +kernel
theorem d_cJT_read_100 : decode prog_1_method_10_code 100 = .ok (.iadd, 1) := by decide +kernel
theorem d_cJT_read_101 : decode prog_1_method_10_code 101 = .ok (.invokevirtual 128, 3) := by decide +kernel
theorem d_cJT_read_104 : decode prog_1_method_10_code 104 = .ok (.aload_n 0, 1) := by decide +kernel
theorem d_cJT_read_105 : decode prog_1_method_10_code 105 = .ok (.aload 4, 2) := by decide +kernel
theorem d_cJT_read_107 : decode prog_1_method_10_code 107 = .ok (.aload 5, 2) := by decide +kernel
theorem d_cJT_read_109 : decode prog_1_method_10_code 109 = .ok (.invokevirtual 216, 3) := by decide +kernel
theorem d_cJT_read_112 : decode prog_1_method_10_code 112 = .ok (.ireturn, 1) := by decide +kernel
theorem d_cJT_read_43 : decode prog_1_method_10_code 43 = .ok (.aload_n 0, 1) := by decide +kernel
theorem d_cJT_read_44 : decode prog_1_method_10_code 44 = .ok (.aload_n 0, 1) := by decide +kernel
theorem d_cJT_read_45 : decode prog_1_method_10_code 45 = .ok (.getfield 37, 3) := by decide +kernel
theorem d_cJT_read_48 : decode prog_1_method_10_code 48 = .ok (.getfield 209, 3) := by decide +kernel
theorem d_cJT_read_51 : decode prog_1_method_10_code 51 = .ok (.putfield 76, 3) := by decide +kernel
theorem d_cJT_read_54 : decode prog_1_method_10_code 54 = .ok (.new 93, 3) := by decide +kernel
theorem d_cJT_read_57 : decode prog_1_method_10_code 57 = .ok (.dup, 1) := by decide +kernel
theorem d_cJT_read_58 : decode prog_1_method_10_code 58 = .ok (.invokespecial 95, 3) := by decide +kernel
theorem d_cJT_read_61 : decode prog_1_method_10_code 61 = .ok (.athrow, 1) := by decide +kernel
theorem d_cJT_read_17 : decode prog_1_method_10_code 17 = .ok (.new 93, 3) := by decide +kernel
theorem d_cJT_read_20 : decode prog_1_method_10_code 20 = .ok (.dup, 1) := by decide +kernel
theorem d_cJT_read_21 : decode prog_1_method_10_code 21 = .ok (.invokespecial 95, 3) := by decide +kernel
theorem d_cJT_read_24 : decode prog_1_method_10_code 24 = .ok (.athrow, 1) := by decide +kernel
set_option maxHeartbeats 4000000 in
set_option maxRecDepth 100000 in
theorem w_cJT_read_J0 {p : Program} {l : Launch} {e : Env} {s : State} {m : MethodId} {args : Array Value} {below : List Frame} {meth : Method} {c : Code} {A : Nat → Prop} {D : va_G} {cc : Nat → ClassId} {sad sav : Nat → Nat} {Q : State → Prop} {ad0 : Nat → Nat → Nat} {N0 : Nat → Nat} {CT ST cR sR : Nat} (hfl : l.flags = flags0) (hC : MCc sad sav "JoinedTrees" prog_1_method_10_code 6 (some .int) p s m args meth c A D cc) (hCT : CT ≤ cR) (hST : ST ≤ sR) {N : Nat → Nat} {x0 : Nat} {S : CS} {x1 : Int32} {x2 : Int32} {o : (((Nat → Nat) × CS × Int32) ⊕ ((Nat → Nat) × CS × Nat))} {oc os : Nat} (Heq : m_cJT_read_J0 N x0 S x1 x2 = some (o, oc, os)) (Kr : ∀ r : (((Nat → Nat) × CS × Int32) ⊕ ((Nat → Nat) × CS × Nat)), o = r → (∀ v9 : (Nat → Nat) × CS × Int32, r = .inl v9 → ∀ (pc : Nat) (ad : Nat → Nat → Nat) (H : Heap) (locs : List Loc) (ls : Array Slot), decode prog_1_method_10_code pc = .ok (.ireturn, 1) → Ext ad0 N0 ad (v9.1) → va_P D cls (cw ad cc v9.1 v9.2.1) H → va_D A (cw ad cc v9.1 v9.2.1) → va_S A s.heap H locs → W p l e ({ frames := 8, cells := cR, slots := sR, locals := 179 }) s m args below meth c H locs CT ST Q (F0 m pc ls [.int v9.2.2])) ∧ (∀ t9 : (Nat → Nat) × CS × Nat, r = .inr t9 → (∀ (pc : Nat) (ad : Nat → Nat → Nat) (H : Heap) (locs : List Loc) (ls : Array Slot) (cells slots : Nat), cells + 1 = CT → slots + 6 = ST → thD prog_1_method_10_code t9.2.2 pc → ls.size = 6 → Ext ad0 N0 ad t9.1 → va_P D cls (cw ad cc t9.1 t9.2.1) H → va_D A (cw ad cc t9.1 t9.2.1) → va_S A s.heap H locs → W p l e ({ frames := 8, cells := cR, slots := sR, locals := 179 }) s m args below meth c H locs cells slots Q (F0 m pc ls [])) ∧ (∀ (pc : Nat) (ad : Nat → Nat → Nat) (H : Heap) (locs : List Loc) (ls : Array Slot) (st0 rest9 : List Value) (A9 : Nat → Prop) (cells slots : Nat), cells + 1 = CT → slots + 6 = ST → Ext ad0 N0 ad t9.1 → va_D A (cw ad cc t9.1 t9.2.1) → tx_Thr p l e ({ frames := 8, cells := cR, slots := sR, locals := 179 }) s m args below meth c H locs cells slots 1 6 (F0 m pc ls st0) rest9 (exN t9.2.2) A9 (fun H1 => va_P D cls (cw ad cc t9.1 t9.2.1) H1) → (∀ q, A9 q → A q) → va_S A s.heap H locs → W p l e ({ frames := 8, cells := cR, slots := sR, locals := 179 }) s m args below meth c H locs cells slots Q (F0 m pc ls st0)))) : ∀ (ad : Nat → Nat → Nat) (H : Heap) (locs : List Loc) (ls : Array Slot) (cells slots : Nat), Ext ad0 N0 ad N → cells + oc = CT → slots + os = ST → va_P D cls (cw ad cc N S) H → va_D A (cw ad cc N S) → va_S A s.heap H locs → lv_has ls 6 [(0, .ref (ad 11 x0)), (1, .int x1), (2, .int x2)] → W p l e ({ frames := 8, cells := cR, slots := sR, locals := 179 }) s m args below meth c H locs cells slots Q (F0 m 0 ls []) := by
  intro ad H locs ls cells slots hX hcu hsu hP hD hS hl
  obtain ⟨hx, hb, hr, hml, hown, hts, hK, hA, hev, hE, hN, hNS⟩ := id hC
  unfold m_cJT_read_J0 at Heq
  refine lv_aload_n hx hb d_cJT_read_0 rfl (lv_at hl 0 rfl) ?_
  obtain ⟨hl_x0_11, Heq⟩ := gl_some Heq
  obtain ⟨o_1, h_2, Heq⟩ := ob_some Heq
  have hFc := fr_all hD hS hA
  refine va_calli (va_runV (As := []) (rest := []) ⟨hx, hb, hml, hown, hts⟩ (g_cJT_takeArguments l D H.size (ad := ad) (cc := cc) (sad := sad) (sav := sav) h_2) (cw_v 0 hts kw_589 kw_586 kw_588 kp_2 kw_1 rfl rfl (by decide +kernel) ⟨Nat.le_of_ble_eq_true rfl, Nat.le_of_ble_eq_true rfl⟩) ⟨c_blind, va_recv hK hP (ci := 11) (q0 := cPos N 11 x0) rfl (cw_obj (k := 11) (by decide) hl_x0_11), fun U hU hW => c_pre hU hW hP hK hD hev hE hN hNS hS hFc⟩ rfl rfl hl.1 rfl (lv_room (Nat.le_of_ble_eq_true rfl)) d_cJT_read_1 ⟨(Nat.le_trans (m := CT) (by omega) hCT), (Nat.le_trans (m := ST) (by omega) hST)⟩) hS (fun q _ h => hFc q h) hFc (fun rz u t H1 locs ht hvm hw hB hz1 hk1 hS => ?_)
  obtain ⟨hP, -, hD1⟩ := hB
  rw [ht] at hP
  have hD := hD1.weaken (fun _ q _ h => hFc q.1 h)
  generalize H1 = H at hP hS ⊢
  subst hw
  refine lv_istore_n (lv' := [(3, .int o_1.2), (0, .ref (ad 11 x0)), (1, .int x1), (2, .int x2)]) hx hb d_cJT_read_4 rfl hl (by decide) rfl (fun ls hl => ?_)
  refine lv_aload_n hx hb d_cJT_read_5 rfl (lv_at hl 1 rfl) ?_
  refine lv_iload_n hx hb d_cJT_read_6 rfl (lv_at hl 2 rfl) ?_
  have hFc := fr_all hD hS hA
  rcases oe_some Heq with ⟨o_3, h_4, Heq⟩ | ⟨t_5, h_4, Heq⟩
  case inr =>
    obtain ⟨e9, e9a, e9b⟩ := tri Heq
    exact ((Kr _ e9).2 _ rfl).2 7 _ _ _ _ _ _ _ _ _ (by omega) (by omega) hX (d_cw _ hD) (tx_runV (As := [.int x1]) (rest := []) ⟨hx, hb, hml, hown, hts⟩ (g_cJT_shown_t l hfl D H.size (ad := ad) (cc := cc) (sad := sad) (sav := sav) h_4) (cw_v 1 hts kw_593 kw_590 kw_592 kp_3 kw_1 rfl rfl (by decide +kernel) ⟨Nat.le_of_ble_eq_true rfl, Nat.le_of_ble_eq_true rfl⟩) ⟨c_blind, va_recv hK hP (ci := 11) (q0 := cPos N 11 x0) rfl (cw_obj (k := 11) (by decide) hl_x0_11), fun U hU hW => c_pre hU hW hP hK hD hev hE hN hNS hS hFc⟩ rfl rfl hl.1 rfl (lv_room (Nat.le_of_ble_eq_true rfl)) d_cJT_read_7 ⟨(Nat.le_trans (m := CT) (by omega) hCT), (Nat.le_trans (m := ST) (by omega) hST)⟩) hFc hS
  refine va_callq (va_runV (As := [.int x1]) (rest := []) ⟨hx, hb, hml, hown, hts⟩ (g_cJT_shown l hfl D H.size (ad := ad) (cc := cc) (sad := sad) (sav := sav) h_4) (cw_v 1 hts kw_593 kw_590 kw_592 kp_3 kw_1 rfl rfl (by decide +kernel) ⟨Nat.le_of_ble_eq_true rfl, Nat.le_of_ble_eq_true rfl⟩) ⟨c_blind, va_recv hK hP (ci := 11) (q0 := cPos N 11 x0) rfl (cw_obj (k := 11) (by decide) hl_x0_11), fun U hU hW => c_pre hU hW hP hK hD hev hE hN hNS hS hFc⟩ rfl rfl hl.1 rfl (lv_room (Nat.le_of_ble_eq_true rfl)) d_cJT_read_7 ⟨(Nat.le_trans (m := CT) (by omega) hCT), (Nat.le_trans (m := ST) (by omega) hST)⟩) hS (fun q _ h => hFc q h) hFc (fun rz u t H1 locs ht hvm hw hB hz1 hk1 hS => ?_)
  obtain ⟨hP, -, hD1⟩ := hB
  rw [ht] at hP
  have hD := hD1.weaken (fun _ q _ h => hFc q.1 h)
  generalize H1 = H at hP hS ⊢
  subst hw
  refine w_v (y := rv ad 4 o_3.2) rfl ?_
  refine tx_astore (x := o_3.2.map (ad 4)) (lv' := [(4, rv ad 4 o_3.2), (3, .int o_1.2), (0, .ref (ad 11 x0)), (1, .int x1), (2, .int x2)]) hx hb d_cJT_read_10 hl (by decide) rfl (fun ls hl => ?_)
  refine lv_iload_n hx hb d_cJT_read_12 rfl (lv_at hl 1 rfl) ?_
  refine lv_iconst (v := 2) hx hb d_cJT_read_13 (by decide) ?_
  refine lv_icmp_eq (tgt := 25) hx hb d_cJT_read_14 (by decide) (fun c_6 => ?_) (fun c_6 => ?_)
  · replace Heq := (if_pos c_6).symm.trans Heq
    refine lv_aload_n hx hb d_cJT_read_25 rfl (lv_at hl 2 rfl) ?_
    have hFc := fr_all hD hS hA
    rcases oe_some Heq with ⟨o_7, h_8, Heq⟩ | ⟨t_9, h_8, Heq⟩
    case inr =>
      obtain ⟨e9, e9a, e9b⟩ := tri Heq
      exact ((Kr _ e9).2 _ rfl).2 26 _ _ _ _ _ _ _ _ _ (by omega) (by omega) hX (d_cw _ hD) (tx_runV (As := []) (rest := []) ⟨hx, hb, hml, hown, hts⟩ (g_cJT_needKey_t l hfl D H.size (ad := ad) (cc := cc) (sad := sad) (sav := sav) h_8) (cw_v 0 hts kw_608 kw_605 kw_607 kp_5 kw_1 rfl rfl (by decide +kernel) ⟨Nat.le_of_ble_eq_true rfl, Nat.le_of_ble_eq_true rfl⟩) ⟨c_blind, va_recv hK hP (ci := 11) (q0 := cPos N 11 x0) rfl (cw_obj (k := 11) (by decide) hl_x0_11), fun U hU hW => c_pre hU hW hP hK hD hev hE hN hNS hS hFc⟩ rfl rfl hl.1 rfl (lv_room (Nat.le_of_ble_eq_true rfl)) d_cJT_read_26 ⟨(Nat.le_trans (m := CT) (by omega) hCT), (Nat.le_trans (m := ST) (by omega) hST)⟩) hFc hS
    refine va_callv (va_runV (As := []) (rest := []) ⟨hx, hb, hml, hown, hts⟩ (g_cJT_needKey l hfl D H.size (ad := ad) (cc := cc) (sad := sad) (sav := sav) h_8) (cw_v 0 hts kw_608 kw_605 kw_607 kp_5 kw_1 rfl rfl (by decide +kernel) ⟨Nat.le_of_ble_eq_true rfl, Nat.le_of_ble_eq_true rfl⟩) ⟨c_blind, va_recv hK hP (ci := 11) (q0 := cPos N 11 x0) rfl (cw_obj (k := 11) (by decide) hl_x0_11), fun U hU hW => c_pre hU hW hP hK hD hev hE hN hNS hS hFc⟩ rfl rfl hl.1 rfl (lv_room (Nat.le_of_ble_eq_true rfl)) d_cJT_read_26 ⟨(Nat.le_trans (m := CT) (by omega) hCT), (Nat.le_trans (m := ST) (by omega) hST)⟩) hS (fun q _ h => hFc q h) hFc (fun u t H1 locs ht hvm hw hB hz1 hk1 hS => ?_)
    obtain ⟨hP, -, hD1⟩ := hB
    rw [ht] at hP
    have hD := hD1.weaken (fun _ q _ h => hFc q.1 h)
    generalize H1 = H at hP hS ⊢
    refine lv_aload_n hx hb d_cJT_read_29 rfl (lv_at hl 2 rfl) ?_
    refine va_get (D := D) (ci := 11) (v := rv ad 1 (o_7.r 11 3 x0)) (C := R_JT) (T := F_JT) (N := 13) hx hb hts i_JT hown hK hP (cPos N 11 x0) (cw_obj (k := 11) (by decide) hl_x0_11) rfl 3 (by decide) (hts _ kw_424) (fun _ h9 => h9) rfl d_cJT_read_30 ?_
    refine lv_aload_n hx hb d_cJT_read_33 rfl (lv_at hl 2 rfl) ?_
    refine va_get (D := D) (ci := 11) (v := rv ad 5 (o_7.r 11 10 x0)) (C := R_JT) (T := F_JT) (N := 13) hx hb hts i_JT hown hK hP (cPos N 11 x0) (cw_obj (k := 11) (by decide) hl_x0_11) rfl 10 (by decide) (hts _ kw_431) (fun _ h9 => h9) rfl d_cJT_read_34 ?_
    obtain ⟨j_10, hj_11, hl_12, Heq⟩ := gn_some Heq
    refine w_s (st' := [.ref (ad 5 j_10), rv ad 1 (o_7.r 11 3 x0)]) (congrArg (fun z9 : Option Nat => [rv ad 5 z9, rv ad 1 (o_7.r 11 3 x0)]) hj_11) ?_
    obtain ⟨j_13, hj_14, hl_15, Heq⟩ := gn_some Heq
    refine w_s (st' := [.ref (ad 5 j_10), .ref (ad 1 j_13)]) (congrArg (fun z9 : Option Nat => [.ref (ad 5 j_10), rv ad 1 z9]) hj_14) ?_
    obtain ⟨o_16, h_17, Heq⟩ := ob_some Heq
    have hFc := fr_all hD hS hA
    refine va_calli (va_runV (As := [.ref (ad 5 j_10)]) (rest := []) ⟨hx, hb, hml, hown, hts⟩ (g_cRd_parse l D H.size (ad := ad) (cc := cc) (sad := sad) (sav := sav) h_17) (cw_v 1 hts kw_865 kw_862 kw_863 kw_864 kw_7 rfl rfl (by decide +kernel) ⟨Nat.le_of_ble_eq_true rfl, Nat.le_of_ble_eq_true rfl⟩) ⟨c_blind, va_recv hK hP (ci := 1) (q0 := cPos N 1 j_13) rfl (cw_obj (k := 1) (by decide) hl_15), fun U hU hW => c_pre hU hW hP hK hD hev hE hN hNS hS hFc⟩ rfl rfl hl.1 rfl (lv_room (Nat.le_of_ble_eq_true rfl)) d_cJT_read_37 ⟨(Nat.le_trans (m := CT) (by omega) hCT), (Nat.le_trans (m := ST) (by omega) hST)⟩) hS (fun q _ h => hFc q h) hFc (fun rz u t H1 locs ht hvm hw hB hz1 hk1 hS => ?_)
    obtain ⟨hP, -, hD1⟩ := hB
    rw [ht] at hP
    have hD := hD1.weaken (fun _ q _ h => hFc q.1 h)
    generalize H1 = H at hP hS ⊢
    subst hw
    refine lv_if_ne (tgt := 62) hx hb d_cJT_read_40 (by decide) (fun c_18 => ?_) (fun c_18 => ?_)
    · replace Heq := (if_neg c_18).symm.trans Heq
      refine lv_aload_n hx hb d_cJT_read_62 rfl (lv_at hl 2 rfl) ?_
      refine lv_iload_n hx hb d_cJT_read_63 rfl (lv_at hl 4 rfl) ?_
      have hFc := fr_all hD hS hA
      rcases oe_some Heq with ⟨o_19, h_20, Heq⟩ | ⟨t_21, h_20, Heq⟩
      case inr =>
        obtain ⟨e9, e9a, e9b⟩ := tri Heq
        exact ((Kr _ e9).2 _ rfl).2 64 _ _ _ _ _ _ _ _ _ (by omega) (by omega) hX (d_cw _ hD) (tx_runV (As := [.int x2]) (rest := []) ⟨hx, hb, hml, hown, hts⟩ (g_cJT_mapAt_t l hfl D H.size (ad := ad) (cc := cc) (sad := sad) (sav := sav) h_20) (cw_v 1 hts kw_612 kw_609 kw_611 kp_6 kw_1 rfl rfl (by decide +kernel) ⟨Nat.le_of_ble_eq_true rfl, Nat.le_of_ble_eq_true rfl⟩) ⟨c_blind, va_recv hK hP (ci := 11) (q0 := cPos N 11 x0) rfl (cw_obj (k := 11) (by decide) hl_x0_11), fun U hU hW => c_pre hU hW hP hK hD hev hE hN hNS hS hFc⟩ rfl rfl hl.1 rfl (lv_room (Nat.le_of_ble_eq_true rfl)) d_cJT_read_64 ⟨(Nat.le_trans (m := CT) (by omega) hCT), (Nat.le_trans (m := ST) (by omega) hST)⟩) hFc hS
      refine va_callq (va_runV (As := [.int x2]) (rest := []) ⟨hx, hb, hml, hown, hts⟩ (g_cJT_mapAt l hfl D H.size (ad := ad) (cc := cc) (sad := sad) (sav := sav) h_20) (cw_v 1 hts kw_612 kw_609 kw_611 kp_6 kw_1 rfl rfl (by decide +kernel) ⟨Nat.le_of_ble_eq_true rfl, Nat.le_of_ble_eq_true rfl⟩) ⟨c_blind, va_recv hK hP (ci := 11) (q0 := cPos N 11 x0) rfl (cw_obj (k := 11) (by decide) hl_x0_11), fun U hU hW => c_pre hU hW hP hK hD hev hE hN hNS hS hFc⟩ rfl rfl hl.1 rfl (lv_room (Nat.le_of_ble_eq_true rfl)) d_cJT_read_64 ⟨(Nat.le_trans (m := CT) (by omega) hCT), (Nat.le_trans (m := ST) (by omega) hST)⟩) hS (fun q _ h => hFc q h) hFc (fun rz u t H1 locs ht hvm hw hB hz1 hk1 hS => ?_)
      obtain ⟨hP, -, hD1⟩ := hB
      rw [ht] at hP
      have hD := hD1.weaken (fun _ q _ h => hFc q.1 h)
      generalize H1 = H at hP hS ⊢
      subst hw
      refine w_v (y := rv ad 3 o_19.2) rfl ?_
      refine tx_astore (x := o_19.2.map (ad 3)) (lv' := [(5, rv ad 3 o_19.2), (4, rv ad 4 o_3.2), (3, .int o_1.2), (0, .ref (ad 11 x0)), (1, .int x1), (2, .int x2)]) hx hb d_cJT_read_67 hl (by decide) (by simp [rv, rf_cat]) (fun ls hl => ?_)
      refine lv_aload_n hx hb d_cJT_read_69 rfl (lv_at hl 3 rfl) ?_
      refine tx_aload (x := o_3.2.map (ad 4)) hx hb d_cJT_read_70 (lv_at hl 1 rfl) ?_
      refine w_v (y := rv ad 4 o_3.2) rfl ?_
      obtain ⟨j_22, hj_23, hl_24, Heq⟩ := gn_some Heq
      refine w_s (st' := [.ref (ad 4 j_22), .ref (ad 11 x0)]) (congrArg (fun z9 : Option Nat => [rv ad 4 z9, .ref (ad 11 x0)]) hj_23) ?_
      have hFc := fr_all hD hS hA
      rcases oe_some Heq with ⟨o_25, h_26, Heq⟩ | ⟨t_27, h_26, Heq⟩
      case inr =>
        obtain ⟨e9, e9a, e9b⟩ := tri Heq
        exact ((Kr _ e9).2 _ rfl).2 72 _ _ _ _ _ _ _ _ _ (by omega) (by omega) hX (d_cw _ hD) (tx_runV (As := [.ref (ad 4 j_22)]) (rest := []) ⟨hx, hb, hml, hown, hts⟩ (g_cJT_needAll_t l hfl D H.size (ad := ad) (cc := cc) (sad := sad) (sav := sav) h_26) (cw_v 1 hts kw_647 kw_644 kw_646 kp_8 kw_1 rfl rfl (by decide +kernel) ⟨Nat.le_of_ble_eq_true rfl, Nat.le_of_ble_eq_true rfl⟩) ⟨c_blind, va_recv hK hP (ci := 11) (q0 := cPos N 11 x0) rfl (cw_obj (k := 11) (by decide) hl_x0_11), fun U hU hW => c_pre hU hW hP hK hD hev hE hN hNS hS hFc⟩ rfl rfl hl.1 rfl (lv_room (Nat.le_of_ble_eq_true rfl)) d_cJT_read_72 ⟨(Nat.le_trans (m := CT) (by omega) hCT), (Nat.le_trans (m := ST) (by omega) hST)⟩) hFc hS
      refine va_callv (va_runV (As := [.ref (ad 4 j_22)]) (rest := []) ⟨hx, hb, hml, hown, hts⟩ (g_cJT_needAll l hfl D H.size (ad := ad) (cc := cc) (sad := sad) (sav := sav) h_26) (cw_v 1 hts kw_647 kw_644 kw_646 kp_8 kw_1 rfl rfl (by decide +kernel) ⟨Nat.le_of_ble_eq_true rfl, Nat.le_of_ble_eq_true rfl⟩) ⟨c_blind, va_recv hK hP (ci := 11) (q0 := cPos N 11 x0) rfl (cw_obj (k := 11) (by decide) hl_x0_11), fun U hU hW => c_pre hU hW hP hK hD hev hE hN hNS hS hFc⟩ rfl rfl hl.1 rfl (lv_room (Nat.le_of_ble_eq_true rfl)) d_cJT_read_72 ⟨(Nat.le_trans (m := CT) (by omega) hCT), (Nat.le_trans (m := ST) (by omega) hST)⟩) hS (fun q _ h => hFc q h) hFc (fun u t H1 locs ht hvm hw hB hz1 hk1 hS => ?_)
      obtain ⟨hP, -, hD1⟩ := hB
      rw [ht] at hP
      have hD := hD1.weaken (fun _ q _ h => hFc q.1 h)
      generalize H1 = H at hP hS ⊢
      refine lv_aload_n hx hb d_cJT_read_75 rfl (lv_at hl 3 rfl) ?_
      refine lv_aload_n hx hb d_cJT_read_76 rfl (lv_at hl 3 rfl) ?_
      refine va_get (D := D) (ci := 11) (v := rv ad 1 (o_25.r 11 3 x0)) (C := R_JT) (T := F_JT) (N := 13) hx hb hts i_JT hown hK hP (cPos N 11 x0) (cw_obj (k := 11) (by decide) hl_x0_11) rfl 3 (by decide) (hts _ kw_424) (fun _ h9 => h9) rfl d_cJT_read_77 ?_
      obtain ⟨j_28, hj_29, hl_30, Heq⟩ := gn_some Heq
      refine w_s (st' := [.ref (ad 1 j_28), .ref (ad 11 x0)]) (congrArg (fun z9 : Option Nat => [rv ad 1 z9, .ref (ad 11 x0)]) hj_29) ?_
      refine va_get (D := D) (ci := 1) (v := .int (o_25.i 1 3 j_28)) (C := R_Rd) (T := F_Rd) (N := 10) hx hb hts i_Rd hown hK hP (cPos N 1 j_28) (cw_obj (k := 1) (by decide) hl_30) rfl 3 (by decide) (hts _ kw_348) (fun _ h9 => h9) rfl d_cJT_read_80 ?_
      refine lv_aload_n hx hb d_cJT_read_83 rfl (lv_at hl 3 rfl) ?_
      refine va_get (D := D) (ci := 11) (v := rv ad 5 (o_25.r 11 9 x0)) (C := R_JT) (T := F_JT) (N := 13) hx hb hts i_JT hown hK hP (cPos N 11 x0) (cw_obj (k := 11) (by decide) hl_x0_11) rfl 9 (by decide) (hts _ kw_430) (fun _ h9 => h9) rfl d_cJT_read_84 ?_
      obtain ⟨j_31, hj_32, hl_33, Heq⟩ := gn_some Heq
      refine w_s (st' := [.ref (ad 5 j_31), .int (o_25.i 1 3 j_28), .ref (ad 11 x0)]) (congrArg (fun z9 : Option Nat => [rv ad 5 z9, .int (o_25.i 1 3 j_28), .ref (ad 11 x0)]) hj_32) ?_
      refine va_get (D := D) (ci := 5) (v := .int (o_25.i 5 1 j_31)) (C := R_Rw) (T := F_Rw) (N := 3) hx hb hts i_Rw hown hK hP (cPos N 5 j_31) (cw_obj (k := 5) (by decide) hl_33) rfl 1 (by decide) (hts _ kw_143) (fun _ h9 => h9) rfl d_cJT_read_87 ?_
      refine lv_aload_n hx hb d_cJT_read_90 rfl (lv_at hl 3 rfl) ?_
      refine va_get (D := D) (ci := 11) (v := rv ad 1 (o_25.r 11 3 x0)) (C := R_JT) (T := F_JT) (N := 13) hx hb hts i_JT hown hK hP (cPos N 11 x0) (cw_obj (k := 11) (by decide) hl_x0_11) rfl 3 (by decide) (hts _ kw_424) (fun _ h9 => h9) rfl d_cJT_read_91 ?_
      refine w_s (st' := [.ref (ad 1 j_28), .int (o_25.i 5 1 j_31), .int (o_25.i 1 3 j_28), .ref (ad 11 x0)]) (congrArg (fun z9 : Option Nat => [rv ad 1 z9, .int (o_25.i 5 1 j_31), .int (o_25.i 1 3 j_28), .ref (ad 11 x0)]) hj_29) ?_
      refine va_get (D := D) (ci := 1) (v := rv ad 5 (o_25.r 1 1 j_28)) (C := R_Rd) (T := F_Rd) (N := 10) hx hb hts i_Rd hown hK hP (cPos N 1 j_28) (cw_obj (k := 1) (by decide) hl_30) rfl 1 (by decide) (hts _ kw_345) (fun _ h9 => h9) rfl d_cJT_read_94 ?_
      obtain ⟨j_34, hj_35, hl_36, Heq⟩ := gn_some Heq
      refine w_s (st' := [.ref (ad 5 j_34), .int (o_25.i 5 1 j_31), .int (o_25.i 1 3 j_28), .ref (ad 11 x0)]) (congrArg (fun z9 : Option Nat => [rv ad 5 z9, .int (o_25.i 5 1 j_31), .int (o_25.i 1 3 j_28), .ref (ad 11 x0)]) hj_35) ?_
      refine va_get (D := D) (ci := 5) (v := .int (o_25.i 5 1 j_34)) (C := R_Rw) (T := F_Rw) (N := 3) hx hb hts i_Rw hown hK hP (cPos N 5 j_34) (cw_obj (k := 5) (by decide) hl_36) rfl 1 (by decide) (hts _ kw_143) (fun _ h9 => h9) rfl d_cJT_read_97 ?_
      refine lv_iadd hx hb d_cJT_read_100 ?_
      refine w_i (y := (o_25.i 5 1 j_31) + (o_25.i 5 1 j_34)) rfl ?_
      have hFc := fr_all hD hS hA
      rcases oe_some Heq with ⟨o_37, h_38, Heq⟩ | ⟨t_39, h_38, Heq⟩
      case inr =>
        obtain ⟨e9, e9a, e9b⟩ := tri Heq
        exact ((Kr _ e9).2 _ rfl).2 101 _ _ _ _ _ _ _ _ _ (by omega) (by omega) hX (d_cw _ hD) (tx_runV (As := [.int (o_25.i 1 3 j_28), .int ((o_25.i 5 1 j_31) + (o_25.i 5 1 j_34))]) (rest := []) ⟨hx, hb, hml, hown, hts⟩ (g_cJT_needRoom_t l hfl D H.size (ad := ad) (cc := cc) (sad := sad) (sav := sav) h_38) (cw_v 2 hts kw_669 kw_666 kw_668 kp_9 kw_1 rfl rfl (by decide +kernel) ⟨Nat.le_of_ble_eq_true rfl, Nat.le_of_ble_eq_true rfl⟩) ⟨c_blind, va_recv hK hP (ci := 11) (q0 := cPos N 11 x0) rfl (cw_obj (k := 11) (by decide) hl_x0_11), fun U hU hW => c_pre hU hW hP hK hD hev hE hN hNS hS hFc⟩ rfl rfl hl.1 rfl (lv_room (Nat.le_of_ble_eq_true rfl)) d_cJT_read_101 ⟨(Nat.le_trans (m := CT) (by omega) hCT), (Nat.le_trans (m := ST) (by omega) hST)⟩) hFc hS
      refine va_callv (va_runV (As := [.int (o_25.i 1 3 j_28), .int ((o_25.i 5 1 j_31) + (o_25.i 5 1 j_34))]) (rest := []) ⟨hx, hb, hml, hown, hts⟩ (g_cJT_needRoom l hfl D H.size (ad := ad) (cc := cc) (sad := sad) (sav := sav) h_38) (cw_v 2 hts kw_669 kw_666 kw_668 kp_9 kw_1 rfl rfl (by decide +kernel) ⟨Nat.le_of_ble_eq_true rfl, Nat.le_of_ble_eq_true rfl⟩) ⟨c_blind, va_recv hK hP (ci := 11) (q0 := cPos N 11 x0) rfl (cw_obj (k := 11) (by decide) hl_x0_11), fun U hU hW => c_pre hU hW hP hK hD hev hE hN hNS hS hFc⟩ rfl rfl hl.1 rfl (lv_room (Nat.le_of_ble_eq_true rfl)) d_cJT_read_101 ⟨(Nat.le_trans (m := CT) (by omega) hCT), (Nat.le_trans (m := ST) (by omega) hST)⟩) hS (fun q _ h => hFc q h) hFc (fun u t H1 locs ht hvm hw hB hz1 hk1 hS => ?_)
      obtain ⟨hP, -, hD1⟩ := hB
      rw [ht] at hP
      have hD := hD1.weaken (fun _ q _ h => hFc q.1 h)
      generalize H1 = H at hP hS ⊢
      refine lv_aload_n hx hb d_cJT_read_104 rfl (lv_at hl 3 rfl) ?_
      refine tx_aload (x := o_3.2.map (ad 4)) hx hb d_cJT_read_105 (lv_at hl 1 rfl) ?_
      refine w_v (y := rv ad 4 o_3.2) rfl ?_
      refine tx_aload (x := o_19.2.map (ad 3)) hx hb d_cJT_read_107 (lv_at hl 0 rfl) ?_
      refine w_v (y := rv ad 3 o_19.2) rfl ?_
      obtain ⟨j_40, hj_41, hl_42, Heq⟩ := gn_some Heq
      refine w_s (st' := [.ref (ad 3 j_40), rv ad 4 o_3.2, .ref (ad 11 x0)]) (congrArg (fun z9 : Option Nat => [rv ad 3 z9, rv ad 4 o_3.2, .ref (ad 11 x0)]) hj_41) ?_
      refine w_s (st' := [.ref (ad 3 j_40), .ref (ad 4 j_22), .ref (ad 11 x0)]) (congrArg (fun z9 : Option Nat => [.ref (ad 3 j_40), rv ad 4 z9, .ref (ad 11 x0)]) hj_23) ?_
      have hl : lv_has ls 6 [(0, .ref (ad 11 x0))] := lv_sub hl [3] rfl
      obtain ⟨N_45, S_46, v_47, a9, b9, a8, b8, h_44, Heq, e9a, e9b⟩ := oq_some Heq
      have hFc := fr_all hD hS hA
      refine va_calli (va_runV (As := [.ref (ad 4 j_22), .ref (ad 3 j_40)]) (rest := []) ⟨hx, hb, hml, hown, hts⟩ (g_cJT_writeValues l D H.size (ad := ad) (cc := cc) (sad := sad) (sav := sav) h_44) (cw_v 2 hts kw_983 kw_980 kw_982 kp_21 kw_1 rfl rfl (by decide +kernel) ⟨Nat.le_of_ble_eq_true rfl, Nat.le_of_ble_eq_true rfl⟩) ⟨c_blind, va_recv hK hP (ci := 11) (q0 := cPos N 11 x0) rfl (cw_obj (k := 11) (by decide) hl_x0_11), fun U hU hW => c_pre hU hW hP hK hD hev hE hN hNS hS hFc⟩ rfl rfl hl.1 rfl (lv_room (Nat.le_of_ble_eq_true rfl)) d_cJT_read_109 ⟨(Nat.le_trans (m := CT) (by omega) hCT), (Nat.le_trans (m := ST) (by omega) hST)⟩) hS (fun q _ h => hFc q h) hFc (fun rz ad t H1 locs ht hvm hw hB hz1 hk1 hS => ?_)
      obtain ⟨hX1, hP, -, hD1⟩ := hB
      rw [ht] at hP
      have hD := hD1.weaken (fun _ q _ h => hFc q.1 h)
      generalize H1 = H at hP hS ⊢
      subst hw
      have hX := hX.tr hX1
      have hl : lv_has ls 6 [(0, .ref (ad 11 x0))] := lv_cast hl (by first | rfl | simp only [hX1.2 11 x0 hl_x0_11])
      have hl_x0_11 := Nat.lt_of_lt_of_le hl_x0_11 (hX1.1 11)
      have hl_12 := Nat.lt_of_lt_of_le hl_12 (hX1.1 5)
      have hl_15 := Nat.lt_of_lt_of_le hl_15 (hX1.1 1)
      have hl_24 := Nat.lt_of_lt_of_le hl_24 (hX1.1 4)
      have hl_30 := Nat.lt_of_lt_of_le hl_30 (hX1.1 1)
      have hl_33 := Nat.lt_of_lt_of_le hl_33 (hX1.1 5)
      have hl_36 := Nat.lt_of_lt_of_le hl_36 (hX1.1 5)
      have hl_42 := Nat.lt_of_lt_of_le hl_42 (hX1.1 3)
      obtain ⟨e9, e9a, e9b⟩ := tri Heq
      refine W.cs (cells' := CT) (slots' := ST) (by omega) (by omega) ?_
      exact (Kr _ e9).1 _ rfl 112 _ _ _ _ d_cJT_read_112 hX hP hD hS
    · replace Heq := (if_pos c_18).symm.trans Heq
      refine lv_aload_n hx hb d_cJT_read_43 rfl (lv_at hl 2 rfl) ?_
      refine lv_aload_n hx hb d_cJT_read_44 rfl (lv_at hl 2 rfl) ?_
      refine va_get (D := D) (ci := 11) (v := rv ad 1 (o_16.1.r 11 3 x0)) (C := R_JT) (T := F_JT) (N := 13) hx hb hts i_JT hown hK hP (cPos N 11 x0) (cw_obj (k := 11) (by decide) hl_x0_11) rfl 3 (by decide) (hts _ kw_424) (fun _ h9 => h9) rfl d_cJT_read_45 ?_
      obtain ⟨j_48, hj_49, hl_50, Heq⟩ := gn_some Heq
      refine w_s (st' := [.ref (ad 1 j_48), .ref (ad 11 x0)]) (congrArg (fun z9 : Option Nat => [rv ad 1 z9, .ref (ad 11 x0)]) hj_49) ?_
      refine va_get (D := D) (ci := 1) (v := .int (o_16.1.i 1 4 j_48)) (C := R_Rd) (T := F_Rd) (N := 10) hx hb hts i_Rd hown hK hP (cPos N 1 j_48) (cw_obj (k := 1) (by decide) hl_50) rfl 4 (by decide) (hts _ kw_350) (fun _ h9 => h9) rfl d_cJT_read_48 ?_
      refine va_put (D := D) (ci := 11) (v := .int (o_16.1.i 1 4 j_48)) (ty := .int) (C := R_JT) (T := F_JT) (N := 13) hx hb hts i_JT t_JT t_JT_ok n_JT hown hK hP hD hS (cPos N 11 x0) (cw_obj (k := 11) (by decide) hl_x0_11) rfl 12 (by decide) (hts _ kw_433) (fun _ h9 => h9) rfl (by decide +kernel) rfl rfl (Nat.le_of_ble_eq_true rfl) d_cJT_read_51 (fun H locs hP hD hS => ?_)
      have hD := (congrArg (fun w9 => va_D A w9) (cw_setI (ad := ad) (cc := cc) (S := o_16.1) (k := 11) (f := 12) (v := o_16.1.i 1 4 j_48) (by decide) rfl hl_x0_11)).mp hD
      have hP := (congrArg (fun w9 => va_P D cls w9 H) (cw_setI (ad := ad) (cc := cc) (S := o_16.1) (k := 11) (f := 12) (v := o_16.1.i 1 4 j_48) (by decide) rfl hl_x0_11)).mp hP
      obtain ⟨e9, e9a, e9b⟩ := tri Heq
      exact ((Kr _ e9).2 _ rfl).1 54 _ _ _ _ _ _ (by omega) (by omega) ⟨⟨show 1 ≤ 1 by decide, show 1 ≤ 5 by decide⟩, d_cJT_read_54, d_cJT_read_57, d_cJT_read_58, d_cJT_read_61⟩ hl.1 hX hP hD hS
  · replace Heq := (if_neg c_6).symm.trans Heq
    obtain ⟨e9, e9a, e9b⟩ := tri Heq
    exact ((Kr _ e9).2 _ rfl).1 17 _ _ _ _ _ _ (by omega) (by omega) ⟨⟨show 1 ≤ 1 by decide, show 1 ≤ 5 by decide⟩, d_cJT_read_17, d_cJT_read_20, d_cJT_read_21, d_cJT_read_24⟩ hl.1 hX hP hD hS
noncomputable def m_cJT_read (N : Nat → Nat) (x0 : Nat) (S : CS) (x1 : Int32) (x2 : Int32) : Option (((((Nat → Nat) × CS × Int32) ⊕ ((Nat → Nat) × CS × Nat))) × Nat × Nat) := m_cJT_read_J0 N x0 S x1 x2
set_option maxHeartbeats 4000000 in
theorem g_cJT_read (l : Launch) (hfl : l.flags = flags0) (D : va_G) (sz : Nat) {ad : Nat → Nat → Nat} {cc : Nat → ClassId} {sad sav : Nat → Nat} {N : Nat → Nat} {x0 : Nat} {S : CS} {x1 : Int32} {x2 : Int32} {o : (Nat → Nat) × CS × Int32} {oc os : Nat} (Heq : m_cJT_read N x0 S x1 x2 = some (.inl o, oc, os)) : Met l ⟨"JoinedTrees", "read", "(II)I"⟩ (Cond.code ⟨"JoinedTrees", "read", "(II)I"⟩ prog_1_method_10_code 6 (some .int) :: gb) ({ frames := 8, cells := oc, slots := os, locals := 179 }) (cPc sad sav D (cw ad cc N S) (cty cc) sz [.ref (ad 11 x0), .int x1, .int x2]) (va_Qi (fun (r : Int32) (_ : Nat → Nat → Nat) => r = o.2.2) (fun (u : Nat → Nat → Nat) t => Ext ad N u o.1 ∧ gO D (cw u cc o.1 o.2.1) (cty cc) (va_A (cw ad cc N S) sz) t) (va_A (cw ad cc N S) sz)) oc os (va_A (cw ad cc N S) sz) := by
  refine Met.ofW (cc := prog_1_method_10_code) (maxL := 6) (ret := (some .int)) (by decide) rfl ?_
  intro p e s m args below meth c s₁ B hml hv
  obtain ⟨rfl, hsz, hP, hK, hD0, hev, hE, hN⟩ := hv
  have hx := B.exec
  have hb := B.bytes
  have hr := B.returns
  have hts : ∀ w9 ∈ gb, w9.before [.ref (ad 11 x0), .int x1, .int x2].toArray s = true := fun w9 h => atoms_spec (ws := Cond.code ⟨"JoinedTrees", "read", "(II)I"⟩ prog_1_method_10_code 6 (some .int) :: gb) B.pre w9 (List.mem_cons_of_mem _ h)
  have hown : s.vm.findClass "JoinedTrees" = some m.cls := findClass_of_methodNamed B.named
  have hlocks := B.notSynchronized
  have hNS := ns_of hP
  subst hsz
  have hD := hD0.self (sz := s.heap.size)
  generalize hAe : va_A (cw ad cc N S) s.heap.size = A at hD hev hE hNS ⊢
  have hA : ∀ q : Nat, s.heap.size ≤ q → A q := fun q h => by rw [← hAe]; exact Or.inr h
  have hS : va_S A s.heap s.heap [] := va_S.rf
  obtain ⟨ls, hl, hle⟩ : ∃ ls : Array Slot, lv_has ls 6 [(0, .ref (ad 11 x0)), (1, .int x1), (2, .int x2)] ∧ entryFrame m ([.ref (ad 11 x0), .int x1, .int x2] : List Value).toArray 6 = F0 m 0 ls [] := by
    exact ⟨_, lv_entry (n := 6) _ (Nat.le_of_ble_eq_true rfl), lg_entry_eq ..⟩
  rw [hle]
  refine w_cJT_read_J0 (ad0 := ad) (N0 := N) (CT := oc) (ST := os) (cR := oc) (sR := os) hfl ⟨hx, hb, hr, hml, hown, hts, hK, hA, hev, hE, hN, hNS⟩ (Nat.le_refl _) (Nat.le_refl _) Heq (fun r h => ⟨fun v9 hv9 pc ad1 H locs ls hd hX hP hD hS => ?_, fun t9 ht9 => (by subst h; cases ht9)⟩) _ _ _ _ 0 0 Ext.rf (Nat.zero_add _) (Nat.zero_add _) hP hD hS (lv_sub hl [0, 1, 2] rfl)
  subst h
  cases hv9
  exact W.iret hx hb hr (fun t ht hW => ⟨⟨_, ad1, rfl, rfl, hX, by rw [ht]; exact hP, va_K.moved hW.alike hK, hD⟩, hS.F ht⟩) hS.2.2 hd
set_option maxHeartbeats 4000000 in
theorem g_cJT_read_t (l : Launch) (hfl : l.flags = flags0) (D : va_G) (sz : Nat) {ad : Nat → Nat → Nat} {cc : Nat → ClassId} {sad sav : Nat → Nat} {N : Nat → Nat} {x0 : Nat} {S : CS} {x1 : Int32} {x2 : Int32} {o : (Nat → Nat) × CS × Nat} {oc os : Nat} (Heq : m_cJT_read N x0 S x1 x2 = some (.inr o, oc, os)) : MeT l ⟨"JoinedTrees", "read", "(II)I"⟩ (Cond.code ⟨"JoinedTrees", "read", "(II)I"⟩ prog_1_method_10_code 6 (some .int) :: gb) ({ frames := 8, cells := oc, slots := os, locals := 179 }) (cPc sad sav D (cw ad cc N S) (cty cc) sz [.ref (ad 11 x0), .int x1, .int x2]) (exN o.2.2) (va_A (cw ad cc N S) sz) (fun H1 => ∃ ad1 : Nat → Nat → Nat, Ext ad N ad1 o.1 ∧ va_P D cls (cw ad1 cc o.1 o.2.1) H1 ∧ va_D (va_A (cw ad cc N S) sz) (cw ad1 cc o.1 o.2.1)) oc os := by
  refine MeT.ofW (cc := prog_1_method_10_code) (maxL := 6) (ret := (some .int)) (by decide) rfl ?_
  intro p e s m args below meth c s₁ B hml hno hv
  obtain ⟨rfl, hsz, hP, hK, hD0, hev, hE, hN⟩ := hv
  have hx := B.exec
  have hb := B.bytes
  have hr := B.returns
  have hts : ∀ w9 ∈ gb, w9.before [.ref (ad 11 x0), .int x1, .int x2].toArray s = true := fun w9 h => atoms_spec (ws := Cond.code ⟨"JoinedTrees", "read", "(II)I"⟩ prog_1_method_10_code 6 (some .int) :: gb) B.pre w9 (List.mem_cons_of_mem _ h)
  have hown : s.vm.findClass "JoinedTrees" = some m.cls := findClass_of_methodNamed B.named
  have hlocks := B.notSynchronized
  have hNS := ns_of hP
  subst hsz
  have hD := hD0.self (sz := s.heap.size)
  generalize hAe : va_A (cw ad cc N S) s.heap.size = A at hD hev hE hNS ⊢
  have hA : ∀ q : Nat, s.heap.size ≤ q → A q := fun q h => by rw [← hAe]; exact Or.inr h
  have hS : va_S A s.heap s.heap [] := va_S.rf
  obtain ⟨ls, hl, hle⟩ : ∃ ls : Array Slot, lv_has ls 6 [(0, .ref (ad 11 x0)), (1, .int x1), (2, .int x2)] ∧ entryFrame m ([.ref (ad 11 x0), .int x1, .int x2] : List Value).toArray 6 = F0 m 0 ls [] := by
    exact ⟨_, lv_entry (n := 6) _ (Nat.le_of_ble_eq_true rfl), lg_entry_eq ..⟩
  rw [hle]
  refine w_cJT_read_J0 (ad0 := ad) (N0 := N) (CT := oc) (ST := os) (cR := oc) (sR := os) hfl ⟨hx, hb, hr, hml, hown, hts, hK, hA, hev, hE, hN, hNS⟩ (Nat.le_refl _) (Nat.le_refl _) Heq (fun r h => ⟨fun v9 hv9 => (by subst h; cases hv9), fun t9 ht9 => ⟨fun pc ad1 H locs ls cells slots hc1 hs1 hd hsz hX hP hD hS => ?_, fun pc ad1 H locs ls st0 rest9 A9 cells slots hc1 hs1 hX hD hr9 hF9 hS => ?_⟩⟩) _ _ _ _ 0 0 Ext.rf (Nat.zero_add _) (Nat.zero_add _) hP hD hS (lv_sub hl [0, 1, 2] rfl)
  · subst h; cases ht9; subst hc1 hs1; exact tx_thrB hfl hx hb hno hlocks hown hts hev hN hNS hd (hsz.trans hml.symm) hP hS hA (Nat.le_refl _) (Nat.le_refl _) (Nat.le_of_ble_eq_true rfl) (Nat.le_of_ble_eq_true rfl) (fun H1 h1 => ⟨ad1, hX, h1, hD⟩)
  · subst h; cases ht9; subst hc1 hs1; exact tx_on (tx_Thr.mono hr9 (fun H1 h1 => ⟨ad1, hX, h1, hD⟩)) hno hlocks hS hF9
noncomputable def m_cRp_copyHeads_J39 (N : Nat → Nat) (x0 : Nat) (S : CS) (x1 : Option Nat) (x2 : Int32) (x3 : Int32) : Option ((((Nat → Nat) × CS × Option Nat × Int32 × Int32) ⊕ ((Nat → Nat) × CS × Option Nat)) × Nat × Nat) := some ((.inl (N, S, x1, x2, (x3 + 1))), 0, 0)
theorem d_cRp_copyHeads_0 : decode prog_6_method_7_code 0 = .ok (.aload_n 0, 1) := by decide +kernel
theorem d_cRp_copyHeads_1 : decode prog_6_method_7_code 1 = .ok (.invokevirtual 49, 3) := by decide +kernel
theorem d_cRp_copyHeads_4 : decode prog_6_method_7_code 4 = .ok (.anewarray 19, 3) := by decide +kernel
theorem d_cRp_copyHeads_7 : decode prog_6_method_7_code 7 = .ok (.astore_n 1, 1) := by decide +kernel
theorem d_cRp_copyHeads_8 : decode prog_6_method_7_code 8 = .ok (.iconst 0, 1) := by decide +kernel
theorem d_cRp_copyHeads_9 : decode prog_6_method_7_code 9 = .ok (.istore_n 2, 1) := by decide +kernel
theorem d_cRp_copyHeads_10 : decode prog_6_method_7_code 10 = .ok (.iconst 0, 1) := by decide +kernel
theorem d_cRp_copyHeads_11 : decode prog_6_method_7_code 11 = .ok (.istore_n 3, 1) := by decide +kernel
theorem d_cRp_copyHeads_12 : decode prog_6_method_7_code 12 = .ok (.iload_n 3, 1) := by decide +kernel
theorem d_cRp_copyHeads_13 : decode prog_6_method_7_code 13 = .ok (.bipush 8, 2) := by decide +kernel
theorem d_cRp_copyHeads_15 : decode prog_6_method_7_code 15 = .ok (.if_icmp .ge 30, 3) := by decide +kernel
theorem d_cRp_copyHeads_18 : decode prog_6_method_7_code 18 = .ok (.aload_n 0, 1) := by decide +kernel
theorem d_cRp_copyHeads_19 : decode prog_6_method_7_code 19 = .ok (.getfield 21, 3) := by decide +kernel
theorem d_cRp_copyHeads_22 : decode prog_6_method_7_code 22 = .ok (.iload_n 3, 1) := by decide +kernel
theorem d_cRp_copyHeads_23 : decode prog_6_method_7_code 23 = .ok (.aaload, 1) := by decide +kernel
theorem d_cRp_copyHeads_24 : decode prog_6_method_7_code 24 = .ok (.ifnull 15, 3) := by decide +kernel
theorem d_cRp_copyHeads_39 : decode prog_6_method_7_code 39 = .ok (.iinc 3 1, 3) := by decide +kernel
theorem d_cRp_copyHeads_42 : decode prog_6_method_7_code 42 = .ok (.goto (-30), 3) := by decide +kernel
set_option maxHeartbeats 4000000 in
set_option maxRecDepth 100000 in
theorem w_cRp_copyHeads_J39 {p : Program} {l : Launch} {e : Env} {s : State} {m : MethodId} {args : Array Value} {below : List Frame} {meth : Method} {c : Code} {A : Nat → Prop} {D : va_G} {cc : Nat → ClassId} {sad sav : Nat → Nat} {Q : State → Prop} {ad0 : Nat → Nat → Nat} {N0 : Nat → Nat} {CT ST cR sR : Nat} (hC : MCc sad sav "JoinedTrees$Replica" prog_6_method_7_code 4 (some (.array (.object "JoinedTrees$Change"))) p s m args meth c A D cc) (hCT : CT ≤ cR) (hST : ST ≤ sR) {N : Nat → Nat} {x0 : Nat} {S : CS} {x1 : Option Nat} {x2 : Int32} {x3 : Int32} {o : (((Nat → Nat) × CS × Option Nat × Int32 × Int32) ⊕ ((Nat → Nat) × CS × Option Nat))} {oc os : Nat} (Heq : m_cRp_copyHeads_J39 N x0 S x1 x2 x3 = some (o, oc, os)) (Ka : ∀ (N : Nat → Nat) (b : CS × Option Nat × Int32 × Int32), o = .inl (N, b) → ∀ (ad : Nat → Nat → Nat) (H : Heap) (locs : List Loc) (ls : Array Slot), Ext ad0 N0 ad N → va_P D cls (cw ad cc N b.1) H → va_D A (cw ad cc N b.1) → va_S A s.heap H locs → lv_has ls 4 [(0, .ref (ad 4 x0)), (1, rv ad 16 b.2.1), (2, .int b.2.2.1), (3, .int b.2.2.2)] → W p l e ({ frames := 1, cells := cR, slots := sR, locals := 22 }) s m args below meth c H locs CT ST Q (F0 m 12 ls [])) (K0 : ∀ (N : Nat → Nat) (b : CS × Option Nat), o = .inr (N, b) → ∀ (ad : Nat → Nat → Nat) (H : Heap) (locs : List Loc) (ls : Array Slot), Ext ad0 N0 ad N → va_P D cls (cw ad cc N b.1) H → va_D A (cw ad cc N b.1) → va_S A s.heap H locs → lv_has ls 4 [(0, .ref (ad 4 x0)), (1, rv ad 16 b.2)] → W p l e ({ frames := 1, cells := cR, slots := sR, locals := 22 }) s m args below meth c H locs CT ST Q (F0 m 45 ls [])) : ∀ (ad : Nat → Nat → Nat) (H : Heap) (locs : List Loc) (ls : Array Slot) (cells slots : Nat), Ext ad0 N0 ad N → cells + oc = CT → slots + os = ST → va_P D cls (cw ad cc N S) H → va_D A (cw ad cc N S) → va_S A s.heap H locs → lv_has ls 4 [(0, .ref (ad 4 x0)), (1, rv ad 16 x1), (2, .int x2), (3, .int x3)] → W p l e ({ frames := 1, cells := cR, slots := sR, locals := 22 }) s m args below meth c H locs cells slots Q (F0 m 39 ls []) := by
  intro ad H locs ls cells slots hX hcu hsu hP hD hS hl
  obtain ⟨hx, hb, hr, hml, hown, hts, hK, hA, hev, hE, hN, hNS⟩ := id hC
  unfold m_cRp_copyHeads_J39 at Heq
  refine lv_iinc (v := x3 + 1) (lv' := [(3, .int (x3 + 1)), (0, .ref (ad 4 x0)), (1, rv ad 16 x1), (2, .int x2)]) hx hb d_cRp_copyHeads_39 hl (k := 3) rfl rfl (by decide) rfl (fun ls hl => ?_)
  refine lv_goto (tgt := 12) hx hb d_cRp_copyHeads_42 (by decide) ?_
  obtain ⟨e9, e9a, e9b⟩ := tri Heq
  refine W.cs (cells' := CT) (slots' := ST) (by omega) (by omega) ?_
  exact Ka _ _ e9 _ _ _ _ hX hP hD hS (lv_sub hl [1, 2, 3, 0] rfl)
noncomputable def m_cRp_copyHeads_B12 (N : Nat → Nat) (x0 : Nat) (S : CS) (x1 : Option Nat) (x2 : Int32) (x3 : Int32) : Option ((((Nat → Nat) × CS × Option Nat × Int32 × Int32) ⊕ ((Nat → Nat) × CS × Option Nat)) × Nat × Nat) := (if 8 ≤ x3 then some ((.inr (N, S, x1)), 0, 0) else gl x0 (N 4) (gn (S.r 4 3 x0) (N 16) (fun j_2 => gd x3 (S.z 16 j_2) (on (S.q 16 j_2 x3.toNatClampNeg) (m_cRp_copyHeads_J39 N x0 S x1 x2 x3) (fun j_6 => gd x3 (S.z 16 j_2) (gn x1 (N 16) (fun j_9 => gd x2 (S.z 16 j_9) (gl j_6 (N 0) (m_cRp_copyHeads_J39 N x0 (S.setQ 16 j_9 x2.toNatClampNeg (some j_6)) x1 (x2 + 1) x3)))))))))
theorem d_cRp_copyHeads_27 : decode prog_6_method_7_code 27 = .ok (.aload_n 1, 1) := by decide +kernel
theorem d_cRp_copyHeads_28 : decode prog_6_method_7_code 28 = .ok (.iload_n 2, 1) := by decide +kernel
theorem d_cRp_copyHeads_29 : decode prog_6_method_7_code 29 = .ok (.aload_n 0, 1) := by decide +kernel
theorem d_cRp_copyHeads_30 : decode prog_6_method_7_code 30 = .ok (.getfield 21, 3) := by decide +kernel
theorem d_cRp_copyHeads_33 : decode prog_6_method_7_code 33 = .ok (.iload_n 3, 1) := by decide +kernel
theorem d_cRp_copyHeads_34 : decode prog_6_method_7_code 34 = .ok (.aaload, 1) := by decide +kernel
theorem d_cRp_copyHeads_35 : decode prog_6_method_7_code 35 = .ok (.aastore, 1) := by decide +kernel
theorem d_cRp_copyHeads_36 : decode prog_6_method_7_code 36 = .ok (.iinc 2 1, 3) := by decide +kernel
set_option maxHeartbeats 4000000 in
set_option maxRecDepth 100000 in
theorem w_cRp_copyHeads_B12 {p : Program} {l : Launch} {e : Env} {s : State} {m : MethodId} {args : Array Value} {below : List Frame} {meth : Method} {c : Code} {A : Nat → Prop} {D : va_G} {cc : Nat → ClassId} {sad sav : Nat → Nat} {Q : State → Prop} {ad0 : Nat → Nat → Nat} {N0 : Nat → Nat} {CT ST cR sR : Nat} (hC : MCc sad sav "JoinedTrees$Replica" prog_6_method_7_code 4 (some (.array (.object "JoinedTrees$Change"))) p s m args meth c A D cc) (hCT : CT ≤ cR) (hST : ST ≤ sR) {N : Nat → Nat} {x0 : Nat} {S : CS} {x1 : Option Nat} {x2 : Int32} {x3 : Int32} {o : (((Nat → Nat) × CS × Option Nat × Int32 × Int32) ⊕ ((Nat → Nat) × CS × Option Nat))} {oc os : Nat} (Heq : m_cRp_copyHeads_B12 N x0 S x1 x2 x3 = some (o, oc, os)) (Ka : ∀ (N : Nat → Nat) (b : CS × Option Nat × Int32 × Int32), o = .inl (N, b) → ∀ (ad : Nat → Nat → Nat) (H : Heap) (locs : List Loc) (ls : Array Slot), Ext ad0 N0 ad N → va_P D cls (cw ad cc N b.1) H → va_D A (cw ad cc N b.1) → va_S A s.heap H locs → lv_has ls 4 [(0, .ref (ad 4 x0)), (1, rv ad 16 b.2.1), (2, .int b.2.2.1), (3, .int b.2.2.2)] → W p l e ({ frames := 1, cells := cR, slots := sR, locals := 22 }) s m args below meth c H locs CT ST Q (F0 m 12 ls [])) (K0 : ∀ (N : Nat → Nat) (b : CS × Option Nat), o = .inr (N, b) → ∀ (ad : Nat → Nat → Nat) (H : Heap) (locs : List Loc) (ls : Array Slot), Ext ad0 N0 ad N → va_P D cls (cw ad cc N b.1) H → va_D A (cw ad cc N b.1) → va_S A s.heap H locs → lv_has ls 4 [(0, .ref (ad 4 x0)), (1, rv ad 16 b.2)] → W p l e ({ frames := 1, cells := cR, slots := sR, locals := 22 }) s m args below meth c H locs CT ST Q (F0 m 45 ls [])) : ∀ (ad : Nat → Nat → Nat) (H : Heap) (locs : List Loc) (ls : Array Slot) (cells slots : Nat), Ext ad0 N0 ad N → cells + oc = CT → slots + os = ST → va_P D cls (cw ad cc N S) H → va_D A (cw ad cc N S) → va_S A s.heap H locs → lv_has ls 4 [(0, .ref (ad 4 x0)), (1, rv ad 16 x1), (2, .int x2), (3, .int x3)] → W p l e ({ frames := 1, cells := cR, slots := sR, locals := 22 }) s m args below meth c H locs cells slots Q (F0 m 12 ls []) := by
  intro ad H locs ls cells slots hX hcu hsu hP hD hS hl
  obtain ⟨hx, hb, hr, hml, hown, hts, hK, hA, hev, hE, hN, hNS⟩ := id hC
  unfold m_cRp_copyHeads_B12 at Heq
  refine lv_iload_n hx hb d_cRp_copyHeads_12 rfl (lv_at hl 3 rfl) ?_
  refine lv_bipush (v := 8) hx hb d_cRp_copyHeads_13 (by decide) ?_
  refine lv_icmp_ge (tgt := 45) hx hb d_cRp_copyHeads_15 (by decide) (fun c_1 => ?_) (fun c_1 => ?_)
  · replace Heq := (if_pos c_1).symm.trans Heq
    obtain ⟨e9, e9a, e9b⟩ := tri Heq
    refine W.cs (cells' := CT) (slots' := ST) (by omega) (by omega) ?_
    exact K0 _ _ e9 _ _ _ _ hX hP hD hS (lv_sub hl [0, 1] rfl)
  · replace Heq := (if_neg c_1).symm.trans Heq
    refine lv_aload_n hx hb d_cRp_copyHeads_18 rfl (lv_at hl 0 rfl) ?_
    obtain ⟨hl_x0_4, Heq⟩ := gl_some Heq
    refine va_get (D := D) (ci := 4) (v := rv ad 16 (S.r 4 3 x0)) (C := R_Rp) (T := F_Rp) (N := 10) hx hb hts i_Rp hown hK hP (cPos N 4 x0) (cw_obj (k := 4) (by decide) hl_x0_4) rfl 3 (by decide) (hts _ kw_213) (fun _ h9 => h9) rfl d_cRp_copyHeads_19 ?_
    refine lv_iload_n hx hb d_cRp_copyHeads_22 rfl (lv_at hl 3 rfl) ?_
    obtain ⟨j_2, hj_3, hl_4, Heq⟩ := gn_some Heq
    refine w_s (st' := [.int x3, .ref (ad 16 j_2)]) (congrArg (fun z9 : Option Nat => [.int x3, rv ad 16 z9]) hj_3) ?_
    obtain ⟨hi_5, Heq⟩ := gd_some Heq
    refine va_aldq hx hb hK hP (cPos N 16 j_2) 4 (cw_refs (k := 16) (by decide) hl_4) rfl (i := x3) hi_5 d_cRp_copyHeads_23 ?_
    refine w_v (y := rv ad 0 (S.q 16 j_2 x3.toNatClampNeg)) (congrArg (rv ad 0) rfl) ?_
    rcases on_some Heq with ⟨hj_7, Heq⟩ | ⟨j_6, hj_7, Heq⟩
    · refine w_s (st' := [.null]) (congrArg (fun z9 : Option Nat => [rv ad 0 z9]) hj_7) ?_
      refine lv_ifnullN (tgt := 39) hx hb d_cRp_copyHeads_24 (by decide) ?_
      exact w_cRp_copyHeads_J39 hC hCT hST Heq Ka K0 _ _ _ _ _ _ hX (by omega) (by omega) hP hD hS (lv_sub hl [0, 1, 2, 3] rfl)
    · refine w_s (st' := [.ref (ad 0 j_6)]) (congrArg (fun z9 : Option Nat => [rv ad 0 z9]) hj_7) ?_
      refine lv_ifnull hx hb d_cRp_copyHeads_24 ?_
      refine tx_aload_n (x := x1.map (ad 16)) hx hb d_cRp_copyHeads_27 rfl (lv_at hl 1 rfl) ?_
      refine w_v (y := rv ad 16 x1) rfl ?_
      refine lv_iload_n hx hb d_cRp_copyHeads_28 rfl (lv_at hl 2 rfl) ?_
      refine lv_aload_n hx hb d_cRp_copyHeads_29 rfl (lv_at hl 0 rfl) ?_
      refine va_get (D := D) (ci := 4) (v := rv ad 16 (S.r 4 3 x0)) (C := R_Rp) (T := F_Rp) (N := 10) hx hb hts i_Rp hown hK hP (cPos N 4 x0) (cw_obj (k := 4) (by decide) hl_x0_4) rfl 3 (by decide) (hts _ kw_213) (fun _ h9 => h9) rfl d_cRp_copyHeads_30 ?_
      refine lv_iload_n hx hb d_cRp_copyHeads_33 rfl (lv_at hl 3 rfl) ?_
      refine w_s (st' := [.int x3, .ref (ad 16 j_2), .int x2, rv ad 16 x1]) (congrArg (fun z9 : Option Nat => [.int x3, rv ad 16 z9, .int x2, rv ad 16 x1]) hj_3) ?_
      obtain ⟨hi_8, Heq⟩ := gd_some Heq
      refine va_aldq hx hb hK hP (cPos N 16 j_2) 4 (cw_refs (k := 16) (by decide) hl_4) rfl (i := x3) hi_8 d_cRp_copyHeads_34 ?_
      refine w_v (y := rv ad 0 (S.q 16 j_2 x3.toNatClampNeg)) (congrArg (rv ad 0) rfl) ?_
      obtain ⟨j_9, hj_10, hl_11, Heq⟩ := gn_some Heq
      refine w_s (st' := [rv ad 0 (S.q 16 j_2 x3.toNatClampNeg), .int x2, .ref (ad 16 j_9)]) (congrArg (fun z9 : Option Nat => [rv ad 0 (S.q 16 j_2 x3.toNatClampNeg), .int x2, rv ad 16 z9]) hj_10) ?_
      obtain ⟨hi_12, Heq⟩ := gd_some Heq
      refine w_s (st' := [.ref (ad 0 j_6), .int x2, .ref (ad 16 j_9)]) (congrArg (fun z9 : Option Nat => [rv ad 0 z9, .int x2, .ref (ad 16 j_9)]) hj_7) ?_
      obtain ⟨hl_j_6_0, Heq⟩ := gl_some Heq
      refine va_astq hx hb hK hP hD hS (cPos N 16 j_9) 4 (cPos N 0 j_6) 0 (cw_refs (k := 16) (by decide) hl_11) rfl (cw_obj (k := 0) (by decide) hl_j_6_0) rfl (i := x2) hi_12 d_cRp_copyHeads_35 (fun H locs hP hD hS => ?_)
      have hD := (congrArg (fun w9 => va_D A w9) (cw_setQ (ad := ad) (cc := cc) (S := S) (k := 16) (i := x2.toNatClampNeg) (v := (some j_6)) (by decide) hl_11)).mp hD
      have hP := (congrArg (fun w9 => va_P D cls w9 H) (cw_setQ (ad := ad) (cc := cc) (S := S) (k := 16) (i := x2.toNatClampNeg) (v := (some j_6)) (by decide) hl_11)).mp hP
      refine lv_iinc (v := x2 + 1) (lv' := [(2, .int (x2 + 1)), (0, .ref (ad 4 x0)), (1, rv ad 16 x1), (3, .int x3)]) hx hb d_cRp_copyHeads_36 hl (k := 2) rfl rfl (by decide) (by simp [rv, rf_cat]) (fun ls hl => ?_)
      exact w_cRp_copyHeads_J39 hC hCT hST Heq Ka K0 _ _ _ _ _ _ hX (by omega) (by omega) hP hD hS (lv_sub hl [1, 2, 0, 3] rfl)
noncomputable def m_cRp_copyHeads_L12 (N : Nat → Nat) (x0 : Nat) (S : CS) (x1 : Option Nat) (x2 : Int32) (x3 : Int32) : Option (((Nat → Nat) × CS × Option Nat) × Nat × Nat) := lpA (fun a : (Nat → Nat) × CS × Option Nat × Int32 × Int32 => m_cRp_copyHeads_B12 a.1 x0 a.2.1 a.2.2.1 a.2.2.2.1 a.2.2.2.2) FU (N, S, x1, x2, x3)
set_option maxHeartbeats 4000000 in
theorem w_cRp_copyHeads_L12 {p : Program} {l : Launch} {e : Env} {s : State} {m : MethodId} {args : Array Value} {below : List Frame} {meth : Method} {c : Code} {A : Nat → Prop} {D : va_G} {cc : Nat → ClassId} {sad sav : Nat → Nat} {Q : State → Prop} {ad0 : Nat → Nat → Nat} {N0 : Nat → Nat} {CT ST cR sR : Nat} (hC : MCc sad sav "JoinedTrees$Replica" prog_6_method_7_code 4 (some (.array (.object "JoinedTrees$Change"))) p s m args meth c A D cc) (hCT : CT ≤ cR) (hST : ST ≤ sR) {N : Nat → Nat} {x0 : Nat} {S : CS} {x1 : Option Nat} {x2 : Int32} {x3 : Int32} {o : (Nat → Nat) × CS × Option Nat} {oc os : Nat} (Heq : m_cRp_copyHeads_L12 N x0 S x1 x2 x3 = some (o, oc, os)) (K0 : ∀ (N : Nat → Nat) (b : CS × Option Nat), o = (N, b) → ∀ (ad : Nat → Nat → Nat) (H : Heap) (locs : List Loc) (ls : Array Slot), Ext ad0 N0 ad N → va_P D cls (cw ad cc N b.1) H → va_D A (cw ad cc N b.1) → va_S A s.heap H locs → lv_has ls 4 [(0, .ref (ad 4 x0)), (1, rv ad 16 b.2)] → W p l e ({ frames := 1, cells := cR, slots := sR, locals := 22 }) s m args below meth c H locs CT ST Q (F0 m 45 ls [])) : ∀ (ad : Nat → Nat → Nat) (H : Heap) (locs : List Loc) (ls : Array Slot) (cells slots : Nat), Ext ad0 N0 ad N → cells + oc = CT → slots + os = ST → va_P D cls (cw ad cc N S) H → va_D A (cw ad cc N S) → va_S A s.heap H locs → lv_has ls 4 [(0, .ref (ad 4 x0)), (1, rv ad 16 x1), (2, .int x2), (3, .int x3)] → W p l e ({ frames := 1, cells := cR, slots := sR, locals := 22 }) s m args below meth c H locs cells slots Q (F0 m 12 ls []) := by
  refine lpA_w2 (e := o) (G := fun (a : (Nat → Nat) × CS × Option Nat × Int32 × Int32) u9 v9 => ∀ (ad : Nat → Nat → Nat) (H : Heap) (locs : List Loc) (ls : Array Slot) (cells slots : Nat), Ext ad0 N0 ad a.1 → cells + u9 = CT → slots + v9 = ST → va_P D cls (cw ad cc a.1 a.2.1) H → va_D A (cw ad cc a.1 a.2.1) → va_S A s.heap H locs → lv_has ls 4 [(0, .ref (ad 4 x0)), (1, rv ad 16 a.2.2.1), (2, .int a.2.2.2.1), (3, .int a.2.2.2.2)] → W p l e ({ frames := 1, cells := cR, slots := sR, locals := 22 }) s m args below meth c H locs cells slots Q (F0 m 12 ls [])) ?_ FU (N, S, x1, x2, x3) oc os Heq
  intro a o1 c9 s9 u9 v9 ho hc9 hs9 Ka Ke ad H locs ls cells slots hX hcu hsu hP hD hS hl
  refine w_cRp_copyHeads_B12 (CT := cells + c9) (ST := slots + s9) hC (Nat.le_trans (m := CT) (by omega) hCT) (Nat.le_trans (m := ST) (by omega) hST) ho (fun N b h => ?_) (fun N b h => ?_) _ _ _ _ _ _ hX rfl rfl hP hD hS hl
  · obtain ⟨u1, v1, h1, h2, h3⟩ := Ka _ h
    intro ad H locs ls hX hP hD hS hl
    exact h3 ad H locs ls _ _ hX (by omega) (by omega) hP hD hS hl
  · obtain ⟨h1, h2, h3⟩ := Ke _ h
    intro ad H locs ls hX hP hD hS hl
    refine W.cs (cells' := CT) (slots' := ST) (by omega) (by omega) ?_
    exact K0 N b h1.symm ad H locs ls hX hP hD hS hl
noncomputable def m_cRp_copyHeads_J0 (N : Nat → Nat) (x0 : Nat) (S : CS) : Option (((Nat → Nat) × CS × Option Nat) × Nat × Nat) := gl x0 (N 4) (ob (m_cRp_headsNow N x0 S) (fun o_1 => gA o_1.2 (nw (o_1.2.toNatClampNeg) 16 (o_1.2.toNatClampNeg) N o_1.1 (fun N_4 S_5 j_6 => ov (m_cRp_copyHeads_L12 N_4 x0 S_5 (some j_6) 0 0) (fun N_7 b_8 => some ((N_7, b_8.1, b_8.2), 0, 0))))))
theorem d_cRp_copyHeads_45 : decode prog_6_method_7_code 45 = .ok (.aload_n 1, 1) := by decide +kernel
theorem d_cRp_copyHeads_46 : decode prog_6_method_7_code 46 = .ok (.areturn, 1) := by decide +kernel
set_option maxHeartbeats 4000000 in
set_option maxRecDepth 100000 in
theorem w_cRp_copyHeads_J0 {p : Program} {l : Launch} {e : Env} {s : State} {m : MethodId} {args : Array Value} {below : List Frame} {meth : Method} {c : Code} {A : Nat → Prop} {D : va_G} {cc : Nat → ClassId} {sad sav : Nat → Nat} {Q : State → Prop} {ad0 : Nat → Nat → Nat} {N0 : Nat → Nat} {CT ST cR sR : Nat} (hC : MCc sad sav "JoinedTrees$Replica" prog_6_method_7_code 4 (some (.array (.object "JoinedTrees$Change"))) p s m args meth c A D cc) (hCT : CT ≤ cR) (hST : ST ≤ sR) {N : Nat → Nat} {x0 : Nat} {S : CS} {o : (Nat → Nat) × CS × Option Nat} {oc os : Nat} (Heq : m_cRp_copyHeads_J0 N x0 S = some (o, oc, os)) (Kr : ∀ r : (Nat → Nat) × CS × Option Nat, o = r → ∀ (pc : Nat) (ad : Nat → Nat → Nat) (H : Heap) (locs : List Loc) (ls : Array Slot), decode prog_6_method_7_code pc = .ok (.areturn, 1) → Ext ad0 N0 ad (r.1) → va_P D cls (cw ad cc r.1 r.2.1) H → va_D A (cw ad cc r.1 r.2.1) → va_S A s.heap H locs → W p l e ({ frames := 1, cells := cR, slots := sR, locals := 22 }) s m args below meth c H locs CT ST Q (F0 m pc ls [rv ad 16 r.2.2])) : ∀ (ad : Nat → Nat → Nat) (H : Heap) (locs : List Loc) (ls : Array Slot) (cells slots : Nat), Ext ad0 N0 ad N → cells + oc = CT → slots + os = ST → va_P D cls (cw ad cc N S) H → va_D A (cw ad cc N S) → va_S A s.heap H locs → lv_has ls 4 [(0, .ref (ad 4 x0))] → W p l e ({ frames := 1, cells := cR, slots := sR, locals := 22 }) s m args below meth c H locs cells slots Q (F0 m 0 ls []) := by
  intro ad H locs ls cells slots hX hcu hsu hP hD hS hl
  obtain ⟨hx, hb, hr, hml, hown, hts, hK, hA, hev, hE, hN, hNS⟩ := id hC
  unfold m_cRp_copyHeads_J0 at Heq
  refine lv_aload_n hx hb d_cRp_copyHeads_0 rfl (lv_at hl 0 rfl) ?_
  obtain ⟨hl_x0_4, Heq⟩ := gl_some Heq
  obtain ⟨o_1, h_2, Heq⟩ := ob_some Heq
  have hFc := fr_all hD hS hA
  refine va_calli (va_runV (As := []) (rest := []) ⟨hx, hb, hml, hown, hts⟩ (g_cRp_headsNow l D H.size (ad := ad) (cc := cc) (sad := sad) (sav := sav) h_2) (cw_v 0 hts kw_1003 kw_1000 kw_1001 kw_1002 kw_5 rfl rfl (by decide +kernel) ⟨Nat.le_of_ble_eq_true rfl, Nat.le_of_ble_eq_true rfl⟩) ⟨c_blind, va_recv hK hP (ci := 4) (q0 := cPos N 4 x0) rfl (cw_obj (k := 4) (by decide) hl_x0_4), fun U hU hW => c_pre hU hW hP hK hD hev hE hN hNS hS hFc⟩ rfl rfl hl.1 rfl (lv_room (Nat.le_of_ble_eq_true rfl)) d_cRp_copyHeads_1 ⟨(Nat.le_trans (m := CT) (by omega) hCT), (Nat.le_trans (m := ST) (by omega) hST)⟩) hS (fun q _ h => hFc q h) hFc (fun rz u t H1 locs ht hvm hw hB hz1 hk1 hS => ?_)
  obtain ⟨hP, -, hD1⟩ := hB
  rw [ht] at hP
  have hD := hD1.weaken (fun _ q _ h => hFc q.1 h)
  generalize H1 = H at hP hS ⊢
  subst hw
  obtain ⟨hn_3a, hn_3b, Heq⟩ := gA_some Heq
  obtain ⟨N_4, S_5, j_6, a9, b9, Heq, e9a, e9b, hw9, eN9, eS9, ej9⟩ := nw_some Heq
  refine va_newq (C := "JoinedTrees$Change") (N' := (o_1.2.toNatClampNeg)) hx hb hown (hts _ kw_199) hev.2.2.2.2.1.2.1 hK hP hD hS hA hn_3a rfl (by show (o_1.2.toNatClampNeg) * 4 ≤ 536870912; omega) (Nat.le_trans (m := CT) (by omega) hCT) (Nat.le_trans (m := ST) (by omega) hST) d_cRp_copyHeads_4 (fun q9 cA9 H hK9 hP hD hS => ?_)
  obtain rfl := cA_eq hK9 4 rfl
  obtain ⟨ad, hX1, hq1, hne1, hl_j_6, hP, hD⟩ := cw_born2 hw9 eN9 eS9 ej9 (by decide) (cell_newQ (by decide)) hP hD
  have hX := hX.tr hX1
  have hl : lv_has ls 4 [(0, .ref (ad 4 x0))] := lv_cast hl (by first | rfl | simp only [hq1, hne1 4 x0 (by decide)])
  refine w_s (st' := [.ref (ad 16 j_6)]) (by first | rfl | simp only [hq1, hne1 4 x0 (by decide)]) ?_
  have hl_x0_4 := Nat.lt_of_lt_of_le hl_x0_4 (hX1.1 4)
  refine lv_astore_n (lv' := [(1, .ref (ad 16 j_6)), (0, .ref (ad 4 x0))]) hx hb d_cRp_copyHeads_7 rfl hl (by decide) rfl (fun ls hl => ?_)
  refine lv_iconst (v := 0) hx hb d_cRp_copyHeads_8 (by decide) ?_
  refine lv_istore_n (lv' := [(2, .int 0), (1, .ref (ad 16 j_6)), (0, .ref (ad 4 x0))]) hx hb d_cRp_copyHeads_9 rfl hl (by decide) rfl (fun ls hl => ?_)
  refine lv_iconst (v := 0) hx hb d_cRp_copyHeads_10 (by decide) ?_
  refine lv_istore_n (lv' := [(3, .int 0), (2, .int 0), (1, .ref (ad 16 j_6)), (0, .ref (ad 4 x0))]) hx hb d_cRp_copyHeads_11 rfl hl (by decide) rfl (fun ls hl => ?_)
  obtain ⟨N_7, b_8, a9, b9, a8, b8, h_9, Heq, e9a, e9b⟩ := ov_some Heq
  refine w_cRp_copyHeads_L12 hC (Nat.le_trans (m := CT) (by omega) hCT) (Nat.le_trans (m := ST) (by omega) hST) h_9 (fun N9 b9 h9 => ?_) _ _ _ _ _ _ hX rfl rfl hP hD hS (lv_sub hl [3, 2, 1, 0] rfl)
  cases h9
  intro ad H locs ls hX hP hD hS hl
  refine tx_aload_n (x := b_8.2.map (ad 16)) hx hb d_cRp_copyHeads_45 rfl (lv_at hl 1 rfl) ?_
  refine w_v (y := rv ad 16 b_8.2) rfl ?_
  obtain ⟨e9, e9a, e9b⟩ := tri Heq
  refine W.cs (cells' := CT) (slots' := ST) (by omega) (by omega) ?_
  exact Kr _ e9 46 _ _ _ _ d_cRp_copyHeads_46 hX hP hD hS
noncomputable def m_cRp_copyHeads (N : Nat → Nat) (x0 : Nat) (S : CS) : Option (((Nat → Nat) × CS × Option Nat) × Nat × Nat) := m_cRp_copyHeads_J0 N x0 S
set_option maxHeartbeats 4000000 in
theorem g_cRp_copyHeads (l : Launch) (D : va_G) (sz : Nat) {ad : Nat → Nat → Nat} {cc : Nat → ClassId} {sad sav : Nat → Nat} {N : Nat → Nat} {x0 : Nat} {S : CS} {o : (Nat → Nat) × CS × Option Nat} {oc os : Nat} (Heq : m_cRp_copyHeads N x0 S = some (o, oc, os)) : Met l ⟨"JoinedTrees$Replica", "copyHeads", "()[LJoinedTrees$Change;"⟩ (Cond.code ⟨"JoinedTrees$Replica", "copyHeads", "()[LJoinedTrees$Change;"⟩ prog_6_method_7_code 4 (some (.array (.object "JoinedTrees$Change"))) :: gb) ({ frames := 1, cells := oc, slots := os, locals := 22 }) (cPc sad sav D (cw ad cc N S) (cty cc) sz [.ref (ad 4 x0)]) (va_Qq (fun (r : Option Nat) (u : Nat → Nat → Nat) => r = o.2.2.map (u 16)) (fun (u : Nat → Nat → Nat) t => Ext ad N u o.1 ∧ gO D (cw u cc o.1 o.2.1) (cty cc) (va_A (cw ad cc N S) sz) t) (va_A (cw ad cc N S) sz)) oc os (va_A (cw ad cc N S) sz) := by
  refine Met.ofW (cc := prog_6_method_7_code) (maxL := 4) (ret := (some (.array (.object "JoinedTrees$Change")))) (by decide) rfl ?_
  intro p e s m args below meth c s₁ B hml hv
  obtain ⟨rfl, hsz, hP, hK, hD0, hev, hE, hN⟩ := hv
  have hx := B.exec
  have hb := B.bytes
  have hr := B.returns
  have hts : ∀ w9 ∈ gb, w9.before [.ref (ad 4 x0)].toArray s = true := fun w9 h => atoms_spec (ws := Cond.code ⟨"JoinedTrees$Replica", "copyHeads", "()[LJoinedTrees$Change;"⟩ prog_6_method_7_code 4 (some (.array (.object "JoinedTrees$Change"))) :: gb) B.pre w9 (List.mem_cons_of_mem _ h)
  have hown : s.vm.findClass "JoinedTrees$Replica" = some m.cls := findClass_of_methodNamed B.named
  have hlocks := B.notSynchronized
  have hNS := ns_of hP
  subst hsz
  have hD := hD0.self (sz := s.heap.size)
  generalize hAe : va_A (cw ad cc N S) s.heap.size = A at hD hev hE hNS ⊢
  have hA : ∀ q : Nat, s.heap.size ≤ q → A q := fun q h => by rw [← hAe]; exact Or.inr h
  have hS : va_S A s.heap s.heap [] := va_S.rf
  obtain ⟨ls, hl, hle⟩ : ∃ ls : Array Slot, lv_has ls 4 [(0, .ref (ad 4 x0))] ∧ entryFrame m ([.ref (ad 4 x0)] : List Value).toArray 4 = F0 m 0 ls [] := by
    exact ⟨_, lv_entry (n := 4) _ (Nat.le_of_ble_eq_true rfl), lg_entry_eq ..⟩
  rw [hle]
  refine w_cRp_copyHeads_J0 (ad0 := ad) (N0 := N) (CT := oc) (ST := os) (cR := oc) (sR := os) ⟨hx, hb, hr, hml, hown, hts, hK, hA, hev, hE, hN, hNS⟩ (Nat.le_refl _) (Nat.le_refl _) Heq (fun r h pc ad1 H locs ls hd hX hP hD hS => ?_) _ _ _ _ 0 0 Ext.rf (Nat.zero_add _) (Nat.zero_add _) hP hD hS (lv_sub hl [0] rfl)
  subst h
  exact W.aret hx hb hr (Or.inr ⟨_, rfl⟩) (va_rf_or _) (fun t ht hW => ⟨⟨_, ad1, rfl, rfl, hX, by rw [ht]; exact hP, va_K.moved hW.alike hK, hD⟩, hS.F ht⟩) hS.2.2 hd
noncomputable def m_cSt_close_J0 (N : Nat → Nat) (x0 : Nat) (S : CS) (x1 : Nat) : Option (((Nat → Nat) × CS × Int32) × Nat × Nat) := nw 7 0 0 N S (fun N_1 S_2 j_3 => gl x0 (N_1 8) (gl x1 (N_1 4) (oq (m_cRp_copyHeads N_1 x1 S_2) (fun N_6 S_7 v_8 => gn v_8 (N_6 16) (fun j_9 => ob (m_cCh_init N_6 j_3 S_7 x1 (S_2.i 8 4 x0) j_9) (fun o_12 => gn (o_12.r 8 3 x0) (N_6 16) (fun j_14 => gd (o_12.i 8 4 x0) (o_12.z 16 j_14) (ob (m_cRp_gain N_6 x1 ((o_12.setQ 16 j_14 ((o_12.i 8 4 x0).toNatClampNeg) (some j_3)).setI 8 4 x0 ((o_12.i 8 4 x0) + 1)) j_3) (fun o_18 => gn (o_18.r 4 1 x1) (N_6 12) (fun j_20 => nwF ((o_18.setI 4 9 x1 0).z 12 j_20) 12 ((o_18.setI 4 9 x1 0).z 12 j_20) ((o_18.setI 4 9 x1 0).a 12 j_20) N_6 (o_18.setI 4 9 x1 0) (fun N_23 S_24 j_25 => some ((N_23, (S_24.setR 0 6 j_3 (some j_25)), S_24.i 0 1 j_3), 0, 0))))))))))))
theorem d_cSt_close_0 : decode prog_10_method_11_code 0 = .ok (.new 33, 3) := by decide +kernel
theorem d_cSt_close_3 : decode prog_10_method_11_code 3 = .ok (.dup, 1) := by decide +kernel
theorem d_cSt_close_4 : decode prog_10_method_11_code 4 = .ok (.aload_n 1, 1) := by decide +kernel
theorem d_cSt_close_5 : decode prog_10_method_11_code 5 = .ok (.aload_n 0, 1) := by decide +kernel
theorem d_cSt_close_6 : decode prog_10_method_11_code 6 = .ok (.getfield 126, 3) := by decide +kernel
theorem d_cSt_close_9 : decode prog_10_method_11_code 9 = .ok (.aload_n 1, 1) := by decide +kernel
theorem d_cSt_close_10 : decode prog_10_method_11_code 10 = .ok (.invokevirtual 129, 3) := by decide +kernel
theorem d_cSt_close_13 : decode prog_10_method_11_code 13 = .ok (.invokespecial 133, 3) := by decide +kernel
theorem d_cSt_close_16 : decode prog_10_method_11_code 16 = .ok (.astore_n 2, 1) := by decide +kernel
theorem d_cSt_close_17 : decode prog_10_method_11_code 17 = .ok (.aload_n 0, 1) := by decide +kernel
theorem d_cSt_close_18 : decode prog_10_method_11_code 18 = .ok (.getfield 35, 3) := by decide +kernel
theorem d_cSt_close_21 : decode prog_10_method_11_code 21 = .ok (.aload_n 0, 1) := by decide +kernel
theorem d_cSt_close_22 : decode prog_10_method_11_code 22 = .ok (.getfield 126, 3) := by decide +kernel
theorem d_cSt_close_25 : decode prog_10_method_11_code 25 = .ok (.aload_n 2, 1) := by decide +kernel
theorem d_cSt_close_26 : decode prog_10_method_11_code 26 = .ok (.aastore, 1) := by decide +kernel
theorem d_cSt_close_27 : decode prog_10_method_11_code 27 = .ok (.aload_n 0, 1) := by decide +kernel
theorem d_cSt_close_28 : decode prog_10_method_11_code 28 = .ok (.dup, 1) := by decide +kernel
theorem d_cSt_close_29 : decode prog_10_method_11_code 29 = .ok (.getfield 126, 3) := by decide +kernel
theorem d_cSt_close_32 : decode prog_10_method_11_code 32 = .ok (.iconst 1, 1) := by decide +kernel
theorem d_cSt_close_33 : decode prog_10_method_11_code 33 = .ok (.iadd, 1) := by decide +kernel
theorem d_cSt_close_34 : decode prog_10_method_11_code 34 = .ok (.putfield 126, 3) := by decide +kernel
theorem d_cSt_close_37 : decode prog_10_method_11_code 37 = .ok (.aload_n 1, 1) := by decide +kernel
theorem d_cSt_close_38 : decode prog_10_method_11_code 38 = .ok (.aload_n 2, 1) := by decide +kernel
theorem d_cSt_close_39 : decode prog_10_method_11_code 39 = .ok (.invokevirtual 136, 3) := by decide +kernel
theorem d_cSt_close_42 : decode prog_10_method_11_code 42 = .ok (.aload_n 1, 1) := by decide +kernel
theorem d_cSt_close_43 : decode prog_10_method_11_code 43 = .ok (.iconst 0, 1) := by decide +kernel
theorem d_cSt_close_44 : decode prog_10_method_11_code 44 = .ok (.putfield 48, 3) := by decide +kernel
theorem d_cSt_close_47 : decode prog_10_method_11_code 47 = .ok (.aload_n 2, 1) := by decide +kernel
theorem d_cSt_close_48 : decode prog_10_method_11_code 48 = .ok (.aload_n 1, 1) := by decide +kernel
theorem d_cSt_close_49 : decode prog_10_method_11_code 49 = .ok (.getfield 57, 3) := by decide +kernel
theorem d_cSt_close_52 : decode prog_10_method_11_code 52 = .ok (.invokevirtual 140, 3) := by decide +kernel
theorem d_cSt_close_55 : decode prog_10_method_11_code 55 = .ok (.checkcast 141, 3) := by decide +kernel
theorem d_cSt_close_58 : decode prog_10_method_11_code 58 = .ok (.putfield 145, 3) := by decide +kernel
theorem d_cSt_close_61 : decode prog_10_method_11_code 61 = .ok (.aload_n 2, 1) := by decide +kernel
theorem d_cSt_close_62 : decode prog_10_method_11_code 62 = .ok (.getfield 148, 3) := by decide +kernel
theorem d_cSt_close_65 : decode prog_10_method_11_code 65 = .ok (.ireturn, 1) := by decide +kernel
set_option maxHeartbeats 4000000 in
set_option maxRecDepth 100000 in
theorem w_cSt_close_J0 {p : Program} {l : Launch} {e : Env} {s : State} {m : MethodId} {args : Array Value} {below : List Frame} {meth : Method} {c : Code} {A : Nat → Prop} {D : va_G} {cc : Nat → ClassId} {sad sav : Nat → Nat} {Q : State → Prop} {ad0 : Nat → Nat → Nat} {N0 : Nat → Nat} {CT ST cR sR : Nat} (hC : MCc sad sav "JoinedTrees$Store" prog_10_method_11_code 3 (some .int) p s m args meth c A D cc) (hCT : CT ≤ cR) (hST : ST ≤ sR) {N : Nat → Nat} {x0 : Nat} {S : CS} {x1 : Nat} {o : (Nat → Nat) × CS × Int32} {oc os : Nat} (Heq : m_cSt_close_J0 N x0 S x1 = some (o, oc, os)) (Kr : ∀ r : (Nat → Nat) × CS × Int32, o = r → ∀ (pc : Nat) (ad : Nat → Nat → Nat) (H : Heap) (locs : List Loc) (ls : Array Slot), decode prog_10_method_11_code pc = .ok (.ireturn, 1) → Ext ad0 N0 ad (r.1) → va_P D cls (cw ad cc r.1 r.2.1) H → va_D A (cw ad cc r.1 r.2.1) → va_S A s.heap H locs → W p l e ({ frames := 2, cells := cR, slots := sR, locals := 47 }) s m args below meth c H locs CT ST Q (F0 m pc ls [.int r.2.2])) : ∀ (ad : Nat → Nat → Nat) (H : Heap) (locs : List Loc) (ls : Array Slot) (cells slots : Nat), Ext ad0 N0 ad N → cells + oc = CT → slots + os = ST → va_P D cls (cw ad cc N S) H → va_D A (cw ad cc N S) → va_S A s.heap H locs → lv_has ls 3 [(0, .ref (ad 8 x0)), (1, .ref (ad 4 x1))] → W p l e ({ frames := 2, cells := cR, slots := sR, locals := 47 }) s m args below meth c H locs cells slots Q (F0 m 0 ls []) := by
  intro ad H locs ls cells slots hX hcu hsu hP hD hS hl
  obtain ⟨hx, hb, hr, hml, hown, hts, hK, hA, hev, hE, hN, hNS⟩ := id hC
  unfold m_cSt_close_J0 at Heq
  obtain ⟨N_1, S_2, j_3, a9, b9, Heq, e9a, e9b, hw9, eN9, eS9, ej9⟩ := nw_some Heq
  refine va_new (D := D) (ci := 0) (fs := [.int 0, .int 0, .int 0, .int 0, .int 0, .null, .null]) (C := R_Ch) (T := F_Ch) (N := 7) hx hb hts i_Ch t_Ch t_Ch_ok hown (hts _ kw_159) (hts _ kw_995) (hts _ kw_26) hK hP hD hS hA rfl (by decide +kernel) (Nat.le_trans (m := CT) (by omega) hCT) (Nat.le_trans (m := ST) (by omega) hST) d_cSt_close_0 (fun q9 H hP hD hS => ?_)
  obtain ⟨ad, hX1, hq1, hne1, hl_j_3, hP, hD⟩ := cw_born2 hw9 eN9 eS9 ej9 (by decide) (cell_newO (by decide)) hP hD
  have hX := hX.tr hX1
  have hl : lv_has ls 3 [(0, .ref (ad 8 x0)), (1, .ref (ad 4 x1))] := lv_cast hl (by first | rfl | simp only [hq1, hne1 8 x0 (by decide), hne1 4 x1 (by decide)])
  refine w_s (st' := [.ref (ad 0 j_3)]) (by first | rfl | simp only [hq1, hne1 8 x0 (by decide), hne1 4 x1 (by decide)]) ?_
  refine lv_dup hx hb d_cSt_close_3 (by first | rfl | exact rv_cat) ?_
  refine lv_aload_n hx hb d_cSt_close_4 rfl (lv_at hl 1 rfl) ?_
  refine lv_aload_n hx hb d_cSt_close_5 rfl (lv_at hl 0 rfl) ?_
  obtain ⟨hl_x0_8, Heq⟩ := gl_some Heq
  refine va_get (D := D) (ci := 8) (v := .int (S_2.i 8 4 x0)) (C := R_St) (T := F_St) (N := 6) hx hb hts i_St hown hK hP (cPos N_1 8 x0) (cw_obj (k := 8) (by decide) hl_x0_8) rfl 4 (by decide) (hts _ kw_175) (fun _ h9 => h9) rfl d_cSt_close_6 ?_
  refine lv_aload_n hx hb d_cSt_close_9 rfl (lv_at hl 1 rfl) ?_
  obtain ⟨hl_x1_4, Heq⟩ := gl_some Heq
  obtain ⟨N_6, S_7, v_8, a9, b9, a8, b8, h_5, Heq, e9a, e9b⟩ := oq_some Heq
  have hFc := fr_all hD hS hA
  refine va_callq (va_runV (As := []) (rest := [.int (S_2.i 8 4 x0), .ref (ad 4 x1), .ref (ad 0 j_3), .ref (ad 0 j_3)]) ⟨hx, hb, hml, hown, hts⟩ (g_cRp_copyHeads l D H.size (ad := ad) (cc := cc) (sad := sad) (sav := sav) h_5) (cw_v 0 hts kw_999 kw_996 kw_997 kw_998 kw_5 rfl rfl (by decide +kernel) ⟨Nat.le_of_ble_eq_true rfl, Nat.le_of_ble_eq_true rfl⟩) ⟨c_blind, va_recv hK hP (ci := 4) (q0 := cPos N_1 4 x1) rfl (cw_obj (k := 4) (by decide) hl_x1_4), fun U hU hW => c_pre hU hW hP hK hD hev hE hN hNS hS hFc⟩ rfl rfl hl.1 rfl (lv_room (Nat.le_of_ble_eq_true rfl)) d_cSt_close_10 ⟨(Nat.le_trans (m := CT) (by omega) hCT), (Nat.le_trans (m := ST) (by omega) hST)⟩) hS (fun q _ h => hFc q h) hFc (fun rz ad t H1 locs ht hvm hw hB hz1 hk1 hS => ?_)
  obtain ⟨hX1, hP, -, hD1⟩ := hB
  rw [ht] at hP
  have hD := hD1.weaken (fun _ q _ h => hFc q.1 h)
  generalize H1 = H at hP hS ⊢
  subst hw
  refine w_v (y := rv ad 16 v_8) rfl ?_
  have hX := hX.tr hX1
  have hl : lv_has ls 3 [(0, .ref (ad 8 x0)), (1, .ref (ad 4 x1))] := lv_cast hl (by first | rfl | simp only [hX1.2 8 x0 hl_x0_8, hX1.2 4 x1 hl_x1_4, hX1.2 0 j_3 hl_j_3])
  refine w_s (st' := [rv ad 16 v_8, .int (S_2.i 8 4 x0), .ref (ad 4 x1), .ref (ad 0 j_3), .ref (ad 0 j_3)]) (by first | rfl | simp only [hX1.2 8 x0 hl_x0_8, hX1.2 4 x1 hl_x1_4, hX1.2 0 j_3 hl_j_3]) ?_
  have hl_j_3 := Nat.lt_of_lt_of_le hl_j_3 (hX1.1 0)
  have hl_x0_8 := Nat.lt_of_lt_of_le hl_x0_8 (hX1.1 8)
  have hl_x1_4 := Nat.lt_of_lt_of_le hl_x1_4 (hX1.1 4)
  obtain ⟨j_9, hj_10, hl_11, Heq⟩ := gn_some Heq
  refine w_s (st' := [.ref (ad 16 j_9), .int (S_2.i 8 4 x0), .ref (ad 4 x1), .ref (ad 0 j_3), .ref (ad 0 j_3)]) (congrArg (fun z9 : Option Nat => [rv ad 16 z9, .int (S_2.i 8 4 x0), .ref (ad 4 x1), .ref (ad 0 j_3), .ref (ad 0 j_3)]) hj_10) ?_
  obtain ⟨o_12, h_13, Heq⟩ := ob_some Heq
  have hFc := fr_all hD hS hA
  refine va_callv (va_runI (As := [.ref (ad 4 x1), .int (S_2.i 8 4 x0), .ref (ad 16 j_9)]) (rest := [.ref (ad 0 j_3)]) ⟨hx, hb, hml, hown, hts⟩ (g_cCh_init l D H.size (ad := ad) (cc := cc) (sad := sad) (sav := sav) h_13) (cw_i 3 hts kw_1006 kw_1004 kw_1005 kw_26 rfl rfl rfl (by decide +kernel) ⟨Nat.le_of_ble_eq_true rfl, Nat.le_of_ble_eq_true rfl⟩) ⟨c_blind, fun U hU hW => c_pre hU hW hP hK hD hev hE hN hNS hS hFc⟩ rfl rfl hl.1 rfl (lv_room (Nat.le_of_ble_eq_true rfl)) d_cSt_close_13 ⟨(Nat.le_trans (m := CT) (by omega) hCT), (Nat.le_trans (m := ST) (by omega) hST)⟩) hS (fun q _ h => hFc q h) hFc (fun u t H1 locs ht hvm hw hB hz1 hk1 hS => ?_)
  obtain ⟨hP, -, hD1⟩ := hB
  rw [ht] at hP
  have hD := hD1.weaken (fun _ q _ h => hFc q.1 h)
  generalize H1 = H at hP hS ⊢
  refine lv_astore_n (lv' := [(2, .ref (ad 0 j_3)), (0, .ref (ad 8 x0)), (1, .ref (ad 4 x1))]) hx hb d_cSt_close_16 rfl hl (by decide) rfl (fun ls hl => ?_)
  refine lv_aload_n hx hb d_cSt_close_17 rfl (lv_at hl 1 rfl) ?_
  refine va_get (D := D) (ci := 8) (v := rv ad 16 (o_12.r 8 3 x0)) (C := R_St) (T := F_St) (N := 6) hx hb hts i_St hown hK hP (cPos N_6 8 x0) (cw_obj (k := 8) (by decide) hl_x0_8) rfl 3 (by decide) (hts _ kw_171) (fun _ h9 => h9) rfl d_cSt_close_18 ?_
  refine lv_aload_n hx hb d_cSt_close_21 rfl (lv_at hl 1 rfl) ?_
  refine va_get (D := D) (ci := 8) (v := .int (o_12.i 8 4 x0)) (C := R_St) (T := F_St) (N := 6) hx hb hts i_St hown hK hP (cPos N_6 8 x0) (cw_obj (k := 8) (by decide) hl_x0_8) rfl 4 (by decide) (hts _ kw_175) (fun _ h9 => h9) rfl d_cSt_close_22 ?_
  refine lv_aload_n hx hb d_cSt_close_25 rfl (lv_at hl 0 rfl) ?_
  obtain ⟨j_14, hj_15, hl_16, Heq⟩ := gn_some Heq
  refine w_s (st' := [.ref (ad 0 j_3), .int (o_12.i 8 4 x0), .ref (ad 16 j_14)]) (congrArg (fun z9 : Option Nat => [.ref (ad 0 j_3), .int (o_12.i 8 4 x0), rv ad 16 z9]) hj_15) ?_
  obtain ⟨hi_17, Heq⟩ := gd_some Heq
  refine va_astq hx hb hK hP hD hS (cPos N_6 16 j_14) 4 (cPos N_6 0 j_3) 0 (cw_refs (k := 16) (by decide) hl_16) rfl (cw_obj (k := 0) (by decide) hl_j_3) rfl (i := o_12.i 8 4 x0) hi_17 d_cSt_close_26 (fun H locs hP hD hS => ?_)
  have hD := (congrArg (fun w9 => va_D A w9) (cw_setQ (ad := ad) (cc := cc) (S := o_12) (k := 16) (i := (o_12.i 8 4 x0).toNatClampNeg) (v := (some j_3)) (by decide) hl_16)).mp hD
  have hP := (congrArg (fun w9 => va_P D cls w9 H) (cw_setQ (ad := ad) (cc := cc) (S := o_12) (k := 16) (i := (o_12.i 8 4 x0).toNatClampNeg) (v := (some j_3)) (by decide) hl_16)).mp hP
  refine lv_aload_n hx hb d_cSt_close_27 rfl (lv_at hl 1 rfl) ?_
  refine lv_dup hx hb d_cSt_close_28 (by first | rfl | exact rv_cat) ?_
  refine va_get (D := D) (ci := 8) (v := .int ((o_12.setQ 16 j_14 ((o_12.i 8 4 x0).toNatClampNeg) (some j_3)).i 8 4 x0)) (C := R_St) (T := F_St) (N := 6) hx hb hts i_St hown hK hP (cPos N_6 8 x0) (cw_obj (k := 8) (by decide) hl_x0_8) rfl 4 (by decide) (hts _ kw_175) (fun _ h9 => h9) rfl d_cSt_close_29 ?_
  refine w_i (y := o_12.i 8 4 x0) rfl ?_
  refine lv_iconst (v := 1) hx hb d_cSt_close_32 (by decide) ?_
  refine lv_iadd hx hb d_cSt_close_33 ?_
  refine w_i (y := (o_12.i 8 4 x0) + 1) rfl ?_
  refine va_put (D := D) (ci := 8) (v := .int ((o_12.i 8 4 x0) + 1)) (ty := .int) (C := R_St) (T := F_St) (N := 6) hx hb hts i_St t_St t_St_ok n_St hown hK hP hD hS (cPos N_6 8 x0) (cw_obj (k := 8) (by decide) hl_x0_8) rfl 4 (by decide) (hts _ kw_175) (fun _ h9 => h9) rfl (by decide +kernel) rfl rfl (Nat.le_of_ble_eq_true rfl) d_cSt_close_34 (fun H locs hP hD hS => ?_)
  have hD := (congrArg (fun w9 => va_D A w9) (cw_setI (ad := ad) (cc := cc) (S := (o_12.setQ 16 j_14 ((o_12.i 8 4 x0).toNatClampNeg) (some j_3))) (k := 8) (f := 4) (v := (o_12.i 8 4 x0) + 1) (by decide) rfl hl_x0_8)).mp hD
  have hP := (congrArg (fun w9 => va_P D cls w9 H) (cw_setI (ad := ad) (cc := cc) (S := (o_12.setQ 16 j_14 ((o_12.i 8 4 x0).toNatClampNeg) (some j_3))) (k := 8) (f := 4) (v := (o_12.i 8 4 x0) + 1) (by decide) rfl hl_x0_8)).mp hP
  refine lv_aload_n hx hb d_cSt_close_37 rfl (lv_at hl 2 rfl) ?_
  refine lv_aload_n hx hb d_cSt_close_38 rfl (lv_at hl 0 rfl) ?_
  obtain ⟨o_18, h_19, Heq⟩ := ob_some Heq
  have hFc := fr_all hD hS hA
  refine va_callv (va_runV (As := [.ref (ad 0 j_3)]) (rest := []) ⟨hx, hb, hml, hown, hts⟩ (g_cRp_gain l D H.size (ad := ad) (cc := cc) (sad := sad) (sav := sav) h_19) (cw_v 1 hts kw_1050 kw_1047 kw_1048 kw_1049 kw_5 rfl rfl (by decide +kernel) ⟨Nat.le_of_ble_eq_true rfl, Nat.le_of_ble_eq_true rfl⟩) ⟨c_blind, va_recv hK hP (ci := 4) (q0 := cPos N_6 4 x1) rfl (cw_obj (k := 4) (by decide) hl_x1_4), fun U hU hW => c_pre hU hW hP hK hD hev hE hN hNS hS hFc⟩ rfl rfl hl.1 rfl (lv_room (Nat.le_of_ble_eq_true rfl)) d_cSt_close_39 ⟨(Nat.le_trans (m := CT) (by omega) hCT), (Nat.le_trans (m := ST) (by omega) hST)⟩) hS (fun q _ h => hFc q h) hFc (fun u t H1 locs ht hvm hw hB hz1 hk1 hS => ?_)
  obtain ⟨hP, -, hD1⟩ := hB
  rw [ht] at hP
  have hD := hD1.weaken (fun _ q _ h => hFc q.1 h)
  generalize H1 = H at hP hS ⊢
  refine lv_aload_n hx hb d_cSt_close_42 rfl (lv_at hl 2 rfl) ?_
  refine lv_iconst (v := 0) hx hb d_cSt_close_43 (by decide) ?_
  refine va_put (D := D) (ci := 4) (v := .int 0) (ty := .int) (C := R_Rp) (T := F_Rp) (N := 10) hx hb hts i_Rp t_Rp t_Rp_ok n_Rp hown hK hP hD hS (cPos N_6 4 x1) (cw_obj (k := 4) (by decide) hl_x1_4) rfl 9 (by decide) (hts _ kw_229) (fun _ h9 => h9) rfl (by decide +kernel) rfl rfl (Nat.le_of_ble_eq_true rfl) d_cSt_close_44 (fun H locs hP hD hS => ?_)
  have hD := (congrArg (fun w9 => va_D A w9) (cw_setI (ad := ad) (cc := cc) (S := o_18) (k := 4) (f := 9) (v := 0) (by decide) rfl hl_x1_4)).mp hD
  have hP := (congrArg (fun w9 => va_P D cls w9 H) (cw_setI (ad := ad) (cc := cc) (S := o_18) (k := 4) (f := 9) (v := 0) (by decide) rfl hl_x1_4)).mp hP
  refine lv_aload_n hx hb d_cSt_close_47 rfl (lv_at hl 0 rfl) ?_
  refine lv_aload_n hx hb d_cSt_close_48 rfl (lv_at hl 2 rfl) ?_
  refine va_get (D := D) (ci := 4) (v := rv ad 12 ((o_18.setI 4 9 x1 0).r 4 1 x1)) (C := R_Rp) (T := F_Rp) (N := 10) hx hb hts i_Rp hown hK hP (cPos N_6 4 x1) (cw_obj (k := 4) (by decide) hl_x1_4) rfl 1 (by decide) (hts _ kw_208) (fun _ h9 => h9) rfl d_cSt_close_49 ?_
  refine w_v (y := rv ad 12 (o_18.r 4 1 x1)) (congrArg (rv ad 12) rfl) ?_
  obtain ⟨j_20, hj_21, hl_22, Heq⟩ := gn_some Heq
  refine w_s (st' := [.ref (ad 12 j_20), .ref (ad 0 j_3)]) (congrArg (fun z9 : Option Nat => [rv ad 12 z9, .ref (ad 0 j_3)]) hj_21) ?_
  have hl : lv_has ls 3 [(2, .ref (ad 0 j_3)), (0, .ref (ad 8 x0))] := lv_sub hl [0, 1] rfl
  obtain ⟨N_23, S_24, j_25, a9, b9, Heq, e9a, e9b, hw9, eN9, eS9, ej9⟩ := nwF_some Heq
  refine va_clone (ad := "[I") (x := (((o_18.setI 4 9 x1 0).z 12 j_20), .inl ((o_18.setI 4 9 x1 0).a 12 j_20))) hx hb (hml.trans hl.1.symm) hown (hts _ kw_1051) (hts _ kw_1052) (hts _ kw_1053) (hts _ kw_1054) (hts _ kw_1055) hN.2.2 hK hP hD hS hA (cPos N_6 12 j_20) 0 (cw_arr (k := 12) (by decide) hl_22) rfl (nm_I hK) fit_I (Nat.le_of_ble_eq_true rfl) (by simp only [List.map_cons, List.map_nil, List.sum_cons, List.sum_nil, rv_cat]; exact Nat.le_of_ble_eq_true rfl) (Nat.le_trans (m := CT) (by omega) hCT) (Nat.le_trans (m := ST) (by omega) hST) d_cSt_close_52 (fun q9 H hK9 hP hD hS => ?_)
  obtain ⟨ad, hX1, hq1, hne1, hl_j_25, hP, hD⟩ := cw_bornF hw9 eN9 eS9 ej9 (by decide) hP hD
  have hX := hX.tr hX1
  have hl : lv_has ls 3 [(2, .ref (ad 0 j_3)), (0, .ref (ad 8 x0))] := lv_cast hl (by first | rfl | simp only [hq1, hne1 0 j_3 (by decide), hne1 8 x0 (by decide)])
  refine w_s (st' := [.ref (ad 12 j_25), .ref (ad 0 j_3)]) (by first | rfl | simp only [hq1, hne1 0 j_3 (by decide), hne1 8 x0 (by decide)]) ?_
  have hl_j_3 := Nat.lt_of_lt_of_le hl_j_3 (hX1.1 0)
  have hl_x0_8 := Nat.lt_of_lt_of_le hl_x0_8 (hX1.1 8)
  have hl_x1_4 := Nat.lt_of_lt_of_le hl_x1_4 (hX1.1 4)
  have hl_11 := Nat.lt_of_lt_of_le hl_11 (hX1.1 16)
  have hl_16 := Nat.lt_of_lt_of_le hl_16 (hX1.1 16)
  have hl_22 := Nat.lt_of_lt_of_le hl_22 (hX1.1 12)
  refine va_castA (nm := "[I") hx hb hown (hts _ kw_1057) hP (cPos N_23 12 j_25) (cw_arr (k := 12) (by decide) hl_j_25) (nm_I hK) d_cSt_close_55 ?_
  refine w_v (y := rv ad 12 (some j_25)) rfl ?_
  refine va_put (D := D) (ci := 0) (v := rv ad 12 (some j_25)) (ty := .array (.int)) (C := R_Ch) (T := F_Ch) (N := 7) hx hb hts i_Ch t_Ch t_Ch_ok n_Ch hown hK hP hD hS (cPos N_23 0 j_3) (cw_obj (k := 0) (by decide) hl_j_3) rfl 6 (by decide) (hts _ kw_1031) (fun _ h9 => h9) rfl (by decide +kernel) (rv_nar (Or.inr ⟨_, rfl⟩)) (rv_fit (Or.inr ⟨_, rfl⟩)) (Nat.le_of_ble_eq_true rfl) d_cSt_close_58 (fun H locs hP hD hS => ?_)
  have hD := (congrArg (fun w9 => va_D A w9) (cw_setR (ad := ad) (cc := cc) (S := S_24) (k := 0) (f := 6) (t := 12) (v := (some j_25)) (by decide) rfl hl_j_3)).mp hD
  have hP := (congrArg (fun w9 => va_P D cls w9 H) (cw_setR (ad := ad) (cc := cc) (S := S_24) (k := 0) (f := 6) (t := 12) (v := (some j_25)) (by decide) rfl hl_j_3)).mp hP
  refine lv_aload_n hx hb d_cSt_close_61 rfl (lv_at hl 0 rfl) ?_
  refine va_get (D := D) (ci := 0) (v := .int ((S_24.setR 0 6 j_3 (some j_25)).i 0 1 j_3)) (C := R_Ch) (T := F_Ch) (N := 7) hx hb hts i_Ch hown hK hP (cPos N_23 0 j_3) (cw_obj (k := 0) (by decide) hl_j_3) rfl 1 (by decide) (hts _ kw_1016) (fun _ h9 => h9) rfl d_cSt_close_62 ?_
  refine w_i (y := S_24.i 0 1 j_3) rfl ?_
  obtain ⟨e9, e9a, e9b⟩ := tri Heq
  refine W.cs (cells' := CT) (slots' := ST) (by omega) (by omega) ?_
  exact Kr _ e9 65 _ _ _ _ d_cSt_close_65 hX hP hD hS
noncomputable def m_cSt_close (N : Nat → Nat) (x0 : Nat) (S : CS) (x1 : Nat) : Option (((Nat → Nat) × CS × Int32) × Nat × Nat) := m_cSt_close_J0 N x0 S x1
set_option maxHeartbeats 4000000 in
theorem g_cSt_close (l : Launch) (D : va_G) (sz : Nat) {ad : Nat → Nat → Nat} {cc : Nat → ClassId} {sad sav : Nat → Nat} {N : Nat → Nat} {x0 : Nat} {S : CS} {x1 : Nat} {o : (Nat → Nat) × CS × Int32} {oc os : Nat} (Heq : m_cSt_close N x0 S x1 = some (o, oc, os)) : Met l ⟨"JoinedTrees$Store", "close", "(LJoinedTrees$Replica;)I"⟩ (Cond.code ⟨"JoinedTrees$Store", "close", "(LJoinedTrees$Replica;)I"⟩ prog_10_method_11_code 3 (some .int) :: gb) ({ frames := 2, cells := oc, slots := os, locals := 47 }) (cPc sad sav D (cw ad cc N S) (cty cc) sz [.ref (ad 8 x0), .ref (ad 4 x1)]) (va_Qi (fun (r : Int32) (_ : Nat → Nat → Nat) => r = o.2.2) (fun (u : Nat → Nat → Nat) t => Ext ad N u o.1 ∧ gO D (cw u cc o.1 o.2.1) (cty cc) (va_A (cw ad cc N S) sz) t) (va_A (cw ad cc N S) sz)) oc os (va_A (cw ad cc N S) sz) := by
  refine Met.ofW (cc := prog_10_method_11_code) (maxL := 3) (ret := (some .int)) (by decide) rfl ?_
  intro p e s m args below meth c s₁ B hml hv
  obtain ⟨rfl, hsz, hP, hK, hD0, hev, hE, hN⟩ := hv
  have hx := B.exec
  have hb := B.bytes
  have hr := B.returns
  have hts : ∀ w9 ∈ gb, w9.before [.ref (ad 8 x0), .ref (ad 4 x1)].toArray s = true := fun w9 h => atoms_spec (ws := Cond.code ⟨"JoinedTrees$Store", "close", "(LJoinedTrees$Replica;)I"⟩ prog_10_method_11_code 3 (some .int) :: gb) B.pre w9 (List.mem_cons_of_mem _ h)
  have hown : s.vm.findClass "JoinedTrees$Store" = some m.cls := findClass_of_methodNamed B.named
  have hlocks := B.notSynchronized
  have hNS := ns_of hP
  subst hsz
  have hD := hD0.self (sz := s.heap.size)
  generalize hAe : va_A (cw ad cc N S) s.heap.size = A at hD hev hE hNS ⊢
  have hA : ∀ q : Nat, s.heap.size ≤ q → A q := fun q h => by rw [← hAe]; exact Or.inr h
  have hS : va_S A s.heap s.heap [] := va_S.rf
  obtain ⟨ls, hl, hle⟩ : ∃ ls : Array Slot, lv_has ls 3 [(0, .ref (ad 8 x0)), (1, .ref (ad 4 x1))] ∧ entryFrame m ([.ref (ad 8 x0), .ref (ad 4 x1)] : List Value).toArray 3 = F0 m 0 ls [] := by
    exact ⟨_, lv_entry (n := 3) _ (Nat.le_of_ble_eq_true rfl), lg_entry_eq ..⟩
  rw [hle]
  refine w_cSt_close_J0 (ad0 := ad) (N0 := N) (CT := oc) (ST := os) (cR := oc) (sR := os) ⟨hx, hb, hr, hml, hown, hts, hK, hA, hev, hE, hN, hNS⟩ (Nat.le_refl _) (Nat.le_refl _) Heq (fun r h pc ad1 H locs ls hd hX hP hD hS => ?_) _ _ _ _ 0 0 Ext.rf (Nat.zero_add _) (Nat.zero_add _) hP hD hS (lv_sub hl [0, 1] rfl)
  subst h
  exact W.iret hx hb hr (fun t ht hW => ⟨⟨_, ad1, rfl, rfl, hX, by rw [ht]; exact hP, va_K.moved hW.alike hK, hD⟩, hS.F ht⟩) hS.2.2 hd
noncomputable def m_cJT_commit_J0 (N : Nat → Nat) (x0 : Nat) (S : CS) (x1 : Int32) : Option ((((Nat → Nat) × CS × Int32) ⊕ ((Nat → Nat) × CS × Nat)) × Nat × Nat) := gl x0 (N 11) (oe (m_cJT_shown N x0 S x1) (fun o_1 => gn o_1.2 (N 4) (fun j_4 => (if o_1.1.i 4 9 j_4 = 0 then some ((.inr (N, o_1.1, 2)), 1, 6) else gn (o_1.1.r 11 0 x0) (N 8) (fun j_8 => (if o_1.1.i 8 4 j_8 < 1000 then oq (m_cSt_close N j_8 o_1.1 j_4) (fun N_14 S_15 v_16 => some ((.inl (N_14, S_15, v_16)), 0, 0)) else some ((.inr (N, o_1.1, 4)), 1, 6)))))) (fun t_3 => some ((.inr (N, t_3.1, t_3.2)), 1, 6)))
theorem d_cJT_commit_0 : decode prog_1_method_11_code 0 = .ok (.aload_n 0, 1) := by decide +kernel
theorem d_cJT_commit_1 : decode prog_1_method_11_code 1 = .ok (.iload_n 1, 1) := by decide +kernel
theorem d_cJT_commit_2 : decode prog_1_method_11_code 2 = .ok (.invokevirtual 105, 3) := by decide +kernel
theorem d_cJT_commit_5 : decode prog_1_method_11_code 5 = .ok (.astore_n 2, 1) := by decide +kernel
theorem d_cJT_commit_6 : decode prog_1_method_11_code 6 = .ok (.aload_n 2, 1) := by decide +kernel
theorem d_cJT_commit_7 : decode prog_1_method_11_code 7 = .ok (.getfield 220, 3) := by decide +kernel
theorem d_cJT_commit_10 : decode prog_1_method_11_code 10 = .ok (.ifCond .ne 11, 3) := by decide +kernel
theorem d_cJT_commit_21 : decode prog_1_method_11_code 21 = .ok (.aload_n 0, 1) := by decide +kernel
theorem d_cJT_commit_22 : decode prog_1_method_11_code 22 = .ok (.getfield 12, 3) := by decide +kernel
theorem d_cJT_commit_25 : decode prog_1_method_11_code 25 = .ok (.getfield 226, 3) := by decide +kernel
theorem d_cJT_commit_28 : decode prog_1_method_11_code 28 = .ok (.sipush 1000, 3) := by decide +kernel
theorem d_cJT_commit_31 : decode prog_1_method_11_code 31 = .ok (.if_icmp .lt 11, 3) := by decide +kernel
theorem d_cJT_commit_42 : decode prog_1_method_11_code 42 = .ok (.aload_n 0, 1) := by decide +kernel
theorem d_cJT_commit_43 : decode prog_1_method_11_code 43 = .ok (.getfield 12, 3) := by decide +kernel
theorem d_cJT_commit_46 : decode prog_1_method_11_code 46 = .ok (.aload_n 2, 1) := by decide +kernel
theorem d_cJT_commit_47 : decode prog_1_method_11_code 47 = .ok (.invokevirtual 229, 3) := by decide +kernel
theorem d_cJT_commit_50 : decode prog_1_method_11_code 50 = .ok (.ireturn, 1) := by decide +kernel
theorem d_cJT_commit_34 : decode prog_1_method_11_code 34 = .ok (.new 87, 3) := by decide +kernel
theorem d_cJT_commit_37 : decode prog_1_method_11_code 37 = .ok (.dup, 1) := by decide +kernel
theorem d_cJT_commit_38 : decode prog_1_method_11_code 38 = .ok (.invokespecial 89, 3) := by decide +kernel
theorem d_cJT_commit_41 : decode prog_1_method_11_code 41 = .ok (.athrow, 1) := by decide +kernel
theorem d_cJT_commit_13 : decode prog_1_method_11_code 13 = .ok (.new 223, 3) := by decide +kernel
theorem d_cJT_commit_16 : decode prog_1_method_11_code 16 = .ok (.dup, 1) := by decide +kernel
theorem d_cJT_commit_17 : decode prog_1_method_11_code 17 = .ok (.invokespecial 225, 3) := by decide +kernel
theorem d_cJT_commit_20 : decode prog_1_method_11_code 20 = .ok (.athrow, 1) := by decide +kernel
set_option maxHeartbeats 4000000 in
set_option maxRecDepth 100000 in
theorem w_cJT_commit_J0 {p : Program} {l : Launch} {e : Env} {s : State} {m : MethodId} {args : Array Value} {below : List Frame} {meth : Method} {c : Code} {A : Nat → Prop} {D : va_G} {cc : Nat → ClassId} {sad sav : Nat → Nat} {Q : State → Prop} {ad0 : Nat → Nat → Nat} {N0 : Nat → Nat} {CT ST cR sR : Nat} (hfl : l.flags = flags0) (hC : MCc sad sav "JoinedTrees" prog_1_method_11_code 3 (some .int) p s m args meth c A D cc) (hCT : CT ≤ cR) (hST : ST ≤ sR) {N : Nat → Nat} {x0 : Nat} {S : CS} {x1 : Int32} {o : (((Nat → Nat) × CS × Int32) ⊕ ((Nat → Nat) × CS × Nat))} {oc os : Nat} (Heq : m_cJT_commit_J0 N x0 S x1 = some (o, oc, os)) (Kr : ∀ r : (((Nat → Nat) × CS × Int32) ⊕ ((Nat → Nat) × CS × Nat)), o = r → (∀ v9 : (Nat → Nat) × CS × Int32, r = .inl v9 → ∀ (pc : Nat) (ad : Nat → Nat → Nat) (H : Heap) (locs : List Loc) (ls : Array Slot), decode prog_1_method_11_code pc = .ok (.ireturn, 1) → Ext ad0 N0 ad (v9.1) → va_P D cls (cw ad cc v9.1 v9.2.1) H → va_D A (cw ad cc v9.1 v9.2.1) → va_S A s.heap H locs → W p l e ({ frames := 7, cells := cR, slots := sR, locals := 117 }) s m args below meth c H locs CT ST Q (F0 m pc ls [.int v9.2.2])) ∧ (∀ t9 : (Nat → Nat) × CS × Nat, r = .inr t9 → (∀ (pc : Nat) (ad : Nat → Nat → Nat) (H : Heap) (locs : List Loc) (ls : Array Slot) (cells slots : Nat), cells + 1 = CT → slots + 6 = ST → thD prog_1_method_11_code t9.2.2 pc → ls.size = 3 → Ext ad0 N0 ad t9.1 → va_P D cls (cw ad cc t9.1 t9.2.1) H → va_D A (cw ad cc t9.1 t9.2.1) → va_S A s.heap H locs → W p l e ({ frames := 7, cells := cR, slots := sR, locals := 117 }) s m args below meth c H locs cells slots Q (F0 m pc ls [])) ∧ (∀ (pc : Nat) (ad : Nat → Nat → Nat) (H : Heap) (locs : List Loc) (ls : Array Slot) (st0 rest9 : List Value) (A9 : Nat → Prop) (cells slots : Nat), cells + 1 = CT → slots + 6 = ST → Ext ad0 N0 ad t9.1 → va_D A (cw ad cc t9.1 t9.2.1) → tx_Thr p l e ({ frames := 7, cells := cR, slots := sR, locals := 117 }) s m args below meth c H locs cells slots 1 6 (F0 m pc ls st0) rest9 (exN t9.2.2) A9 (fun H1 => va_P D cls (cw ad cc t9.1 t9.2.1) H1) → (∀ q, A9 q → A q) → va_S A s.heap H locs → W p l e ({ frames := 7, cells := cR, slots := sR, locals := 117 }) s m args below meth c H locs cells slots Q (F0 m pc ls st0)))) : ∀ (ad : Nat → Nat → Nat) (H : Heap) (locs : List Loc) (ls : Array Slot) (cells slots : Nat), Ext ad0 N0 ad N → cells + oc = CT → slots + os = ST → va_P D cls (cw ad cc N S) H → va_D A (cw ad cc N S) → va_S A s.heap H locs → lv_has ls 3 [(0, .ref (ad 11 x0)), (1, .int x1)] → W p l e ({ frames := 7, cells := cR, slots := sR, locals := 117 }) s m args below meth c H locs cells slots Q (F0 m 0 ls []) := by
  intro ad H locs ls cells slots hX hcu hsu hP hD hS hl
  obtain ⟨hx, hb, hr, hml, hown, hts, hK, hA, hev, hE, hN, hNS⟩ := id hC
  unfold m_cJT_commit_J0 at Heq
  refine lv_aload_n hx hb d_cJT_commit_0 rfl (lv_at hl 0 rfl) ?_
  refine lv_iload_n hx hb d_cJT_commit_1 rfl (lv_at hl 1 rfl) ?_
  obtain ⟨hl_x0_11, Heq⟩ := gl_some Heq
  have hFc := fr_all hD hS hA
  rcases oe_some Heq with ⟨o_1, h_2, Heq⟩ | ⟨t_3, h_2, Heq⟩
  case inr =>
    obtain ⟨e9, e9a, e9b⟩ := tri Heq
    exact ((Kr _ e9).2 _ rfl).2 2 _ _ _ _ _ _ _ _ _ (by omega) (by omega) hX (d_cw _ hD) (tx_runV (As := [.int x1]) (rest := []) ⟨hx, hb, hml, hown, hts⟩ (g_cJT_shown_t l hfl D H.size (ad := ad) (cc := cc) (sad := sad) (sav := sav) h_2) (cw_v 1 hts kw_593 kw_590 kw_592 kp_3 kw_1 rfl rfl (by decide +kernel) ⟨Nat.le_of_ble_eq_true rfl, Nat.le_of_ble_eq_true rfl⟩) ⟨c_blind, va_recv hK hP (ci := 11) (q0 := cPos N 11 x0) rfl (cw_obj (k := 11) (by decide) hl_x0_11), fun U hU hW => c_pre hU hW hP hK hD hev hE hN hNS hS hFc⟩ rfl rfl hl.1 rfl (lv_room (Nat.le_of_ble_eq_true rfl)) d_cJT_commit_2 ⟨(Nat.le_trans (m := CT) (by omega) hCT), (Nat.le_trans (m := ST) (by omega) hST)⟩) hFc hS
  refine va_callq (va_runV (As := [.int x1]) (rest := []) ⟨hx, hb, hml, hown, hts⟩ (g_cJT_shown l hfl D H.size (ad := ad) (cc := cc) (sad := sad) (sav := sav) h_2) (cw_v 1 hts kw_593 kw_590 kw_592 kp_3 kw_1 rfl rfl (by decide +kernel) ⟨Nat.le_of_ble_eq_true rfl, Nat.le_of_ble_eq_true rfl⟩) ⟨c_blind, va_recv hK hP (ci := 11) (q0 := cPos N 11 x0) rfl (cw_obj (k := 11) (by decide) hl_x0_11), fun U hU hW => c_pre hU hW hP hK hD hev hE hN hNS hS hFc⟩ rfl rfl hl.1 rfl (lv_room (Nat.le_of_ble_eq_true rfl)) d_cJT_commit_2 ⟨(Nat.le_trans (m := CT) (by omega) hCT), (Nat.le_trans (m := ST) (by omega) hST)⟩) hS (fun q _ h => hFc q h) hFc (fun rz u t H1 locs ht hvm hw hB hz1 hk1 hS => ?_)
  obtain ⟨hP, -, hD1⟩ := hB
  rw [ht] at hP
  have hD := hD1.weaken (fun _ q _ h => hFc q.1 h)
  generalize H1 = H at hP hS ⊢
  subst hw
  refine w_v (y := rv ad 4 o_1.2) rfl ?_
  refine tx_astore_n (x := o_1.2.map (ad 4)) (lv' := [(2, rv ad 4 o_1.2), (0, .ref (ad 11 x0)), (1, .int x1)]) hx hb d_cJT_commit_5 rfl hl (by decide) rfl (fun ls hl => ?_)
  refine tx_aload_n (x := o_1.2.map (ad 4)) hx hb d_cJT_commit_6 rfl (lv_at hl 0 rfl) ?_
  refine w_v (y := rv ad 4 o_1.2) rfl ?_
  obtain ⟨j_4, hj_5, hl_6, Heq⟩ := gn_some Heq
  refine w_s (st' := [.ref (ad 4 j_4)]) (congrArg (fun z9 : Option Nat => [rv ad 4 z9]) hj_5) ?_
  refine va_get (D := D) (ci := 4) (v := .int (o_1.1.i 4 9 j_4)) (C := R_Rp) (T := F_Rp) (N := 10) hx hb hts i_Rp hown hK hP (cPos N 4 j_4) (cw_obj (k := 4) (by decide) hl_6) rfl 9 (by decide) (hts _ kw_230) (fun _ h9 => h9) rfl d_cJT_commit_7 ?_
  refine lv_if_ne (tgt := 21) hx hb d_cJT_commit_10 (by decide) (fun c_7 => ?_) (fun c_7 => ?_)
  · replace Heq := (if_neg c_7).symm.trans Heq
    refine lv_aload_n hx hb d_cJT_commit_21 rfl (lv_at hl 1 rfl) ?_
    refine va_get (D := D) (ci := 11) (v := rv ad 8 (o_1.1.r 11 0 x0)) (C := R_JT) (T := F_JT) (N := 13) hx hb hts i_JT hown hK hP (cPos N 11 x0) (cw_obj (k := 11) (by decide) hl_x0_11) rfl 0 (by decide) (hts _ kw_421) (fun _ h9 => h9) rfl d_cJT_commit_22 ?_
    obtain ⟨j_8, hj_9, hl_10, Heq⟩ := gn_some Heq
    refine w_s (st' := [.ref (ad 8 j_8)]) (congrArg (fun z9 : Option Nat => [rv ad 8 z9]) hj_9) ?_
    refine va_get (D := D) (ci := 8) (v := .int (o_1.1.i 8 4 j_8)) (C := R_St) (T := F_St) (N := 6) hx hb hts i_St hown hK hP (cPos N 8 j_8) (cw_obj (k := 8) (by decide) hl_10) rfl 4 (by decide) (hts _ kw_176) (fun _ h9 => h9) rfl d_cJT_commit_25 ?_
    refine lv_sipush (v := 1000) hx hb d_cJT_commit_28 (by decide) ?_
    refine lv_icmp_lt (tgt := 42) hx hb d_cJT_commit_31 (by decide) (fun c_11 => ?_) (fun c_11 => ?_)
    · replace Heq := (if_pos c_11).symm.trans Heq
      refine lv_aload_n hx hb d_cJT_commit_42 rfl (lv_at hl 1 rfl) ?_
      refine va_get (D := D) (ci := 11) (v := rv ad 8 (o_1.1.r 11 0 x0)) (C := R_JT) (T := F_JT) (N := 13) hx hb hts i_JT hown hK hP (cPos N 11 x0) (cw_obj (k := 11) (by decide) hl_x0_11) rfl 0 (by decide) (hts _ kw_421) (fun _ h9 => h9) rfl d_cJT_commit_43 ?_
      refine tx_aload_n (x := o_1.2.map (ad 4)) hx hb d_cJT_commit_46 rfl (lv_at hl 0 rfl) ?_
      refine w_v (y := rv ad 4 o_1.2) rfl ?_
      refine w_s (st' := [.ref (ad 4 j_4), rv ad 8 (o_1.1.r 11 0 x0)]) (congrArg (fun z9 : Option Nat => [rv ad 4 z9, rv ad 8 (o_1.1.r 11 0 x0)]) hj_5) ?_
      refine w_s (st' := [.ref (ad 4 j_4), .ref (ad 8 j_8)]) (congrArg (fun z9 : Option Nat => [.ref (ad 4 j_4), rv ad 8 z9]) hj_9) ?_
      have hl : lv_has ls 3 [(0, .ref (ad 11 x0))] := lv_sub hl [1] rfl
      obtain ⟨N_14, S_15, v_16, a9, b9, a8, b8, h_13, Heq, e9a, e9b⟩ := oq_some Heq
      have hFc := fr_all hD hS hA
      refine va_calli (va_runV (As := [.ref (ad 4 j_4)]) (rest := []) ⟨hx, hb, hml, hown, hts⟩ (g_cSt_close l D H.size (ad := ad) (cc := cc) (sad := sad) (sav := sav) h_13) (cw_v 1 hts kw_994 kw_991 kw_992 kw_993 kw_2 rfl rfl (by decide +kernel) ⟨Nat.le_of_ble_eq_true rfl, Nat.le_of_ble_eq_true rfl⟩) ⟨c_blind, va_recv hK hP (ci := 8) (q0 := cPos N 8 j_8) rfl (cw_obj (k := 8) (by decide) hl_10), fun U hU hW => c_pre hU hW hP hK hD hev hE hN hNS hS hFc⟩ rfl rfl hl.1 rfl (lv_room (Nat.le_of_ble_eq_true rfl)) d_cJT_commit_47 ⟨(Nat.le_trans (m := CT) (by omega) hCT), (Nat.le_trans (m := ST) (by omega) hST)⟩) hS (fun q _ h => hFc q h) hFc (fun rz ad t H1 locs ht hvm hw hB hz1 hk1 hS => ?_)
      obtain ⟨hX1, hP, -, hD1⟩ := hB
      rw [ht] at hP
      have hD := hD1.weaken (fun _ q _ h => hFc q.1 h)
      generalize H1 = H at hP hS ⊢
      subst hw
      have hX := hX.tr hX1
      have hl : lv_has ls 3 [(0, .ref (ad 11 x0))] := lv_cast hl (by first | rfl | simp only [hX1.2 11 x0 hl_x0_11])
      have hl_x0_11 := Nat.lt_of_lt_of_le hl_x0_11 (hX1.1 11)
      have hl_6 := Nat.lt_of_lt_of_le hl_6 (hX1.1 4)
      have hl_10 := Nat.lt_of_lt_of_le hl_10 (hX1.1 8)
      obtain ⟨e9, e9a, e9b⟩ := tri Heq
      refine W.cs (cells' := CT) (slots' := ST) (by omega) (by omega) ?_
      exact (Kr _ e9).1 _ rfl 50 _ _ _ _ d_cJT_commit_50 hX hP hD hS
    · replace Heq := (if_neg c_11).symm.trans Heq
      obtain ⟨e9, e9a, e9b⟩ := tri Heq
      exact ((Kr _ e9).2 _ rfl).1 34 _ _ _ _ _ _ (by omega) (by omega) ⟨⟨show 1 ≤ 4 by decide, show 4 ≤ 5 by decide⟩, d_cJT_commit_34, d_cJT_commit_37, d_cJT_commit_38, d_cJT_commit_41⟩ hl.1 hX hP hD hS
  · replace Heq := (if_pos c_7).symm.trans Heq
    obtain ⟨e9, e9a, e9b⟩ := tri Heq
    exact ((Kr _ e9).2 _ rfl).1 13 _ _ _ _ _ _ (by omega) (by omega) ⟨⟨show 1 ≤ 2 by decide, show 2 ≤ 5 by decide⟩, d_cJT_commit_13, d_cJT_commit_16, d_cJT_commit_17, d_cJT_commit_20⟩ hl.1 hX hP hD hS
noncomputable def m_cJT_commit (N : Nat → Nat) (x0 : Nat) (S : CS) (x1 : Int32) : Option (((((Nat → Nat) × CS × Int32) ⊕ ((Nat → Nat) × CS × Nat))) × Nat × Nat) := m_cJT_commit_J0 N x0 S x1
set_option maxHeartbeats 4000000 in
theorem g_cJT_commit (l : Launch) (hfl : l.flags = flags0) (D : va_G) (sz : Nat) {ad : Nat → Nat → Nat} {cc : Nat → ClassId} {sad sav : Nat → Nat} {N : Nat → Nat} {x0 : Nat} {S : CS} {x1 : Int32} {o : (Nat → Nat) × CS × Int32} {oc os : Nat} (Heq : m_cJT_commit N x0 S x1 = some (.inl o, oc, os)) : Met l ⟨"JoinedTrees", "commit", "(I)I"⟩ (Cond.code ⟨"JoinedTrees", "commit", "(I)I"⟩ prog_1_method_11_code 3 (some .int) :: gb) ({ frames := 7, cells := oc, slots := os, locals := 117 }) (cPc sad sav D (cw ad cc N S) (cty cc) sz [.ref (ad 11 x0), .int x1]) (va_Qi (fun (r : Int32) (_ : Nat → Nat → Nat) => r = o.2.2) (fun (u : Nat → Nat → Nat) t => Ext ad N u o.1 ∧ gO D (cw u cc o.1 o.2.1) (cty cc) (va_A (cw ad cc N S) sz) t) (va_A (cw ad cc N S) sz)) oc os (va_A (cw ad cc N S) sz) := by
  refine Met.ofW (cc := prog_1_method_11_code) (maxL := 3) (ret := (some .int)) (by decide) rfl ?_
  intro p e s m args below meth c s₁ B hml hv
  obtain ⟨rfl, hsz, hP, hK, hD0, hev, hE, hN⟩ := hv
  have hx := B.exec
  have hb := B.bytes
  have hr := B.returns
  have hts : ∀ w9 ∈ gb, w9.before [.ref (ad 11 x0), .int x1].toArray s = true := fun w9 h => atoms_spec (ws := Cond.code ⟨"JoinedTrees", "commit", "(I)I"⟩ prog_1_method_11_code 3 (some .int) :: gb) B.pre w9 (List.mem_cons_of_mem _ h)
  have hown : s.vm.findClass "JoinedTrees" = some m.cls := findClass_of_methodNamed B.named
  have hlocks := B.notSynchronized
  have hNS := ns_of hP
  subst hsz
  have hD := hD0.self (sz := s.heap.size)
  generalize hAe : va_A (cw ad cc N S) s.heap.size = A at hD hev hE hNS ⊢
  have hA : ∀ q : Nat, s.heap.size ≤ q → A q := fun q h => by rw [← hAe]; exact Or.inr h
  have hS : va_S A s.heap s.heap [] := va_S.rf
  obtain ⟨ls, hl, hle⟩ : ∃ ls : Array Slot, lv_has ls 3 [(0, .ref (ad 11 x0)), (1, .int x1)] ∧ entryFrame m ([.ref (ad 11 x0), .int x1] : List Value).toArray 3 = F0 m 0 ls [] := by
    exact ⟨_, lv_entry (n := 3) _ (Nat.le_of_ble_eq_true rfl), lg_entry_eq ..⟩
  rw [hle]
  refine w_cJT_commit_J0 (ad0 := ad) (N0 := N) (CT := oc) (ST := os) (cR := oc) (sR := os) hfl ⟨hx, hb, hr, hml, hown, hts, hK, hA, hev, hE, hN, hNS⟩ (Nat.le_refl _) (Nat.le_refl _) Heq (fun r h => ⟨fun v9 hv9 pc ad1 H locs ls hd hX hP hD hS => ?_, fun t9 ht9 => (by subst h; cases ht9)⟩) _ _ _ _ 0 0 Ext.rf (Nat.zero_add _) (Nat.zero_add _) hP hD hS (lv_sub hl [0, 1] rfl)
  subst h
  cases hv9
  exact W.iret hx hb hr (fun t ht hW => ⟨⟨_, ad1, rfl, rfl, hX, by rw [ht]; exact hP, va_K.moved hW.alike hK, hD⟩, hS.F ht⟩) hS.2.2 hd
set_option maxHeartbeats 4000000 in
theorem g_cJT_commit_t (l : Launch) (hfl : l.flags = flags0) (D : va_G) (sz : Nat) {ad : Nat → Nat → Nat} {cc : Nat → ClassId} {sad sav : Nat → Nat} {N : Nat → Nat} {x0 : Nat} {S : CS} {x1 : Int32} {o : (Nat → Nat) × CS × Nat} {oc os : Nat} (Heq : m_cJT_commit N x0 S x1 = some (.inr o, oc, os)) : MeT l ⟨"JoinedTrees", "commit", "(I)I"⟩ (Cond.code ⟨"JoinedTrees", "commit", "(I)I"⟩ prog_1_method_11_code 3 (some .int) :: gb) ({ frames := 7, cells := oc, slots := os, locals := 117 }) (cPc sad sav D (cw ad cc N S) (cty cc) sz [.ref (ad 11 x0), .int x1]) (exN o.2.2) (va_A (cw ad cc N S) sz) (fun H1 => ∃ ad1 : Nat → Nat → Nat, Ext ad N ad1 o.1 ∧ va_P D cls (cw ad1 cc o.1 o.2.1) H1 ∧ va_D (va_A (cw ad cc N S) sz) (cw ad1 cc o.1 o.2.1)) oc os := by
  refine MeT.ofW (cc := prog_1_method_11_code) (maxL := 3) (ret := (some .int)) (by decide) rfl ?_
  intro p e s m args below meth c s₁ B hml hno hv
  obtain ⟨rfl, hsz, hP, hK, hD0, hev, hE, hN⟩ := hv
  have hx := B.exec
  have hb := B.bytes
  have hr := B.returns
  have hts : ∀ w9 ∈ gb, w9.before [.ref (ad 11 x0), .int x1].toArray s = true := fun w9 h => atoms_spec (ws := Cond.code ⟨"JoinedTrees", "commit", "(I)I"⟩ prog_1_method_11_code 3 (some .int) :: gb) B.pre w9 (List.mem_cons_of_mem _ h)
  have hown : s.vm.findClass "JoinedTrees" = some m.cls := findClass_of_methodNamed B.named
  have hlocks := B.notSynchronized
  have hNS := ns_of hP
  subst hsz
  have hD := hD0.self (sz := s.heap.size)
  generalize hAe : va_A (cw ad cc N S) s.heap.size = A at hD hev hE hNS ⊢
  have hA : ∀ q : Nat, s.heap.size ≤ q → A q := fun q h => by rw [← hAe]; exact Or.inr h
  have hS : va_S A s.heap s.heap [] := va_S.rf
  obtain ⟨ls, hl, hle⟩ : ∃ ls : Array Slot, lv_has ls 3 [(0, .ref (ad 11 x0)), (1, .int x1)] ∧ entryFrame m ([.ref (ad 11 x0), .int x1] : List Value).toArray 3 = F0 m 0 ls [] := by
    exact ⟨_, lv_entry (n := 3) _ (Nat.le_of_ble_eq_true rfl), lg_entry_eq ..⟩
  rw [hle]
  refine w_cJT_commit_J0 (ad0 := ad) (N0 := N) (CT := oc) (ST := os) (cR := oc) (sR := os) hfl ⟨hx, hb, hr, hml, hown, hts, hK, hA, hev, hE, hN, hNS⟩ (Nat.le_refl _) (Nat.le_refl _) Heq (fun r h => ⟨fun v9 hv9 => (by subst h; cases hv9), fun t9 ht9 => ⟨fun pc ad1 H locs ls cells slots hc1 hs1 hd hsz hX hP hD hS => ?_, fun pc ad1 H locs ls st0 rest9 A9 cells slots hc1 hs1 hX hD hr9 hF9 hS => ?_⟩⟩) _ _ _ _ 0 0 Ext.rf (Nat.zero_add _) (Nat.zero_add _) hP hD hS (lv_sub hl [0, 1] rfl)
  · subst h; cases ht9; subst hc1 hs1; exact tx_thrB hfl hx hb hno hlocks hown hts hev hN hNS hd (hsz.trans hml.symm) hP hS hA (Nat.le_refl _) (Nat.le_refl _) (Nat.le_of_ble_eq_true rfl) (Nat.le_of_ble_eq_true rfl) (fun H1 h1 => ⟨ad1, hX, h1, hD⟩)
  · subst h; cases ht9; subst hc1 hs1; exact tx_on (tx_Thr.mono hr9 (fun H1 h1 => ⟨ad1, hX, h1, hD⟩)) hno hlocks hS hF9
