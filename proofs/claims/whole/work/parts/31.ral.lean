def m_robject_J16 (S : MS) : Option (MS × Int32) := ob (m_rno S 1) (fun o_1 => some (o_1.1, o_1.2))
theorem d_robject_0 : decode prog_14_method_64_code 0 = .ok (.iload_n 1, 1) := by decide +kernel
theorem d_robject_1 : decode prog_14_method_64_code 1 = .ok (.invokestatic 251, 3) := by decide +kernel
theorem d_robject_4 : decode prog_14_method_64_code 4 = .ok (.ifCond .eq 12, 3) := by decide +kernel
theorem d_robject_16 : decode prog_14_method_64_code 16 = .ok (.aload_n 0, 1) := by decide +kernel
theorem d_robject_17 : decode prog_14_method_64_code 17 = .ok (.iconst 1, 1) := by decide +kernel
theorem d_robject_18 : decode prog_14_method_64_code 18 = .ok (.invokevirtual 191, 3) := by decide +kernel
theorem d_robject_21 : decode prog_14_method_64_code 21 = .ok (.ireturn, 1) := by decide +kernel
set_option maxHeartbeats 4000000 in
set_option maxRecDepth 100000 in
theorem w_robject_J16 {p : Program} {l : Launch} {e : Env} {s : State} {m : MethodId} {args : Array Value} {below : List Frame} {meth : Method} {c : Code} {A : Nat → Prop} {D : va_G} {md : Nat → Nat} {mc : Nat → ClassId} {Q : State → Prop} (hC : MCx "JoinedTreesModel" prog_14_method_64_code 5 (some .int) p s m args meth c A D mc) {S : MS} {o : MS × Int32} (Heq : m_robject_J16 S = some o) (Kr : ∀ r : MS × Int32, o = r → ∀ (pc : Nat) (H : Heap) (locs : List Loc) (ls : Array Slot), decode prog_14_method_64_code pc = .ok (.ireturn, 1) → va_P D cls (mw md mc r.1) H → va_D A (mw md mc r.1) → va_S A s.heap H locs → W p l e ({ frames := 4, cells := 0, slots := 0, locals := 95 }) s m args below meth c H locs 0 0 Q (F0 m pc ls [.int r.2])) : ∀ (H : Heap) (locs : List Loc) (ls : Array Slot), va_P D cls (mw md mc S) H → va_D A (mw md mc S) → va_S A s.heap H locs → lv_has ls 5 [(0, .ref (md 100))] → W p l e ({ frames := 4, cells := 0, slots := 0, locals := 95 }) s m args below meth c H locs 0 0 Q (F0 m 16 ls []) := by
  intro H locs ls hP hD hS hl
  obtain ⟨hx, hb, hr, hml, hown, hts, hK, hA⟩ := id hC
  unfold m_robject_J16 at Heq
  refine lv_aload_n hx hb d_robject_16 rfl (lv_at hl 0 rfl) ?_
  refine lv_iconst (v := 1) hx hb d_robject_17 (by decide) ?_
  obtain ⟨o_1, h_2, Heq⟩ := ob_some Heq
  have hFc := fr_all hD hS hA
  refine va_calli (va_runV (As := [.int 1]) (rest := []) ⟨hx, hb, hml, hown, hts⟩ (g_rno l D H.size h_2) (cw_v 1 hts kw_1626 kw_1623 kw_1625 kp_29 kw_11 rfl rfl (by decide +kernel) ⟨Nat.le_of_ble_eq_true rfl, Nat.le_of_ble_eq_true rfl⟩) ⟨g_blind, va_recv hK hP (ci := 12) (q0 := 0) rfl rfl, fun U hU hW => g_pre hU hW hP hK hD⟩ rfl rfl hl.1 rfl (lv_room (Nat.le_of_ble_eq_true rfl)) d_robject_18 ⟨Nat.le_of_ble_eq_true rfl, Nat.le_of_ble_eq_true rfl⟩) hS (fun q _ h => hFc q h) hFc (fun rz u t H1 locs ht hvm hw hB hz1 hk1 hS => ?_)
  obtain ⟨hP, -, hD1⟩ := hB
  rw [ht] at hP
  have hD := hD1.weaken (fun _ q _ h => hFc q.1 h)
  generalize H1 = H at hP hS ⊢
  refine W.cs (cells' := 0) (slots' := 0) rfl rfl ?_
  subst hw
  exact Kr _ (Option.some.inj Heq).symm 21 _ _ _ d_robject_21 hP hD hS
def m_robject_J0 (S : MS) (x1 : Int32) (x2 : Int32) (x3 : Int32) : Option (MS × Int32) := ob (m_risReplica S x1) (fun o_1 => (if o_1.2 = 0 then m_robject_J16 o_1.1 else (if x3 < 0 then m_robject_J16 o_1.1 else (if x3 ≤ 1 then ob (m_rkindOf o_1.1 x1 x2) (fun o_6 => (if 0 ≤ o_6.2 then (if x3 = 0 then some ((o_6.1.setI 0 0), o_6.2) else (if o_6.2 = 6 then ob (m_rkeysOf (o_6.1.setI 0 0) x1 x2) (fun o_13 => some (o_13, o_13.i 71)) else ob (m_rindices (o_6.1.setI 0 0) x1 x2) (fun o_11 => some (o_11.1, o_11.2)))) else ob (m_rno o_6.1 2) (fun o_15 => some (o_15.1, o_15.2)))) else m_robject_J16 o_1.1))))
theorem d_robject_7 : decode prog_14_method_64_code 7 = .ok (.iload_n 3, 1) := by decide +kernel
theorem d_robject_8 : decode prog_14_method_64_code 8 = .ok (.ifCond .lt 8, 3) := by decide +kernel
theorem d_robject_11 : decode prog_14_method_64_code 11 = .ok (.iload_n 3, 1) := by decide +kernel
theorem d_robject_12 : decode prog_14_method_64_code 12 = .ok (.iconst 1, 1) := by decide +kernel
theorem d_robject_13 : decode prog_14_method_64_code 13 = .ok (.if_icmp .le 9, 3) := by decide +kernel
theorem d_robject_22 : decode prog_14_method_64_code 22 = .ok (.aload_n 0, 1) := by decide +kernel
theorem d_robject_23 : decode prog_14_method_64_code 23 = .ok (.iload_n 1, 1) := by decide +kernel
theorem d_robject_24 : decode prog_14_method_64_code 24 = .ok (.iload_n 2, 1) := by decide +kernel
theorem d_robject_25 : decode prog_14_method_64_code 25 = .ok (.invokevirtual 258, 3) := by decide +kernel
theorem d_robject_28 : decode prog_14_method_64_code 28 = .ok (.istore 4, 2) := by decide +kernel
theorem d_robject_30 : decode prog_14_method_64_code 30 = .ok (.iload 4, 2) := by decide +kernel
theorem d_robject_32 : decode prog_14_method_64_code 32 = .ok (.ifCond .ge 9, 3) := by decide +kernel
theorem d_robject_41 : decode prog_14_method_64_code 41 = .ok (.aload_n 0, 1) := by decide +kernel
theorem d_robject_42 : decode prog_14_method_64_code 42 = .ok (.iconst 0, 1) := by decide +kernel
theorem d_robject_43 : decode prog_14_method_64_code 43 = .ok (.putfield 176, 3) := by decide +kernel
theorem d_robject_46 : decode prog_14_method_64_code 46 = .ok (.iload_n 3, 1) := by decide +kernel
theorem d_robject_47 : decode prog_14_method_64_code 47 = .ok (.ifCond .ne 6, 3) := by decide +kernel
theorem d_robject_53 : decode prog_14_method_64_code 53 = .ok (.iload 4, 2) := by decide +kernel
theorem d_robject_55 : decode prog_14_method_64_code 55 = .ok (.bipush 6, 2) := by decide +kernel
theorem d_robject_57 : decode prog_14_method_64_code 57 = .ok (.if_icmp .ne 14, 3) := by decide +kernel
theorem d_robject_71 : decode prog_14_method_64_code 71 = .ok (.aload_n 0, 1) := by decide +kernel
theorem d_robject_72 : decode prog_14_method_64_code 72 = .ok (.iload_n 1, 1) := by decide +kernel
theorem d_robject_73 : decode prog_14_method_64_code 73 = .ok (.iload_n 2, 1) := by decide +kernel
theorem d_robject_74 : decode prog_14_method_64_code 74 = .ok (.invokevirtual 295, 3) := by decide +kernel
theorem d_robject_77 : decode prog_14_method_64_code 77 = .ok (.ireturn, 1) := by decide +kernel
theorem d_robject_60 : decode prog_14_method_64_code 60 = .ok (.aload_n 0, 1) := by decide +kernel
theorem d_robject_61 : decode prog_14_method_64_code 61 = .ok (.iload_n 1, 1) := by decide +kernel
theorem d_robject_62 : decode prog_14_method_64_code 62 = .ok (.iload_n 2, 1) := by decide +kernel
theorem d_robject_63 : decode prog_14_method_64_code 63 = .ok (.invokevirtual 417, 3) := by decide +kernel
theorem d_robject_66 : decode prog_14_method_64_code 66 = .ok (.aload_n 0, 1) := by decide +kernel
theorem d_robject_67 : decode prog_14_method_64_code 67 = .ok (.getfield 411, 3) := by decide +kernel
theorem d_robject_70 : decode prog_14_method_64_code 70 = .ok (.ireturn, 1) := by decide +kernel
theorem d_robject_50 : decode prog_14_method_64_code 50 = .ok (.iload 4, 2) := by decide +kernel
theorem d_robject_52 : decode prog_14_method_64_code 52 = .ok (.ireturn, 1) := by decide +kernel
theorem d_robject_35 : decode prog_14_method_64_code 35 = .ok (.aload_n 0, 1) := by decide +kernel
theorem d_robject_36 : decode prog_14_method_64_code 36 = .ok (.iconst 2, 1) := by decide +kernel
theorem d_robject_37 : decode prog_14_method_64_code 37 = .ok (.invokevirtual 191, 3) := by decide +kernel
theorem d_robject_40 : decode prog_14_method_64_code 40 = .ok (.ireturn, 1) := by decide +kernel
set_option maxHeartbeats 4000000 in
set_option maxRecDepth 100000 in
theorem w_robject_J0 {p : Program} {l : Launch} {e : Env} {s : State} {m : MethodId} {args : Array Value} {below : List Frame} {meth : Method} {c : Code} {A : Nat → Prop} {D : va_G} {md : Nat → Nat} {mc : Nat → ClassId} {Q : State → Prop} (hC : MCx "JoinedTreesModel" prog_14_method_64_code 5 (some .int) p s m args meth c A D mc) {S : MS} {x1 : Int32} {x2 : Int32} {x3 : Int32} {o : MS × Int32} (Heq : m_robject_J0 S x1 x2 x3 = some o) (Kr : ∀ r : MS × Int32, o = r → ∀ (pc : Nat) (H : Heap) (locs : List Loc) (ls : Array Slot), decode prog_14_method_64_code pc = .ok (.ireturn, 1) → va_P D cls (mw md mc r.1) H → va_D A (mw md mc r.1) → va_S A s.heap H locs → W p l e ({ frames := 4, cells := 0, slots := 0, locals := 95 }) s m args below meth c H locs 0 0 Q (F0 m pc ls [.int r.2])) : ∀ (H : Heap) (locs : List Loc) (ls : Array Slot), va_P D cls (mw md mc S) H → va_D A (mw md mc S) → va_S A s.heap H locs → lv_has ls 5 [(0, .ref (md 100)), (1, .int x1), (2, .int x2), (3, .int x3)] → W p l e ({ frames := 4, cells := 0, slots := 0, locals := 95 }) s m args below meth c H locs 0 0 Q (F0 m 0 ls []) := by
  intro H locs ls hP hD hS hl
  obtain ⟨hx, hb, hr, hml, hown, hts, hK, hA⟩ := id hC
  unfold m_robject_J0 at Heq
  refine lv_iload_n hx hb d_robject_0 rfl (lv_at hl 1 rfl) ?_
  obtain ⟨o_1, h_2, Heq⟩ := ob_some Heq
  have hFc := fr_all hD hS hA
  refine va_calli (va_runS (As := [.int x1]) (rest := []) ⟨hx, hb, hml, hown, hts⟩ (g_risReplica l D H.size h_2) (cw_s 1 hts kw_1641 kw_1639 kw_1640 kw_11 rfl rfl (by decide +kernel) ⟨Nat.le_of_ble_eq_true rfl, Nat.le_of_ble_eq_true rfl⟩) ⟨g_blind, fun U hU hW => g_pre hU hW hP hK hD⟩ rfl rfl hl.1 rfl (lv_room (Nat.le_of_ble_eq_true rfl)) d_robject_1 ⟨Nat.le_of_ble_eq_true rfl, Nat.le_of_ble_eq_true rfl⟩) hS (fun q _ h => hFc q h) hFc (fun rz u t H1 locs ht hvm hw hB hz1 hk1 hS => ?_)
  obtain ⟨hP, -, hD1⟩ := hB
  rw [ht] at hP
  have hD := hD1.weaken (fun _ q _ h => hFc q.1 h)
  generalize H1 = H at hP hS ⊢
  refine W.cs (cells' := 0) (slots' := 0) rfl rfl ?_
  subst hw
  refine lv_if_eq (tgt := 16) hx hb d_robject_4 (by decide) (fun c_3 => ?_) (fun c_3 => ?_)
  · replace Heq := (if_pos c_3).symm.trans Heq
    exact w_robject_J16 hC Heq Kr _ _ _ hP hD hS (lv_sub hl [0] rfl)
  · replace Heq := (if_neg c_3).symm.trans Heq
    refine lv_iload_n hx hb d_robject_7 rfl (lv_at hl 3 rfl) ?_
    refine lv_if_lt (tgt := 16) hx hb d_robject_8 (by decide) (fun c_4 => ?_) (fun c_4 => ?_)
    · replace Heq := (if_pos c_4).symm.trans Heq
      exact w_robject_J16 hC Heq Kr _ _ _ hP hD hS (lv_sub hl [0] rfl)
    · replace Heq := (if_neg c_4).symm.trans Heq
      refine lv_iload_n hx hb d_robject_11 rfl (lv_at hl 3 rfl) ?_
      refine lv_iconst (v := 1) hx hb d_robject_12 (by decide) ?_
      refine lv_icmp_le (tgt := 22) hx hb d_robject_13 (by decide) (fun c_5 => ?_) (fun c_5 => ?_)
      · replace Heq := (if_pos c_5).symm.trans Heq
        refine lv_aload_n hx hb d_robject_22 rfl (lv_at hl 0 rfl) ?_
        refine lv_iload_n hx hb d_robject_23 rfl (lv_at hl 1 rfl) ?_
        refine lv_iload_n hx hb d_robject_24 rfl (lv_at hl 2 rfl) ?_
        obtain ⟨o_6, h_7, Heq⟩ := ob_some Heq
        have hFc := fr_all hD hS hA
        refine va_calli (va_runV (As := [.int x1, .int x2]) (rest := []) ⟨hx, hb, hml, hown, hts⟩ (g_rkindOf l D H.size h_7) (cw_v 2 hts kw_1648 kw_1645 kw_1647 kp_31 kw_11 rfl rfl (by decide +kernel) ⟨Nat.le_of_ble_eq_true rfl, Nat.le_of_ble_eq_true rfl⟩) ⟨g_blind, va_recv hK hP (ci := 12) (q0 := 0) rfl rfl, fun U hU hW => g_pre hU hW hP hK hD⟩ rfl rfl hl.1 rfl (lv_room (Nat.le_of_ble_eq_true rfl)) d_robject_25 ⟨Nat.le_of_ble_eq_true rfl, Nat.le_of_ble_eq_true rfl⟩) hS (fun q _ h => hFc q h) hFc (fun rz u t H1 locs ht hvm hw hB hz1 hk1 hS => ?_)
        obtain ⟨hP, -, hD1⟩ := hB
        rw [ht] at hP
        have hD := hD1.weaken (fun _ q _ h => hFc q.1 h)
        generalize H1 = H at hP hS ⊢
        refine W.cs (cells' := 0) (slots' := 0) rfl rfl ?_
        subst hw
        refine lv_istore (lv' := [(4, .int o_6.2), (0, .ref (md 100)), (1, .int x1), (2, .int x2), (3, .int x3)]) hx hb d_robject_28 hl (by decide) rfl (fun ls hl => ?_)
        refine lv_iload hx hb d_robject_30 (lv_at hl 0 rfl) ?_
        refine lv_if_ge (tgt := 41) hx hb d_robject_32 (by decide) (fun c_8 => ?_) (fun c_8 => ?_)
        · replace Heq := (if_pos c_8).symm.trans Heq
          refine lv_aload_n hx hb d_robject_41 rfl (lv_at hl 1 rfl) ?_
          refine lv_iconst (v := 0) hx hb d_robject_42 (by decide) ?_
          refine va_put (D := D) (ci := 12) (v := .int 0) (ty := .int) (C := R_MM) (T := F_MM) (N := 77) hx hb hts i_MM t_MM t_MM_ok n_MM hown hK hP hD hS 0 rfl rfl 0 (by decide) (hts _ kw_1382) (fun _ h9 => h9) rfl (by decide +kernel) rfl rfl (Nat.le_of_ble_eq_true rfl) d_robject_43 (fun H locs hP hD hS => ?_)
          rw [mw_I0] at hP hD
          refine lv_iload_n hx hb d_robject_46 rfl (lv_at hl 4 rfl) ?_
          refine lv_if_ne (tgt := 53) hx hb d_robject_47 (by decide) (fun c_9 => ?_) (fun c_9 => ?_)
          · replace Heq := (if_neg c_9).symm.trans Heq
            refine lv_iload hx hb d_robject_53 (lv_at hl 0 rfl) ?_
            refine lv_bipush (v := 6) hx hb d_robject_55 (by decide) ?_
            refine lv_icmp_ne (tgt := 71) hx hb d_robject_57 (by decide) (fun c_10 => ?_) (fun c_10 => ?_)
            · replace Heq := (if_neg c_10).symm.trans Heq
              refine lv_aload_n hx hb d_robject_71 rfl (lv_at hl 1 rfl) ?_
              refine lv_iload_n hx hb d_robject_72 rfl (lv_at hl 2 rfl) ?_
              refine lv_iload_n hx hb d_robject_73 rfl (lv_at hl 3 rfl) ?_
              obtain ⟨o_11, h_12, Heq⟩ := ob_some Heq
              have hFc := fr_all hD hS hA
              refine va_calli (va_runV (As := [.int x1, .int x2]) (rest := []) ⟨hx, hb, hml, hown, hts⟩ (g_rindices l D H.size h_12) (cw_v 2 hts kw_1733 kw_1730 kw_1732 kp_50 kw_11 rfl rfl (by decide +kernel) ⟨Nat.le_of_ble_eq_true rfl, Nat.le_of_ble_eq_true rfl⟩) ⟨g_blind, va_recv hK hP (ci := 12) (q0 := 0) rfl rfl, fun U hU hW => g_pre hU hW hP hK hD⟩ rfl rfl hl.1 rfl (lv_room (Nat.le_of_ble_eq_true rfl)) d_robject_74 ⟨Nat.le_of_ble_eq_true rfl, Nat.le_of_ble_eq_true rfl⟩) hS (fun q _ h => hFc q h) hFc (fun rz u t H1 locs ht hvm hw hB hz1 hk1 hS => ?_)
              obtain ⟨hP, -, hD1⟩ := hB
              rw [ht] at hP
              have hD := hD1.weaken (fun _ q _ h => hFc q.1 h)
              generalize H1 = H at hP hS ⊢
              refine W.cs (cells' := 0) (slots' := 0) rfl rfl ?_
              subst hw
              exact Kr _ (Option.some.inj Heq).symm 77 _ _ _ d_robject_77 hP hD hS
            · replace Heq := (if_pos c_10).symm.trans Heq
              refine lv_aload_n hx hb d_robject_60 rfl (lv_at hl 1 rfl) ?_
              refine lv_iload_n hx hb d_robject_61 rfl (lv_at hl 2 rfl) ?_
              refine lv_iload_n hx hb d_robject_62 rfl (lv_at hl 3 rfl) ?_
              obtain ⟨o_13, h_14, Heq⟩ := ob_some Heq
              have hFc := fr_all hD hS hA
              refine va_callv (va_runV (As := [.int x1, .int x2]) (rest := []) ⟨hx, hb, hml, hown, hts⟩ (g_rkeysOf l D H.size h_14) (cw_v 2 hts kw_1863 kw_1860 kw_1862 kp_70 kw_11 rfl rfl (by decide +kernel) ⟨Nat.le_of_ble_eq_true rfl, Nat.le_of_ble_eq_true rfl⟩) ⟨g_blind, va_recv hK hP (ci := 12) (q0 := 0) rfl rfl, fun U hU hW => g_pre hU hW hP hK hD⟩ rfl rfl hl.1 rfl (lv_room (Nat.le_of_ble_eq_true rfl)) d_robject_63 ⟨Nat.le_of_ble_eq_true rfl, Nat.le_of_ble_eq_true rfl⟩) hS (fun q _ h => hFc q h) hFc (fun u t H1 locs ht hvm hw hB hz1 hk1 hS => ?_)
              obtain ⟨hP, -, hD1⟩ := hB
              rw [ht] at hP
              have hD := hD1.weaken (fun _ q _ h => hFc q.1 h)
              generalize H1 = H at hP hS ⊢
              refine W.cs (cells' := 0) (slots' := 0) rfl rfl ?_
              refine lv_aload_n hx hb d_robject_66 rfl (lv_at hl 1 rfl) ?_
              refine va_get (D := D) (ci := 12) (v := .int (o_13.i 71)) (C := R_MM) (T := F_MM) (N := 77) hx hb hts i_MM hown hK hP 0 rfl rfl 71 (by decide) (hts _ kw_1453) (fun _ h9 => h9) rfl d_robject_67 ?_
              exact Kr _ (Option.some.inj Heq).symm 70 _ _ _ d_robject_70 hP hD hS
          · replace Heq := (if_pos c_9).symm.trans Heq
            refine lv_iload hx hb d_robject_50 (lv_at hl 0 rfl) ?_
            exact Kr _ (Option.some.inj Heq).symm 52 _ _ _ d_robject_52 hP hD hS
        · replace Heq := (if_neg c_8).symm.trans Heq
          refine lv_aload_n hx hb d_robject_35 rfl (lv_at hl 1 rfl) ?_
          refine lv_iconst (v := 2) hx hb d_robject_36 (by decide) ?_
          obtain ⟨o_15, h_16, Heq⟩ := ob_some Heq
          have hFc := fr_all hD hS hA
          refine va_calli (va_runV (As := [.int 2]) (rest := []) ⟨hx, hb, hml, hown, hts⟩ (g_rno l D H.size h_16) (cw_v 1 hts kw_1626 kw_1623 kw_1625 kp_29 kw_11 rfl rfl (by decide +kernel) ⟨Nat.le_of_ble_eq_true rfl, Nat.le_of_ble_eq_true rfl⟩) ⟨g_blind, va_recv hK hP (ci := 12) (q0 := 0) rfl rfl, fun U hU hW => g_pre hU hW hP hK hD⟩ rfl rfl hl.1 rfl (lv_room (Nat.le_of_ble_eq_true rfl)) d_robject_37 ⟨Nat.le_of_ble_eq_true rfl, Nat.le_of_ble_eq_true rfl⟩) hS (fun q _ h => hFc q h) hFc (fun rz u t H1 locs ht hvm hw hB hz1 hk1 hS => ?_)
          obtain ⟨hP, -, hD1⟩ := hB
          rw [ht] at hP
          have hD := hD1.weaken (fun _ q _ h => hFc q.1 h)
          generalize H1 = H at hP hS ⊢
          refine W.cs (cells' := 0) (slots' := 0) rfl rfl ?_
          subst hw
          exact Kr _ (Option.some.inj Heq).symm 40 _ _ _ d_robject_40 hP hD hS
      · replace Heq := (if_neg c_5).symm.trans Heq
        exact w_robject_J16 hC Heq Kr _ _ _ hP hD hS (lv_sub hl [0] rfl)
def m_robject (S : MS) (x1 : Int32) (x2 : Int32) (x3 : Int32) : Option (MS × Int32) := m_robject_J0 S x1 x2 x3
theorem g_robject (l : Launch) (D : va_G) (sz : Nat) {md : Nat → Nat} {mc : Nat → ClassId} {S : MS} {x1 : Int32} {x2 : Int32} {x3 : Int32} {o : MS × Int32} (Heq : m_robject S x1 x2 x3 = some o) : Met l ⟨"JoinedTreesModel", "object", "(III)I"⟩ (Cond.code ⟨"JoinedTreesModel", "object", "(III)I"⟩ prog_14_method_64_code 5 (some .int) :: gb) ({ frames := 4, cells := 0, slots := 0, locals := 95 }) (gPc D (mw md mc S) (mty mc) sz [.ref (md 100), .int x1, .int x2, .int x3]) (va_Qi (fun (r : Int32) (_ : Unit) => r = o.2) (fun _ t => gO D (mw md mc o.1) (mty mc) (va_A (mw md mc S) sz) t) (va_A (mw md mc S) sz)) 0 0 (va_A (mw md mc S) sz) := by
  refine Met.ofW (cc := prog_14_method_64_code) (maxL := 5) (ret := (some .int)) (by decide) rfl ?_
  intro p e s m args below meth c s₁ B hml hv
  obtain ⟨rfl, hsz, hP, hK, hD0⟩ := hv
  have hx := B.exec
  have hb := B.bytes
  have hr := B.returns
  have hts : ∀ w9 ∈ gb, w9.before [.ref (md 100), .int x1, .int x2, .int x3].toArray s = true := fun w9 h => atoms_spec (ws := Cond.code ⟨"JoinedTreesModel", "object", "(III)I"⟩ prog_14_method_64_code 5 (some .int) :: gb) B.pre w9 (List.mem_cons_of_mem _ h)
  have hown : s.vm.findClass "JoinedTreesModel" = some m.cls := findClass_of_methodNamed B.named
  have hlocks := B.notSynchronized
  subst hsz
  have hD := hD0.self (sz := s.heap.size)
  generalize hAe : va_A (mw md mc S) s.heap.size = A at hD ⊢
  have hA : ∀ q : Nat, s.heap.size ≤ q → A q := fun q h => by rw [← hAe]; exact Or.inr h
  have hS : va_S A s.heap s.heap [] := va_S.rf
  have hl := lv_entry ([.ref (md 100), .int x1, .int x2, .int x3]) (n := 5) (Nat.le_of_ble_eq_true rfl)
  rw [lg_entry_eq]
  generalize (lg_sl ([.ref (md 100), .int x1, .int x2, .int x3]) ++ List.replicate (5 - (lg_sl ([.ref (md 100), .int x1, .int x2, .int x3])).length) Slot.unset).toArray = ls at hl ⊢
  have hl : lv_has ls 5 [(0, .ref (md 100)), (1, .int x1), (2, .int x2), (3, .int x3)] := hl
  refine w_robject_J0 ⟨hx, hb, hr, hml, hown, hts, hK, hA⟩ Heq (fun r h pc H locs ls hd hP hD hS => ?_) _ _ _ hP hD hS (lv_sub hl [0, 1, 2, 3] rfl)
  subst h
  exact W.iret hx hb hr (fun t ht hW => ⟨⟨_, (), rfl, rfl, by rw [ht]; exact hP, va_K.moved hW.alike hK, hD⟩, hS.F ht⟩) hS.2.2 hd
def m_rkey_J35 (S : MS) : Option (MS × Int32) := ob (m_rno S 1) (fun o_1 => some (o_1.1, o_1.2))
theorem d_rkey_0 : decode prog_14_method_65_code 0 = .ok (.iload_n 1, 1) := by decide +kernel
theorem d_rkey_1 : decode prog_14_method_65_code 1 = .ok (.invokestatic 251, 3) := by decide +kernel
theorem d_rkey_4 : decode prog_14_method_65_code 4 = .ok (.ifCond .ne 9, 3) := by decide +kernel
theorem d_rkey_13 : decode prog_14_method_65_code 13 = .ok (.aload_n 0, 1) := by decide +kernel
theorem d_rkey_14 : decode prog_14_method_65_code 14 = .ok (.iload_n 1, 1) := by decide +kernel
theorem d_rkey_15 : decode prog_14_method_65_code 15 = .ok (.iload_n 2, 1) := by decide +kernel
theorem d_rkey_16 : decode prog_14_method_65_code 16 = .ok (.invokevirtual 258, 3) := by decide +kernel
theorem d_rkey_19 : decode prog_14_method_65_code 19 = .ok (.istore 5, 2) := by decide +kernel
theorem d_rkey_21 : decode prog_14_method_65_code 21 = .ok (.iload 5, 2) := by decide +kernel
theorem d_rkey_23 : decode prog_14_method_65_code 23 = .ok (.bipush 7, 2) := by decide +kernel
theorem d_rkey_25 : decode prog_14_method_65_code 25 = .ok (.if_icmp .eq 10, 3) := by decide +kernel
theorem d_rkey_35 : decode prog_14_method_65_code 35 = .ok (.aload_n 0, 1) := by decide +kernel
theorem d_rkey_36 : decode prog_14_method_65_code 36 = .ok (.iconst 1, 1) := by decide +kernel
theorem d_rkey_37 : decode prog_14_method_65_code 37 = .ok (.invokevirtual 191, 3) := by decide +kernel
theorem d_rkey_40 : decode prog_14_method_65_code 40 = .ok (.ireturn, 1) := by decide +kernel
set_option maxHeartbeats 4000000 in
set_option maxRecDepth 100000 in
theorem w_rkey_J35 {p : Program} {l : Launch} {e : Env} {s : State} {m : MethodId} {args : Array Value} {below : List Frame} {meth : Method} {c : Code} {A : Nat → Prop} {D : va_G} {md : Nat → Nat} {mc : Nat → ClassId} {Q : State → Prop} (hC : MCx "JoinedTreesModel" prog_14_method_65_code 6 (some .int) p s m args meth c A D mc) {S : MS} {o : MS × Int32} (Heq : m_rkey_J35 S = some o) (Kr : ∀ r : MS × Int32, o = r → ∀ (pc : Nat) (H : Heap) (locs : List Loc) (ls : Array Slot), decode prog_14_method_65_code pc = .ok (.ireturn, 1) → va_P D cls (mw md mc r.1) H → va_D A (mw md mc r.1) → va_S A s.heap H locs → W p l e ({ frames := 3, cells := 0, slots := 0, locals := 71 }) s m args below meth c H locs 0 0 Q (F0 m pc ls [.int r.2])) : ∀ (H : Heap) (locs : List Loc) (ls : Array Slot), va_P D cls (mw md mc S) H → va_D A (mw md mc S) → va_S A s.heap H locs → lv_has ls 6 [(0, .ref (md 100))] → W p l e ({ frames := 3, cells := 0, slots := 0, locals := 71 }) s m args below meth c H locs 0 0 Q (F0 m 35 ls []) := by
  intro H locs ls hP hD hS hl
  obtain ⟨hx, hb, hr, hml, hown, hts, hK, hA⟩ := id hC
  unfold m_rkey_J35 at Heq
  refine lv_aload_n hx hb d_rkey_35 rfl (lv_at hl 0 rfl) ?_
  refine lv_iconst (v := 1) hx hb d_rkey_36 (by decide) ?_
  obtain ⟨o_1, h_2, Heq⟩ := ob_some Heq
  have hFc := fr_all hD hS hA
  refine va_calli (va_runV (As := [.int 1]) (rest := []) ⟨hx, hb, hml, hown, hts⟩ (g_rno l D H.size h_2) (cw_v 1 hts kw_1626 kw_1623 kw_1625 kp_29 kw_11 rfl rfl (by decide +kernel) ⟨Nat.le_of_ble_eq_true rfl, Nat.le_of_ble_eq_true rfl⟩) ⟨g_blind, va_recv hK hP (ci := 12) (q0 := 0) rfl rfl, fun U hU hW => g_pre hU hW hP hK hD⟩ rfl rfl hl.1 rfl (lv_room (Nat.le_of_ble_eq_true rfl)) d_rkey_37 ⟨Nat.le_of_ble_eq_true rfl, Nat.le_of_ble_eq_true rfl⟩) hS (fun q _ h => hFc q h) hFc (fun rz u t H1 locs ht hvm hw hB hz1 hk1 hS => ?_)
  obtain ⟨hP, -, hD1⟩ := hB
  rw [ht] at hP
  have hD := hD1.weaken (fun _ q _ h => hFc q.1 h)
  generalize H1 = H at hP hS ⊢
  refine W.cs (cells' := 0) (slots' := 0) rfl rfl ?_
  subst hw
  exact Kr _ (Option.some.inj Heq).symm 40 _ _ _ d_rkey_40 hP hD hS
def m_rkey_J92 (S : MS) : Option (MS × Int32) := ob (m_rno S 2) (fun o_1 => some (o_1.1, o_1.2))
theorem d_rkey_28 : decode prog_14_method_65_code 28 = .ok (.iload 5, 2) := by decide +kernel
theorem d_rkey_30 : decode prog_14_method_65_code 30 = .ok (.bipush 8, 2) := by decide +kernel
theorem d_rkey_32 : decode prog_14_method_65_code 32 = .ok (.if_icmp .ne 9, 3) := by decide +kernel
theorem d_rkey_41 : decode prog_14_method_65_code 41 = .ok (.iload 5, 2) := by decide +kernel
theorem d_rkey_43 : decode prog_14_method_65_code 43 = .ok (.ifCond .ge 9, 3) := by decide +kernel
theorem d_rkey_52 : decode prog_14_method_65_code 52 = .ok (.aload_n 0, 1) := by decide +kernel
theorem d_rkey_53 : decode prog_14_method_65_code 53 = .ok (.iload_n 1, 1) := by decide +kernel
theorem d_rkey_54 : decode prog_14_method_65_code 54 = .ok (.iload_n 2, 1) := by decide +kernel
theorem d_rkey_55 : decode prog_14_method_65_code 55 = .ok (.invokevirtual 417, 3) := by decide +kernel
theorem d_rkey_58 : decode prog_14_method_65_code 58 = .ok (.iload_n 3, 1) := by decide +kernel
theorem d_rkey_59 : decode prog_14_method_65_code 59 = .ok (.ifCond .lt 33, 3) := by decide +kernel
theorem d_rkey_92 : decode prog_14_method_65_code 92 = .ok (.aload_n 0, 1) := by decide +kernel
theorem d_rkey_93 : decode prog_14_method_65_code 93 = .ok (.iconst 2, 1) := by decide +kernel
theorem d_rkey_94 : decode prog_14_method_65_code 94 = .ok (.invokevirtual 191, 3) := by decide +kernel
theorem d_rkey_97 : decode prog_14_method_65_code 97 = .ok (.ireturn, 1) := by decide +kernel
set_option maxHeartbeats 4000000 in
set_option maxRecDepth 100000 in
theorem w_rkey_J92 {p : Program} {l : Launch} {e : Env} {s : State} {m : MethodId} {args : Array Value} {below : List Frame} {meth : Method} {c : Code} {A : Nat → Prop} {D : va_G} {md : Nat → Nat} {mc : Nat → ClassId} {Q : State → Prop} (hC : MCx "JoinedTreesModel" prog_14_method_65_code 6 (some .int) p s m args meth c A D mc) {S : MS} {o : MS × Int32} (Heq : m_rkey_J92 S = some o) (Kr : ∀ r : MS × Int32, o = r → ∀ (pc : Nat) (H : Heap) (locs : List Loc) (ls : Array Slot), decode prog_14_method_65_code pc = .ok (.ireturn, 1) → va_P D cls (mw md mc r.1) H → va_D A (mw md mc r.1) → va_S A s.heap H locs → W p l e ({ frames := 3, cells := 0, slots := 0, locals := 71 }) s m args below meth c H locs 0 0 Q (F0 m pc ls [.int r.2])) : ∀ (H : Heap) (locs : List Loc) (ls : Array Slot), va_P D cls (mw md mc S) H → va_D A (mw md mc S) → va_S A s.heap H locs → lv_has ls 6 [(0, .ref (md 100))] → W p l e ({ frames := 3, cells := 0, slots := 0, locals := 71 }) s m args below meth c H locs 0 0 Q (F0 m 92 ls []) := by
  intro H locs ls hP hD hS hl
  obtain ⟨hx, hb, hr, hml, hown, hts, hK, hA⟩ := id hC
  unfold m_rkey_J92 at Heq
  refine lv_aload_n hx hb d_rkey_92 rfl (lv_at hl 0 rfl) ?_
  refine lv_iconst (v := 2) hx hb d_rkey_93 (by decide) ?_
  obtain ⟨o_1, h_2, Heq⟩ := ob_some Heq
  have hFc := fr_all hD hS hA
  refine va_calli (va_runV (As := [.int 2]) (rest := []) ⟨hx, hb, hml, hown, hts⟩ (g_rno l D H.size h_2) (cw_v 1 hts kw_1626 kw_1623 kw_1625 kp_29 kw_11 rfl rfl (by decide +kernel) ⟨Nat.le_of_ble_eq_true rfl, Nat.le_of_ble_eq_true rfl⟩) ⟨g_blind, va_recv hK hP (ci := 12) (q0 := 0) rfl rfl, fun U hU hW => g_pre hU hW hP hK hD⟩ rfl rfl hl.1 rfl (lv_room (Nat.le_of_ble_eq_true rfl)) d_rkey_94 ⟨Nat.le_of_ble_eq_true rfl, Nat.le_of_ble_eq_true rfl⟩) hS (fun q _ h => hFc q h) hFc (fun rz u t H1 locs ht hvm hw hB hz1 hk1 hS => ?_)
  obtain ⟨hP, -, hD1⟩ := hB
  rw [ht] at hP
  have hD := hD1.weaken (fun _ q _ h => hFc q.1 h)
  generalize H1 = H at hP hS ⊢
  refine W.cs (cells' := 0) (slots' := 0) rfl rfl ?_
  subst hw
  exact Kr _ (Option.some.inj Heq).symm 97 _ _ _ d_rkey_97 hP hD hS
def m_rkey_J145 (S : MS) (t0 : Int32) : Option (MS × Int32) := some (S, t0)
theorem d_rkey_62 : decode prog_14_method_65_code 62 = .ok (.iload_n 3, 1) := by decide +kernel
theorem d_rkey_63 : decode prog_14_method_65_code 63 = .ok (.aload_n 0, 1) := by decide +kernel
theorem d_rkey_64 : decode prog_14_method_65_code 64 = .ok (.getfield 411, 3) := by decide +kernel
theorem d_rkey_67 : decode prog_14_method_65_code 67 = .ok (.if_icmp .ge 25, 3) := by decide +kernel
theorem d_rkey_70 : decode prog_14_method_65_code 70 = .ok (.iload 4, 2) := by decide +kernel
theorem d_rkey_72 : decode prog_14_method_65_code 72 = .ok (.iconst (-1), 1) := by decide +kernel
theorem d_rkey_73 : decode prog_14_method_65_code 73 = .ok (.if_icmp .lt 19, 3) := by decide +kernel
theorem d_rkey_76 : decode prog_14_method_65_code 76 = .ok (.iload 4, 2) := by decide +kernel
theorem d_rkey_78 : decode prog_14_method_65_code 78 = .ok (.aload_n 0, 1) := by decide +kernel
theorem d_rkey_79 : decode prog_14_method_65_code 79 = .ok (.getfield 41, 3) := by decide +kernel
theorem d_rkey_82 : decode prog_14_method_65_code 82 = .ok (.aload_n 0, 1) := by decide +kernel
theorem d_rkey_83 : decode prog_14_method_65_code 83 = .ok (.getfield 166, 3) := by decide +kernel
theorem d_rkey_86 : decode prog_14_method_65_code 86 = .ok (.iload_n 3, 1) := by decide +kernel
theorem d_rkey_87 : decode prog_14_method_65_code 87 = .ok (.iaload, 1) := by decide +kernel
theorem d_rkey_88 : decode prog_14_method_65_code 88 = .ok (.iaload, 1) := by decide +kernel
theorem d_rkey_89 : decode prog_14_method_65_code 89 = .ok (.if_icmp .lt 9, 3) := by decide +kernel
theorem d_rkey_98 : decode prog_14_method_65_code 98 = .ok (.aload_n 0, 1) := by decide +kernel
theorem d_rkey_99 : decode prog_14_method_65_code 99 = .ok (.iconst 0, 1) := by decide +kernel
theorem d_rkey_100 : decode prog_14_method_65_code 100 = .ok (.putfield 176, 3) := by decide +kernel
theorem d_rkey_103 : decode prog_14_method_65_code 103 = .ok (.iload 4, 2) := by decide +kernel
theorem d_rkey_105 : decode prog_14_method_65_code 105 = .ok (.ifCond .ge 17, 3) := by decide +kernel
theorem d_rkey_122 : decode prog_14_method_65_code 122 = .ok (.aload_n 0, 1) := by decide +kernel
theorem d_rkey_123 : decode prog_14_method_65_code 123 = .ok (.getfield 72, 3) := by decide +kernel
theorem d_rkey_126 : decode prog_14_method_65_code 126 = .ok (.aload_n 0, 1) := by decide +kernel
theorem d_rkey_127 : decode prog_14_method_65_code 127 = .ok (.getfield 38, 3) := by decide +kernel
theorem d_rkey_130 : decode prog_14_method_65_code 130 = .ok (.aload_n 0, 1) := by decide +kernel
theorem d_rkey_131 : decode prog_14_method_65_code 131 = .ok (.getfield 166, 3) := by decide +kernel
theorem d_rkey_134 : decode prog_14_method_65_code 134 = .ok (.iload_n 3, 1) := by decide +kernel
theorem d_rkey_135 : decode prog_14_method_65_code 135 = .ok (.iaload, 1) := by decide +kernel
theorem d_rkey_136 : decode prog_14_method_65_code 136 = .ok (.iaload, 1) := by decide +kernel
theorem d_rkey_137 : decode prog_14_method_65_code 137 = .ok (.iload 4, 2) := by decide +kernel
theorem d_rkey_139 : decode prog_14_method_65_code 139 = .ok (.iadd, 1) := by decide +kernel
theorem d_rkey_140 : decode prog_14_method_65_code 140 = .ok (.baload, 1) := by decide +kernel
theorem d_rkey_141 : decode prog_14_method_65_code 141 = .ok (.sipush 255, 3) := by decide +kernel
theorem d_rkey_144 : decode prog_14_method_65_code 144 = .ok (.iand, 1) := by decide +kernel
theorem d_rkey_145 : decode prog_14_method_65_code 145 = .ok (.ireturn, 1) := by decide +kernel
set_option maxHeartbeats 4000000 in
set_option maxRecDepth 100000 in
theorem w_rkey_J145 {p : Program} {l : Launch} {e : Env} {s : State} {m : MethodId} {args : Array Value} {below : List Frame} {meth : Method} {c : Code} {A : Nat → Prop} {D : va_G} {md : Nat → Nat} {mc : Nat → ClassId} {Q : State → Prop} (hC : MCx "JoinedTreesModel" prog_14_method_65_code 6 (some .int) p s m args meth c A D mc) {S : MS} {t0 : Int32} {o : MS × Int32} (Heq : m_rkey_J145 S t0 = some o) (Kr : ∀ r : MS × Int32, o = r → ∀ (pc : Nat) (H : Heap) (locs : List Loc) (ls : Array Slot), decode prog_14_method_65_code pc = .ok (.ireturn, 1) → va_P D cls (mw md mc r.1) H → va_D A (mw md mc r.1) → va_S A s.heap H locs → W p l e ({ frames := 3, cells := 0, slots := 0, locals := 71 }) s m args below meth c H locs 0 0 Q (F0 m pc ls [.int r.2])) : ∀ (H : Heap) (locs : List Loc) (ls : Array Slot), va_P D cls (mw md mc S) H → va_D A (mw md mc S) → va_S A s.heap H locs → lv_has ls 6 [(0, .ref (md 100))] → W p l e ({ frames := 3, cells := 0, slots := 0, locals := 71 }) s m args below meth c H locs 0 0 Q (F0 m 145 ls [.int t0]) := by
  intro H locs ls hP hD hS hl
  obtain ⟨hx, hb, hr, hml, hown, hts, hK, hA⟩ := id hC
  unfold m_rkey_J145 at Heq
  exact Kr _ (Option.some.inj Heq).symm 145 _ _ _ d_rkey_145 hP hD hS
def m_rkey_J0 (S : MS) (x1 : Int32) (x2 : Int32) (x3 : Int32) (x4 : Int32) : Option (MS × Int32) := ob (m_risReplica S x1) (fun o_1 => (if o_1.2 = 0 then ob (m_rno o_1.1 1) (fun o_25 => some (o_25.1, o_25.2)) else ob (m_rkindOf o_1.1 x1 x2) (fun o_4 => (if o_4.2 = 7 then m_rkey_J35 o_4.1 else (if o_4.2 = 8 then m_rkey_J35 o_4.1 else (if 0 ≤ o_4.2 then ob (m_rkeysOf o_4.1 x1 x2) (fun o_9 => (if x3 < 0 then m_rkey_J92 o_9 else (if o_9.i 71 ≤ x3 then m_rkey_J92 o_9 else (if x4 < (-1) then m_rkey_J92 o_9 else gd x3 4000 (gd (o_9.a 70 x3.toNatClampNeg) 4000 ((if x4 < o_9.a 15 ((o_9.a 70 x3.toNatClampNeg).toNatClampNeg) then (if 0 ≤ x4 then gd x3 4000 (gd (o_9.a 70 x3.toNatClampNeg) 4000 (gd ((o_9.a 14 ((o_9.a 70 x3.toNatClampNeg).toNatClampNeg)) + x4) 32876 (m_rkey_J145 (o_9.setI 0 0) ((o_9.a 26 (((o_9.a 14 ((o_9.a 70 x3.toNatClampNeg).toNatClampNeg)) + x4).toNatClampNeg)) &&& 255)))) else gd x3 4000 (gd (o_9.a 70 x3.toNatClampNeg) 4000 (m_rkey_J145 (o_9.setI 0 0) (o_9.a 15 ((o_9.a 70 x3.toNatClampNeg).toNatClampNeg))))) else m_rkey_J92 o_9))))))) else ob (m_rno o_4.1 2) (fun o_23 => some (o_23.1, o_23.2))))))))
theorem d_rkey_108 : decode prog_14_method_65_code 108 = .ok (.aload_n 0, 1) := by decide +kernel
theorem d_rkey_109 : decode prog_14_method_65_code 109 = .ok (.getfield 41, 3) := by decide +kernel
theorem d_rkey_112 : decode prog_14_method_65_code 112 = .ok (.aload_n 0, 1) := by decide +kernel
theorem d_rkey_113 : decode prog_14_method_65_code 113 = .ok (.getfield 166, 3) := by decide +kernel
theorem d_rkey_116 : decode prog_14_method_65_code 116 = .ok (.iload_n 3, 1) := by decide +kernel
theorem d_rkey_117 : decode prog_14_method_65_code 117 = .ok (.iaload, 1) := by decide +kernel
theorem d_rkey_118 : decode prog_14_method_65_code 118 = .ok (.iaload, 1) := by decide +kernel
theorem d_rkey_119 : decode prog_14_method_65_code 119 = .ok (.goto 26, 3) := by decide +kernel
theorem d_rkey_46 : decode prog_14_method_65_code 46 = .ok (.aload_n 0, 1) := by decide +kernel
theorem d_rkey_47 : decode prog_14_method_65_code 47 = .ok (.iconst 2, 1) := by decide +kernel
theorem d_rkey_48 : decode prog_14_method_65_code 48 = .ok (.invokevirtual 191, 3) := by decide +kernel
theorem d_rkey_51 : decode prog_14_method_65_code 51 = .ok (.ireturn, 1) := by decide +kernel
theorem d_rkey_7 : decode prog_14_method_65_code 7 = .ok (.aload_n 0, 1) := by decide +kernel
theorem d_rkey_8 : decode prog_14_method_65_code 8 = .ok (.iconst 1, 1) := by decide +kernel
theorem d_rkey_9 : decode prog_14_method_65_code 9 = .ok (.invokevirtual 191, 3) := by decide +kernel
theorem d_rkey_12 : decode prog_14_method_65_code 12 = .ok (.ireturn, 1) := by decide +kernel
set_option maxHeartbeats 4000000 in
set_option maxRecDepth 100000 in
theorem w_rkey_J0 {p : Program} {l : Launch} {e : Env} {s : State} {m : MethodId} {args : Array Value} {below : List Frame} {meth : Method} {c : Code} {A : Nat → Prop} {D : va_G} {md : Nat → Nat} {mc : Nat → ClassId} {Q : State → Prop} (hC : MCx "JoinedTreesModel" prog_14_method_65_code 6 (some .int) p s m args meth c A D mc) {S : MS} {x1 : Int32} {x2 : Int32} {x3 : Int32} {x4 : Int32} {o : MS × Int32} (Heq : m_rkey_J0 S x1 x2 x3 x4 = some o) (Kr : ∀ r : MS × Int32, o = r → ∀ (pc : Nat) (H : Heap) (locs : List Loc) (ls : Array Slot), decode prog_14_method_65_code pc = .ok (.ireturn, 1) → va_P D cls (mw md mc r.1) H → va_D A (mw md mc r.1) → va_S A s.heap H locs → W p l e ({ frames := 3, cells := 0, slots := 0, locals := 71 }) s m args below meth c H locs 0 0 Q (F0 m pc ls [.int r.2])) : ∀ (H : Heap) (locs : List Loc) (ls : Array Slot), va_P D cls (mw md mc S) H → va_D A (mw md mc S) → va_S A s.heap H locs → lv_has ls 6 [(0, .ref (md 100)), (1, .int x1), (2, .int x2), (3, .int x3), (4, .int x4)] → W p l e ({ frames := 3, cells := 0, slots := 0, locals := 71 }) s m args below meth c H locs 0 0 Q (F0 m 0 ls []) := by
  intro H locs ls hP hD hS hl
  obtain ⟨hx, hb, hr, hml, hown, hts, hK, hA⟩ := id hC
  unfold m_rkey_J0 at Heq
  refine lv_iload_n hx hb d_rkey_0 rfl (lv_at hl 1 rfl) ?_
  obtain ⟨o_1, h_2, Heq⟩ := ob_some Heq
  have hFc := fr_all hD hS hA
  refine va_calli (va_runS (As := [.int x1]) (rest := []) ⟨hx, hb, hml, hown, hts⟩ (g_risReplica l D H.size h_2) (cw_s 1 hts kw_1641 kw_1639 kw_1640 kw_11 rfl rfl (by decide +kernel) ⟨Nat.le_of_ble_eq_true rfl, Nat.le_of_ble_eq_true rfl⟩) ⟨g_blind, fun U hU hW => g_pre hU hW hP hK hD⟩ rfl rfl hl.1 rfl (lv_room (Nat.le_of_ble_eq_true rfl)) d_rkey_1 ⟨Nat.le_of_ble_eq_true rfl, Nat.le_of_ble_eq_true rfl⟩) hS (fun q _ h => hFc q h) hFc (fun rz u t H1 locs ht hvm hw hB hz1 hk1 hS => ?_)
  obtain ⟨hP, -, hD1⟩ := hB
  rw [ht] at hP
  have hD := hD1.weaken (fun _ q _ h => hFc q.1 h)
  generalize H1 = H at hP hS ⊢
  refine W.cs (cells' := 0) (slots' := 0) rfl rfl ?_
  subst hw
  refine lv_if_ne (tgt := 13) hx hb d_rkey_4 (by decide) (fun c_3 => ?_) (fun c_3 => ?_)
  · replace Heq := (if_neg c_3).symm.trans Heq
    refine lv_aload_n hx hb d_rkey_13 rfl (lv_at hl 0 rfl) ?_
    refine lv_iload_n hx hb d_rkey_14 rfl (lv_at hl 1 rfl) ?_
    refine lv_iload_n hx hb d_rkey_15 rfl (lv_at hl 2 rfl) ?_
    obtain ⟨o_4, h_5, Heq⟩ := ob_some Heq
    have hFc := fr_all hD hS hA
    refine va_calli (va_runV (As := [.int x1, .int x2]) (rest := []) ⟨hx, hb, hml, hown, hts⟩ (g_rkindOf l D H.size h_5) (cw_v 2 hts kw_1648 kw_1645 kw_1647 kp_31 kw_11 rfl rfl (by decide +kernel) ⟨Nat.le_of_ble_eq_true rfl, Nat.le_of_ble_eq_true rfl⟩) ⟨g_blind, va_recv hK hP (ci := 12) (q0 := 0) rfl rfl, fun U hU hW => g_pre hU hW hP hK hD⟩ rfl rfl hl.1 rfl (lv_room (Nat.le_of_ble_eq_true rfl)) d_rkey_16 ⟨Nat.le_of_ble_eq_true rfl, Nat.le_of_ble_eq_true rfl⟩) hS (fun q _ h => hFc q h) hFc (fun rz u t H1 locs ht hvm hw hB hz1 hk1 hS => ?_)
    obtain ⟨hP, -, hD1⟩ := hB
    rw [ht] at hP
    have hD := hD1.weaken (fun _ q _ h => hFc q.1 h)
    generalize H1 = H at hP hS ⊢
    refine W.cs (cells' := 0) (slots' := 0) rfl rfl ?_
    subst hw
    refine lv_istore (lv' := [(5, .int o_4.2), (0, .ref (md 100)), (1, .int x1), (2, .int x2), (3, .int x3), (4, .int x4)]) hx hb d_rkey_19 hl (by decide) rfl (fun ls hl => ?_)
    refine lv_iload hx hb d_rkey_21 (lv_at hl 0 rfl) ?_
    refine lv_bipush (v := 7) hx hb d_rkey_23 (by decide) ?_
    refine lv_icmp_eq (tgt := 35) hx hb d_rkey_25 (by decide) (fun c_6 => ?_) (fun c_6 => ?_)
    · replace Heq := (if_pos c_6).symm.trans Heq
      exact w_rkey_J35 hC Heq Kr _ _ _ hP hD hS (lv_sub hl [1] rfl)
    · replace Heq := (if_neg c_6).symm.trans Heq
      refine lv_iload hx hb d_rkey_28 (lv_at hl 0 rfl) ?_
      refine lv_bipush (v := 8) hx hb d_rkey_30 (by decide) ?_
      refine lv_icmp_ne (tgt := 41) hx hb d_rkey_32 (by decide) (fun c_7 => ?_) (fun c_7 => ?_)
      · replace Heq := (if_neg c_7).symm.trans Heq
        refine lv_iload hx hb d_rkey_41 (lv_at hl 0 rfl) ?_
        refine lv_if_ge (tgt := 52) hx hb d_rkey_43 (by decide) (fun c_8 => ?_) (fun c_8 => ?_)
        · replace Heq := (if_pos c_8).symm.trans Heq
          refine lv_aload_n hx hb d_rkey_52 rfl (lv_at hl 1 rfl) ?_
          refine lv_iload_n hx hb d_rkey_53 rfl (lv_at hl 2 rfl) ?_
          refine lv_iload_n hx hb d_rkey_54 rfl (lv_at hl 3 rfl) ?_
          obtain ⟨o_9, h_10, Heq⟩ := ob_some Heq
          have hFc := fr_all hD hS hA
          refine va_callv (va_runV (As := [.int x1, .int x2]) (rest := []) ⟨hx, hb, hml, hown, hts⟩ (g_rkeysOf l D H.size h_10) (cw_v 2 hts kw_1863 kw_1860 kw_1862 kp_70 kw_11 rfl rfl (by decide +kernel) ⟨Nat.le_of_ble_eq_true rfl, Nat.le_of_ble_eq_true rfl⟩) ⟨g_blind, va_recv hK hP (ci := 12) (q0 := 0) rfl rfl, fun U hU hW => g_pre hU hW hP hK hD⟩ rfl rfl hl.1 rfl (lv_room (Nat.le_of_ble_eq_true rfl)) d_rkey_55 ⟨Nat.le_of_ble_eq_true rfl, Nat.le_of_ble_eq_true rfl⟩) hS (fun q _ h => hFc q h) hFc (fun u t H1 locs ht hvm hw hB hz1 hk1 hS => ?_)
          obtain ⟨hP, -, hD1⟩ := hB
          rw [ht] at hP
          have hD := hD1.weaken (fun _ q _ h => hFc q.1 h)
          generalize H1 = H at hP hS ⊢
          refine W.cs (cells' := 0) (slots' := 0) rfl rfl ?_
          refine lv_iload_n hx hb d_rkey_58 rfl (lv_at hl 4 rfl) ?_
          refine lv_if_lt (tgt := 92) hx hb d_rkey_59 (by decide) (fun c_11 => ?_) (fun c_11 => ?_)
          · replace Heq := (if_pos c_11).symm.trans Heq
            exact w_rkey_J92 hC Heq Kr _ _ _ hP hD hS (lv_sub hl [1] rfl)
          · replace Heq := (if_neg c_11).symm.trans Heq
            refine lv_iload_n hx hb d_rkey_62 rfl (lv_at hl 4 rfl) ?_
            refine lv_aload_n hx hb d_rkey_63 rfl (lv_at hl 1 rfl) ?_
            refine va_get (D := D) (ci := 12) (v := .int (o_9.i 71)) (C := R_MM) (T := F_MM) (N := 77) hx hb hts i_MM hown hK hP 0 rfl rfl 71 (by decide) (hts _ kw_1453) (fun _ h9 => h9) rfl d_rkey_64 ?_
            refine lv_icmp_ge (tgt := 92) hx hb d_rkey_67 (by decide) (fun c_12 => ?_) (fun c_12 => ?_)
            · replace Heq := (if_pos c_12).symm.trans Heq
              exact w_rkey_J92 hC Heq Kr _ _ _ hP hD hS (lv_sub hl [1] rfl)
            · replace Heq := (if_neg c_12).symm.trans Heq
              refine lv_iload hx hb d_rkey_70 (lv_at hl 5 rfl) ?_
              refine lv_iconst (v := (-1)) hx hb d_rkey_72 (by decide) ?_
              refine lv_icmp_lt (tgt := 92) hx hb d_rkey_73 (by decide) (fun c_13 => ?_) (fun c_13 => ?_)
              · replace Heq := (if_pos c_13).symm.trans Heq
                exact w_rkey_J92 hC Heq Kr _ _ _ hP hD hS (lv_sub hl [1] rfl)
              · replace Heq := (if_neg c_13).symm.trans Heq
                refine lv_iload hx hb d_rkey_76 (lv_at hl 5 rfl) ?_
                refine lv_aload_n hx hb d_rkey_78 rfl (lv_at hl 1 rfl) ?_
                refine va_get (D := D) (ci := 12) (v := .ref (md 15)) (C := R_MM) (T := F_MM) (N := 77) hx hb hts i_MM hown hK hP 0 rfl rfl 15 (by decide) (hts _ kw_1397) (fun _ h9 => h9) rfl d_rkey_79 ?_
                refine lv_aload_n hx hb d_rkey_82 rfl (lv_at hl 1 rfl) ?_
                refine va_get (D := D) (ci := 12) (v := .ref (md 70)) (C := R_MM) (T := F_MM) (N := 77) hx hb hts i_MM hown hK hP 0 rfl rfl 70 (by decide) (hts _ kw_1452) (fun _ h9 => h9) rfl d_rkey_83 ?_
                refine lv_iload_n hx hb d_rkey_86 rfl (lv_at hl 4 rfl) ?_
                obtain ⟨hi_14, Heq⟩ := gd_some Heq
                refine va_iald hx hb hK hP 46 0 rfl rfl (i := x3) hi_14 d_rkey_87 ?_
                refine w_i (y := o_9.a 70 x3.toNatClampNeg) rfl ?_
                obtain ⟨hi_15, Heq⟩ := gd_some Heq
                refine va_iald hx hb hK hP 11 0 rfl rfl (i := o_9.a 70 x3.toNatClampNeg) hi_15 d_rkey_88 ?_
                refine w_i (y := o_9.a 15 ((o_9.a 70 x3.toNatClampNeg).toNatClampNeg)) rfl ?_
                refine lv_icmp_lt (tgt := 98) hx hb d_rkey_89 (by decide) (fun c_16 => ?_) (fun c_16 => ?_)
                · replace Heq := (if_pos c_16).symm.trans Heq
                  refine lv_aload_n hx hb d_rkey_98 rfl (lv_at hl 1 rfl) ?_
                  refine lv_iconst (v := 0) hx hb d_rkey_99 (by decide) ?_
                  refine va_put (D := D) (ci := 12) (v := .int 0) (ty := .int) (C := R_MM) (T := F_MM) (N := 77) hx hb hts i_MM t_MM t_MM_ok n_MM hown hK hP hD hS 0 rfl rfl 0 (by decide) (hts _ kw_1382) (fun _ h9 => h9) rfl (by decide +kernel) rfl rfl (Nat.le_of_ble_eq_true rfl) d_rkey_100 (fun H locs hP hD hS => ?_)
                  rw [mw_I0] at hP hD
                  refine lv_iload hx hb d_rkey_103 (lv_at hl 5 rfl) ?_
                  refine lv_if_ge (tgt := 122) hx hb d_rkey_105 (by decide) (fun c_17 => ?_) (fun c_17 => ?_)
                  · replace Heq := (if_pos c_17).symm.trans Heq
                    refine lv_aload_n hx hb d_rkey_122 rfl (lv_at hl 1 rfl) ?_
                    refine va_get (D := D) (ci := 12) (v := .ref (md 26)) (C := R_MM) (T := F_MM) (N := 77) hx hb hts i_MM hown hK hP 0 rfl rfl 26 (by decide) (hts _ kw_1408) (fun _ h9 => h9) rfl d_rkey_123 ?_
                    refine lv_aload_n hx hb d_rkey_126 rfl (lv_at hl 1 rfl) ?_
                    refine va_get (D := D) (ci := 12) (v := .ref (md 14)) (C := R_MM) (T := F_MM) (N := 77) hx hb hts i_MM hown hK hP 0 rfl rfl 14 (by decide) (hts _ kw_1396) (fun _ h9 => h9) rfl d_rkey_127 ?_
                    refine lv_aload_n hx hb d_rkey_130 rfl (lv_at hl 1 rfl) ?_
                    refine va_get (D := D) (ci := 12) (v := .ref (md 70)) (C := R_MM) (T := F_MM) (N := 77) hx hb hts i_MM hown hK hP 0 rfl rfl 70 (by decide) (hts _ kw_1452) (fun _ h9 => h9) rfl d_rkey_131 ?_
                    refine lv_iload_n hx hb d_rkey_134 rfl (lv_at hl 4 rfl) ?_
                    obtain ⟨hi_18, Heq⟩ := gd_some Heq
                    refine va_iald hx hb hK hP 46 0 rfl rfl (i := x3) hi_18 d_rkey_135 ?_
                    refine w_i (y := o_9.a 70 x3.toNatClampNeg) rfl ?_
                    obtain ⟨hi_19, Heq⟩ := gd_some Heq
                    refine va_iald hx hb hK hP 10 0 rfl rfl (i := o_9.a 70 x3.toNatClampNeg) hi_19 d_rkey_136 ?_
                    refine w_i (y := o_9.a 14 ((o_9.a 70 x3.toNatClampNeg).toNatClampNeg)) rfl ?_
                    refine lv_iload hx hb d_rkey_137 (lv_at hl 5 rfl) ?_
                    refine lv_iadd hx hb d_rkey_139 ?_
                    refine w_i (y := (o_9.a 14 ((o_9.a 70 x3.toNatClampNeg).toNatClampNeg)) + x4) rfl ?_
                    obtain ⟨hi_20, Heq⟩ := gd_some Heq
                    refine va_bald hx hb hK hP 20 1 rfl rfl (i := (o_9.a 14 ((o_9.a 70 x3.toNatClampNeg).toNatClampNeg)) + x4) hi_20 d_rkey_140 ?_
                    refine w_i (y := o_9.a 26 (((o_9.a 14 ((o_9.a 70 x3.toNatClampNeg).toNatClampNeg)) + x4).toNatClampNeg)) rfl ?_
                    refine lv_sipush (v := 255) hx hb d_rkey_141 (by decide) ?_
                    refine lv_iand hx hb d_rkey_144 ?_
                    refine w_i (y := (o_9.a 26 (((o_9.a 14 ((o_9.a 70 x3.toNatClampNeg).toNatClampNeg)) + x4).toNatClampNeg)) &&& 255) rfl ?_
                    exact w_rkey_J145 hC Heq Kr _ _ _ hP hD hS (lv_sub hl [1] rfl)
                  · replace Heq := (if_neg c_17).symm.trans Heq
                    refine lv_aload_n hx hb d_rkey_108 rfl (lv_at hl 1 rfl) ?_
                    refine va_get (D := D) (ci := 12) (v := .ref (md 15)) (C := R_MM) (T := F_MM) (N := 77) hx hb hts i_MM hown hK hP 0 rfl rfl 15 (by decide) (hts _ kw_1397) (fun _ h9 => h9) rfl d_rkey_109 ?_
                    refine lv_aload_n hx hb d_rkey_112 rfl (lv_at hl 1 rfl) ?_
                    refine va_get (D := D) (ci := 12) (v := .ref (md 70)) (C := R_MM) (T := F_MM) (N := 77) hx hb hts i_MM hown hK hP 0 rfl rfl 70 (by decide) (hts _ kw_1452) (fun _ h9 => h9) rfl d_rkey_113 ?_
                    refine lv_iload_n hx hb d_rkey_116 rfl (lv_at hl 4 rfl) ?_
                    obtain ⟨hi_21, Heq⟩ := gd_some Heq
                    refine va_iald hx hb hK hP 46 0 rfl rfl (i := x3) hi_21 d_rkey_117 ?_
                    refine w_i (y := o_9.a 70 x3.toNatClampNeg) rfl ?_
                    obtain ⟨hi_22, Heq⟩ := gd_some Heq
                    refine va_iald hx hb hK hP 11 0 rfl rfl (i := o_9.a 70 x3.toNatClampNeg) hi_22 d_rkey_118 ?_
                    refine w_i (y := o_9.a 15 ((o_9.a 70 x3.toNatClampNeg).toNatClampNeg)) rfl ?_
                    refine lv_goto (tgt := 145) hx hb d_rkey_119 (by decide) ?_
                    exact w_rkey_J145 hC Heq Kr _ _ _ hP hD hS (lv_sub hl [1] rfl)
                · replace Heq := (if_neg c_16).symm.trans Heq
                  exact w_rkey_J92 hC Heq Kr _ _ _ hP hD hS (lv_sub hl [1] rfl)
        · replace Heq := (if_neg c_8).symm.trans Heq
          refine lv_aload_n hx hb d_rkey_46 rfl (lv_at hl 1 rfl) ?_
          refine lv_iconst (v := 2) hx hb d_rkey_47 (by decide) ?_
          obtain ⟨o_23, h_24, Heq⟩ := ob_some Heq
          have hFc := fr_all hD hS hA
          refine va_calli (va_runV (As := [.int 2]) (rest := []) ⟨hx, hb, hml, hown, hts⟩ (g_rno l D H.size h_24) (cw_v 1 hts kw_1626 kw_1623 kw_1625 kp_29 kw_11 rfl rfl (by decide +kernel) ⟨Nat.le_of_ble_eq_true rfl, Nat.le_of_ble_eq_true rfl⟩) ⟨g_blind, va_recv hK hP (ci := 12) (q0 := 0) rfl rfl, fun U hU hW => g_pre hU hW hP hK hD⟩ rfl rfl hl.1 rfl (lv_room (Nat.le_of_ble_eq_true rfl)) d_rkey_48 ⟨Nat.le_of_ble_eq_true rfl, Nat.le_of_ble_eq_true rfl⟩) hS (fun q _ h => hFc q h) hFc (fun rz u t H1 locs ht hvm hw hB hz1 hk1 hS => ?_)
          obtain ⟨hP, -, hD1⟩ := hB
          rw [ht] at hP
          have hD := hD1.weaken (fun _ q _ h => hFc q.1 h)
          generalize H1 = H at hP hS ⊢
          refine W.cs (cells' := 0) (slots' := 0) rfl rfl ?_
          subst hw
          exact Kr _ (Option.some.inj Heq).symm 51 _ _ _ d_rkey_51 hP hD hS
      · replace Heq := (if_pos c_7).symm.trans Heq
        exact w_rkey_J35 hC Heq Kr _ _ _ hP hD hS (lv_sub hl [1] rfl)
  · replace Heq := (if_pos c_3).symm.trans Heq
    refine lv_aload_n hx hb d_rkey_7 rfl (lv_at hl 0 rfl) ?_
    refine lv_iconst (v := 1) hx hb d_rkey_8 (by decide) ?_
    obtain ⟨o_25, h_26, Heq⟩ := ob_some Heq
    have hFc := fr_all hD hS hA
    refine va_calli (va_runV (As := [.int 1]) (rest := []) ⟨hx, hb, hml, hown, hts⟩ (g_rno l D H.size h_26) (cw_v 1 hts kw_1626 kw_1623 kw_1625 kp_29 kw_11 rfl rfl (by decide +kernel) ⟨Nat.le_of_ble_eq_true rfl, Nat.le_of_ble_eq_true rfl⟩) ⟨g_blind, va_recv hK hP (ci := 12) (q0 := 0) rfl rfl, fun U hU hW => g_pre hU hW hP hK hD⟩ rfl rfl hl.1 rfl (lv_room (Nat.le_of_ble_eq_true rfl)) d_rkey_9 ⟨Nat.le_of_ble_eq_true rfl, Nat.le_of_ble_eq_true rfl⟩) hS (fun q _ h => hFc q h) hFc (fun rz u t H1 locs ht hvm hw hB hz1 hk1 hS => ?_)
    obtain ⟨hP, -, hD1⟩ := hB
    rw [ht] at hP
    have hD := hD1.weaken (fun _ q _ h => hFc q.1 h)
    generalize H1 = H at hP hS ⊢
    refine W.cs (cells' := 0) (slots' := 0) rfl rfl ?_
    subst hw
    exact Kr _ (Option.some.inj Heq).symm 12 _ _ _ d_rkey_12 hP hD hS
def m_rkey (S : MS) (x1 : Int32) (x2 : Int32) (x3 : Int32) (x4 : Int32) : Option (MS × Int32) := m_rkey_J0 S x1 x2 x3 x4
theorem g_rkey (l : Launch) (D : va_G) (sz : Nat) {md : Nat → Nat} {mc : Nat → ClassId} {S : MS} {x1 : Int32} {x2 : Int32} {x3 : Int32} {x4 : Int32} {o : MS × Int32} (Heq : m_rkey S x1 x2 x3 x4 = some o) : Met l ⟨"JoinedTreesModel", "key", "(IIII)I"⟩ (Cond.code ⟨"JoinedTreesModel", "key", "(IIII)I"⟩ prog_14_method_65_code 6 (some .int) :: gb) ({ frames := 3, cells := 0, slots := 0, locals := 71 }) (gPc D (mw md mc S) (mty mc) sz [.ref (md 100), .int x1, .int x2, .int x3, .int x4]) (va_Qi (fun (r : Int32) (_ : Unit) => r = o.2) (fun _ t => gO D (mw md mc o.1) (mty mc) (va_A (mw md mc S) sz) t) (va_A (mw md mc S) sz)) 0 0 (va_A (mw md mc S) sz) := by
  refine Met.ofW (cc := prog_14_method_65_code) (maxL := 6) (ret := (some .int)) (by decide) rfl ?_
  intro p e s m args below meth c s₁ B hml hv
  obtain ⟨rfl, hsz, hP, hK, hD0⟩ := hv
  have hx := B.exec
  have hb := B.bytes
  have hr := B.returns
  have hts : ∀ w9 ∈ gb, w9.before [.ref (md 100), .int x1, .int x2, .int x3, .int x4].toArray s = true := fun w9 h => atoms_spec (ws := Cond.code ⟨"JoinedTreesModel", "key", "(IIII)I"⟩ prog_14_method_65_code 6 (some .int) :: gb) B.pre w9 (List.mem_cons_of_mem _ h)
  have hown : s.vm.findClass "JoinedTreesModel" = some m.cls := findClass_of_methodNamed B.named
  have hlocks := B.notSynchronized
  subst hsz
  have hD := hD0.self (sz := s.heap.size)
  generalize hAe : va_A (mw md mc S) s.heap.size = A at hD ⊢
  have hA : ∀ q : Nat, s.heap.size ≤ q → A q := fun q h => by rw [← hAe]; exact Or.inr h
  have hS : va_S A s.heap s.heap [] := va_S.rf
  have hl := lv_entry ([.ref (md 100), .int x1, .int x2, .int x3, .int x4]) (n := 6) (Nat.le_of_ble_eq_true rfl)
  rw [lg_entry_eq]
  generalize (lg_sl ([.ref (md 100), .int x1, .int x2, .int x3, .int x4]) ++ List.replicate (6 - (lg_sl ([.ref (md 100), .int x1, .int x2, .int x3, .int x4])).length) Slot.unset).toArray = ls at hl ⊢
  have hl : lv_has ls 6 [(0, .ref (md 100)), (1, .int x1), (2, .int x2), (3, .int x3), (4, .int x4)] := hl
  refine w_rkey_J0 ⟨hx, hb, hr, hml, hown, hts, hK, hA⟩ Heq (fun r h pc H locs ls hd hP hD hS => ?_) _ _ _ hP hD hS (lv_sub hl [0, 1, 2, 3, 4] rfl)
  subst h
  exact W.iret hx hb hr (fun t ht hW => ⟨⟨_, (), rfl, rfl, by rw [ht]; exact hP, va_K.moved hW.alike hK, hD⟩, hS.F ht⟩) hS.2.2 hd
def m_rcandidate_J17 (S : MS) : Option (MS × Int64) := ob (m_rno S 1) (fun o_1 => some (o_1.1, o_1.2.toInt64))
theorem d_rcandidate_0 : decode prog_14_method_66_code 0 = .ok (.aload_n 0, 1) := by decide +kernel
theorem d_rcandidate_1 : decode prog_14_method_66_code 1 = .ok (.invokevirtual 247, 3) := by decide +kernel
theorem d_rcandidate_4 : decode prog_14_method_66_code 4 = .ok (.istore 6, 2) := by decide +kernel
theorem d_rcandidate_6 : decode prog_14_method_66_code 6 = .ok (.iload 5, 2) := by decide +kernel
theorem d_rcandidate_8 : decode prog_14_method_66_code 8 = .ok (.ifCond .lt 9, 3) := by decide +kernel
theorem d_rcandidate_17 : decode prog_14_method_66_code 17 = .ok (.aload_n 0, 1) := by decide +kernel
theorem d_rcandidate_18 : decode prog_14_method_66_code 18 = .ok (.iconst 1, 1) := by decide +kernel
theorem d_rcandidate_19 : decode prog_14_method_66_code 19 = .ok (.invokevirtual 191, 3) := by decide +kernel
theorem d_rcandidate_22 : decode prog_14_method_66_code 22 = .ok (.i2l, 1) := by decide +kernel
theorem d_rcandidate_23 : decode prog_14_method_66_code 23 = .ok (.lreturn, 1) := by decide +kernel
set_option maxHeartbeats 4000000 in
set_option maxRecDepth 100000 in
theorem w_rcandidate_J17 {p : Program} {l : Launch} {e : Env} {s : State} {m : MethodId} {args : Array Value} {below : List Frame} {meth : Method} {c : Code} {A : Nat → Prop} {D : va_G} {md : Nat → Nat} {mc : Nat → ClassId} {Q : State → Prop} (hC : MCx "JoinedTreesModel" prog_14_method_66_code 9 (some .long) p s m args meth c A D mc) {S : MS} {o : MS × Int64} (Heq : m_rcandidate_J17 S = some o) (Kr : ∀ r : MS × Int64, o = r → ∀ (pc : Nat) (H : Heap) (locs : List Loc) (ls : Array Slot), decode prog_14_method_66_code pc = .ok (.lreturn, 1) → va_P D cls (mw md mc r.1) H → va_D A (mw md mc r.1) → va_S A s.heap H locs → W p l e ({ frames := 5, cells := 0, slots := 0, locals := 123 }) s m args below meth c H locs 0 0 Q (F0 m pc ls [.long r.2])) : ∀ (H : Heap) (locs : List Loc) (ls : Array Slot), va_P D cls (mw md mc S) H → va_D A (mw md mc S) → va_S A s.heap H locs → lv_has ls 9 [(0, .ref (md 100))] → W p l e ({ frames := 5, cells := 0, slots := 0, locals := 123 }) s m args below meth c H locs 0 0 Q (F0 m 17 ls []) := by
  intro H locs ls hP hD hS hl
  obtain ⟨hx, hb, hr, hml, hown, hts, hK, hA⟩ := id hC
  unfold m_rcandidate_J17 at Heq
  refine lv_aload_n hx hb d_rcandidate_17 rfl (lv_at hl 0 rfl) ?_
  refine lv_iconst (v := 1) hx hb d_rcandidate_18 (by decide) ?_
  obtain ⟨o_1, h_2, Heq⟩ := ob_some Heq
  have hFc := fr_all hD hS hA
  refine va_calli (va_runV (As := [.int 1]) (rest := []) ⟨hx, hb, hml, hown, hts⟩ (g_rno l D H.size h_2) (cw_v 1 hts kw_1626 kw_1623 kw_1625 kp_29 kw_11 rfl rfl (by decide +kernel) ⟨Nat.le_of_ble_eq_true rfl, Nat.le_of_ble_eq_true rfl⟩) ⟨g_blind, va_recv hK hP (ci := 12) (q0 := 0) rfl rfl, fun U hU hW => g_pre hU hW hP hK hD⟩ rfl rfl hl.1 rfl (lv_room (Nat.le_of_ble_eq_true rfl)) d_rcandidate_19 ⟨Nat.le_of_ble_eq_true rfl, Nat.le_of_ble_eq_true rfl⟩) hS (fun q _ h => hFc q h) hFc (fun rz u t H1 locs ht hvm hw hB hz1 hk1 hS => ?_)
  obtain ⟨hP, -, hD1⟩ := hB
  rw [ht] at hP
  have hD := hD1.weaken (fun _ q _ h => hFc q.1 h)
  generalize H1 = H at hP hS ⊢
  refine W.cs (cells' := 0) (slots' := 0) rfl rfl ?_
  subst hw
  refine lv_i2l hx hb d_rcandidate_22 rfl ?_
  refine w_l (y := o_1.2.toInt64) rfl ?_
  exact Kr _ (Option.some.inj Heq).symm 23 _ _ _ d_rcandidate_23 hP hD hS
def m_rcandidate_J63 (S : MS) : Option (MS × Int64) := ob (m_rno S 2) (fun o_1 => some (o_1.1, o_1.2.toInt64))
theorem d_rcandidate_11 : decode prog_14_method_66_code 11 = .ok (.iload 5, 2) := by decide +kernel
theorem d_rcandidate_13 : decode prog_14_method_66_code 13 = .ok (.iconst 4, 1) := by decide +kernel
theorem d_rcandidate_14 : decode prog_14_method_66_code 14 = .ok (.if_icmp .le 10, 3) := by decide +kernel
theorem d_rcandidate_24 : decode prog_14_method_66_code 24 = .ok (.aload_n 0, 1) := by decide +kernel
theorem d_rcandidate_25 : decode prog_14_method_66_code 25 = .ok (.iload_n 1, 1) := by decide +kernel
theorem d_rcandidate_26 : decode prog_14_method_66_code 26 = .ok (.iload_n 2, 1) := by decide +kernel
theorem d_rcandidate_27 : decode prog_14_method_66_code 27 = .ok (.iload_n 3, 1) := by decide +kernel
theorem d_rcandidate_28 : decode prog_14_method_66_code 28 = .ok (.iload 6, 2) := by decide +kernel
theorem d_rcandidate_30 : decode prog_14_method_66_code 30 = .ok (.iconst 2, 1) := by decide +kernel
theorem d_rcandidate_31 : decode prog_14_method_66_code 31 = .ok (.invokevirtual 305, 3) := by decide +kernel
theorem d_rcandidate_34 : decode prog_14_method_66_code 34 = .ok (.istore 7, 2) := by decide +kernel
theorem d_rcandidate_36 : decode prog_14_method_66_code 36 = .ok (.iload 7, 2) := by decide +kernel
theorem d_rcandidate_38 : decode prog_14_method_66_code 38 = .ok (.ifCond .eq 11, 3) := by decide +kernel
theorem d_rcandidate_49 : decode prog_14_method_66_code 49 = .ok (.iload 4, 2) := by decide +kernel
theorem d_rcandidate_51 : decode prog_14_method_66_code 51 = .ok (.ifCond .lt 12, 3) := by decide +kernel
theorem d_rcandidate_63 : decode prog_14_method_66_code 63 = .ok (.aload_n 0, 1) := by decide +kernel
theorem d_rcandidate_64 : decode prog_14_method_66_code 64 = .ok (.iconst 2, 1) := by decide +kernel
theorem d_rcandidate_65 : decode prog_14_method_66_code 65 = .ok (.invokevirtual 191, 3) := by decide +kernel
theorem d_rcandidate_68 : decode prog_14_method_66_code 68 = .ok (.i2l, 1) := by decide +kernel
theorem d_rcandidate_69 : decode prog_14_method_66_code 69 = .ok (.lreturn, 1) := by decide +kernel
set_option maxHeartbeats 4000000 in
set_option maxRecDepth 100000 in
theorem w_rcandidate_J63 {p : Program} {l : Launch} {e : Env} {s : State} {m : MethodId} {args : Array Value} {below : List Frame} {meth : Method} {c : Code} {A : Nat → Prop} {D : va_G} {md : Nat → Nat} {mc : Nat → ClassId} {Q : State → Prop} (hC : MCx "JoinedTreesModel" prog_14_method_66_code 9 (some .long) p s m args meth c A D mc) {S : MS} {o : MS × Int64} (Heq : m_rcandidate_J63 S = some o) (Kr : ∀ r : MS × Int64, o = r → ∀ (pc : Nat) (H : Heap) (locs : List Loc) (ls : Array Slot), decode prog_14_method_66_code pc = .ok (.lreturn, 1) → va_P D cls (mw md mc r.1) H → va_D A (mw md mc r.1) → va_S A s.heap H locs → W p l e ({ frames := 5, cells := 0, slots := 0, locals := 123 }) s m args below meth c H locs 0 0 Q (F0 m pc ls [.long r.2])) : ∀ (H : Heap) (locs : List Loc) (ls : Array Slot), va_P D cls (mw md mc S) H → va_D A (mw md mc S) → va_S A s.heap H locs → lv_has ls 9 [(0, .ref (md 100))] → W p l e ({ frames := 5, cells := 0, slots := 0, locals := 123 }) s m args below meth c H locs 0 0 Q (F0 m 63 ls []) := by
  intro H locs ls hP hD hS hl
  obtain ⟨hx, hb, hr, hml, hown, hts, hK, hA⟩ := id hC
  unfold m_rcandidate_J63 at Heq
  refine lv_aload_n hx hb d_rcandidate_63 rfl (lv_at hl 0 rfl) ?_
  refine lv_iconst (v := 2) hx hb d_rcandidate_64 (by decide) ?_
  obtain ⟨o_1, h_2, Heq⟩ := ob_some Heq
  have hFc := fr_all hD hS hA
  refine va_calli (va_runV (As := [.int 2]) (rest := []) ⟨hx, hb, hml, hown, hts⟩ (g_rno l D H.size h_2) (cw_v 1 hts kw_1626 kw_1623 kw_1625 kp_29 kw_11 rfl rfl (by decide +kernel) ⟨Nat.le_of_ble_eq_true rfl, Nat.le_of_ble_eq_true rfl⟩) ⟨g_blind, va_recv hK hP (ci := 12) (q0 := 0) rfl rfl, fun U hU hW => g_pre hU hW hP hK hD⟩ rfl rfl hl.1 rfl (lv_room (Nat.le_of_ble_eq_true rfl)) d_rcandidate_65 ⟨Nat.le_of_ble_eq_true rfl, Nat.le_of_ble_eq_true rfl⟩) hS (fun q _ h => hFc q h) hFc (fun rz u t H1 locs ht hvm hw hB hz1 hk1 hS => ?_)
  obtain ⟨hP, -, hD1⟩ := hB
  rw [ht] at hP
  have hD := hD1.weaken (fun _ q _ h => hFc q.1 h)
  generalize H1 = H at hP hS ⊢
  refine W.cs (cells' := 0) (slots' := 0) rfl rfl ?_
  subst hw
  refine lv_i2l hx hb d_rcandidate_68 rfl ?_
  refine w_l (y := o_1.2.toInt64) rfl ?_
  exact Kr _ (Option.some.inj Heq).symm 69 _ _ _ d_rcandidate_69 hP hD hS
def m_rcandidate_J162 (S : MS) (t0 : Int64) : Option (MS × Int64) := some (S, t0)
theorem d_rcandidate_54 : decode prog_14_method_66_code 54 = .ok (.iload 4, 2) := by decide +kernel
theorem d_rcandidate_56 : decode prog_14_method_66_code 56 = .ok (.aload_n 0, 1) := by decide +kernel
theorem d_rcandidate_57 : decode prog_14_method_66_code 57 = .ok (.getfield 210, 3) := by decide +kernel
theorem d_rcandidate_60 : decode prog_14_method_66_code 60 = .ok (.if_icmp .lt 10, 3) := by decide +kernel
theorem d_rcandidate_70 : decode prog_14_method_66_code 70 = .ok (.aload_n 0, 1) := by decide +kernel
theorem d_rcandidate_71 : decode prog_14_method_66_code 71 = .ok (.iconst 0, 1) := by decide +kernel
theorem d_rcandidate_72 : decode prog_14_method_66_code 72 = .ok (.putfield 176, 3) := by decide +kernel
theorem d_rcandidate_75 : decode prog_14_method_66_code 75 = .ok (.aload_n 0, 1) := by decide +kernel
theorem d_rcandidate_76 : decode prog_14_method_66_code 76 = .ok (.getfield 121, 3) := by decide +kernel
theorem d_rcandidate_79 : decode prog_14_method_66_code 79 = .ok (.iload 4, 2) := by decide +kernel
theorem d_rcandidate_81 : decode prog_14_method_66_code 81 = .ok (.iaload, 1) := by decide +kernel
theorem d_rcandidate_82 : decode prog_14_method_66_code 82 = .ok (.istore 8, 2) := by decide +kernel
theorem d_rcandidate_84 : decode prog_14_method_66_code 84 = .ok (.iload 5, 2) := by decide +kernel
theorem d_rcandidate_86 : decode prog_14_method_66_code 86 = .ok (.tableswitch 86 0 3 #[30, 39, 48, 77], 30) := by decide +kernel
theorem d_rcandidate_116 : decode prog_14_method_66_code 116 = .ok (.aload_n 0, 1) := by decide +kernel
theorem d_rcandidate_117 : decode prog_14_method_66_code 117 = .ok (.getfield 29, 3) := by decide +kernel
theorem d_rcandidate_120 : decode prog_14_method_66_code 120 = .ok (.iload 8, 2) := by decide +kernel
theorem d_rcandidate_122 : decode prog_14_method_66_code 122 = .ok (.iaload, 1) := by decide +kernel
theorem d_rcandidate_123 : decode prog_14_method_66_code 123 = .ok (.i2l, 1) := by decide +kernel
theorem d_rcandidate_124 : decode prog_14_method_66_code 124 = .ok (.lreturn, 1) := by decide +kernel
theorem d_rcandidate_125 : decode prog_14_method_66_code 125 = .ok (.aload_n 0, 1) := by decide +kernel
theorem d_rcandidate_126 : decode prog_14_method_66_code 126 = .ok (.getfield 19, 3) := by decide +kernel
theorem d_rcandidate_129 : decode prog_14_method_66_code 129 = .ok (.iload 8, 2) := by decide +kernel
theorem d_rcandidate_131 : decode prog_14_method_66_code 131 = .ok (.iaload, 1) := by decide +kernel
theorem d_rcandidate_132 : decode prog_14_method_66_code 132 = .ok (.i2l, 1) := by decide +kernel
theorem d_rcandidate_133 : decode prog_14_method_66_code 133 = .ok (.lreturn, 1) := by decide +kernel
theorem d_rcandidate_134 : decode prog_14_method_66_code 134 = .ok (.aload_n 0, 1) := by decide +kernel
theorem d_rcandidate_135 : decode prog_14_method_66_code 135 = .ok (.getfield 29, 3) := by decide +kernel
theorem d_rcandidate_138 : decode prog_14_method_66_code 138 = .ok (.iload 8, 2) := by decide +kernel
theorem d_rcandidate_140 : decode prog_14_method_66_code 140 = .ok (.iaload, 1) := by decide +kernel
theorem d_rcandidate_141 : decode prog_14_method_66_code 141 = .ok (.iconst 5, 1) := by decide +kernel
theorem d_rcandidate_142 : decode prog_14_method_66_code 142 = .ok (.if_icmp .ne 13, 3) := by decide +kernel
theorem d_rcandidate_155 : decode prog_14_method_66_code 155 = .ok (.aload_n 0, 1) := by decide +kernel
theorem d_rcandidate_156 : decode prog_14_method_66_code 156 = .ok (.getfield 63, 3) := by decide +kernel
theorem d_rcandidate_159 : decode prog_14_method_66_code 159 = .ok (.iload 8, 2) := by decide +kernel
theorem d_rcandidate_161 : decode prog_14_method_66_code 161 = .ok (.laload, 1) := by decide +kernel
theorem d_rcandidate_162 : decode prog_14_method_66_code 162 = .ok (.lreturn, 1) := by decide +kernel
set_option maxHeartbeats 4000000 in
set_option maxRecDepth 100000 in
theorem w_rcandidate_J162 {p : Program} {l : Launch} {e : Env} {s : State} {m : MethodId} {args : Array Value} {below : List Frame} {meth : Method} {c : Code} {A : Nat → Prop} {D : va_G} {md : Nat → Nat} {mc : Nat → ClassId} {Q : State → Prop} (hC : MCx "JoinedTreesModel" prog_14_method_66_code 9 (some .long) p s m args meth c A D mc) {S : MS} {t0 : Int64} {o : MS × Int64} (Heq : m_rcandidate_J162 S t0 = some o) (Kr : ∀ r : MS × Int64, o = r → ∀ (pc : Nat) (H : Heap) (locs : List Loc) (ls : Array Slot), decode prog_14_method_66_code pc = .ok (.lreturn, 1) → va_P D cls (mw md mc r.1) H → va_D A (mw md mc r.1) → va_S A s.heap H locs → W p l e ({ frames := 5, cells := 0, slots := 0, locals := 123 }) s m args below meth c H locs 0 0 Q (F0 m pc ls [.long r.2])) : ∀ (H : Heap) (locs : List Loc) (ls : Array Slot), va_P D cls (mw md mc S) H → va_D A (mw md mc S) → va_S A s.heap H locs → lv_has ls 9 [(0, .ref (md 100))] → W p l e ({ frames := 5, cells := 0, slots := 0, locals := 123 }) s m args below meth c H locs 0 0 Q (F0 m 162 ls [.long t0]) := by
  intro H locs ls hP hD hS hl
  obtain ⟨hx, hb, hr, hml, hown, hts, hK, hA⟩ := id hC
  unfold m_rcandidate_J162 at Heq
  exact Kr _ (Option.some.inj Heq).symm 162 _ _ _ d_rcandidate_162 hP hD hS
def m_rcandidate_J0 (S : MS) (x1 : Int32) (x2 : Int32) (x3 : Int32) (x4 : Int32) (x5 : Int32) : Option (MS × Int64) := ob (m_rtaken S) (fun o_1 => (if x5 < 0 then m_rcandidate_J17 o_1.1 else (if x5 ≤ 4 then ob (m_rpoint o_1.1 x1 x2 x3 o_1.2 2) (fun o_5 => (if o_5.2 = 0 then (if x4 < 0 then m_rcandidate_J63 o_5.1 else (if x4 < o_5.1.i 47 then gd x4 4000 ((if x5 = 0 then gd (o_5.1.a 46 x4.toNatClampNeg) 4000 (some ((o_5.1.setI 0 0), (o_5.1.a 11 ((o_5.1.a 46 x4.toNatClampNeg).toNatClampNeg)).toInt64)) else (if x5 = 1 then gd (o_5.1.a 46 x4.toNatClampNeg) 4000 (some ((o_5.1.setI 0 0), (o_5.1.a 8 ((o_5.1.a 46 x4.toNatClampNeg).toNatClampNeg)).toInt64)) else (if x5 = 2 then gd (o_5.1.a 46 x4.toNatClampNeg) 4000 ((if o_5.1.a 11 ((o_5.1.a 46 x4.toNatClampNeg).toNatClampNeg) = 5 then ob (m_rcounter (o_5.1.setI 0 0) x1 (o_5.1.a 46 x4.toNatClampNeg)) (fun o_19 => m_rcandidate_J162 o_19.1 o_19.2) else gd (o_5.1.a 46 x4.toNatClampNeg) 4000 (m_rcandidate_J162 (o_5.1.setI 0 0) (o_5.1.n 22 ((o_5.1.a 46 x4.toNatClampNeg).toNatClampNeg))))) else (if x5 = 3 then gd (o_5.1.a 46 x4.toNatClampNeg) 4000 (some ((o_5.1.setI 0 0), (o_5.1.a 17 ((o_5.1.a 46 x4.toNatClampNeg).toNatClampNeg)).toInt64)) else some ((o_5.1.setI 0 0), (o_5.1.i 47).toInt64)))))) else m_rcandidate_J63 o_5.1)) else ob (m_rno o_5.1 o_5.2) (fun o_23 => some (o_23.1, o_23.2.toInt64)))) else m_rcandidate_J17 o_1.1)))
theorem d_rcandidate_145 : decode prog_14_method_66_code 145 = .ok (.aload_n 0, 1) := by decide +kernel
theorem d_rcandidate_146 : decode prog_14_method_66_code 146 = .ok (.iload_n 1, 1) := by decide +kernel
theorem d_rcandidate_147 : decode prog_14_method_66_code 147 = .ok (.iload 8, 2) := by decide +kernel
theorem d_rcandidate_149 : decode prog_14_method_66_code 149 = .ok (.invokevirtual 420, 3) := by decide +kernel
theorem d_rcandidate_152 : decode prog_14_method_66_code 152 = .ok (.goto 10, 3) := by decide +kernel
theorem d_rcandidate_163 : decode prog_14_method_66_code 163 = .ok (.aload_n 0, 1) := by decide +kernel
theorem d_rcandidate_164 : decode prog_14_method_66_code 164 = .ok (.getfield 47, 3) := by decide +kernel
theorem d_rcandidate_167 : decode prog_14_method_66_code 167 = .ok (.iload 8, 2) := by decide +kernel
theorem d_rcandidate_169 : decode prog_14_method_66_code 169 = .ok (.iaload, 1) := by decide +kernel
theorem d_rcandidate_170 : decode prog_14_method_66_code 170 = .ok (.i2l, 1) := by decide +kernel
theorem d_rcandidate_171 : decode prog_14_method_66_code 171 = .ok (.lreturn, 1) := by decide +kernel
theorem d_rcandidate_172 : decode prog_14_method_66_code 172 = .ok (.aload_n 0, 1) := by decide +kernel
theorem d_rcandidate_173 : decode prog_14_method_66_code 173 = .ok (.getfield 210, 3) := by decide +kernel
theorem d_rcandidate_176 : decode prog_14_method_66_code 176 = .ok (.i2l, 1) := by decide +kernel
theorem d_rcandidate_177 : decode prog_14_method_66_code 177 = .ok (.lreturn, 1) := by decide +kernel
theorem d_rcandidate_41 : decode prog_14_method_66_code 41 = .ok (.aload_n 0, 1) := by decide +kernel
theorem d_rcandidate_42 : decode prog_14_method_66_code 42 = .ok (.iload 7, 2) := by decide +kernel
theorem d_rcandidate_44 : decode prog_14_method_66_code 44 = .ok (.invokevirtual 191, 3) := by decide +kernel
theorem d_rcandidate_47 : decode prog_14_method_66_code 47 = .ok (.i2l, 1) := by decide +kernel
theorem d_rcandidate_48 : decode prog_14_method_66_code 48 = .ok (.lreturn, 1) := by decide +kernel
set_option maxHeartbeats 4000000 in
set_option maxRecDepth 100000 in
theorem w_rcandidate_J0 {p : Program} {l : Launch} {e : Env} {s : State} {m : MethodId} {args : Array Value} {below : List Frame} {meth : Method} {c : Code} {A : Nat → Prop} {D : va_G} {md : Nat → Nat} {mc : Nat → ClassId} {Q : State → Prop} (hC : MCx "JoinedTreesModel" prog_14_method_66_code 9 (some .long) p s m args meth c A D mc) {S : MS} {x1 : Int32} {x2 : Int32} {x3 : Int32} {x4 : Int32} {x5 : Int32} {o : MS × Int64} (Heq : m_rcandidate_J0 S x1 x2 x3 x4 x5 = some o) (Kr : ∀ r : MS × Int64, o = r → ∀ (pc : Nat) (H : Heap) (locs : List Loc) (ls : Array Slot), decode prog_14_method_66_code pc = .ok (.lreturn, 1) → va_P D cls (mw md mc r.1) H → va_D A (mw md mc r.1) → va_S A s.heap H locs → W p l e ({ frames := 5, cells := 0, slots := 0, locals := 123 }) s m args below meth c H locs 0 0 Q (F0 m pc ls [.long r.2])) : ∀ (H : Heap) (locs : List Loc) (ls : Array Slot), va_P D cls (mw md mc S) H → va_D A (mw md mc S) → va_S A s.heap H locs → lv_has ls 9 [(0, .ref (md 100)), (1, .int x1), (2, .int x2), (3, .int x3), (4, .int x4), (5, .int x5)] → W p l e ({ frames := 5, cells := 0, slots := 0, locals := 123 }) s m args below meth c H locs 0 0 Q (F0 m 0 ls []) := by
  intro H locs ls hP hD hS hl
  obtain ⟨hx, hb, hr, hml, hown, hts, hK, hA⟩ := id hC
  unfold m_rcandidate_J0 at Heq
  refine lv_aload_n hx hb d_rcandidate_0 rfl (lv_at hl 0 rfl) ?_
  obtain ⟨o_1, h_2, Heq⟩ := ob_some Heq
  have hFc := fr_all hD hS hA
  refine va_calli (va_runV (As := []) (rest := []) ⟨hx, hb, hml, hown, hts⟩ (g_rtaken l D H.size h_2) (cw_v 0 hts kw_1638 kw_1635 kw_1637 kp_30 kw_11 rfl rfl (by decide +kernel) ⟨Nat.le_of_ble_eq_true rfl, Nat.le_of_ble_eq_true rfl⟩) ⟨g_blind, va_recv hK hP (ci := 12) (q0 := 0) rfl rfl, fun U hU hW => g_pre hU hW hP hK hD⟩ rfl rfl hl.1 rfl (lv_room (Nat.le_of_ble_eq_true rfl)) d_rcandidate_1 ⟨Nat.le_of_ble_eq_true rfl, Nat.le_of_ble_eq_true rfl⟩) hS (fun q _ h => hFc q h) hFc (fun rz u t H1 locs ht hvm hw hB hz1 hk1 hS => ?_)
  obtain ⟨hP, -, hD1⟩ := hB
  rw [ht] at hP
  have hD := hD1.weaken (fun _ q _ h => hFc q.1 h)
  generalize H1 = H at hP hS ⊢
  refine W.cs (cells' := 0) (slots' := 0) rfl rfl ?_
  subst hw
  refine lv_istore (lv' := [(6, .int o_1.2), (0, .ref (md 100)), (1, .int x1), (2, .int x2), (3, .int x3), (4, .int x4), (5, .int x5)]) hx hb d_rcandidate_4 hl (by decide) rfl (fun ls hl => ?_)
  refine lv_iload hx hb d_rcandidate_6 (lv_at hl 6 rfl) ?_
  refine lv_if_lt (tgt := 17) hx hb d_rcandidate_8 (by decide) (fun c_3 => ?_) (fun c_3 => ?_)
  · replace Heq := (if_pos c_3).symm.trans Heq
    exact w_rcandidate_J17 hC Heq Kr _ _ _ hP hD hS (lv_sub hl [1] rfl)
  · replace Heq := (if_neg c_3).symm.trans Heq
    refine lv_iload hx hb d_rcandidate_11 (lv_at hl 6 rfl) ?_
    refine lv_iconst (v := 4) hx hb d_rcandidate_13 (by decide) ?_
    refine lv_icmp_le (tgt := 24) hx hb d_rcandidate_14 (by decide) (fun c_4 => ?_) (fun c_4 => ?_)
    · replace Heq := (if_pos c_4).symm.trans Heq
      refine lv_aload_n hx hb d_rcandidate_24 rfl (lv_at hl 1 rfl) ?_
      refine lv_iload_n hx hb d_rcandidate_25 rfl (lv_at hl 2 rfl) ?_
      refine lv_iload_n hx hb d_rcandidate_26 rfl (lv_at hl 3 rfl) ?_
      refine lv_iload_n hx hb d_rcandidate_27 rfl (lv_at hl 4 rfl) ?_
      refine lv_iload hx hb d_rcandidate_28 (lv_at hl 0 rfl) ?_
      refine lv_iconst (v := 2) hx hb d_rcandidate_30 (by decide) ?_
      obtain ⟨o_5, h_6, Heq⟩ := ob_some Heq
      have hFc := fr_all hD hS hA
      refine va_calli (va_runV (As := [.int x1, .int x2, .int x3, .int o_1.2, .int 2]) (rest := []) ⟨hx, hb, hml, hown, hts⟩ (g_rpoint l D H.size h_6) (cw_v 5 hts kw_1753 kw_1750 kw_1752 kp_53 kw_11 rfl rfl (by decide +kernel) ⟨Nat.le_of_ble_eq_true rfl, Nat.le_of_ble_eq_true rfl⟩) ⟨g_blind, va_recv hK hP (ci := 12) (q0 := 0) rfl rfl, fun U hU hW => g_pre hU hW hP hK hD⟩ rfl rfl hl.1 rfl (lv_room (Nat.le_of_ble_eq_true rfl)) d_rcandidate_31 ⟨Nat.le_of_ble_eq_true rfl, Nat.le_of_ble_eq_true rfl⟩) hS (fun q _ h => hFc q h) hFc (fun rz u t H1 locs ht hvm hw hB hz1 hk1 hS => ?_)
      obtain ⟨hP, -, hD1⟩ := hB
      rw [ht] at hP
      have hD := hD1.weaken (fun _ q _ h => hFc q.1 h)
      generalize H1 = H at hP hS ⊢
      refine W.cs (cells' := 0) (slots' := 0) rfl rfl ?_
      subst hw
      refine lv_istore (lv' := [(7, .int o_5.2), (6, .int o_1.2), (0, .ref (md 100)), (1, .int x1), (2, .int x2), (3, .int x3), (4, .int x4), (5, .int x5)]) hx hb d_rcandidate_34 hl (by decide) rfl (fun ls hl => ?_)
      refine lv_iload hx hb d_rcandidate_36 (lv_at hl 0 rfl) ?_
      refine lv_if_eq (tgt := 49) hx hb d_rcandidate_38 (by decide) (fun c_7 => ?_) (fun c_7 => ?_)
      · replace Heq := (if_pos c_7).symm.trans Heq
        refine lv_iload hx hb d_rcandidate_49 (lv_at hl 6 rfl) ?_
        refine lv_if_lt (tgt := 63) hx hb d_rcandidate_51 (by decide) (fun c_8 => ?_) (fun c_8 => ?_)
        · replace Heq := (if_pos c_8).symm.trans Heq
          exact w_rcandidate_J63 hC Heq Kr _ _ _ hP hD hS (lv_sub hl [2] rfl)
        · replace Heq := (if_neg c_8).symm.trans Heq
          refine lv_iload hx hb d_rcandidate_54 (lv_at hl 6 rfl) ?_
          refine lv_aload_n hx hb d_rcandidate_56 rfl (lv_at hl 2 rfl) ?_
          refine va_get (D := D) (ci := 12) (v := .int (o_5.1.i 47)) (C := R_MM) (T := F_MM) (N := 77) hx hb hts i_MM hown hK hP 0 rfl rfl 47 (by decide) (hts _ kw_1429) (fun _ h9 => h9) rfl d_rcandidate_57 ?_
          refine lv_icmp_lt (tgt := 70) hx hb d_rcandidate_60 (by decide) (fun c_9 => ?_) (fun c_9 => ?_)
          · replace Heq := (if_pos c_9).symm.trans Heq
            refine lv_aload_n hx hb d_rcandidate_70 rfl (lv_at hl 2 rfl) ?_
            refine lv_iconst (v := 0) hx hb d_rcandidate_71 (by decide) ?_
            refine va_put (D := D) (ci := 12) (v := .int 0) (ty := .int) (C := R_MM) (T := F_MM) (N := 77) hx hb hts i_MM t_MM t_MM_ok n_MM hown hK hP hD hS 0 rfl rfl 0 (by decide) (hts _ kw_1382) (fun _ h9 => h9) rfl (by decide +kernel) rfl rfl (Nat.le_of_ble_eq_true rfl) d_rcandidate_72 (fun H locs hP hD hS => ?_)
            rw [mw_I0] at hP hD
            refine lv_aload_n hx hb d_rcandidate_75 rfl (lv_at hl 2 rfl) ?_
            refine va_get (D := D) (ci := 12) (v := .ref (md 46)) (C := R_MM) (T := F_MM) (N := 77) hx hb hts i_MM hown hK hP 0 rfl rfl 46 (by decide) (hts _ kw_1428) (fun _ h9 => h9) rfl d_rcandidate_76 ?_
            refine lv_iload hx hb d_rcandidate_79 (lv_at hl 6 rfl) ?_
            obtain ⟨hi_10, Heq⟩ := gd_some Heq
            refine va_iald hx hb hK hP 31 0 rfl rfl (i := x4) hi_10 d_rcandidate_81 ?_
            refine w_i (y := o_5.1.a 46 x4.toNatClampNeg) rfl ?_
            refine lv_istore (lv' := [(8, .int (o_5.1.a 46 x4.toNatClampNeg)), (7, .int o_5.2), (6, .int o_1.2), (0, .ref (md 100)), (1, .int x1), (2, .int x2), (3, .int x3), (4, .int x4), (5, .int x5)]) hx hb d_rcandidate_82 hl (by decide) rfl (fun ls hl => ?_)
            refine lv_iload hx hb d_rcandidate_84 (lv_at hl 8 rfl) ?_
            obtain ⟨xs86, hxs86⟩ : ∃ z, x5 = z := ⟨_, rfl⟩
            by_cases c_11 : x5 = 0
            · replace Heq := (if_pos c_11).symm.trans Heq
              refine w_i (y := 0) c_11 ?_
              refine lv_tableIn (tgt := 116) hx hb d_rcandidate_86 (by decide) (by decide) rfl (by decide) ?_
              refine lv_aload_n hx hb d_rcandidate_116 rfl (lv_at hl 3 rfl) ?_
              refine va_get (D := D) (ci := 12) (v := .ref (md 11)) (C := R_MM) (T := F_MM) (N := 77) hx hb hts i_MM hown hK hP 0 rfl rfl 11 (by decide) (hts _ kw_1393) (fun _ h9 => h9) rfl d_rcandidate_117 ?_
              refine lv_iload hx hb d_rcandidate_120 (lv_at hl 0 rfl) ?_
              obtain ⟨hi_12, Heq⟩ := gd_some Heq
              refine va_iald hx hb hK hP 7 0 rfl rfl (i := o_5.1.a 46 x4.toNatClampNeg) hi_12 d_rcandidate_122 ?_
              refine w_i (y := o_5.1.a 11 ((o_5.1.a 46 x4.toNatClampNeg).toNatClampNeg)) rfl ?_
              refine lv_i2l hx hb d_rcandidate_123 rfl ?_
              refine w_l (y := (o_5.1.a 11 ((o_5.1.a 46 x4.toNatClampNeg).toNatClampNeg)).toInt64) rfl ?_
              exact Kr _ (Option.some.inj Heq).symm 124 _ _ _ d_rcandidate_124 hP hD hS
            replace Heq := (if_neg c_11).symm.trans Heq
            by_cases c_13 : x5 = 1
            · replace Heq := (if_pos c_13).symm.trans Heq
              refine w_i (y := 1) c_13 ?_
              refine lv_tableIn (tgt := 125) hx hb d_rcandidate_86 (by decide) (by decide) rfl (by decide) ?_
              refine lv_aload_n hx hb d_rcandidate_125 rfl (lv_at hl 3 rfl) ?_
              refine va_get (D := D) (ci := 12) (v := .ref (md 8)) (C := R_MM) (T := F_MM) (N := 77) hx hb hts i_MM hown hK hP 0 rfl rfl 8 (by decide) (hts _ kw_1390) (fun _ h9 => h9) rfl d_rcandidate_126 ?_
              refine lv_iload hx hb d_rcandidate_129 (lv_at hl 0 rfl) ?_
              obtain ⟨hi_14, Heq⟩ := gd_some Heq
              refine va_iald hx hb hK hP 4 0 rfl rfl (i := o_5.1.a 46 x4.toNatClampNeg) hi_14 d_rcandidate_131 ?_
              refine w_i (y := o_5.1.a 8 ((o_5.1.a 46 x4.toNatClampNeg).toNatClampNeg)) rfl ?_
              refine lv_i2l hx hb d_rcandidate_132 rfl ?_
              refine w_l (y := (o_5.1.a 8 ((o_5.1.a 46 x4.toNatClampNeg).toNatClampNeg)).toInt64) rfl ?_
              exact Kr _ (Option.some.inj Heq).symm 133 _ _ _ d_rcandidate_133 hP hD hS
            replace Heq := (if_neg c_13).symm.trans Heq
            by_cases c_15 : x5 = 2
            · replace Heq := (if_pos c_15).symm.trans Heq
              refine w_i (y := 2) c_15 ?_
              refine lv_tableIn (tgt := 134) hx hb d_rcandidate_86 (by decide) (by decide) rfl (by decide) ?_
              refine lv_aload_n hx hb d_rcandidate_134 rfl (lv_at hl 3 rfl) ?_
              refine va_get (D := D) (ci := 12) (v := .ref (md 11)) (C := R_MM) (T := F_MM) (N := 77) hx hb hts i_MM hown hK hP 0 rfl rfl 11 (by decide) (hts _ kw_1393) (fun _ h9 => h9) rfl d_rcandidate_135 ?_
              refine lv_iload hx hb d_rcandidate_138 (lv_at hl 0 rfl) ?_
              obtain ⟨hi_16, Heq⟩ := gd_some Heq
              refine va_iald hx hb hK hP 7 0 rfl rfl (i := o_5.1.a 46 x4.toNatClampNeg) hi_16 d_rcandidate_140 ?_
              refine w_i (y := o_5.1.a 11 ((o_5.1.a 46 x4.toNatClampNeg).toNatClampNeg)) rfl ?_
              refine lv_iconst (v := 5) hx hb d_rcandidate_141 (by decide) ?_
              refine lv_icmp_ne (tgt := 155) hx hb d_rcandidate_142 (by decide) (fun c_17 => ?_) (fun c_17 => ?_)
              · replace Heq := (if_neg c_17).symm.trans Heq
                refine lv_aload_n hx hb d_rcandidate_155 rfl (lv_at hl 3 rfl) ?_
                refine va_get (D := D) (ci := 12) (v := .ref (md 22)) (C := R_MM) (T := F_MM) (N := 77) hx hb hts i_MM hown hK hP 0 rfl rfl 22 (by decide) (hts _ kw_1404) (fun _ h9 => h9) rfl d_rcandidate_156 ?_
                refine lv_iload hx hb d_rcandidate_159 (lv_at hl 0 rfl) ?_
                obtain ⟨hi_18, Heq⟩ := gd_some Heq
                refine va_lald hx hb hK hP 18 3 rfl rfl (i := o_5.1.a 46 x4.toNatClampNeg) hi_18 d_rcandidate_161 ?_
                refine w_l (y := o_5.1.n 22 ((o_5.1.a 46 x4.toNatClampNeg).toNatClampNeg)) rfl ?_
                exact w_rcandidate_J162 hC Heq Kr _ _ _ hP hD hS (lv_sub hl [3] rfl)
              · replace Heq := (if_pos c_17).symm.trans Heq
                refine lv_aload_n hx hb d_rcandidate_145 rfl (lv_at hl 3 rfl) ?_
                refine lv_iload_n hx hb d_rcandidate_146 rfl (lv_at hl 4 rfl) ?_
                refine lv_iload hx hb d_rcandidate_147 (lv_at hl 0 rfl) ?_
                obtain ⟨o_19, h_20, Heq⟩ := ob_some Heq
                have hFc := fr_all hD hS hA
                refine va_calll (va_runV (As := [.int x1, .int (o_5.1.a 46 x4.toNatClampNeg)]) (rest := []) ⟨hx, hb, hml, hown, hts⟩ (g_rcounter l D H.size h_20) (cw_v 2 hts kw_1879 kw_1876 kw_1878 kp_72 kw_11 rfl rfl (by decide +kernel) ⟨Nat.le_of_ble_eq_true rfl, Nat.le_of_ble_eq_true rfl⟩) ⟨g_blind, va_recv hK hP (ci := 12) (q0 := 0) rfl rfl, fun U hU hW => g_pre hU hW hP hK hD⟩ rfl rfl hl.1 rfl (lv_room (Nat.le_of_ble_eq_true rfl)) d_rcandidate_149 ⟨Nat.le_of_ble_eq_true rfl, Nat.le_of_ble_eq_true rfl⟩) hS (fun q _ h => hFc q h) hFc (fun rz u t H1 locs ht hvm hw hB hz1 hk1 hS => ?_)
                obtain ⟨hP, -, hD1⟩ := hB
                rw [ht] at hP
                have hD := hD1.weaken (fun _ q _ h => hFc q.1 h)
                generalize H1 = H at hP hS ⊢
                refine W.cs (cells' := 0) (slots' := 0) rfl rfl ?_
                subst hw
                refine lv_goto (tgt := 162) hx hb d_rcandidate_152 (by decide) ?_
                exact w_rcandidate_J162 hC Heq Kr _ _ _ hP hD hS (lv_sub hl [3] rfl)
            replace Heq := (if_neg c_15).symm.trans Heq
            by_cases c_21 : x5 = 3
            · replace Heq := (if_pos c_21).symm.trans Heq
              refine w_i (y := 3) c_21 ?_
              refine lv_tableIn (tgt := 163) hx hb d_rcandidate_86 (by decide) (by decide) rfl (by decide) ?_
              refine lv_aload_n hx hb d_rcandidate_163 rfl (lv_at hl 3 rfl) ?_
              refine va_get (D := D) (ci := 12) (v := .ref (md 17)) (C := R_MM) (T := F_MM) (N := 77) hx hb hts i_MM hown hK hP 0 rfl rfl 17 (by decide) (hts _ kw_1399) (fun _ h9 => h9) rfl d_rcandidate_164 ?_
              refine lv_iload hx hb d_rcandidate_167 (lv_at hl 0 rfl) ?_
              obtain ⟨hi_22, Heq⟩ := gd_some Heq
              refine va_iald hx hb hK hP 13 0 rfl rfl (i := o_5.1.a 46 x4.toNatClampNeg) hi_22 d_rcandidate_169 ?_
              refine w_i (y := o_5.1.a 17 ((o_5.1.a 46 x4.toNatClampNeg).toNatClampNeg)) rfl ?_
              refine lv_i2l hx hb d_rcandidate_170 rfl ?_
              refine w_l (y := (o_5.1.a 17 ((o_5.1.a 46 x4.toNatClampNeg).toNatClampNeg)).toInt64) rfl ?_
              exact Kr _ (Option.some.inj Heq).symm 171 _ _ _ d_rcandidate_171 hP hD hS
            replace Heq := (if_neg c_21).symm.trans Heq
            refine lv_tableOut (tgt := 172) hx hb d_rcandidate_86 (by have q0 : (x5).toInt ≠ 0 := fun h => c_11 (Int32.toInt_inj.mp (h.trans (by decide))); have q1 : (x5).toInt ≠ 1 := fun h => c_13 (Int32.toInt_inj.mp (h.trans (by decide))); have q2 : (x5).toInt ≠ 2 := fun h => c_15 (Int32.toInt_inj.mp (h.trans (by decide))); have q3 : (x5).toInt ≠ 3 := fun h => c_21 (Int32.toInt_inj.mp (h.trans (by decide))); omega) (by decide) ?_
            refine lv_aload_n hx hb d_rcandidate_172 rfl (lv_at hl 3 rfl) ?_
            refine va_get (D := D) (ci := 12) (v := .int (o_5.1.i 47)) (C := R_MM) (T := F_MM) (N := 77) hx hb hts i_MM hown hK hP 0 rfl rfl 47 (by decide) (hts _ kw_1429) (fun _ h9 => h9) rfl d_rcandidate_173 ?_
            refine lv_i2l hx hb d_rcandidate_176 rfl ?_
            refine w_l (y := (o_5.1.i 47).toInt64) rfl ?_
            exact Kr _ (Option.some.inj Heq).symm 177 _ _ _ d_rcandidate_177 hP hD hS
          · replace Heq := (if_neg c_9).symm.trans Heq
            exact w_rcandidate_J63 hC Heq Kr _ _ _ hP hD hS (lv_sub hl [2] rfl)
      · replace Heq := (if_neg c_7).symm.trans Heq
        refine lv_aload_n hx hb d_rcandidate_41 rfl (lv_at hl 2 rfl) ?_
        refine lv_iload hx hb d_rcandidate_42 (lv_at hl 0 rfl) ?_
        obtain ⟨o_23, h_24, Heq⟩ := ob_some Heq
        have hFc := fr_all hD hS hA
        refine va_calli (va_runV (As := [.int o_5.2]) (rest := []) ⟨hx, hb, hml, hown, hts⟩ (g_rno l D H.size h_24) (cw_v 1 hts kw_1626 kw_1623 kw_1625 kp_29 kw_11 rfl rfl (by decide +kernel) ⟨Nat.le_of_ble_eq_true rfl, Nat.le_of_ble_eq_true rfl⟩) ⟨g_blind, va_recv hK hP (ci := 12) (q0 := 0) rfl rfl, fun U hU hW => g_pre hU hW hP hK hD⟩ rfl rfl hl.1 rfl (lv_room (Nat.le_of_ble_eq_true rfl)) d_rcandidate_44 ⟨Nat.le_of_ble_eq_true rfl, Nat.le_of_ble_eq_true rfl⟩) hS (fun q _ h => hFc q h) hFc (fun rz u t H1 locs ht hvm hw hB hz1 hk1 hS => ?_)
        obtain ⟨hP, -, hD1⟩ := hB
        rw [ht] at hP
        have hD := hD1.weaken (fun _ q _ h => hFc q.1 h)
        generalize H1 = H at hP hS ⊢
        refine W.cs (cells' := 0) (slots' := 0) rfl rfl ?_
        subst hw
        refine lv_i2l hx hb d_rcandidate_47 rfl ?_
        refine w_l (y := o_23.2.toInt64) rfl ?_
        exact Kr _ (Option.some.inj Heq).symm 48 _ _ _ d_rcandidate_48 hP hD hS
    · replace Heq := (if_neg c_4).symm.trans Heq
      exact w_rcandidate_J17 hC Heq Kr _ _ _ hP hD hS (lv_sub hl [1] rfl)
def m_rcandidate (S : MS) (x1 : Int32) (x2 : Int32) (x3 : Int32) (x4 : Int32) (x5 : Int32) : Option (MS × Int64) := m_rcandidate_J0 S x1 x2 x3 x4 x5
theorem g_rcandidate (l : Launch) (D : va_G) (sz : Nat) {md : Nat → Nat} {mc : Nat → ClassId} {S : MS} {x1 : Int32} {x2 : Int32} {x3 : Int32} {x4 : Int32} {x5 : Int32} {o : MS × Int64} (Heq : m_rcandidate S x1 x2 x3 x4 x5 = some o) : Met l ⟨"JoinedTreesModel", "candidate", "(IIIII)J"⟩ (Cond.code ⟨"JoinedTreesModel", "candidate", "(IIIII)J"⟩ prog_14_method_66_code 9 (some .long) :: gb) ({ frames := 5, cells := 0, slots := 0, locals := 123 }) (gPc D (mw md mc S) (mty mc) sz [.ref (md 100), .int x1, .int x2, .int x3, .int x4, .int x5]) (va_Ql (fun (r : Int64) (_ : Unit) => r = o.2) (fun _ t => gO D (mw md mc o.1) (mty mc) (va_A (mw md mc S) sz) t) (va_A (mw md mc S) sz)) 0 0 (va_A (mw md mc S) sz) := by
  refine Met.ofW (cc := prog_14_method_66_code) (maxL := 9) (ret := (some .long)) (by decide) rfl ?_
  intro p e s m args below meth c s₁ B hml hv
  obtain ⟨rfl, hsz, hP, hK, hD0⟩ := hv
  have hx := B.exec
  have hb := B.bytes
  have hr := B.returns
  have hts : ∀ w9 ∈ gb, w9.before [.ref (md 100), .int x1, .int x2, .int x3, .int x4, .int x5].toArray s = true := fun w9 h => atoms_spec (ws := Cond.code ⟨"JoinedTreesModel", "candidate", "(IIIII)J"⟩ prog_14_method_66_code 9 (some .long) :: gb) B.pre w9 (List.mem_cons_of_mem _ h)
  have hown : s.vm.findClass "JoinedTreesModel" = some m.cls := findClass_of_methodNamed B.named
  have hlocks := B.notSynchronized
  subst hsz
  have hD := hD0.self (sz := s.heap.size)
  generalize hAe : va_A (mw md mc S) s.heap.size = A at hD ⊢
  have hA : ∀ q : Nat, s.heap.size ≤ q → A q := fun q h => by rw [← hAe]; exact Or.inr h
  have hS : va_S A s.heap s.heap [] := va_S.rf
  have hl := lv_entry ([.ref (md 100), .int x1, .int x2, .int x3, .int x4, .int x5]) (n := 9) (Nat.le_of_ble_eq_true rfl)
  rw [lg_entry_eq]
  generalize (lg_sl ([.ref (md 100), .int x1, .int x2, .int x3, .int x4, .int x5]) ++ List.replicate (9 - (lg_sl ([.ref (md 100), .int x1, .int x2, .int x3, .int x4, .int x5])).length) Slot.unset).toArray = ls at hl ⊢
  have hl : lv_has ls 9 [(0, .ref (md 100)), (1, .int x1), (2, .int x2), (3, .int x3), (4, .int x4), (5, .int x5)] := hl
  refine w_rcandidate_J0 ⟨hx, hb, hr, hml, hown, hts, hK, hA⟩ Heq (fun r h pc H locs ls hd hP hD hS => ?_) _ _ _ hP hD hS (lv_sub hl [0, 1, 2, 3, 4, 5] rfl)
  subst h
  exact W.lret hx hb hr (fun t ht hW => ⟨⟨_, (), rfl, rfl, by rw [ht]; exact hP, va_K.moved hW.alike hK, hD⟩, hS.F ht⟩) hS.2.2 hd
def m_rletter_J99 (S : MS) (x1 : Int32) (x2 : Int32) (x3 : Int32) (x4 : Int32) : Option ((MS × Int32 × Int32 × Int32 × Int32) ⊕ (MS ⊕ (MS × Int32))) := some (.inl (S, x1, x2, x3, (x4 + 1)))
theorem d_rletter_0 : decode prog_14_method_67_code 0 = .ok (.iload_n 1, 1) := by decide +kernel
theorem d_rletter_1 : decode prog_14_method_67_code 1 = .ok (.invokestatic 251, 3) := by decide +kernel
theorem d_rletter_4 : decode prog_14_method_67_code 4 = .ok (.ifCond .ne 9, 3) := by decide +kernel
theorem d_rletter_13 : decode prog_14_method_67_code 13 = .ok (.iconst 0, 1) := by decide +kernel
theorem d_rletter_14 : decode prog_14_method_67_code 14 = .ok (.istore 4, 2) := by decide +kernel
theorem d_rletter_16 : decode prog_14_method_67_code 16 = .ok (.iload 4, 2) := by decide +kernel
theorem d_rletter_18 : decode prog_14_method_67_code 18 = .ok (.aload_n 0, 1) := by decide +kernel
theorem d_rletter_19 : decode prog_14_method_67_code 19 = .ok (.getfield 195, 3) := by decide +kernel
theorem d_rletter_22 : decode prog_14_method_67_code 22 = .ok (.if_icmp .ge 83, 3) := by decide +kernel
theorem d_rletter_25 : decode prog_14_method_67_code 25 = .ok (.aload_n 0, 1) := by decide +kernel
theorem d_rletter_26 : decode prog_14_method_67_code 26 = .ok (.getfield 19, 3) := by decide +kernel
theorem d_rletter_29 : decode prog_14_method_67_code 29 = .ok (.iload 4, 2) := by decide +kernel
theorem d_rletter_31 : decode prog_14_method_67_code 31 = .ok (.iaload, 1) := by decide +kernel
theorem d_rletter_32 : decode prog_14_method_67_code 32 = .ok (.iload_n 2, 1) := by decide +kernel
theorem d_rletter_33 : decode prog_14_method_67_code 33 = .ok (.if_icmp .ne 66, 3) := by decide +kernel
theorem d_rletter_99 : decode prog_14_method_67_code 99 = .ok (.iinc 4 1, 3) := by decide +kernel
theorem d_rletter_102 : decode prog_14_method_67_code 102 = .ok (.goto (-86), 3) := by decide +kernel
set_option maxHeartbeats 4000000 in
set_option maxRecDepth 100000 in
theorem w_rletter_J99 {p : Program} {l : Launch} {e : Env} {s : State} {m : MethodId} {args : Array Value} {below : List Frame} {meth : Method} {c : Code} {A : Nat → Prop} {D : va_G} {md : Nat → Nat} {mc : Nat → ClassId} {Q : State → Prop} (hC : MCx "JoinedTreesModel" prog_14_method_67_code 5 (some .int) p s m args meth c A D mc) {S : MS} {x1 : Int32} {x2 : Int32} {x3 : Int32} {x4 : Int32} {o : ((MS × Int32 × Int32 × Int32 × Int32) ⊕ (MS ⊕ (MS × Int32)))} (Heq : m_rletter_J99 S x1 x2 x3 x4 = some o) (Ka : ∀ b : MS × Int32 × Int32 × Int32 × Int32, o = .inl b → ∀ (H : Heap) (locs : List Loc) (ls : Array Slot), va_P D cls (mw md mc b.1) H → va_D A (mw md mc b.1) → va_S A s.heap H locs → lv_has ls 5 [(0, .ref (md 100)), (1, .int b.2.1), (2, .int b.2.2.1), (3, .int b.2.2.2.1), (4, .int b.2.2.2.2)] → W p l e ({ frames := 1, cells := 0, slots := 0, locals := 22 }) s m args below meth c H locs 0 0 Q (F0 m 16 ls [])) (K0 : ∀ b : MS, o = .inr (.inl b) → ∀ (H : Heap) (locs : List Loc) (ls : Array Slot), va_P D cls (mw md mc b) H → va_D A (mw md mc b) → va_S A s.heap H locs → lv_has ls 5 [(0, .ref (md 100))] → W p l e ({ frames := 1, cells := 0, slots := 0, locals := 22 }) s m args below meth c H locs 0 0 Q (F0 m 105 ls [])) (Kr : ∀ r : MS × Int32, o = .inr (.inr r) → ∀ (pc : Nat) (H : Heap) (locs : List Loc) (ls : Array Slot), decode prog_14_method_67_code pc = .ok (.ireturn, 1) → va_P D cls (mw md mc r.1) H → va_D A (mw md mc r.1) → va_S A s.heap H locs → W p l e ({ frames := 1, cells := 0, slots := 0, locals := 22 }) s m args below meth c H locs 0 0 Q (F0 m pc ls [.int r.2])) : ∀ (H : Heap) (locs : List Loc) (ls : Array Slot), va_P D cls (mw md mc S) H → va_D A (mw md mc S) → va_S A s.heap H locs → lv_has ls 5 [(0, .ref (md 100)), (1, .int x1), (2, .int x2), (3, .int x3), (4, .int x4)] → W p l e ({ frames := 1, cells := 0, slots := 0, locals := 22 }) s m args below meth c H locs 0 0 Q (F0 m 99 ls []) := by
  intro H locs ls hP hD hS hl
  obtain ⟨hx, hb, hr, hml, hown, hts, hK, hA⟩ := id hC
  unfold m_rletter_J99 at Heq
  refine lv_iinc (v := x4 + 1) (lv' := [(4, .int (x4 + 1)), (0, .ref (md 100)), (1, .int x1), (2, .int x2), (3, .int x3)]) hx hb d_rletter_99 hl (k := 4) rfl rfl (by decide) rfl (fun ls hl => ?_)
  refine lv_goto (tgt := 16) hx hb d_rletter_102 (by decide) ?_
  exact Ka _ (Option.some.inj Heq).symm _ _ _ hP hD hS (lv_sub hl [1, 2, 3, 4, 0] rfl)
def m_rletter_B16 (S : MS) (x1 : Int32) (x2 : Int32) (x3 : Int32) (x4 : Int32) : Option ((MS × Int32 × Int32 × Int32 × Int32) ⊕ (MS ⊕ (MS × Int32))) := (if S.i 23 ≤ x4 then some (.inr (.inl (S))) else gd x4 4000 ((if S.a 8 x4.toNatClampNeg = x2 then ob (m_rin S x1 x4) (fun o_4 => (if o_4.2 = 0 then m_rletter_J99 o_4.1 x1 x2 x3 x4 else gd x4 4000 ((if o_4.1.a 11 x4.toNatClampNeg = 4 then (if x3 < 0 then m_rletter_J99 o_4.1 x1 x2 x3 x4 else gd x4 4000 ((if x3 < o_4.1.a 17 x4.toNatClampNeg then gd x4 4000 (gd ((o_4.1.a 16 x4.toNatClampNeg) + x3) 32876 (some (.inr (.inr ((o_4.1.setI 0 0), (o_4.1.a 26 (((o_4.1.a 16 x4.toNatClampNeg) + x3).toNatClampNeg)) &&& 255))))) else m_rletter_J99 o_4.1 x1 x2 x3 x4))) else m_rletter_J99 o_4.1 x1 x2 x3 x4)))) else m_rletter_J99 S x1 x2 x3 x4)))
theorem d_rletter_36 : decode prog_14_method_67_code 36 = .ok (.aload_n 0, 1) := by decide +kernel
theorem d_rletter_37 : decode prog_14_method_67_code 37 = .ok (.iload_n 1, 1) := by decide +kernel
theorem d_rletter_38 : decode prog_14_method_67_code 38 = .ok (.iload 4, 2) := by decide +kernel
theorem d_rletter_40 : decode prog_14_method_67_code 40 = .ok (.invokevirtual 198, 3) := by decide +kernel
theorem d_rletter_43 : decode prog_14_method_67_code 43 = .ok (.ifCond .eq 56, 3) := by decide +kernel
theorem d_rletter_46 : decode prog_14_method_67_code 46 = .ok (.aload_n 0, 1) := by decide +kernel
theorem d_rletter_47 : decode prog_14_method_67_code 47 = .ok (.getfield 29, 3) := by decide +kernel
theorem d_rletter_50 : decode prog_14_method_67_code 50 = .ok (.iload 4, 2) := by decide +kernel
theorem d_rletter_52 : decode prog_14_method_67_code 52 = .ok (.iaload, 1) := by decide +kernel
theorem d_rletter_53 : decode prog_14_method_67_code 53 = .ok (.iconst 4, 1) := by decide +kernel
theorem d_rletter_54 : decode prog_14_method_67_code 54 = .ok (.if_icmp .ne 45, 3) := by decide +kernel
theorem d_rletter_57 : decode prog_14_method_67_code 57 = .ok (.iload_n 3, 1) := by decide +kernel
theorem d_rletter_58 : decode prog_14_method_67_code 58 = .ok (.ifCond .lt 41, 3) := by decide +kernel
theorem d_rletter_61 : decode prog_14_method_67_code 61 = .ok (.iload_n 3, 1) := by decide +kernel
theorem d_rletter_62 : decode prog_14_method_67_code 62 = .ok (.aload_n 0, 1) := by decide +kernel
theorem d_rletter_63 : decode prog_14_method_67_code 63 = .ok (.getfield 47, 3) := by decide +kernel
theorem d_rletter_66 : decode prog_14_method_67_code 66 = .ok (.iload 4, 2) := by decide +kernel
theorem d_rletter_68 : decode prog_14_method_67_code 68 = .ok (.iaload, 1) := by decide +kernel
theorem d_rletter_69 : decode prog_14_method_67_code 69 = .ok (.if_icmp .lt 6, 3) := by decide +kernel
theorem d_rletter_75 : decode prog_14_method_67_code 75 = .ok (.aload_n 0, 1) := by decide +kernel
theorem d_rletter_76 : decode prog_14_method_67_code 76 = .ok (.iconst 0, 1) := by decide +kernel
theorem d_rletter_77 : decode prog_14_method_67_code 77 = .ok (.putfield 176, 3) := by decide +kernel
theorem d_rletter_80 : decode prog_14_method_67_code 80 = .ok (.aload_n 0, 1) := by decide +kernel
theorem d_rletter_81 : decode prog_14_method_67_code 81 = .ok (.getfield 72, 3) := by decide +kernel
theorem d_rletter_84 : decode prog_14_method_67_code 84 = .ok (.aload_n 0, 1) := by decide +kernel
theorem d_rletter_85 : decode prog_14_method_67_code 85 = .ok (.getfield 44, 3) := by decide +kernel
theorem d_rletter_88 : decode prog_14_method_67_code 88 = .ok (.iload 4, 2) := by decide +kernel
theorem d_rletter_90 : decode prog_14_method_67_code 90 = .ok (.iaload, 1) := by decide +kernel
theorem d_rletter_91 : decode prog_14_method_67_code 91 = .ok (.iload_n 3, 1) := by decide +kernel
theorem d_rletter_92 : decode prog_14_method_67_code 92 = .ok (.iadd, 1) := by decide +kernel
theorem d_rletter_93 : decode prog_14_method_67_code 93 = .ok (.baload, 1) := by decide +kernel
theorem d_rletter_94 : decode prog_14_method_67_code 94 = .ok (.sipush 255, 3) := by decide +kernel
theorem d_rletter_97 : decode prog_14_method_67_code 97 = .ok (.iand, 1) := by decide +kernel
theorem d_rletter_98 : decode prog_14_method_67_code 98 = .ok (.ireturn, 1) := by decide +kernel
theorem d_rletter_72 : decode prog_14_method_67_code 72 = .ok (.goto 27, 3) := by decide +kernel
set_option maxHeartbeats 4000000 in
set_option maxRecDepth 100000 in
theorem w_rletter_B16 {p : Program} {l : Launch} {e : Env} {s : State} {m : MethodId} {args : Array Value} {below : List Frame} {meth : Method} {c : Code} {A : Nat → Prop} {D : va_G} {md : Nat → Nat} {mc : Nat → ClassId} {Q : State → Prop} (hC : MCx "JoinedTreesModel" prog_14_method_67_code 5 (some .int) p s m args meth c A D mc) {S : MS} {x1 : Int32} {x2 : Int32} {x3 : Int32} {x4 : Int32} {o : ((MS × Int32 × Int32 × Int32 × Int32) ⊕ (MS ⊕ (MS × Int32)))} (Heq : m_rletter_B16 S x1 x2 x3 x4 = some o) (Ka : ∀ b : MS × Int32 × Int32 × Int32 × Int32, o = .inl b → ∀ (H : Heap) (locs : List Loc) (ls : Array Slot), va_P D cls (mw md mc b.1) H → va_D A (mw md mc b.1) → va_S A s.heap H locs → lv_has ls 5 [(0, .ref (md 100)), (1, .int b.2.1), (2, .int b.2.2.1), (3, .int b.2.2.2.1), (4, .int b.2.2.2.2)] → W p l e ({ frames := 1, cells := 0, slots := 0, locals := 22 }) s m args below meth c H locs 0 0 Q (F0 m 16 ls [])) (K0 : ∀ b : MS, o = .inr (.inl b) → ∀ (H : Heap) (locs : List Loc) (ls : Array Slot), va_P D cls (mw md mc b) H → va_D A (mw md mc b) → va_S A s.heap H locs → lv_has ls 5 [(0, .ref (md 100))] → W p l e ({ frames := 1, cells := 0, slots := 0, locals := 22 }) s m args below meth c H locs 0 0 Q (F0 m 105 ls [])) (Kr : ∀ r : MS × Int32, o = .inr (.inr r) → ∀ (pc : Nat) (H : Heap) (locs : List Loc) (ls : Array Slot), decode prog_14_method_67_code pc = .ok (.ireturn, 1) → va_P D cls (mw md mc r.1) H → va_D A (mw md mc r.1) → va_S A s.heap H locs → W p l e ({ frames := 1, cells := 0, slots := 0, locals := 22 }) s m args below meth c H locs 0 0 Q (F0 m pc ls [.int r.2])) : ∀ (H : Heap) (locs : List Loc) (ls : Array Slot), va_P D cls (mw md mc S) H → va_D A (mw md mc S) → va_S A s.heap H locs → lv_has ls 5 [(0, .ref (md 100)), (1, .int x1), (2, .int x2), (3, .int x3), (4, .int x4)] → W p l e ({ frames := 1, cells := 0, slots := 0, locals := 22 }) s m args below meth c H locs 0 0 Q (F0 m 16 ls []) := by
  intro H locs ls hP hD hS hl
  obtain ⟨hx, hb, hr, hml, hown, hts, hK, hA⟩ := id hC
  unfold m_rletter_B16 at Heq
  refine lv_iload hx hb d_rletter_16 (lv_at hl 4 rfl) ?_
  refine lv_aload_n hx hb d_rletter_18 rfl (lv_at hl 0 rfl) ?_
  refine va_get (D := D) (ci := 12) (v := .int (S.i 23)) (C := R_MM) (T := F_MM) (N := 77) hx hb hts i_MM hown hK hP 0 rfl rfl 23 (by decide) (hts _ kw_1405) (fun _ h9 => h9) rfl d_rletter_19 ?_
  refine lv_icmp_ge (tgt := 105) hx hb d_rletter_22 (by decide) (fun c_1 => ?_) (fun c_1 => ?_)
  · replace Heq := (if_pos c_1).symm.trans Heq
    exact K0 _ (Option.some.inj Heq).symm _ _ _ hP hD hS (lv_sub hl [0] rfl)
  · replace Heq := (if_neg c_1).symm.trans Heq
    refine lv_aload_n hx hb d_rletter_25 rfl (lv_at hl 0 rfl) ?_
    refine va_get (D := D) (ci := 12) (v := .ref (md 8)) (C := R_MM) (T := F_MM) (N := 77) hx hb hts i_MM hown hK hP 0 rfl rfl 8 (by decide) (hts _ kw_1390) (fun _ h9 => h9) rfl d_rletter_26 ?_
    refine lv_iload hx hb d_rletter_29 (lv_at hl 4 rfl) ?_
    obtain ⟨hi_2, Heq⟩ := gd_some Heq
    refine va_iald hx hb hK hP 4 0 rfl rfl (i := x4) hi_2 d_rletter_31 ?_
    refine w_i (y := S.a 8 x4.toNatClampNeg) rfl ?_
    refine lv_iload_n hx hb d_rletter_32 rfl (lv_at hl 2 rfl) ?_
    refine lv_icmp_ne (tgt := 99) hx hb d_rletter_33 (by decide) (fun c_3 => ?_) (fun c_3 => ?_)
    · replace Heq := (if_neg c_3).symm.trans Heq
      exact w_rletter_J99 hC Heq Ka K0 Kr _ _ _ hP hD hS (lv_sub hl [0, 1, 2, 3, 4] rfl)
    · replace Heq := (if_pos c_3).symm.trans Heq
      refine lv_aload_n hx hb d_rletter_36 rfl (lv_at hl 0 rfl) ?_
      refine lv_iload_n hx hb d_rletter_37 rfl (lv_at hl 1 rfl) ?_
      refine lv_iload hx hb d_rletter_38 (lv_at hl 4 rfl) ?_
      obtain ⟨o_4, h_5, Heq⟩ := ob_some Heq
      have hFc := fr_all hD hS hA
      refine va_calli (va_runV (As := [.int x1, .int x4]) (rest := []) ⟨hx, hb, hml, hown, hts⟩ (g_rin l D H.size h_5) (cw_v 2 hts kw_1656 kw_1653 kw_1655 kp_33 kw_11 rfl rfl (by decide +kernel) ⟨Nat.le_of_ble_eq_true rfl, Nat.le_of_ble_eq_true rfl⟩) ⟨g_blind, va_recv hK hP (ci := 12) (q0 := 0) rfl rfl, fun U hU hW => g_pre hU hW hP hK hD⟩ rfl rfl hl.1 rfl (lv_room (Nat.le_of_ble_eq_true rfl)) d_rletter_40 ⟨Nat.le_of_ble_eq_true rfl, Nat.le_of_ble_eq_true rfl⟩) hS (fun q _ h => hFc q h) hFc (fun rz u t H1 locs ht hvm hw hB hz1 hk1 hS => ?_)
      obtain ⟨hP, -, hD1⟩ := hB
      rw [ht] at hP
      have hD := hD1.weaken (fun _ q _ h => hFc q.1 h)
      generalize H1 = H at hP hS ⊢
      refine W.cs (cells' := 0) (slots' := 0) rfl rfl ?_
      subst hw
      refine lv_if_eq (tgt := 99) hx hb d_rletter_43 (by decide) (fun c_6 => ?_) (fun c_6 => ?_)
      · replace Heq := (if_pos c_6).symm.trans Heq
        exact w_rletter_J99 hC Heq Ka K0 Kr _ _ _ hP hD hS (lv_sub hl [0, 1, 2, 3, 4] rfl)
      · replace Heq := (if_neg c_6).symm.trans Heq
        refine lv_aload_n hx hb d_rletter_46 rfl (lv_at hl 0 rfl) ?_
        refine va_get (D := D) (ci := 12) (v := .ref (md 11)) (C := R_MM) (T := F_MM) (N := 77) hx hb hts i_MM hown hK hP 0 rfl rfl 11 (by decide) (hts _ kw_1393) (fun _ h9 => h9) rfl d_rletter_47 ?_
        refine lv_iload hx hb d_rletter_50 (lv_at hl 4 rfl) ?_
        obtain ⟨hi_7, Heq⟩ := gd_some Heq
        refine va_iald hx hb hK hP 7 0 rfl rfl (i := x4) hi_7 d_rletter_52 ?_
        refine w_i (y := o_4.1.a 11 x4.toNatClampNeg) rfl ?_
        refine lv_iconst (v := 4) hx hb d_rletter_53 (by decide) ?_
        refine lv_icmp_ne (tgt := 99) hx hb d_rletter_54 (by decide) (fun c_8 => ?_) (fun c_8 => ?_)
        · replace Heq := (if_neg c_8).symm.trans Heq
          exact w_rletter_J99 hC Heq Ka K0 Kr _ _ _ hP hD hS (lv_sub hl [0, 1, 2, 3, 4] rfl)
        · replace Heq := (if_pos c_8).symm.trans Heq
          refine lv_iload_n hx hb d_rletter_57 rfl (lv_at hl 3 rfl) ?_
          refine lv_if_lt (tgt := 99) hx hb d_rletter_58 (by decide) (fun c_9 => ?_) (fun c_9 => ?_)
          · replace Heq := (if_pos c_9).symm.trans Heq
            exact w_rletter_J99 hC Heq Ka K0 Kr _ _ _ hP hD hS (lv_sub hl [0, 1, 2, 3, 4] rfl)
          · replace Heq := (if_neg c_9).symm.trans Heq
            refine lv_iload_n hx hb d_rletter_61 rfl (lv_at hl 3 rfl) ?_
            refine lv_aload_n hx hb d_rletter_62 rfl (lv_at hl 0 rfl) ?_
            refine va_get (D := D) (ci := 12) (v := .ref (md 17)) (C := R_MM) (T := F_MM) (N := 77) hx hb hts i_MM hown hK hP 0 rfl rfl 17 (by decide) (hts _ kw_1399) (fun _ h9 => h9) rfl d_rletter_63 ?_
            refine lv_iload hx hb d_rletter_66 (lv_at hl 4 rfl) ?_
            obtain ⟨hi_10, Heq⟩ := gd_some Heq
            refine va_iald hx hb hK hP 13 0 rfl rfl (i := x4) hi_10 d_rletter_68 ?_
            refine w_i (y := o_4.1.a 17 x4.toNatClampNeg) rfl ?_
            refine lv_icmp_lt (tgt := 75) hx hb d_rletter_69 (by decide) (fun c_11 => ?_) (fun c_11 => ?_)
            · replace Heq := (if_pos c_11).symm.trans Heq
              refine lv_aload_n hx hb d_rletter_75 rfl (lv_at hl 0 rfl) ?_
              refine lv_iconst (v := 0) hx hb d_rletter_76 (by decide) ?_
              refine va_put (D := D) (ci := 12) (v := .int 0) (ty := .int) (C := R_MM) (T := F_MM) (N := 77) hx hb hts i_MM t_MM t_MM_ok n_MM hown hK hP hD hS 0 rfl rfl 0 (by decide) (hts _ kw_1382) (fun _ h9 => h9) rfl (by decide +kernel) rfl rfl (Nat.le_of_ble_eq_true rfl) d_rletter_77 (fun H locs hP hD hS => ?_)
              rw [mw_I0] at hP hD
              refine lv_aload_n hx hb d_rletter_80 rfl (lv_at hl 0 rfl) ?_
              refine va_get (D := D) (ci := 12) (v := .ref (md 26)) (C := R_MM) (T := F_MM) (N := 77) hx hb hts i_MM hown hK hP 0 rfl rfl 26 (by decide) (hts _ kw_1408) (fun _ h9 => h9) rfl d_rletter_81 ?_
              refine lv_aload_n hx hb d_rletter_84 rfl (lv_at hl 0 rfl) ?_
              refine va_get (D := D) (ci := 12) (v := .ref (md 16)) (C := R_MM) (T := F_MM) (N := 77) hx hb hts i_MM hown hK hP 0 rfl rfl 16 (by decide) (hts _ kw_1398) (fun _ h9 => h9) rfl d_rletter_85 ?_
              refine lv_iload hx hb d_rletter_88 (lv_at hl 4 rfl) ?_
              obtain ⟨hi_12, Heq⟩ := gd_some Heq
              refine va_iald hx hb hK hP 12 0 rfl rfl (i := x4) hi_12 d_rletter_90 ?_
              refine w_i (y := o_4.1.a 16 x4.toNatClampNeg) rfl ?_
              refine lv_iload_n hx hb d_rletter_91 rfl (lv_at hl 3 rfl) ?_
              refine lv_iadd hx hb d_rletter_92 ?_
              refine w_i (y := (o_4.1.a 16 x4.toNatClampNeg) + x3) rfl ?_
              obtain ⟨hi_13, Heq⟩ := gd_some Heq
              refine va_bald hx hb hK hP 20 1 rfl rfl (i := (o_4.1.a 16 x4.toNatClampNeg) + x3) hi_13 d_rletter_93 ?_
              refine w_i (y := o_4.1.a 26 (((o_4.1.a 16 x4.toNatClampNeg) + x3).toNatClampNeg)) rfl ?_
              refine lv_sipush (v := 255) hx hb d_rletter_94 (by decide) ?_
              refine lv_iand hx hb d_rletter_97 ?_
              refine w_i (y := (o_4.1.a 26 (((o_4.1.a 16 x4.toNatClampNeg) + x3).toNatClampNeg)) &&& 255) rfl ?_
              exact Kr _ (Option.some.inj Heq).symm 98 _ _ _ d_rletter_98 hP hD hS
            · replace Heq := (if_neg c_11).symm.trans Heq
              refine lv_goto (tgt := 99) hx hb d_rletter_72 (by decide) ?_
              exact w_rletter_J99 hC Heq Ka K0 Kr _ _ _ hP hD hS (lv_sub hl [0, 1, 2, 3, 4] rfl)
def m_rletter_L16 (S : MS) (x1 : Int32) (x2 : Int32) (x3 : Int32) (x4 : Int32) : Option (MS ⊕ (MS × Int32)) := lp (fun a : MS × Int32 × Int32 × Int32 × Int32 => m_rletter_B16 a.1 a.2.1 a.2.2.1 a.2.2.2.1 a.2.2.2.2) FU (S, x1, x2, x3, x4)
theorem w_rletter_L16 {p : Program} {l : Launch} {e : Env} {s : State} {m : MethodId} {args : Array Value} {below : List Frame} {meth : Method} {c : Code} {A : Nat → Prop} {D : va_G} {md : Nat → Nat} {mc : Nat → ClassId} {Q : State → Prop} (hC : MCx "JoinedTreesModel" prog_14_method_67_code 5 (some .int) p s m args meth c A D mc) {S : MS} {x1 : Int32} {x2 : Int32} {x3 : Int32} {x4 : Int32} {o : (MS ⊕ (MS × Int32))} (Heq : m_rletter_L16 S x1 x2 x3 x4 = some o) (K0 : ∀ b : MS, o = (.inl b) → ∀ (H : Heap) (locs : List Loc) (ls : Array Slot), va_P D cls (mw md mc b) H → va_D A (mw md mc b) → va_S A s.heap H locs → lv_has ls 5 [(0, .ref (md 100))] → W p l e ({ frames := 1, cells := 0, slots := 0, locals := 22 }) s m args below meth c H locs 0 0 Q (F0 m 105 ls [])) (Kr : ∀ r : MS × Int32, o = (.inr r) → ∀ (pc : Nat) (H : Heap) (locs : List Loc) (ls : Array Slot), decode prog_14_method_67_code pc = .ok (.ireturn, 1) → va_P D cls (mw md mc r.1) H → va_D A (mw md mc r.1) → va_S A s.heap H locs → W p l e ({ frames := 1, cells := 0, slots := 0, locals := 22 }) s m args below meth c H locs 0 0 Q (F0 m pc ls [.int r.2])) : ∀ (H : Heap) (locs : List Loc) (ls : Array Slot), va_P D cls (mw md mc S) H → va_D A (mw md mc S) → va_S A s.heap H locs → lv_has ls 5 [(0, .ref (md 100)), (1, .int x1), (2, .int x2), (3, .int x3), (4, .int x4)] → W p l e ({ frames := 1, cells := 0, slots := 0, locals := 22 }) s m args below meth c H locs 0 0 Q (F0 m 16 ls []) := by
  refine lp_w (G := fun a : MS × Int32 × Int32 × Int32 × Int32 => ∀ (H : Heap) (locs : List Loc) (ls : Array Slot), va_P D cls (mw md mc a.1) H → va_D A (mw md mc a.1) → va_S A s.heap H locs → lv_has ls 5 [(0, .ref (md 100)), (1, .int a.2.1), (2, .int a.2.2.1), (3, .int a.2.2.2.1), (4, .int a.2.2.2.2)] → W p l e ({ frames := 1, cells := 0, slots := 0, locals := 22 }) s m args below meth c H locs 0 0 Q (F0 m 16 ls [])) ?_ FU (S, x1, x2, x3, x4) Heq
  intro a o1 ho Ka Ke
  exact w_rletter_B16 hC ho (fun b h => Ka b h) (fun b h => K0 b (Ke _ h).symm) (fun r h => Kr r (Ke _ h).symm)
def m_rletter_J0 (S : MS) (x1 : Int32) (x2 : Int32) (x3 : Int32) : Option (MS × Int32) := ob (m_risReplica S x1) (fun o_1 => (if o_1.2 = 0 then ob (m_rno o_1.1 1) (fun o_9 => some (o_9.1, o_9.2)) else oe (m_rletter_L16 o_1.1 x1 x2 x3 0) (fun b_4 => ob (m_rno b_4 2) (fun o_7 => some (o_7.1, o_7.2))) (fun r_6 => some r_6)))
theorem d_rletter_105 : decode prog_14_method_67_code 105 = .ok (.aload_n 0, 1) := by decide +kernel
theorem d_rletter_106 : decode prog_14_method_67_code 106 = .ok (.iconst 2, 1) := by decide +kernel
theorem d_rletter_107 : decode prog_14_method_67_code 107 = .ok (.invokevirtual 191, 3) := by decide +kernel
theorem d_rletter_110 : decode prog_14_method_67_code 110 = .ok (.ireturn, 1) := by decide +kernel
theorem d_rletter_7 : decode prog_14_method_67_code 7 = .ok (.aload_n 0, 1) := by decide +kernel
theorem d_rletter_8 : decode prog_14_method_67_code 8 = .ok (.iconst 1, 1) := by decide +kernel
theorem d_rletter_9 : decode prog_14_method_67_code 9 = .ok (.invokevirtual 191, 3) := by decide +kernel
theorem d_rletter_12 : decode prog_14_method_67_code 12 = .ok (.ireturn, 1) := by decide +kernel
set_option maxHeartbeats 4000000 in
set_option maxRecDepth 100000 in
theorem w_rletter_J0 {p : Program} {l : Launch} {e : Env} {s : State} {m : MethodId} {args : Array Value} {below : List Frame} {meth : Method} {c : Code} {A : Nat → Prop} {D : va_G} {md : Nat → Nat} {mc : Nat → ClassId} {Q : State → Prop} (hC : MCx "JoinedTreesModel" prog_14_method_67_code 5 (some .int) p s m args meth c A D mc) {S : MS} {x1 : Int32} {x2 : Int32} {x3 : Int32} {o : MS × Int32} (Heq : m_rletter_J0 S x1 x2 x3 = some o) (Kr : ∀ r : MS × Int32, o = r → ∀ (pc : Nat) (H : Heap) (locs : List Loc) (ls : Array Slot), decode prog_14_method_67_code pc = .ok (.ireturn, 1) → va_P D cls (mw md mc r.1) H → va_D A (mw md mc r.1) → va_S A s.heap H locs → W p l e ({ frames := 1, cells := 0, slots := 0, locals := 22 }) s m args below meth c H locs 0 0 Q (F0 m pc ls [.int r.2])) : ∀ (H : Heap) (locs : List Loc) (ls : Array Slot), va_P D cls (mw md mc S) H → va_D A (mw md mc S) → va_S A s.heap H locs → lv_has ls 5 [(0, .ref (md 100)), (1, .int x1), (2, .int x2), (3, .int x3)] → W p l e ({ frames := 1, cells := 0, slots := 0, locals := 22 }) s m args below meth c H locs 0 0 Q (F0 m 0 ls []) := by
  intro H locs ls hP hD hS hl
  obtain ⟨hx, hb, hr, hml, hown, hts, hK, hA⟩ := id hC
  unfold m_rletter_J0 at Heq
  refine lv_iload_n hx hb d_rletter_0 rfl (lv_at hl 1 rfl) ?_
  obtain ⟨o_1, h_2, Heq⟩ := ob_some Heq
  have hFc := fr_all hD hS hA
  refine va_calli (va_runS (As := [.int x1]) (rest := []) ⟨hx, hb, hml, hown, hts⟩ (g_risReplica l D H.size h_2) (cw_s 1 hts kw_1641 kw_1639 kw_1640 kw_11 rfl rfl (by decide +kernel) ⟨Nat.le_of_ble_eq_true rfl, Nat.le_of_ble_eq_true rfl⟩) ⟨g_blind, fun U hU hW => g_pre hU hW hP hK hD⟩ rfl rfl hl.1 rfl (lv_room (Nat.le_of_ble_eq_true rfl)) d_rletter_1 ⟨Nat.le_of_ble_eq_true rfl, Nat.le_of_ble_eq_true rfl⟩) hS (fun q _ h => hFc q h) hFc (fun rz u t H1 locs ht hvm hw hB hz1 hk1 hS => ?_)
  obtain ⟨hP, -, hD1⟩ := hB
  rw [ht] at hP
  have hD := hD1.weaken (fun _ q _ h => hFc q.1 h)
  generalize H1 = H at hP hS ⊢
  refine W.cs (cells' := 0) (slots' := 0) rfl rfl ?_
  subst hw
  refine lv_if_ne (tgt := 13) hx hb d_rletter_4 (by decide) (fun c_3 => ?_) (fun c_3 => ?_)
  · replace Heq := (if_neg c_3).symm.trans Heq
    refine lv_iconst (v := 0) hx hb d_rletter_13 (by decide) ?_
    refine lv_istore (lv' := [(4, .int 0), (0, .ref (md 100)), (1, .int x1), (2, .int x2), (3, .int x3)]) hx hb d_rletter_14 hl (by decide) rfl (fun ls hl => ?_)
    rcases oe_some Heq with ⟨b_4, h_5, Heq⟩ | ⟨r_6, h_5, Heq⟩
    · refine w_rletter_L16 hC h_5 (fun b h => ?_) (fun r h => by cases h) _ _ _ hP hD hS (lv_sub hl [1, 2, 3, 4, 0] rfl)
      cases h
      intro H locs ls hP hD hS hl
      refine lv_aload_n hx hb d_rletter_105 rfl (lv_at hl 0 rfl) ?_
      refine lv_iconst (v := 2) hx hb d_rletter_106 (by decide) ?_
      obtain ⟨o_7, h_8, Heq⟩ := ob_some Heq
      have hFc := fr_all hD hS hA
      refine va_calli (va_runV (As := [.int 2]) (rest := []) ⟨hx, hb, hml, hown, hts⟩ (g_rno l D H.size h_8) (cw_v 1 hts kw_1626 kw_1623 kw_1625 kp_29 kw_11 rfl rfl (by decide +kernel) ⟨Nat.le_of_ble_eq_true rfl, Nat.le_of_ble_eq_true rfl⟩) ⟨g_blind, va_recv hK hP (ci := 12) (q0 := 0) rfl rfl, fun U hU hW => g_pre hU hW hP hK hD⟩ rfl rfl hl.1 rfl (lv_room (Nat.le_of_ble_eq_true rfl)) d_rletter_107 ⟨Nat.le_of_ble_eq_true rfl, Nat.le_of_ble_eq_true rfl⟩) hS (fun q _ h => hFc q h) hFc (fun rz u t H1 locs ht hvm hw hB hz1 hk1 hS => ?_)
      obtain ⟨hP, -, hD1⟩ := hB
      rw [ht] at hP
      have hD := hD1.weaken (fun _ q _ h => hFc q.1 h)
      generalize H1 = H at hP hS ⊢
      refine W.cs (cells' := 0) (slots' := 0) rfl rfl ?_
      subst hw
      exact Kr _ (Option.some.inj Heq).symm 110 _ _ _ d_rletter_110 hP hD hS
    · refine w_rletter_L16 hC h_5 (fun b h => by cases h) (fun r h => ?_) _ _ _ hP hD hS (lv_sub hl [1, 2, 3, 4, 0] rfl)
      cases h
      exact Kr _ (Option.some.inj Heq).symm
  · replace Heq := (if_pos c_3).symm.trans Heq
    refine lv_aload_n hx hb d_rletter_7 rfl (lv_at hl 0 rfl) ?_
    refine lv_iconst (v := 1) hx hb d_rletter_8 (by decide) ?_
    obtain ⟨o_9, h_10, Heq⟩ := ob_some Heq
    have hFc := fr_all hD hS hA
    refine va_calli (va_runV (As := [.int 1]) (rest := []) ⟨hx, hb, hml, hown, hts⟩ (g_rno l D H.size h_10) (cw_v 1 hts kw_1626 kw_1623 kw_1625 kp_29 kw_11 rfl rfl (by decide +kernel) ⟨Nat.le_of_ble_eq_true rfl, Nat.le_of_ble_eq_true rfl⟩) ⟨g_blind, va_recv hK hP (ci := 12) (q0 := 0) rfl rfl, fun U hU hW => g_pre hU hW hP hK hD⟩ rfl rfl hl.1 rfl (lv_room (Nat.le_of_ble_eq_true rfl)) d_rletter_9 ⟨Nat.le_of_ble_eq_true rfl, Nat.le_of_ble_eq_true rfl⟩) hS (fun q _ h => hFc q h) hFc (fun rz u t H1 locs ht hvm hw hB hz1 hk1 hS => ?_)
    obtain ⟨hP, -, hD1⟩ := hB
    rw [ht] at hP
    have hD := hD1.weaken (fun _ q _ h => hFc q.1 h)
    generalize H1 = H at hP hS ⊢
    refine W.cs (cells' := 0) (slots' := 0) rfl rfl ?_
    subst hw
    exact Kr _ (Option.some.inj Heq).symm 12 _ _ _ d_rletter_12 hP hD hS
def m_rletter (S : MS) (x1 : Int32) (x2 : Int32) (x3 : Int32) : Option (MS × Int32) := m_rletter_J0 S x1 x2 x3
theorem g_rletter (l : Launch) (D : va_G) (sz : Nat) {md : Nat → Nat} {mc : Nat → ClassId} {S : MS} {x1 : Int32} {x2 : Int32} {x3 : Int32} {o : MS × Int32} (Heq : m_rletter S x1 x2 x3 = some o) : Met l ⟨"JoinedTreesModel", "letter", "(III)I"⟩ (Cond.code ⟨"JoinedTreesModel", "letter", "(III)I"⟩ prog_14_method_67_code 5 (some .int) :: gb) ({ frames := 1, cells := 0, slots := 0, locals := 22 }) (gPc D (mw md mc S) (mty mc) sz [.ref (md 100), .int x1, .int x2, .int x3]) (va_Qi (fun (r : Int32) (_ : Unit) => r = o.2) (fun _ t => gO D (mw md mc o.1) (mty mc) (va_A (mw md mc S) sz) t) (va_A (mw md mc S) sz)) 0 0 (va_A (mw md mc S) sz) := by
  refine Met.ofW (cc := prog_14_method_67_code) (maxL := 5) (ret := (some .int)) (by decide) rfl ?_
  intro p e s m args below meth c s₁ B hml hv
  obtain ⟨rfl, hsz, hP, hK, hD0⟩ := hv
  have hx := B.exec
  have hb := B.bytes
  have hr := B.returns
  have hts : ∀ w9 ∈ gb, w9.before [.ref (md 100), .int x1, .int x2, .int x3].toArray s = true := fun w9 h => atoms_spec (ws := Cond.code ⟨"JoinedTreesModel", "letter", "(III)I"⟩ prog_14_method_67_code 5 (some .int) :: gb) B.pre w9 (List.mem_cons_of_mem _ h)
  have hown : s.vm.findClass "JoinedTreesModel" = some m.cls := findClass_of_methodNamed B.named
  have hlocks := B.notSynchronized
  subst hsz
  have hD := hD0.self (sz := s.heap.size)
  generalize hAe : va_A (mw md mc S) s.heap.size = A at hD ⊢
  have hA : ∀ q : Nat, s.heap.size ≤ q → A q := fun q h => by rw [← hAe]; exact Or.inr h
  have hS : va_S A s.heap s.heap [] := va_S.rf
  have hl := lv_entry ([.ref (md 100), .int x1, .int x2, .int x3]) (n := 5) (Nat.le_of_ble_eq_true rfl)
  rw [lg_entry_eq]
  generalize (lg_sl ([.ref (md 100), .int x1, .int x2, .int x3]) ++ List.replicate (5 - (lg_sl ([.ref (md 100), .int x1, .int x2, .int x3])).length) Slot.unset).toArray = ls at hl ⊢
  have hl : lv_has ls 5 [(0, .ref (md 100)), (1, .int x1), (2, .int x2), (3, .int x3)] := hl
  refine w_rletter_J0 ⟨hx, hb, hr, hml, hown, hts, hK, hA⟩ Heq (fun r h pc H locs ls hd hP hD hS => ?_) _ _ _ hP hD hS (lv_sub hl [0, 1, 2, 3] rfl)
  subst h
  exact W.iret hx hb hr (fun t ht hW => ⟨⟨_, (), rfl, rfl, by rw [ht]; exact hP, va_K.moved hW.alike hK, hD⟩, hS.F ht⟩) hS.2.2 hd
def m_rlistKind_J35 (S : MS) (t0 : Int32) : Option (MS × Int32) := some (S, t0)
theorem d_rlistKind_0 : decode prog_14_method_68_code 0 = .ok (.iload_n 1, 1) := by decide +kernel
theorem d_rlistKind_1 : decode prog_14_method_68_code 1 = .ok (.invokestatic 251, 3) := by decide +kernel
theorem d_rlistKind_4 : decode prog_14_method_68_code 4 = .ok (.ifCond .ne 5, 3) := by decide +kernel
theorem d_rlistKind_9 : decode prog_14_method_68_code 9 = .ok (.aload_n 0, 1) := by decide +kernel
theorem d_rlistKind_10 : decode prog_14_method_68_code 10 = .ok (.iload_n 1, 1) := by decide +kernel
theorem d_rlistKind_11 : decode prog_14_method_68_code 11 = .ok (.iload_n 2, 1) := by decide +kernel
theorem d_rlistKind_12 : decode prog_14_method_68_code 12 = .ok (.invokevirtual 258, 3) := by decide +kernel
theorem d_rlistKind_15 : decode prog_14_method_68_code 15 = .ok (.istore_n 3, 1) := by decide +kernel
theorem d_rlistKind_16 : decode prog_14_method_68_code 16 = .ok (.iload_n 3, 1) := by decide +kernel
theorem d_rlistKind_17 : decode prog_14_method_68_code 17 = .ok (.bipush 6, 2) := by decide +kernel
theorem d_rlistKind_19 : decode prog_14_method_68_code 19 = .ok (.if_icmp .ne 7, 3) := by decide +kernel
theorem d_rlistKind_26 : decode prog_14_method_68_code 26 = .ok (.iload_n 3, 1) := by decide +kernel
theorem d_rlistKind_27 : decode prog_14_method_68_code 27 = .ok (.ifCond .ge 7, 3) := by decide +kernel
theorem d_rlistKind_34 : decode prog_14_method_68_code 34 = .ok (.iconst 0, 1) := by decide +kernel
theorem d_rlistKind_35 : decode prog_14_method_68_code 35 = .ok (.ireturn, 1) := by decide +kernel
set_option maxHeartbeats 4000000 in
set_option maxRecDepth 100000 in
theorem w_rlistKind_J35 {p : Program} {l : Launch} {e : Env} {s : State} {m : MethodId} {args : Array Value} {below : List Frame} {meth : Method} {c : Code} {A : Nat → Prop} {D : va_G} {md : Nat → Nat} {mc : Nat → ClassId} {Q : State → Prop} (hC : MCx "JoinedTreesModel" prog_14_method_68_code 4 (some .int) p s m args meth c A D mc) {S : MS} {t0 : Int32} {o : MS × Int32} (Heq : m_rlistKind_J35 S t0 = some o) (Kr : ∀ r : MS × Int32, o = r → ∀ (pc : Nat) (H : Heap) (locs : List Loc) (ls : Array Slot), decode prog_14_method_68_code pc = .ok (.ireturn, 1) → va_P D cls (mw md mc r.1) H → va_D A (mw md mc r.1) → va_S A s.heap H locs → W p l e ({ frames := 3, cells := 0, slots := 0, locals := 68 }) s m args below meth c H locs 0 0 Q (F0 m pc ls [.int r.2])) : ∀ (H : Heap) (locs : List Loc) (ls : Array Slot), va_P D cls (mw md mc S) H → va_D A (mw md mc S) → va_S A s.heap H locs → lv_has ls 4 [(0, .ref (md 100))] → W p l e ({ frames := 3, cells := 0, slots := 0, locals := 68 }) s m args below meth c H locs 0 0 Q (F0 m 35 ls [.int t0]) := by
  intro H locs ls hP hD hS hl
  obtain ⟨hx, hb, hr, hml, hown, hts, hK, hA⟩ := id hC
  unfold m_rlistKind_J35 at Heq
  exact Kr _ (Option.some.inj Heq).symm 35 _ _ _ d_rlistKind_35 hP hD hS
def m_rlistKind_J0 (S : MS) (x1 : Int32) (x2 : Int32) : Option (MS × Int32) := ob (m_risReplica S x1) (fun o_1 => (if o_1.2 = 0 then some (o_1.1, 1) else ob (m_rkindOf o_1.1 x1 x2) (fun o_4 => (if o_4.2 = 6 then m_rlistKind_J35 o_4.1 1 else (if 0 ≤ o_4.2 then m_rlistKind_J35 o_4.1 0 else m_rlistKind_J35 o_4.1 2)))))
theorem d_rlistKind_30 : decode prog_14_method_68_code 30 = .ok (.iconst 2, 1) := by decide +kernel
theorem d_rlistKind_31 : decode prog_14_method_68_code 31 = .ok (.goto 4, 3) := by decide +kernel
theorem d_rlistKind_22 : decode prog_14_method_68_code 22 = .ok (.iconst 1, 1) := by decide +kernel
theorem d_rlistKind_23 : decode prog_14_method_68_code 23 = .ok (.goto 12, 3) := by decide +kernel
theorem d_rlistKind_7 : decode prog_14_method_68_code 7 = .ok (.iconst 1, 1) := by decide +kernel
theorem d_rlistKind_8 : decode prog_14_method_68_code 8 = .ok (.ireturn, 1) := by decide +kernel
set_option maxHeartbeats 4000000 in
set_option maxRecDepth 100000 in
theorem w_rlistKind_J0 {p : Program} {l : Launch} {e : Env} {s : State} {m : MethodId} {args : Array Value} {below : List Frame} {meth : Method} {c : Code} {A : Nat → Prop} {D : va_G} {md : Nat → Nat} {mc : Nat → ClassId} {Q : State → Prop} (hC : MCx "JoinedTreesModel" prog_14_method_68_code 4 (some .int) p s m args meth c A D mc) {S : MS} {x1 : Int32} {x2 : Int32} {o : MS × Int32} (Heq : m_rlistKind_J0 S x1 x2 = some o) (Kr : ∀ r : MS × Int32, o = r → ∀ (pc : Nat) (H : Heap) (locs : List Loc) (ls : Array Slot), decode prog_14_method_68_code pc = .ok (.ireturn, 1) → va_P D cls (mw md mc r.1) H → va_D A (mw md mc r.1) → va_S A s.heap H locs → W p l e ({ frames := 3, cells := 0, slots := 0, locals := 68 }) s m args below meth c H locs 0 0 Q (F0 m pc ls [.int r.2])) : ∀ (H : Heap) (locs : List Loc) (ls : Array Slot), va_P D cls (mw md mc S) H → va_D A (mw md mc S) → va_S A s.heap H locs → lv_has ls 4 [(0, .ref (md 100)), (1, .int x1), (2, .int x2)] → W p l e ({ frames := 3, cells := 0, slots := 0, locals := 68 }) s m args below meth c H locs 0 0 Q (F0 m 0 ls []) := by
  intro H locs ls hP hD hS hl
  obtain ⟨hx, hb, hr, hml, hown, hts, hK, hA⟩ := id hC
  unfold m_rlistKind_J0 at Heq
  refine lv_iload_n hx hb d_rlistKind_0 rfl (lv_at hl 1 rfl) ?_
  obtain ⟨o_1, h_2, Heq⟩ := ob_some Heq
  have hFc := fr_all hD hS hA
  refine va_calli (va_runS (As := [.int x1]) (rest := []) ⟨hx, hb, hml, hown, hts⟩ (g_risReplica l D H.size h_2) (cw_s 1 hts kw_1641 kw_1639 kw_1640 kw_11 rfl rfl (by decide +kernel) ⟨Nat.le_of_ble_eq_true rfl, Nat.le_of_ble_eq_true rfl⟩) ⟨g_blind, fun U hU hW => g_pre hU hW hP hK hD⟩ rfl rfl hl.1 rfl (lv_room (Nat.le_of_ble_eq_true rfl)) d_rlistKind_1 ⟨Nat.le_of_ble_eq_true rfl, Nat.le_of_ble_eq_true rfl⟩) hS (fun q _ h => hFc q h) hFc (fun rz u t H1 locs ht hvm hw hB hz1 hk1 hS => ?_)
  obtain ⟨hP, -, hD1⟩ := hB
  rw [ht] at hP
  have hD := hD1.weaken (fun _ q _ h => hFc q.1 h)
  generalize H1 = H at hP hS ⊢
  refine W.cs (cells' := 0) (slots' := 0) rfl rfl ?_
  subst hw
  refine lv_if_ne (tgt := 9) hx hb d_rlistKind_4 (by decide) (fun c_3 => ?_) (fun c_3 => ?_)
  · replace Heq := (if_neg c_3).symm.trans Heq
    refine lv_aload_n hx hb d_rlistKind_9 rfl (lv_at hl 0 rfl) ?_
    refine lv_iload_n hx hb d_rlistKind_10 rfl (lv_at hl 1 rfl) ?_
    refine lv_iload_n hx hb d_rlistKind_11 rfl (lv_at hl 2 rfl) ?_
    obtain ⟨o_4, h_5, Heq⟩ := ob_some Heq
    have hFc := fr_all hD hS hA
    refine va_calli (va_runV (As := [.int x1, .int x2]) (rest := []) ⟨hx, hb, hml, hown, hts⟩ (g_rkindOf l D H.size h_5) (cw_v 2 hts kw_1648 kw_1645 kw_1647 kp_31 kw_11 rfl rfl (by decide +kernel) ⟨Nat.le_of_ble_eq_true rfl, Nat.le_of_ble_eq_true rfl⟩) ⟨g_blind, va_recv hK hP (ci := 12) (q0 := 0) rfl rfl, fun U hU hW => g_pre hU hW hP hK hD⟩ rfl rfl hl.1 rfl (lv_room (Nat.le_of_ble_eq_true rfl)) d_rlistKind_12 ⟨Nat.le_of_ble_eq_true rfl, Nat.le_of_ble_eq_true rfl⟩) hS (fun q _ h => hFc q h) hFc (fun rz u t H1 locs ht hvm hw hB hz1 hk1 hS => ?_)
    obtain ⟨hP, -, hD1⟩ := hB
    rw [ht] at hP
    have hD := hD1.weaken (fun _ q _ h => hFc q.1 h)
    generalize H1 = H at hP hS ⊢
    refine W.cs (cells' := 0) (slots' := 0) rfl rfl ?_
    subst hw
    refine lv_istore_n (lv' := [(3, .int o_4.2), (0, .ref (md 100)), (1, .int x1), (2, .int x2)]) hx hb d_rlistKind_15 rfl hl (by decide) rfl (fun ls hl => ?_)
    refine lv_iload_n hx hb d_rlistKind_16 rfl (lv_at hl 0 rfl) ?_
    refine lv_bipush (v := 6) hx hb d_rlistKind_17 (by decide) ?_
    refine lv_icmp_ne (tgt := 26) hx hb d_rlistKind_19 (by decide) (fun c_6 => ?_) (fun c_6 => ?_)
    · replace Heq := (if_neg c_6).symm.trans Heq
      refine lv_iload_n hx hb d_rlistKind_26 rfl (lv_at hl 0 rfl) ?_
      refine lv_if_ge (tgt := 34) hx hb d_rlistKind_27 (by decide) (fun c_7 => ?_) (fun c_7 => ?_)
      · replace Heq := (if_pos c_7).symm.trans Heq
        refine lv_iconst (v := 0) hx hb d_rlistKind_34 (by decide) ?_
        exact w_rlistKind_J35 hC Heq Kr _ _ _ hP hD hS (lv_sub hl [1] rfl)
      · replace Heq := (if_neg c_7).symm.trans Heq
        refine lv_iconst (v := 2) hx hb d_rlistKind_30 (by decide) ?_
        refine lv_goto (tgt := 35) hx hb d_rlistKind_31 (by decide) ?_
        exact w_rlistKind_J35 hC Heq Kr _ _ _ hP hD hS (lv_sub hl [1] rfl)
    · replace Heq := (if_pos c_6).symm.trans Heq
      refine lv_iconst (v := 1) hx hb d_rlistKind_22 (by decide) ?_
      refine lv_goto (tgt := 35) hx hb d_rlistKind_23 (by decide) ?_
      exact w_rlistKind_J35 hC Heq Kr _ _ _ hP hD hS (lv_sub hl [1] rfl)
  · replace Heq := (if_pos c_3).symm.trans Heq
    refine lv_iconst (v := 1) hx hb d_rlistKind_7 (by decide) ?_
    exact Kr _ (Option.some.inj Heq).symm 8 _ _ _ d_rlistKind_8 hP hD hS
def m_rlistKind (S : MS) (x1 : Int32) (x2 : Int32) : Option (MS × Int32) := m_rlistKind_J0 S x1 x2
theorem g_rlistKind (l : Launch) (D : va_G) (sz : Nat) {md : Nat → Nat} {mc : Nat → ClassId} {S : MS} {x1 : Int32} {x2 : Int32} {o : MS × Int32} (Heq : m_rlistKind S x1 x2 = some o) : Met l ⟨"JoinedTreesModel", "listKind", "(II)I"⟩ (Cond.code ⟨"JoinedTreesModel", "listKind", "(II)I"⟩ prog_14_method_68_code 4 (some .int) :: gb) ({ frames := 3, cells := 0, slots := 0, locals := 68 }) (gPc D (mw md mc S) (mty mc) sz [.ref (md 100), .int x1, .int x2]) (va_Qi (fun (r : Int32) (_ : Unit) => r = o.2) (fun _ t => gO D (mw md mc o.1) (mty mc) (va_A (mw md mc S) sz) t) (va_A (mw md mc S) sz)) 0 0 (va_A (mw md mc S) sz) := by
  refine Met.ofW (cc := prog_14_method_68_code) (maxL := 4) (ret := (some .int)) (by decide) rfl ?_
  intro p e s m args below meth c s₁ B hml hv
  obtain ⟨rfl, hsz, hP, hK, hD0⟩ := hv
  have hx := B.exec
  have hb := B.bytes
  have hr := B.returns
  have hts : ∀ w9 ∈ gb, w9.before [.ref (md 100), .int x1, .int x2].toArray s = true := fun w9 h => atoms_spec (ws := Cond.code ⟨"JoinedTreesModel", "listKind", "(II)I"⟩ prog_14_method_68_code 4 (some .int) :: gb) B.pre w9 (List.mem_cons_of_mem _ h)
  have hown : s.vm.findClass "JoinedTreesModel" = some m.cls := findClass_of_methodNamed B.named
  have hlocks := B.notSynchronized
  subst hsz
  have hD := hD0.self (sz := s.heap.size)
  generalize hAe : va_A (mw md mc S) s.heap.size = A at hD ⊢
  have hA : ∀ q : Nat, s.heap.size ≤ q → A q := fun q h => by rw [← hAe]; exact Or.inr h
  have hS : va_S A s.heap s.heap [] := va_S.rf
  have hl := lv_entry ([.ref (md 100), .int x1, .int x2]) (n := 4) (Nat.le_of_ble_eq_true rfl)
  rw [lg_entry_eq]
  generalize (lg_sl ([.ref (md 100), .int x1, .int x2]) ++ List.replicate (4 - (lg_sl ([.ref (md 100), .int x1, .int x2])).length) Slot.unset).toArray = ls at hl ⊢
  have hl : lv_has ls 4 [(0, .ref (md 100)), (1, .int x1), (2, .int x2)] := hl
  refine w_rlistKind_J0 ⟨hx, hb, hr, hml, hown, hts, hK, hA⟩ Heq (fun r h pc H locs ls hd hP hD hS => ?_) _ _ _ hP hD hS (lv_sub hl [0, 1, 2] rfl)
  subst h
  exact W.iret hx hb hr (fun t ht hW => ⟨⟨_, (), rfl, rfl, by rw [ht]; exact hP, va_K.moved hW.alike hK, hD⟩, hS.F ht⟩) hS.2.2 hd
