def m_rmember_J75 (S : MS) : Option MS := some (S.setI 68 1)
theorem d_rmember_0 : decode prog_14_method_46_code 0 = .ok (.aload_n 0, 1) := by decide +kernel
theorem d_rmember_1 : decode prog_14_method_46_code 1 = .ok (.invokevirtual 342, 3) := by decide +kernel
theorem d_rmember_4 : decode prog_14_method_46_code 4 = .ok (.aload_n 0, 1) := by decide +kernel
theorem d_rmember_5 : decode prog_14_method_46_code 5 = .ok (.invokevirtual 316, 3) := by decide +kernel
theorem d_rmember_8 : decode prog_14_method_46_code 8 = .ok (.bipush 34, 2) := by decide +kernel
theorem d_rmember_10 : decode prog_14_method_46_code 10 = .ok (.if_icmp .eq 9, 3) := by decide +kernel
theorem d_rmember_19 : decode prog_14_method_46_code 19 = .ok (.aload_n 0, 1) := by decide +kernel
theorem d_rmember_20 : decode prog_14_method_46_code 20 = .ok (.dup, 1) := by decide +kernel
theorem d_rmember_21 : decode prog_14_method_46_code 21 = .ok (.getfield 313, 3) := by decide +kernel
theorem d_rmember_24 : decode prog_14_method_46_code 24 = .ok (.iconst 1, 1) := by decide +kernel
theorem d_rmember_25 : decode prog_14_method_46_code 25 = .ok (.iadd, 1) := by decide +kernel
theorem d_rmember_26 : decode prog_14_method_46_code 26 = .ok (.putfield 313, 3) := by decide +kernel
theorem d_rmember_29 : decode prog_14_method_46_code 29 = .ok (.aload_n 0, 1) := by decide +kernel
theorem d_rmember_30 : decode prog_14_method_46_code 30 = .ok (.bipush 64, 2) := by decide +kernel
theorem d_rmember_32 : decode prog_14_method_46_code 32 = .ok (.invokevirtual 361, 3) := by decide +kernel
theorem d_rmember_35 : decode prog_14_method_46_code 35 = .ok (.istore_n 1, 1) := by decide +kernel
theorem d_rmember_36 : decode prog_14_method_46_code 36 = .ok (.aload_n 0, 1) := by decide +kernel
theorem d_rmember_37 : decode prog_14_method_46_code 37 = .ok (.getfield 332, 3) := by decide +kernel
theorem d_rmember_40 : decode prog_14_method_46_code 40 = .ok (.iload_n 1, 1) := by decide +kernel
theorem d_rmember_41 : decode prog_14_method_46_code 41 = .ok (.isub, 1) := by decide +kernel
theorem d_rmember_42 : decode prog_14_method_46_code 42 = .ok (.istore_n 2, 1) := by decide +kernel
theorem d_rmember_43 : decode prog_14_method_46_code 43 = .ok (.aload_n 0, 1) := by decide +kernel
theorem d_rmember_44 : decode prog_14_method_46_code 44 = .ok (.getfield 324, 3) := by decide +kernel
theorem d_rmember_47 : decode prog_14_method_46_code 47 = .ok (.ifCond .eq 4, 3) := by decide +kernel
theorem d_rmember_51 : decode prog_14_method_46_code 51 = .ok (.iload_n 2, 1) := by decide +kernel
theorem d_rmember_52 : decode prog_14_method_46_code 52 = .ok (.ifCond .eq 23, 3) := by decide +kernel
theorem d_rmember_75 : decode prog_14_method_46_code 75 = .ok (.aload_n 0, 1) := by decide +kernel
theorem d_rmember_76 : decode prog_14_method_46_code 76 = .ok (.iconst 1, 1) := by decide +kernel
theorem d_rmember_77 : decode prog_14_method_46_code 77 = .ok (.putfield 324, 3) := by decide +kernel
theorem d_rmember_80 : decode prog_14_method_46_code 80 = .ok (.return_, 1) := by decide +kernel
set_option maxHeartbeats 4000000 in
set_option maxRecDepth 100000 in
theorem w_rmember_J75 {p : Program} {l : Launch} {e : Env} {s : State} {m : MethodId} {args : Array Value} {below : List Frame} {meth : Method} {c : Code} {A : Nat → Prop} {D : va_G} {md : Nat → Nat} {mc : Nat → ClassId} {Q : State → Prop} {sad sav : Nat → Nat} (hC : MCs sad sav "JoinedTreesModel" prog_14_method_46_code 3 none p s m args meth c A D mc) {S : MS} {o : MS} (Heq : m_rmember_J75 S = some o) (Kr : ∀ r : MS, o = r → ∀ (pc : Nat) (H : Heap) (locs : List Loc) (ls : Array Slot), decode prog_14_method_46_code pc = .ok (.return_, 1) → va_P D cls (mw md mc r) H → va_D A (mw md mc r) → va_S A s.heap H locs → W p l e ({ frames := 6, cells := 0, slots := 0, locals := 158 }) s m args below meth c H locs 0 0 Q (F0 m pc ls [])) : ∀ (H : Heap) (locs : List Loc) (ls : Array Slot), va_P D cls (mw md mc S) H → va_D A (mw md mc S) → va_S A s.heap H locs → lv_has ls 3 [(0, .ref (md 100))] → W p l e ({ frames := 6, cells := 0, slots := 0, locals := 158 }) s m args below meth c H locs 0 0 Q (F0 m 75 ls []) := by
  intro H locs ls hP hD hS hl
  obtain ⟨⟨hx, hb, hr, hml, hown, hts, hK, hA⟩, hE⟩ := id hC
  unfold m_rmember_J75 at Heq
  refine lv_aload_n hx hb d_rmember_75 rfl (lv_at hl 0 rfl) ?_
  refine lv_iconst (v := 1) hx hb d_rmember_76 (by decide) ?_
  refine va_put (D := D) (ci := 12) (v := .int 1) (ty := .boolean) (C := R_MM) (T := F_MM) (N := 77) hx hb hts i_MM t_MM t_MM_ok n_MM hown hK hP hD hS 0 rfl rfl 68 (by decide) (hts _ kw_1450) (fun _ h9 => h9) rfl (by decide +kernel) (by decide) (by decide) (Nat.le_of_ble_eq_true rfl) d_rmember_77 (fun H locs hP hD hS => ?_)
  rw [mw_I68] at hP hD
  exact Kr _ (Option.some.inj Heq).symm 80 _ _ _ d_rmember_80 hP hD hS
def m_rmember_J0 (S : MS) : Option MS := ob (m_rskip S) (fun o_1 => ob (m_rsign o_1) (fun o_3 => (if o_3.2 = 34 then ob (m_rstring (o_3.1.setI 66 ((o_3.1.i 66) + 1)) 64) (fun o_6 => (if o_6.1.i 68 = 0 then (if (o_6.1.i 65) - o_6.2 = 0 then m_rmember_J75 o_6.1 else gd ((o_6.1.i 67) - 1) 32 (ob (m_rkeyThere o_6.1 (o_6.1.a 63 (((o_6.1.i 67) - 1).toNatClampNeg)) o_6.2 ((o_6.1.i 65) - o_6.2)) (fun o_11 => (if o_11.2 = 0 then ob (m_rskip (o_11.1.setI 66 ((o_11.1.i 66) + 1))) (fun o_14 => ob (m_rsign o_14) (fun o_16 => (if o_16.2 = 58 then ob (m_rone (o_16.1.setI 66 ((o_16.1.i 66) + 1)) o_6.2 ((o_6.1.i 65) - o_6.2)) (fun o_19 => some o_19) else some (o_16.1.setI 68 1)))) else m_rmember_J75 o_11.1)))) else some o_6.1)) else some (o_3.1.setI 68 1))))
theorem d_rmember_55 : decode prog_14_method_46_code 55 = .ok (.aload_n 0, 1) := by decide +kernel
theorem d_rmember_56 : decode prog_14_method_46_code 56 = .ok (.aload_n 0, 1) := by decide +kernel
theorem d_rmember_57 : decode prog_14_method_46_code 57 = .ok (.getfield 163, 3) := by decide +kernel
theorem d_rmember_60 : decode prog_14_method_46_code 60 = .ok (.aload_n 0, 1) := by decide +kernel
theorem d_rmember_61 : decode prog_14_method_46_code 61 = .ok (.getfield 348, 3) := by decide +kernel
theorem d_rmember_64 : decode prog_14_method_46_code 64 = .ok (.iconst 1, 1) := by decide +kernel
theorem d_rmember_65 : decode prog_14_method_46_code 65 = .ok (.isub, 1) := by decide +kernel
theorem d_rmember_66 : decode prog_14_method_46_code 66 = .ok (.iaload, 1) := by decide +kernel
theorem d_rmember_67 : decode prog_14_method_46_code 67 = .ok (.iload_n 1, 1) := by decide +kernel
theorem d_rmember_68 : decode prog_14_method_46_code 68 = .ok (.iload_n 2, 1) := by decide +kernel
theorem d_rmember_69 : decode prog_14_method_46_code 69 = .ok (.invokevirtual 370, 3) := by decide +kernel
theorem d_rmember_72 : decode prog_14_method_46_code 72 = .ok (.ifCond .eq 9, 3) := by decide +kernel
theorem d_rmember_81 : decode prog_14_method_46_code 81 = .ok (.aload_n 0, 1) := by decide +kernel
theorem d_rmember_82 : decode prog_14_method_46_code 82 = .ok (.dup, 1) := by decide +kernel
theorem d_rmember_83 : decode prog_14_method_46_code 83 = .ok (.getfield 313, 3) := by decide +kernel
theorem d_rmember_86 : decode prog_14_method_46_code 86 = .ok (.iconst 1, 1) := by decide +kernel
theorem d_rmember_87 : decode prog_14_method_46_code 87 = .ok (.iadd, 1) := by decide +kernel
theorem d_rmember_88 : decode prog_14_method_46_code 88 = .ok (.putfield 313, 3) := by decide +kernel
theorem d_rmember_91 : decode prog_14_method_46_code 91 = .ok (.aload_n 0, 1) := by decide +kernel
theorem d_rmember_92 : decode prog_14_method_46_code 92 = .ok (.invokevirtual 342, 3) := by decide +kernel
theorem d_rmember_95 : decode prog_14_method_46_code 95 = .ok (.aload_n 0, 1) := by decide +kernel
theorem d_rmember_96 : decode prog_14_method_46_code 96 = .ok (.invokevirtual 316, 3) := by decide +kernel
theorem d_rmember_99 : decode prog_14_method_46_code 99 = .ok (.bipush 58, 2) := by decide +kernel
theorem d_rmember_101 : decode prog_14_method_46_code 101 = .ok (.if_icmp .eq 9, 3) := by decide +kernel
theorem d_rmember_110 : decode prog_14_method_46_code 110 = .ok (.aload_n 0, 1) := by decide +kernel
theorem d_rmember_111 : decode prog_14_method_46_code 111 = .ok (.dup, 1) := by decide +kernel
theorem d_rmember_112 : decode prog_14_method_46_code 112 = .ok (.getfield 313, 3) := by decide +kernel
theorem d_rmember_115 : decode prog_14_method_46_code 115 = .ok (.iconst 1, 1) := by decide +kernel
theorem d_rmember_116 : decode prog_14_method_46_code 116 = .ok (.iadd, 1) := by decide +kernel
theorem d_rmember_117 : decode prog_14_method_46_code 117 = .ok (.putfield 313, 3) := by decide +kernel
theorem d_rmember_120 : decode prog_14_method_46_code 120 = .ok (.aload_n 0, 1) := by decide +kernel
theorem d_rmember_121 : decode prog_14_method_46_code 121 = .ok (.iload_n 1, 1) := by decide +kernel
theorem d_rmember_122 : decode prog_14_method_46_code 122 = .ok (.iload_n 2, 1) := by decide +kernel
theorem d_rmember_123 : decode prog_14_method_46_code 123 = .ok (.invokevirtual 374, 3) := by decide +kernel
theorem d_rmember_126 : decode prog_14_method_46_code 126 = .ok (.return_, 1) := by decide +kernel
theorem d_rmember_104 : decode prog_14_method_46_code 104 = .ok (.aload_n 0, 1) := by decide +kernel
theorem d_rmember_105 : decode prog_14_method_46_code 105 = .ok (.iconst 1, 1) := by decide +kernel
theorem d_rmember_106 : decode prog_14_method_46_code 106 = .ok (.putfield 324, 3) := by decide +kernel
theorem d_rmember_109 : decode prog_14_method_46_code 109 = .ok (.return_, 1) := by decide +kernel
theorem d_rmember_50 : decode prog_14_method_46_code 50 = .ok (.return_, 1) := by decide +kernel
theorem d_rmember_13 : decode prog_14_method_46_code 13 = .ok (.aload_n 0, 1) := by decide +kernel
theorem d_rmember_14 : decode prog_14_method_46_code 14 = .ok (.iconst 1, 1) := by decide +kernel
theorem d_rmember_15 : decode prog_14_method_46_code 15 = .ok (.putfield 324, 3) := by decide +kernel
theorem d_rmember_18 : decode prog_14_method_46_code 18 = .ok (.return_, 1) := by decide +kernel
set_option maxHeartbeats 4000000 in
set_option maxRecDepth 100000 in
theorem w_rmember_J0 {p : Program} {l : Launch} {e : Env} {s : State} {m : MethodId} {args : Array Value} {below : List Frame} {meth : Method} {c : Code} {A : Nat → Prop} {D : va_G} {md : Nat → Nat} {mc : Nat → ClassId} {Q : State → Prop} {sad sav : Nat → Nat} (hC : MCs sad sav "JoinedTreesModel" prog_14_method_46_code 3 none p s m args meth c A D mc) {S : MS} {o : MS} (Heq : m_rmember_J0 S = some o) (Kr : ∀ r : MS, o = r → ∀ (pc : Nat) (H : Heap) (locs : List Loc) (ls : Array Slot), decode prog_14_method_46_code pc = .ok (.return_, 1) → va_P D cls (mw md mc r) H → va_D A (mw md mc r) → va_S A s.heap H locs → W p l e ({ frames := 6, cells := 0, slots := 0, locals := 158 }) s m args below meth c H locs 0 0 Q (F0 m pc ls [])) : ∀ (H : Heap) (locs : List Loc) (ls : Array Slot), va_P D cls (mw md mc S) H → va_D A (mw md mc S) → va_S A s.heap H locs → lv_has ls 3 [(0, .ref (md 100))] → W p l e ({ frames := 6, cells := 0, slots := 0, locals := 158 }) s m args below meth c H locs 0 0 Q (F0 m 0 ls []) := by
  intro H locs ls hP hD hS hl
  obtain ⟨⟨hx, hb, hr, hml, hown, hts, hK, hA⟩, hE⟩ := id hC
  unfold m_rmember_J0 at Heq
  refine lv_aload_n hx hb d_rmember_0 rfl (lv_at hl 0 rfl) ?_
  obtain ⟨o_1, h_2, Heq⟩ := ob_some Heq
  have hFc := fr_all hD hS hA
  refine va_callv (va_runV (As := []) (rest := []) ⟨hx, hb, hml, hown, hts⟩ (g_rskip l D H.size h_2) (cw_v 0 hts kw_1773 kw_1770 kw_1772 kp_56 kw_11 rfl rfl (by decide +kernel) ⟨Nat.le_of_ble_eq_true rfl, Nat.le_of_ble_eq_true rfl⟩) ⟨g_blind, va_recv hK hP (ci := 12) (q0 := 0) rfl rfl, fun U hU hW => g_pre hU hW hP hK hD⟩ rfl rfl hl.1 rfl (lv_room (Nat.le_of_ble_eq_true rfl)) d_rmember_1 ⟨Nat.le_of_ble_eq_true rfl, Nat.le_of_ble_eq_true rfl⟩) hS (fun q _ h => hFc q h) hFc (fun u t H1 locs ht hvm hw hB hz1 hk1 hS => ?_)
  obtain ⟨hP, -, hD1⟩ := hB
  rw [ht] at hP
  have hD := hD1.weaken (fun _ q _ h => hFc q.1 h)
  generalize H1 = H at hP hS ⊢
  refine W.cs (cells' := 0) (slots' := 0) rfl rfl ?_
  refine lv_aload_n hx hb d_rmember_4 rfl (lv_at hl 0 rfl) ?_
  obtain ⟨o_3, h_4, Heq⟩ := ob_some Heq
  have hFc := fr_all hD hS hA
  refine va_calli (va_runV (As := []) (rest := []) ⟨hx, hb, hml, hown, hts⟩ (g_rsign l D H.size h_4) (cw_v 0 hts kw_1777 kw_1774 kw_1776 kp_57 kw_11 rfl rfl (by decide +kernel) ⟨Nat.le_of_ble_eq_true rfl, Nat.le_of_ble_eq_true rfl⟩) ⟨g_blind, va_recv hK hP (ci := 12) (q0 := 0) rfl rfl, fun U hU hW => g_pre hU hW hP hK hD⟩ rfl rfl hl.1 rfl (lv_room (Nat.le_of_ble_eq_true rfl)) d_rmember_5 ⟨Nat.le_of_ble_eq_true rfl, Nat.le_of_ble_eq_true rfl⟩) hS (fun q _ h => hFc q h) hFc (fun rz u t H1 locs ht hvm hw hB hz1 hk1 hS => ?_)
  obtain ⟨hP, -, hD1⟩ := hB
  rw [ht] at hP
  have hD := hD1.weaken (fun _ q _ h => hFc q.1 h)
  generalize H1 = H at hP hS ⊢
  refine W.cs (cells' := 0) (slots' := 0) rfl rfl ?_
  subst hw
  refine lv_bipush (v := 34) hx hb d_rmember_8 (by decide) ?_
  refine lv_icmp_eq (tgt := 19) hx hb d_rmember_10 (by decide) (fun c_5 => ?_) (fun c_5 => ?_)
  · replace Heq := (if_pos c_5).symm.trans Heq
    refine lv_aload_n hx hb d_rmember_19 rfl (lv_at hl 0 rfl) ?_
    refine lv_dup hx hb d_rmember_20 rfl ?_
    refine va_get (D := D) (ci := 12) (v := .int (o_3.1.i 66)) (C := R_MM) (T := F_MM) (N := 77) hx hb hts i_MM hown hK hP 0 rfl rfl 66 (by decide) (hts _ kw_1448) (fun _ h9 => h9) rfl d_rmember_21 ?_
    refine lv_iconst (v := 1) hx hb d_rmember_24 (by decide) ?_
    refine lv_iadd hx hb d_rmember_25 ?_
    refine w_i (y := (o_3.1.i 66) + 1) rfl ?_
    refine va_put (D := D) (ci := 12) (v := .int ((o_3.1.i 66) + 1)) (ty := .int) (C := R_MM) (T := F_MM) (N := 77) hx hb hts i_MM t_MM t_MM_ok n_MM hown hK hP hD hS 0 rfl rfl 66 (by decide) (hts _ kw_1448) (fun _ h9 => h9) rfl (by decide +kernel) rfl rfl (Nat.le_of_ble_eq_true rfl) d_rmember_26 (fun H locs hP hD hS => ?_)
    rw [mw_I66] at hP hD
    refine lv_aload_n hx hb d_rmember_29 rfl (lv_at hl 0 rfl) ?_
    refine lv_bipush (v := 64) hx hb d_rmember_30 (by decide) ?_
    obtain ⟨o_6, h_7, Heq⟩ := ob_some Heq
    have hFc := fr_all hD hS hA
    refine va_calli (va_runV (As := [.int 64]) (rest := []) ⟨hx, hb, hml, hown, hts⟩ (g_rstring l D H.size h_7) (cw_v 1 hts kw_1790 kw_1787 kw_1789 kp_59 kw_11 rfl rfl (by decide +kernel) ⟨Nat.le_of_ble_eq_true rfl, Nat.le_of_ble_eq_true rfl⟩) ⟨g_blind, va_recv hK hP (ci := 12) (q0 := 0) rfl rfl, fun U hU hW => g_pre hU hW hP hK hD⟩ rfl rfl hl.1 rfl (lv_room (Nat.le_of_ble_eq_true rfl)) d_rmember_32 ⟨Nat.le_of_ble_eq_true rfl, Nat.le_of_ble_eq_true rfl⟩) hS (fun q _ h => hFc q h) hFc (fun rz u t H1 locs ht hvm hw hB hz1 hk1 hS => ?_)
    obtain ⟨hP, -, hD1⟩ := hB
    rw [ht] at hP
    have hD := hD1.weaken (fun _ q _ h => hFc q.1 h)
    generalize H1 = H at hP hS ⊢
    refine W.cs (cells' := 0) (slots' := 0) rfl rfl ?_
    subst hw
    refine lv_istore_n (lv' := [(1, .int o_6.2), (0, .ref (md 100))]) hx hb d_rmember_35 rfl hl (by decide) rfl (fun ls hl => ?_)
    refine lv_aload_n hx hb d_rmember_36 rfl (lv_at hl 1 rfl) ?_
    refine va_get (D := D) (ci := 12) (v := .int (o_6.1.i 65)) (C := R_MM) (T := F_MM) (N := 77) hx hb hts i_MM hown hK hP 0 rfl rfl 65 (by decide) (hts _ kw_1447) (fun _ h9 => h9) rfl d_rmember_37 ?_
    refine lv_iload_n hx hb d_rmember_40 rfl (lv_at hl 0 rfl) ?_
    refine lv_isub hx hb d_rmember_41 ?_
    refine w_i (y := (o_6.1.i 65) - o_6.2) rfl ?_
    refine lv_istore_n (lv' := [(2, .int ((o_6.1.i 65) - o_6.2)), (1, .int o_6.2), (0, .ref (md 100))]) hx hb d_rmember_42 rfl hl (by decide) rfl (fun ls hl => ?_)
    refine lv_aload_n hx hb d_rmember_43 rfl (lv_at hl 2 rfl) ?_
    refine va_get (D := D) (ci := 12) (v := .int (o_6.1.i 68)) (C := R_MM) (T := F_MM) (N := 77) hx hb hts i_MM hown hK hP 0 rfl rfl 68 (by decide) (hts _ kw_1450) (fun _ h9 => h9) rfl d_rmember_44 ?_
    refine lv_if_eq (tgt := 51) hx hb d_rmember_47 (by decide) (fun c_8 => ?_) (fun c_8 => ?_)
    · replace Heq := (if_pos c_8).symm.trans Heq
      refine lv_iload_n hx hb d_rmember_51 rfl (lv_at hl 0 rfl) ?_
      refine lv_if_eq (tgt := 75) hx hb d_rmember_52 (by decide) (fun c_9 => ?_) (fun c_9 => ?_)
      · replace Heq := (if_pos c_9).symm.trans Heq
        exact w_rmember_J75 hC Heq Kr _ _ _ hP hD hS (lv_sub hl [2] rfl)
      · replace Heq := (if_neg c_9).symm.trans Heq
        refine lv_aload_n hx hb d_rmember_55 rfl (lv_at hl 2 rfl) ?_
        refine lv_aload_n hx hb d_rmember_56 rfl (lv_at hl 2 rfl) ?_
        refine va_get (D := D) (ci := 12) (v := .ref (md 63)) (C := R_MM) (T := F_MM) (N := 77) hx hb hts i_MM hown hK hP 0 rfl rfl 63 (by decide) (hts _ kw_1445) (fun _ h9 => h9) rfl d_rmember_57 ?_
        refine lv_aload_n hx hb d_rmember_60 rfl (lv_at hl 2 rfl) ?_
        refine va_get (D := D) (ci := 12) (v := .int (o_6.1.i 67)) (C := R_MM) (T := F_MM) (N := 77) hx hb hts i_MM hown hK hP 0 rfl rfl 67 (by decide) (hts _ kw_1449) (fun _ h9 => h9) rfl d_rmember_61 ?_
        refine lv_iconst (v := 1) hx hb d_rmember_64 (by decide) ?_
        refine lv_isub hx hb d_rmember_65 ?_
        refine w_i (y := (o_6.1.i 67) - 1) rfl ?_
        obtain ⟨hi_10, Heq⟩ := gd_some Heq
        refine va_iald hx hb hK hP 45 0 rfl rfl (i := (o_6.1.i 67) - 1) hi_10 d_rmember_66 ?_
        refine w_i (y := o_6.1.a 63 (((o_6.1.i 67) - 1).toNatClampNeg)) rfl ?_
        refine lv_iload_n hx hb d_rmember_67 rfl (lv_at hl 1 rfl) ?_
        refine lv_iload_n hx hb d_rmember_68 rfl (lv_at hl 0 rfl) ?_
        obtain ⟨o_11, h_12, Heq⟩ := ob_some Heq
        have hFc := fr_all hD hS hA
        refine va_calli (va_runV (As := [.int (o_6.1.a 63 (((o_6.1.i 67) - 1).toNatClampNeg)), .int o_6.2, .int ((o_6.1.i 65) - o_6.2)]) (rest := []) ⟨hx, hb, hml, hown, hts⟩ (g_rkeyThere l D H.size h_12) (cw_v 3 hts kw_1807 kw_1804 kw_1806 kp_62 kw_11 rfl rfl (by decide +kernel) ⟨Nat.le_of_ble_eq_true rfl, Nat.le_of_ble_eq_true rfl⟩) ⟨g_blind, va_recv hK hP (ci := 12) (q0 := 0) rfl rfl, fun U hU hW => g_pre hU hW hP hK hD⟩ rfl rfl hl.1 rfl (lv_room (Nat.le_of_ble_eq_true rfl)) d_rmember_69 ⟨Nat.le_of_ble_eq_true rfl, Nat.le_of_ble_eq_true rfl⟩) hS (fun q _ h => hFc q h) hFc (fun rz u t H1 locs ht hvm hw hB hz1 hk1 hS => ?_)
        obtain ⟨hP, -, hD1⟩ := hB
        rw [ht] at hP
        have hD := hD1.weaken (fun _ q _ h => hFc q.1 h)
        generalize H1 = H at hP hS ⊢
        refine W.cs (cells' := 0) (slots' := 0) rfl rfl ?_
        subst hw
        refine lv_if_eq (tgt := 81) hx hb d_rmember_72 (by decide) (fun c_13 => ?_) (fun c_13 => ?_)
        · replace Heq := (if_pos c_13).symm.trans Heq
          refine lv_aload_n hx hb d_rmember_81 rfl (lv_at hl 2 rfl) ?_
          refine lv_dup hx hb d_rmember_82 rfl ?_
          refine va_get (D := D) (ci := 12) (v := .int (o_11.1.i 66)) (C := R_MM) (T := F_MM) (N := 77) hx hb hts i_MM hown hK hP 0 rfl rfl 66 (by decide) (hts _ kw_1448) (fun _ h9 => h9) rfl d_rmember_83 ?_
          refine lv_iconst (v := 1) hx hb d_rmember_86 (by decide) ?_
          refine lv_iadd hx hb d_rmember_87 ?_
          refine w_i (y := (o_11.1.i 66) + 1) rfl ?_
          refine va_put (D := D) (ci := 12) (v := .int ((o_11.1.i 66) + 1)) (ty := .int) (C := R_MM) (T := F_MM) (N := 77) hx hb hts i_MM t_MM t_MM_ok n_MM hown hK hP hD hS 0 rfl rfl 66 (by decide) (hts _ kw_1448) (fun _ h9 => h9) rfl (by decide +kernel) rfl rfl (Nat.le_of_ble_eq_true rfl) d_rmember_88 (fun H locs hP hD hS => ?_)
          rw [mw_I66] at hP hD
          refine lv_aload_n hx hb d_rmember_91 rfl (lv_at hl 2 rfl) ?_
          obtain ⟨o_14, h_15, Heq⟩ := ob_some Heq
          have hFc := fr_all hD hS hA
          refine va_callv (va_runV (As := []) (rest := []) ⟨hx, hb, hml, hown, hts⟩ (g_rskip l D H.size h_15) (cw_v 0 hts kw_1773 kw_1770 kw_1772 kp_56 kw_11 rfl rfl (by decide +kernel) ⟨Nat.le_of_ble_eq_true rfl, Nat.le_of_ble_eq_true rfl⟩) ⟨g_blind, va_recv hK hP (ci := 12) (q0 := 0) rfl rfl, fun U hU hW => g_pre hU hW hP hK hD⟩ rfl rfl hl.1 rfl (lv_room (Nat.le_of_ble_eq_true rfl)) d_rmember_92 ⟨Nat.le_of_ble_eq_true rfl, Nat.le_of_ble_eq_true rfl⟩) hS (fun q _ h => hFc q h) hFc (fun u t H1 locs ht hvm hw hB hz1 hk1 hS => ?_)
          obtain ⟨hP, -, hD1⟩ := hB
          rw [ht] at hP
          have hD := hD1.weaken (fun _ q _ h => hFc q.1 h)
          generalize H1 = H at hP hS ⊢
          refine W.cs (cells' := 0) (slots' := 0) rfl rfl ?_
          refine lv_aload_n hx hb d_rmember_95 rfl (lv_at hl 2 rfl) ?_
          obtain ⟨o_16, h_17, Heq⟩ := ob_some Heq
          have hFc := fr_all hD hS hA
          refine va_calli (va_runV (As := []) (rest := []) ⟨hx, hb, hml, hown, hts⟩ (g_rsign l D H.size h_17) (cw_v 0 hts kw_1777 kw_1774 kw_1776 kp_57 kw_11 rfl rfl (by decide +kernel) ⟨Nat.le_of_ble_eq_true rfl, Nat.le_of_ble_eq_true rfl⟩) ⟨g_blind, va_recv hK hP (ci := 12) (q0 := 0) rfl rfl, fun U hU hW => g_pre hU hW hP hK hD⟩ rfl rfl hl.1 rfl (lv_room (Nat.le_of_ble_eq_true rfl)) d_rmember_96 ⟨Nat.le_of_ble_eq_true rfl, Nat.le_of_ble_eq_true rfl⟩) hS (fun q _ h => hFc q h) hFc (fun rz u t H1 locs ht hvm hw hB hz1 hk1 hS => ?_)
          obtain ⟨hP, -, hD1⟩ := hB
          rw [ht] at hP
          have hD := hD1.weaken (fun _ q _ h => hFc q.1 h)
          generalize H1 = H at hP hS ⊢
          refine W.cs (cells' := 0) (slots' := 0) rfl rfl ?_
          subst hw
          refine lv_bipush (v := 58) hx hb d_rmember_99 (by decide) ?_
          refine lv_icmp_eq (tgt := 110) hx hb d_rmember_101 (by decide) (fun c_18 => ?_) (fun c_18 => ?_)
          · replace Heq := (if_pos c_18).symm.trans Heq
            refine lv_aload_n hx hb d_rmember_110 rfl (lv_at hl 2 rfl) ?_
            refine lv_dup hx hb d_rmember_111 rfl ?_
            refine va_get (D := D) (ci := 12) (v := .int (o_16.1.i 66)) (C := R_MM) (T := F_MM) (N := 77) hx hb hts i_MM hown hK hP 0 rfl rfl 66 (by decide) (hts _ kw_1448) (fun _ h9 => h9) rfl d_rmember_112 ?_
            refine lv_iconst (v := 1) hx hb d_rmember_115 (by decide) ?_
            refine lv_iadd hx hb d_rmember_116 ?_
            refine w_i (y := (o_16.1.i 66) + 1) rfl ?_
            refine va_put (D := D) (ci := 12) (v := .int ((o_16.1.i 66) + 1)) (ty := .int) (C := R_MM) (T := F_MM) (N := 77) hx hb hts i_MM t_MM t_MM_ok n_MM hown hK hP hD hS 0 rfl rfl 66 (by decide) (hts _ kw_1448) (fun _ h9 => h9) rfl (by decide +kernel) rfl rfl (Nat.le_of_ble_eq_true rfl) d_rmember_117 (fun H locs hP hD hS => ?_)
            rw [mw_I66] at hP hD
            refine lv_aload_n hx hb d_rmember_120 rfl (lv_at hl 2 rfl) ?_
            refine lv_iload_n hx hb d_rmember_121 rfl (lv_at hl 1 rfl) ?_
            refine lv_iload_n hx hb d_rmember_122 rfl (lv_at hl 0 rfl) ?_
            obtain ⟨o_19, h_20, Heq⟩ := ob_some Heq
            have hFc := fr_all hD hS hA
            refine va_callv (va_runV (As := [.int o_6.2, .int ((o_6.1.i 65) - o_6.2)]) (rest := []) ⟨hx, hb, hml, hown, hts⟩ (g_rone l D H.size (sad := sad) (sav := sav) h_20) (cw_v 2 hts kw_1769 kw_1766 kw_1768 kp_55 kw_11 rfl rfl (by decide +kernel) ⟨Nat.le_of_ble_eq_true rfl, Nat.le_of_ble_eq_true rfl⟩) ⟨gs_blind, va_recv hK hP (ci := 12) (q0 := 0) rfl rfl, fun U hU hW => gs_pre hU hW hP hK hD hE hS hFc⟩ rfl rfl hl.1 rfl (lv_room (Nat.le_of_ble_eq_true rfl)) d_rmember_123 ⟨Nat.le_of_ble_eq_true rfl, Nat.le_of_ble_eq_true rfl⟩) hS (fun q _ h => hFc q h) hFc (fun u t H1 locs ht hvm hw hB hz1 hk1 hS => ?_)
            obtain ⟨hP, -, hD1⟩ := hB
            rw [ht] at hP
            have hD := hD1.weaken (fun _ q _ h => hFc q.1 h)
            generalize H1 = H at hP hS ⊢
            refine W.cs (cells' := 0) (slots' := 0) rfl rfl ?_
            exact Kr _ (Option.some.inj Heq).symm 126 _ _ _ d_rmember_126 hP hD hS
          · replace Heq := (if_neg c_18).symm.trans Heq
            refine lv_aload_n hx hb d_rmember_104 rfl (lv_at hl 2 rfl) ?_
            refine lv_iconst (v := 1) hx hb d_rmember_105 (by decide) ?_
            refine va_put (D := D) (ci := 12) (v := .int 1) (ty := .boolean) (C := R_MM) (T := F_MM) (N := 77) hx hb hts i_MM t_MM t_MM_ok n_MM hown hK hP hD hS 0 rfl rfl 68 (by decide) (hts _ kw_1450) (fun _ h9 => h9) rfl (by decide +kernel) (by decide) (by decide) (Nat.le_of_ble_eq_true rfl) d_rmember_106 (fun H locs hP hD hS => ?_)
            rw [mw_I68] at hP hD
            exact Kr _ (Option.some.inj Heq).symm 109 _ _ _ d_rmember_109 hP hD hS
        · replace Heq := (if_neg c_13).symm.trans Heq
          exact w_rmember_J75 hC Heq Kr _ _ _ hP hD hS (lv_sub hl [2] rfl)
    · replace Heq := (if_neg c_8).symm.trans Heq
      exact Kr _ (Option.some.inj Heq).symm 50 _ _ _ d_rmember_50 hP hD hS
  · replace Heq := (if_neg c_5).symm.trans Heq
    refine lv_aload_n hx hb d_rmember_13 rfl (lv_at hl 0 rfl) ?_
    refine lv_iconst (v := 1) hx hb d_rmember_14 (by decide) ?_
    refine va_put (D := D) (ci := 12) (v := .int 1) (ty := .boolean) (C := R_MM) (T := F_MM) (N := 77) hx hb hts i_MM t_MM t_MM_ok n_MM hown hK hP hD hS 0 rfl rfl 68 (by decide) (hts _ kw_1450) (fun _ h9 => h9) rfl (by decide +kernel) (by decide) (by decide) (Nat.le_of_ble_eq_true rfl) d_rmember_15 (fun H locs hP hD hS => ?_)
    rw [mw_I68] at hP hD
    exact Kr _ (Option.some.inj Heq).symm 18 _ _ _ d_rmember_18 hP hD hS
def m_rmember (S : MS) : Option MS := m_rmember_J0 S
theorem g_rmember (l : Launch) (D : va_G) (sz : Nat) {sad sav : Nat → Nat} {md : Nat → Nat} {mc : Nat → ClassId} {S : MS} {o : MS} (Heq : m_rmember S = some o) : Met l ⟨"JoinedTreesModel", "member", "()V"⟩ (Cond.code ⟨"JoinedTreesModel", "member", "()V"⟩ prog_14_method_46_code 3 none :: gb) ({ frames := 6, cells := 0, slots := 0, locals := 158 }) (gPs sad sav D (mw md mc S) (mty mc) sz [.ref (md 100)]) (va_Qv (fun _ : Unit => True) (fun _ t => gO D (mw md mc o) (mty mc) (va_A (mw md mc S) sz) t) (va_A (mw md mc S) sz)) 0 0 (va_A (mw md mc S) sz) := by
  refine Met.ofW (cc := prog_14_method_46_code) (maxL := 3) (ret := none) (by decide) rfl ?_
  intro p e s m args below meth c s₁ B hml hv
  obtain ⟨rfl, hsz, hP, hK, hD0, hE⟩ := hv
  have hx := B.exec
  have hb := B.bytes
  have hr := B.returns
  have hts : ∀ w9 ∈ gb, w9.before [.ref (md 100)].toArray s = true := fun w9 h => atoms_spec (ws := Cond.code ⟨"JoinedTreesModel", "member", "()V"⟩ prog_14_method_46_code 3 none :: gb) B.pre w9 (List.mem_cons_of_mem _ h)
  have hown : s.vm.findClass "JoinedTreesModel" = some m.cls := findClass_of_methodNamed B.named
  have hlocks := B.notSynchronized
  subst hsz
  have hD := hD0.self (sz := s.heap.size)
  generalize hAe : va_A (mw md mc S) s.heap.size = A at hD hE ⊢
  have hA : ∀ q : Nat, s.heap.size ≤ q → A q := fun q h => by rw [← hAe]; exact Or.inr h
  have hS : va_S A s.heap s.heap [] := va_S.rf
  have hl := lv_entry ([.ref (md 100)]) (n := 3) (Nat.le_of_ble_eq_true rfl)
  rw [lg_entry_eq]
  generalize (lg_sl ([.ref (md 100)]) ++ List.replicate (3 - (lg_sl ([.ref (md 100)])).length) Slot.unset).toArray = ls at hl ⊢
  have hl : lv_has ls 3 [(0, .ref (md 100))] := hl
  refine w_rmember_J0 ⟨⟨hx, hb, hr, hml, hown, hts, hK, hA⟩, hE⟩ Heq (fun r h pc H locs ls hd hP hD hS => ?_) _ _ _ hP hD hS (lv_sub hl [0] rfl)
  subst h
  exact W.vret hx hb hr (fun t ht hW => ⟨⟨(), rfl, trivial, by rw [ht]; exact hP, va_K.moved hW.alike hK, hD⟩, hS.F ht⟩) hS.2.2 hd
