def m_rpoint_J37 (S : MS) : Option (MS × Int32) := some (S, 1)
theorem d_rpoint_0 : decode prog_14_method_35_code 0 = .ok (.iload_n 1, 1) := by decide +kernel
theorem d_rpoint_1 : decode prog_14_method_35_code 1 = .ok (.invokestatic 251, 3) := by decide +kernel
theorem d_rpoint_4 : decode prog_14_method_35_code 4 = .ok (.ifCond .eq 33, 3) := by decide +kernel
theorem d_rpoint_37 : decode prog_14_method_35_code 37 = .ok (.iconst 1, 1) := by decide +kernel
theorem d_rpoint_38 : decode prog_14_method_35_code 38 = .ok (.ireturn, 1) := by decide +kernel
set_option maxHeartbeats 4000000 in
set_option maxRecDepth 100000 in
theorem w_rpoint_J37 {p : Program} {l : Launch} {e : Env} {s : State} {m : MethodId} {args : Array Value} {below : List Frame} {meth : Method} {c : Code} {A : Nat → Prop} {D : va_G} {md : Nat → Nat} {mc : Nat → ClassId} {Q : State → Prop} (hC : MCx "JoinedTreesModel" prog_14_method_35_code 8 (some .int) p s m args meth c A D mc) {S : MS} {o : MS × Int32} (Heq : m_rpoint_J37 S = some o) (Kr : ∀ r : MS × Int32, o = r → ∀ (pc : Nat) (H : Heap) (locs : List Loc) (ls : Array Slot), decode prog_14_method_35_code pc = .ok (.ireturn, 1) → va_P D cls (mw md mc r.1) H → va_D A (mw md mc r.1) → va_S A s.heap H locs → W p l e ({ frames := 4, cells := 0, slots := 0, locals := 96 }) s m args below meth c H locs 0 0 Q (F0 m pc ls [.int r.2])) : ∀ (H : Heap) (locs : List Loc) (ls : Array Slot), va_P D cls (mw md mc S) H → va_D A (mw md mc S) → va_S A s.heap H locs → lv_has ls 8 [(0, .ref (md 100))] → W p l e ({ frames := 4, cells := 0, slots := 0, locals := 96 }) s m args below meth c H locs 0 0 Q (F0 m 37 ls []) := by
  intro H locs ls hP hD hS hl
  obtain ⟨hx, hb, hr, hml, hown, hts, hK, hA⟩ := id hC
  unfold m_rpoint_J37 at Heq
  refine lv_iconst (v := 1) hx hb d_rpoint_37 (by decide) ?_
  exact Kr _ (Option.some.inj Heq).symm 38 _ _ _ d_rpoint_38 hP hD hS
def m_rpoint_J125 (S : MS) (t0 : Int32) : Option (MS × Int32) := some (S, t0)
theorem d_rpoint_7 : decode prog_14_method_35_code 7 = .ok (.iload 4, 2) := by decide +kernel
theorem d_rpoint_9 : decode prog_14_method_35_code 9 = .ok (.iload_n 3, 1) := by decide +kernel
theorem d_rpoint_10 : decode prog_14_method_35_code 10 = .ok (.iconst (-1), 1) := by decide +kernel
theorem d_rpoint_11 : decode prog_14_method_35_code 11 = .ok (.if_icmp .ne 7, 3) := by decide +kernel
theorem d_rpoint_18 : decode prog_14_method_35_code 18 = .ok (.iconst 0, 1) := by decide +kernel
theorem d_rpoint_19 : decode prog_14_method_35_code 19 = .ok (.if_icmp .ne 18, 3) := by decide +kernel
theorem d_rpoint_22 : decode prog_14_method_35_code 22 = .ok (.iload_n 3, 1) := by decide +kernel
theorem d_rpoint_23 : decode prog_14_method_35_code 23 = .ok (.iconst (-1), 1) := by decide +kernel
theorem d_rpoint_24 : decode prog_14_method_35_code 24 = .ok (.if_icmp .ne 15, 3) := by decide +kernel
theorem d_rpoint_39 : decode prog_14_method_35_code 39 = .ok (.aload_n 0, 1) := by decide +kernel
theorem d_rpoint_40 : decode prog_14_method_35_code 40 = .ok (.iload_n 1, 1) := by decide +kernel
theorem d_rpoint_41 : decode prog_14_method_35_code 41 = .ok (.iload_n 2, 1) := by decide +kernel
theorem d_rpoint_42 : decode prog_14_method_35_code 42 = .ok (.invokevirtual 258, 3) := by decide +kernel
theorem d_rpoint_45 : decode prog_14_method_35_code 45 = .ok (.istore 6, 2) := by decide +kernel
theorem d_rpoint_47 : decode prog_14_method_35_code 47 = .ok (.iload 6, 2) := by decide +kernel
theorem d_rpoint_49 : decode prog_14_method_35_code 49 = .ok (.ifCond .lt 30, 3) := by decide +kernel
theorem d_rpoint_79 : decode prog_14_method_35_code 79 = .ok (.iload 6, 2) := by decide +kernel
theorem d_rpoint_81 : decode prog_14_method_35_code 81 = .ok (.ifCond .ge 6, 3) := by decide +kernel
theorem d_rpoint_87 : decode prog_14_method_35_code 87 = .ok (.iload_n 3, 1) := by decide +kernel
theorem d_rpoint_88 : decode prog_14_method_35_code 88 = .ok (.iconst (-1), 1) := by decide +kernel
theorem d_rpoint_89 : decode prog_14_method_35_code 89 = .ok (.if_icmp .ne 37, 3) := by decide +kernel
theorem d_rpoint_126 : decode prog_14_method_35_code 126 = .ok (.aload_n 0, 1) := by decide +kernel
theorem d_rpoint_127 : decode prog_14_method_35_code 127 = .ok (.iload_n 1, 1) := by decide +kernel
theorem d_rpoint_128 : decode prog_14_method_35_code 128 = .ok (.iload_n 2, 1) := by decide +kernel
theorem d_rpoint_129 : decode prog_14_method_35_code 129 = .ok (.iload_n 3, 1) := by decide +kernel
theorem d_rpoint_130 : decode prog_14_method_35_code 130 = .ok (.invokevirtual 287, 3) := by decide +kernel
theorem d_rpoint_133 : decode prog_14_method_35_code 133 = .ok (.istore 7, 2) := by decide +kernel
theorem d_rpoint_135 : decode prog_14_method_35_code 135 = .ok (.iload 7, 2) := by decide +kernel
theorem d_rpoint_137 : decode prog_14_method_35_code 137 = .ok (.ifCond .ge 6, 3) := by decide +kernel
theorem d_rpoint_143 : decode prog_14_method_35_code 143 = .ok (.aload_n 0, 1) := by decide +kernel
theorem d_rpoint_144 : decode prog_14_method_35_code 144 = .ok (.aload_n 0, 1) := by decide +kernel
theorem d_rpoint_145 : decode prog_14_method_35_code 145 = .ok (.getfield 19, 3) := by decide +kernel
theorem d_rpoint_148 : decode prog_14_method_35_code 148 = .ok (.aload_n 0, 1) := by decide +kernel
theorem d_rpoint_149 : decode prog_14_method_35_code 149 = .ok (.getfield 124, 3) := by decide +kernel
theorem d_rpoint_152 : decode prog_14_method_35_code 152 = .ok (.iload 7, 2) := by decide +kernel
theorem d_rpoint_154 : decode prog_14_method_35_code 154 = .ok (.iaload, 1) := by decide +kernel
theorem d_rpoint_155 : decode prog_14_method_35_code 155 = .ok (.iaload, 1) := by decide +kernel
theorem d_rpoint_156 : decode prog_14_method_35_code 156 = .ok (.putfield 302, 3) := by decide +kernel
theorem d_rpoint_159 : decode prog_14_method_35_code 159 = .ok (.aload_n 0, 1) := by decide +kernel
theorem d_rpoint_160 : decode prog_14_method_35_code 160 = .ok (.iload_n 1, 1) := by decide +kernel
theorem d_rpoint_161 : decode prog_14_method_35_code 161 = .ok (.iload_n 2, 1) := by decide +kernel
theorem d_rpoint_162 : decode prog_14_method_35_code 162 = .ok (.aload_n 0, 1) := by decide +kernel
theorem d_rpoint_163 : decode prog_14_method_35_code 163 = .ok (.getfield 302, 3) := by decide +kernel
theorem d_rpoint_166 : decode prog_14_method_35_code 166 = .ok (.invokevirtual 291, 3) := by decide +kernel
theorem d_rpoint_169 : decode prog_14_method_35_code 169 = .ok (.iconst 0, 1) := by decide +kernel
theorem d_rpoint_170 : decode prog_14_method_35_code 170 = .ok (.ireturn, 1) := by decide +kernel
theorem d_rpoint_140 : decode prog_14_method_35_code 140 = .ok (.iload 5, 2) := by decide +kernel
theorem d_rpoint_142 : decode prog_14_method_35_code 142 = .ok (.ireturn, 1) := by decide +kernel
theorem d_rpoint_92 : decode prog_14_method_35_code 92 = .ok (.aload_n 0, 1) := by decide +kernel
theorem d_rpoint_93 : decode prog_14_method_35_code 93 = .ok (.iconst 0, 1) := by decide +kernel
theorem d_rpoint_94 : decode prog_14_method_35_code 94 = .ok (.putfield 302, 3) := by decide +kernel
theorem d_rpoint_97 : decode prog_14_method_35_code 97 = .ok (.aload_n 0, 1) := by decide +kernel
theorem d_rpoint_98 : decode prog_14_method_35_code 98 = .ok (.iload_n 1, 1) := by decide +kernel
theorem d_rpoint_99 : decode prog_14_method_35_code 99 = .ok (.iload_n 2, 1) := by decide +kernel
theorem d_rpoint_100 : decode prog_14_method_35_code 100 = .ok (.aload_n 0, 1) := by decide +kernel
theorem d_rpoint_101 : decode prog_14_method_35_code 101 = .ok (.getfield 13, 3) := by decide +kernel
theorem d_rpoint_104 : decode prog_14_method_35_code 104 = .ok (.iconst 0, 1) := by decide +kernel
theorem d_rpoint_105 : decode prog_14_method_35_code 105 = .ok (.aload_n 0, 1) := by decide +kernel
theorem d_rpoint_106 : decode prog_14_method_35_code 106 = .ok (.getfield 185, 3) := by decide +kernel
theorem d_rpoint_109 : decode prog_14_method_35_code 109 = .ok (.invokevirtual 268, 3) := by decide +kernel
theorem d_rpoint_112 : decode prog_14_method_35_code 112 = .ok (.aload_n 0, 1) := by decide +kernel
theorem d_rpoint_113 : decode prog_14_method_35_code 113 = .ok (.getfield 210, 3) := by decide +kernel
theorem d_rpoint_116 : decode prog_14_method_35_code 116 = .ok (.ifCond .ne 8, 3) := by decide +kernel
theorem d_rpoint_124 : decode prog_14_method_35_code 124 = .ok (.iconst 0, 1) := by decide +kernel
theorem d_rpoint_125 : decode prog_14_method_35_code 125 = .ok (.ireturn, 1) := by decide +kernel
set_option maxHeartbeats 4000000 in
set_option maxRecDepth 100000 in
theorem w_rpoint_J125 {p : Program} {l : Launch} {e : Env} {s : State} {m : MethodId} {args : Array Value} {below : List Frame} {meth : Method} {c : Code} {A : Nat → Prop} {D : va_G} {md : Nat → Nat} {mc : Nat → ClassId} {Q : State → Prop} (hC : MCx "JoinedTreesModel" prog_14_method_35_code 8 (some .int) p s m args meth c A D mc) {S : MS} {t0 : Int32} {o : MS × Int32} (Heq : m_rpoint_J125 S t0 = some o) (Kr : ∀ r : MS × Int32, o = r → ∀ (pc : Nat) (H : Heap) (locs : List Loc) (ls : Array Slot), decode prog_14_method_35_code pc = .ok (.ireturn, 1) → va_P D cls (mw md mc r.1) H → va_D A (mw md mc r.1) → va_S A s.heap H locs → W p l e ({ frames := 4, cells := 0, slots := 0, locals := 96 }) s m args below meth c H locs 0 0 Q (F0 m pc ls [.int r.2])) : ∀ (H : Heap) (locs : List Loc) (ls : Array Slot), va_P D cls (mw md mc S) H → va_D A (mw md mc S) → va_S A s.heap H locs → lv_has ls 8 [(0, .ref (md 100))] → W p l e ({ frames := 4, cells := 0, slots := 0, locals := 96 }) s m args below meth c H locs 0 0 Q (F0 m 125 ls [.int t0]) := by
  intro H locs ls hP hD hS hl
  obtain ⟨hx, hb, hr, hml, hown, hts, hK, hA⟩ := id hC
  unfold m_rpoint_J125 at Heq
  exact Kr _ (Option.some.inj Heq).symm 125 _ _ _ d_rpoint_125 hP hD hS
def m_rpoint_J79 (S : MS) (x1 : Int32) (x2 : Int32) (x3 : Int32) (x5 : Int32) (x6 : Int32) : Option (MS × Int32) := (if 0 ≤ x6 then (if x3 = (-1) then ob (m_rkeyCandidates (S.setI 52 0) x1 x2 2 0 (S.i 5)) (fun o_10 => (if o_10.i 47 = 0 then m_rpoint_J125 o_10 x5 else m_rpoint_J125 o_10 0)) else ob (m_rat S x1 x2 x3) (fun o_3 => (if 0 ≤ o_3.2 then gd o_3.2 4000 (gd (o_3.1.a 48 o_3.2.toNatClampNeg) 4000 (ob (m_relementCandidates (o_3.1.setI 52 (o_3.1.a 8 ((o_3.1.a 48 o_3.2.toNatClampNeg).toNatClampNeg))) x1 x2 (o_3.1.a 8 ((o_3.1.a 48 o_3.2.toNatClampNeg).toNatClampNeg))) (fun o_8 => some (o_8, 0)))) else some (o_3.1, x5)))) else some (S, x5))
theorem d_rpoint_119 : decode prog_14_method_35_code 119 = .ok (.iload 5, 2) := by decide +kernel
theorem d_rpoint_121 : decode prog_14_method_35_code 121 = .ok (.goto 4, 3) := by decide +kernel
theorem d_rpoint_84 : decode prog_14_method_35_code 84 = .ok (.iload 5, 2) := by decide +kernel
theorem d_rpoint_86 : decode prog_14_method_35_code 86 = .ok (.ireturn, 1) := by decide +kernel
set_option maxHeartbeats 4000000 in
set_option maxRecDepth 100000 in
theorem w_rpoint_J79 {p : Program} {l : Launch} {e : Env} {s : State} {m : MethodId} {args : Array Value} {below : List Frame} {meth : Method} {c : Code} {A : Nat → Prop} {D : va_G} {md : Nat → Nat} {mc : Nat → ClassId} {Q : State → Prop} (hC : MCx "JoinedTreesModel" prog_14_method_35_code 8 (some .int) p s m args meth c A D mc) {S : MS} {x1 : Int32} {x2 : Int32} {x3 : Int32} {x5 : Int32} {x6 : Int32} {o : MS × Int32} (Heq : m_rpoint_J79 S x1 x2 x3 x5 x6 = some o) (Kr : ∀ r : MS × Int32, o = r → ∀ (pc : Nat) (H : Heap) (locs : List Loc) (ls : Array Slot), decode prog_14_method_35_code pc = .ok (.ireturn, 1) → va_P D cls (mw md mc r.1) H → va_D A (mw md mc r.1) → va_S A s.heap H locs → W p l e ({ frames := 4, cells := 0, slots := 0, locals := 96 }) s m args below meth c H locs 0 0 Q (F0 m pc ls [.int r.2])) : ∀ (H : Heap) (locs : List Loc) (ls : Array Slot), va_P D cls (mw md mc S) H → va_D A (mw md mc S) → va_S A s.heap H locs → lv_has ls 8 [(0, .ref (md 100)), (1, .int x1), (2, .int x2), (3, .int x3), (5, .int x5), (6, .int x6)] → W p l e ({ frames := 4, cells := 0, slots := 0, locals := 96 }) s m args below meth c H locs 0 0 Q (F0 m 79 ls []) := by
  intro H locs ls hP hD hS hl
  obtain ⟨hx, hb, hr, hml, hown, hts, hK, hA⟩ := id hC
  unfold m_rpoint_J79 at Heq
  refine lv_iload hx hb d_rpoint_79 (lv_at hl 5 rfl) ?_
  refine lv_if_ge (tgt := 87) hx hb d_rpoint_81 (by decide) (fun c_1 => ?_) (fun c_1 => ?_)
  · replace Heq := (if_pos c_1).symm.trans Heq
    refine lv_iload_n hx hb d_rpoint_87 rfl (lv_at hl 3 rfl) ?_
    refine lv_iconst (v := (-1)) hx hb d_rpoint_88 (by decide) ?_
    refine lv_icmp_ne (tgt := 126) hx hb d_rpoint_89 (by decide) (fun c_2 => ?_) (fun c_2 => ?_)
    · replace Heq := (if_neg c_2).symm.trans Heq
      refine lv_aload_n hx hb d_rpoint_126 rfl (lv_at hl 0 rfl) ?_
      refine lv_iload_n hx hb d_rpoint_127 rfl (lv_at hl 1 rfl) ?_
      refine lv_iload_n hx hb d_rpoint_128 rfl (lv_at hl 2 rfl) ?_
      refine lv_iload_n hx hb d_rpoint_129 rfl (lv_at hl 3 rfl) ?_
      obtain ⟨o_3, h_4, Heq⟩ := ob_some Heq
      have hFc := fr_all hD hS hA
      refine va_calli (va_runV (As := [.int x1, .int x2, .int x3]) (rest := []) ⟨hx, hb, hml, hown, hts⟩ (g_rat l D H.size h_4) (cw_v 3 hts kw_1713 kw_1710 kw_1712 kp_46 kw_11 rfl rfl (by decide +kernel) ⟨Nat.le_of_ble_eq_true rfl, Nat.le_of_ble_eq_true rfl⟩) ⟨g_blind, va_recv hK hP (ci := 12) (q0 := 0) rfl rfl, fun U hU hW => g_pre hU hW hP hK hD⟩ rfl rfl hl.1 rfl (lv_room (Nat.le_of_ble_eq_true rfl)) d_rpoint_130 ⟨Nat.le_of_ble_eq_true rfl, Nat.le_of_ble_eq_true rfl⟩) hS (fun q _ h => hFc q h) hFc (fun rz u t H1 locs ht hvm hw hB hz1 hk1 hS => ?_)
      obtain ⟨hP, -, hD1⟩ := hB
      rw [ht] at hP
      have hD := hD1.weaken (fun _ q _ h => hFc q.1 h)
      generalize H1 = H at hP hS ⊢
      refine W.cs (cells' := 0) (slots' := 0) rfl rfl ?_
      subst hw
      refine lv_istore (lv' := [(7, .int o_3.2), (0, .ref (md 100)), (1, .int x1), (2, .int x2), (3, .int x3), (5, .int x5), (6, .int x6)]) hx hb d_rpoint_133 hl (by decide) rfl (fun ls hl => ?_)
      refine lv_iload hx hb d_rpoint_135 (lv_at hl 0 rfl) ?_
      refine lv_if_ge (tgt := 143) hx hb d_rpoint_137 (by decide) (fun c_5 => ?_) (fun c_5 => ?_)
      · replace Heq := (if_pos c_5).symm.trans Heq
        refine lv_aload_n hx hb d_rpoint_143 rfl (lv_at hl 1 rfl) ?_
        refine lv_aload_n hx hb d_rpoint_144 rfl (lv_at hl 1 rfl) ?_
        refine va_get (D := D) (ci := 12) (v := .ref (md 8)) (C := R_MM) (T := F_MM) (N := 77) hx hb hts i_MM hown hK hP 0 rfl rfl 8 (by decide) (hts _ kw_1390) (fun _ h9 => h9) rfl d_rpoint_145 ?_
        refine lv_aload_n hx hb d_rpoint_148 rfl (lv_at hl 1 rfl) ?_
        refine va_get (D := D) (ci := 12) (v := .ref (md 48)) (C := R_MM) (T := F_MM) (N := 77) hx hb hts i_MM hown hK hP 0 rfl rfl 48 (by decide) (hts _ kw_1430) (fun _ h9 => h9) rfl d_rpoint_149 ?_
        refine lv_iload hx hb d_rpoint_152 (lv_at hl 0 rfl) ?_
        obtain ⟨hi_6, Heq⟩ := gd_some Heq
        refine va_iald hx hb hK hP 32 0 rfl rfl (i := o_3.2) hi_6 d_rpoint_154 ?_
        refine w_i (y := o_3.1.a 48 o_3.2.toNatClampNeg) rfl ?_
        obtain ⟨hi_7, Heq⟩ := gd_some Heq
        refine va_iald hx hb hK hP 4 0 rfl rfl (i := o_3.1.a 48 o_3.2.toNatClampNeg) hi_7 d_rpoint_155 ?_
        refine w_i (y := o_3.1.a 8 ((o_3.1.a 48 o_3.2.toNatClampNeg).toNatClampNeg)) rfl ?_
        refine va_put (D := D) (ci := 12) (v := .int (o_3.1.a 8 ((o_3.1.a 48 o_3.2.toNatClampNeg).toNatClampNeg))) (ty := .int) (C := R_MM) (T := F_MM) (N := 77) hx hb hts i_MM t_MM t_MM_ok n_MM hown hK hP hD hS 0 rfl rfl 52 (by decide) (hts _ kw_1434) (fun _ h9 => h9) rfl (by decide +kernel) rfl rfl (Nat.le_of_ble_eq_true rfl) d_rpoint_156 (fun H locs hP hD hS => ?_)
        rw [mw_I52] at hP hD
        refine lv_aload_n hx hb d_rpoint_159 rfl (lv_at hl 1 rfl) ?_
        refine lv_iload_n hx hb d_rpoint_160 rfl (lv_at hl 2 rfl) ?_
        refine lv_iload_n hx hb d_rpoint_161 rfl (lv_at hl 3 rfl) ?_
        refine lv_aload_n hx hb d_rpoint_162 rfl (lv_at hl 1 rfl) ?_
        refine va_get (D := D) (ci := 12) (v := .int (o_3.1.a 8 ((o_3.1.a 48 o_3.2.toNatClampNeg).toNatClampNeg))) (C := R_MM) (T := F_MM) (N := 77) hx hb hts i_MM hown hK hP 0 rfl rfl 52 (by decide) (hts _ kw_1434) (fun _ h9 => h9) rfl d_rpoint_163 ?_
        obtain ⟨o_8, h_9, Heq⟩ := ob_some Heq
        have hFc := fr_all hD hS hA
        refine va_callv (va_runV (As := [.int x1, .int x2, .int (o_3.1.a 8 ((o_3.1.a 48 o_3.2.toNatClampNeg).toNatClampNeg))]) (rest := []) ⟨hx, hb, hml, hown, hts⟩ (g_relementCandidates l D H.size h_9) (cw_v 3 hts kw_1725 kw_1722 kw_1724 kp_49 kw_11 rfl rfl (by decide +kernel) ⟨Nat.le_of_ble_eq_true rfl, Nat.le_of_ble_eq_true rfl⟩) ⟨g_blind, va_recv hK hP (ci := 12) (q0 := 0) rfl rfl, fun U hU hW => g_pre hU hW hP hK hD⟩ rfl rfl hl.1 rfl (lv_room (Nat.le_of_ble_eq_true rfl)) d_rpoint_166 ⟨Nat.le_of_ble_eq_true rfl, Nat.le_of_ble_eq_true rfl⟩) hS (fun q _ h => hFc q h) hFc (fun u t H1 locs ht hvm hw hB hz1 hk1 hS => ?_)
        obtain ⟨hP, -, hD1⟩ := hB
        rw [ht] at hP
        have hD := hD1.weaken (fun _ q _ h => hFc q.1 h)
        generalize H1 = H at hP hS ⊢
        refine W.cs (cells' := 0) (slots' := 0) rfl rfl ?_
        refine lv_iconst (v := 0) hx hb d_rpoint_169 (by decide) ?_
        exact Kr _ (Option.some.inj Heq).symm 170 _ _ _ d_rpoint_170 hP hD hS
      · replace Heq := (if_neg c_5).symm.trans Heq
        refine lv_iload hx hb d_rpoint_140 (lv_at hl 5 rfl) ?_
        exact Kr _ (Option.some.inj Heq).symm 142 _ _ _ d_rpoint_142 hP hD hS
    · replace Heq := (if_pos c_2).symm.trans Heq
      refine lv_aload_n hx hb d_rpoint_92 rfl (lv_at hl 0 rfl) ?_
      refine lv_iconst (v := 0) hx hb d_rpoint_93 (by decide) ?_
      refine va_put (D := D) (ci := 12) (v := .int 0) (ty := .int) (C := R_MM) (T := F_MM) (N := 77) hx hb hts i_MM t_MM t_MM_ok n_MM hown hK hP hD hS 0 rfl rfl 52 (by decide) (hts _ kw_1434) (fun _ h9 => h9) rfl (by decide +kernel) rfl rfl (Nat.le_of_ble_eq_true rfl) d_rpoint_94 (fun H locs hP hD hS => ?_)
      rw [mw_I52] at hP hD
      refine lv_aload_n hx hb d_rpoint_97 rfl (lv_at hl 0 rfl) ?_
      refine lv_iload_n hx hb d_rpoint_98 rfl (lv_at hl 1 rfl) ?_
      refine lv_iload_n hx hb d_rpoint_99 rfl (lv_at hl 2 rfl) ?_
      refine lv_aload_n hx hb d_rpoint_100 rfl (lv_at hl 0 rfl) ?_
      refine va_get (D := D) (ci := 12) (v := .ref (md 2)) (C := R_MM) (T := F_MM) (N := 77) hx hb hts i_MM hown hK hP 0 rfl rfl 2 (by decide) (hts _ kw_1384) (fun _ h9 => h9) rfl d_rpoint_101 ?_
      refine lv_iconst (v := 0) hx hb d_rpoint_104 (by decide) ?_
      refine lv_aload_n hx hb d_rpoint_105 rfl (lv_at hl 0 rfl) ?_
      refine va_get (D := D) (ci := 12) (v := .int (S.i 5)) (C := R_MM) (T := F_MM) (N := 77) hx hb hts i_MM hown hK hP 0 rfl rfl 5 (by decide) (hts _ kw_1387) (fun _ h9 => h9) rfl d_rpoint_106 ?_
      obtain ⟨o_10, h_11, Heq⟩ := ob_some Heq
      have hFc := fr_all hD hS hA
      refine va_callv (va_runV (As := [.int x1, .int x2, .ref (md 2), .int 0, .int (S.i 5)]) (rest := []) ⟨hx, hb, hml, hown, hts⟩ (g_rkeyCandidates l D H.size h_11) (cw_v 5 hts kw_1668 kw_1665 kw_1667 kp_36 kw_11 rfl rfl (by decide +kernel) ⟨Nat.le_of_ble_eq_true rfl, Nat.le_of_ble_eq_true rfl⟩) ⟨g_blind, va_recv hK hP (ci := 12) (q0 := 0) rfl rfl, fun U hU hW => g_pre hU hW hP hK hD⟩ rfl rfl hl.1 rfl (lv_room (Nat.le_of_ble_eq_true rfl)) d_rpoint_109 ⟨Nat.le_of_ble_eq_true rfl, Nat.le_of_ble_eq_true rfl⟩) hS (fun q _ h => hFc q h) hFc (fun u t H1 locs ht hvm hw hB hz1 hk1 hS => ?_)
      obtain ⟨hP, -, hD1⟩ := hB
      rw [ht] at hP
      have hD := hD1.weaken (fun _ q _ h => hFc q.1 h)
      generalize H1 = H at hP hS ⊢
      refine W.cs (cells' := 0) (slots' := 0) rfl rfl ?_
      refine lv_aload_n hx hb d_rpoint_112 rfl (lv_at hl 0 rfl) ?_
      refine va_get (D := D) (ci := 12) (v := .int (o_10.i 47)) (C := R_MM) (T := F_MM) (N := 77) hx hb hts i_MM hown hK hP 0 rfl rfl 47 (by decide) (hts _ kw_1429) (fun _ h9 => h9) rfl d_rpoint_113 ?_
      refine lv_if_ne (tgt := 124) hx hb d_rpoint_116 (by decide) (fun c_12 => ?_) (fun c_12 => ?_)
      · replace Heq := (if_neg c_12).symm.trans Heq
        refine lv_iconst (v := 0) hx hb d_rpoint_124 (by decide) ?_
        exact w_rpoint_J125 hC Heq Kr _ _ _ hP hD hS (lv_sub hl [0] rfl)
      · replace Heq := (if_pos c_12).symm.trans Heq
        refine lv_iload hx hb d_rpoint_119 (lv_at hl 4 rfl) ?_
        refine lv_goto (tgt := 125) hx hb d_rpoint_121 (by decide) ?_
        exact w_rpoint_J125 hC Heq Kr _ _ _ hP hD hS (lv_sub hl [0] rfl)
  · replace Heq := (if_neg c_1).symm.trans Heq
    refine lv_iload hx hb d_rpoint_84 (lv_at hl 4 rfl) ?_
    exact Kr _ (Option.some.inj Heq).symm 86 _ _ _ d_rpoint_86 hP hD hS
def m_rpoint_J74 (S : MS) (x1 : Int32) (x2 : Int32) (x3 : Int32) (x5 : Int32) (x6 : Int32) (t0 : Int32) (t1 : Int32) : Option (MS × Int32) := (if t1 = t0 then m_rpoint_J79 S x1 x2 x3 x5 x6 else some (S, 1))
theorem d_rpoint_52 : decode prog_14_method_35_code 52 = .ok (.iload_n 3, 1) := by decide +kernel
theorem d_rpoint_53 : decode prog_14_method_35_code 53 = .ok (.iconst (-1), 1) := by decide +kernel
theorem d_rpoint_54 : decode prog_14_method_35_code 54 = .ok (.if_icmp .ne 7, 3) := by decide +kernel
theorem d_rpoint_61 : decode prog_14_method_35_code 61 = .ok (.iconst 0, 1) := by decide +kernel
theorem d_rpoint_62 : decode prog_14_method_35_code 62 = .ok (.iload 6, 2) := by decide +kernel
theorem d_rpoint_64 : decode prog_14_method_35_code 64 = .ok (.bipush 6, 2) := by decide +kernel
theorem d_rpoint_66 : decode prog_14_method_35_code 66 = .ok (.if_icmp .ne 7, 3) := by decide +kernel
theorem d_rpoint_73 : decode prog_14_method_35_code 73 = .ok (.iconst 0, 1) := by decide +kernel
theorem d_rpoint_74 : decode prog_14_method_35_code 74 = .ok (.if_icmp .eq 5, 3) := by decide +kernel
theorem d_rpoint_77 : decode prog_14_method_35_code 77 = .ok (.iconst 1, 1) := by decide +kernel
theorem d_rpoint_78 : decode prog_14_method_35_code 78 = .ok (.ireturn, 1) := by decide +kernel
set_option maxHeartbeats 4000000 in
set_option maxRecDepth 100000 in
theorem w_rpoint_J74 {p : Program} {l : Launch} {e : Env} {s : State} {m : MethodId} {args : Array Value} {below : List Frame} {meth : Method} {c : Code} {A : Nat → Prop} {D : va_G} {md : Nat → Nat} {mc : Nat → ClassId} {Q : State → Prop} (hC : MCx "JoinedTreesModel" prog_14_method_35_code 8 (some .int) p s m args meth c A D mc) {S : MS} {x1 : Int32} {x2 : Int32} {x3 : Int32} {x5 : Int32} {x6 : Int32} {t0 : Int32} {t1 : Int32} {o : MS × Int32} (Heq : m_rpoint_J74 S x1 x2 x3 x5 x6 t0 t1 = some o) (Kr : ∀ r : MS × Int32, o = r → ∀ (pc : Nat) (H : Heap) (locs : List Loc) (ls : Array Slot), decode prog_14_method_35_code pc = .ok (.ireturn, 1) → va_P D cls (mw md mc r.1) H → va_D A (mw md mc r.1) → va_S A s.heap H locs → W p l e ({ frames := 4, cells := 0, slots := 0, locals := 96 }) s m args below meth c H locs 0 0 Q (F0 m pc ls [.int r.2])) : ∀ (H : Heap) (locs : List Loc) (ls : Array Slot), va_P D cls (mw md mc S) H → va_D A (mw md mc S) → va_S A s.heap H locs → lv_has ls 8 [(0, .ref (md 100)), (1, .int x1), (2, .int x2), (3, .int x3), (5, .int x5), (6, .int x6)] → W p l e ({ frames := 4, cells := 0, slots := 0, locals := 96 }) s m args below meth c H locs 0 0 Q (F0 m 74 ls [.int t0, .int t1]) := by
  intro H locs ls hP hD hS hl
  obtain ⟨hx, hb, hr, hml, hown, hts, hK, hA⟩ := id hC
  unfold m_rpoint_J74 at Heq
  refine lv_icmp_eq (tgt := 79) hx hb d_rpoint_74 (by decide) (fun c_1 => ?_) (fun c_1 => ?_)
  · replace Heq := (if_pos c_1).symm.trans Heq
    exact w_rpoint_J79 hC Heq Kr _ _ _ hP hD hS (lv_sub hl [0, 1, 2, 3, 4, 5] rfl)
  · replace Heq := (if_neg c_1).symm.trans Heq
    refine lv_iconst (v := 1) hx hb d_rpoint_77 (by decide) ?_
    exact Kr _ (Option.some.inj Heq).symm 78 _ _ _ d_rpoint_78 hP hD hS
def m_rpoint_J62 (S : MS) (x1 : Int32) (x2 : Int32) (x3 : Int32) (x5 : Int32) (x6 : Int32) (t0 : Int32) : Option (MS × Int32) := (if x6 = 6 then m_rpoint_J74 S x1 x2 x3 x5 x6 1 t0 else m_rpoint_J74 S x1 x2 x3 x5 x6 0 t0)
theorem d_rpoint_69 : decode prog_14_method_35_code 69 = .ok (.iconst 1, 1) := by decide +kernel
theorem d_rpoint_70 : decode prog_14_method_35_code 70 = .ok (.goto 4, 3) := by decide +kernel
set_option maxHeartbeats 4000000 in
set_option maxRecDepth 100000 in
theorem w_rpoint_J62 {p : Program} {l : Launch} {e : Env} {s : State} {m : MethodId} {args : Array Value} {below : List Frame} {meth : Method} {c : Code} {A : Nat → Prop} {D : va_G} {md : Nat → Nat} {mc : Nat → ClassId} {Q : State → Prop} (hC : MCx "JoinedTreesModel" prog_14_method_35_code 8 (some .int) p s m args meth c A D mc) {S : MS} {x1 : Int32} {x2 : Int32} {x3 : Int32} {x5 : Int32} {x6 : Int32} {t0 : Int32} {o : MS × Int32} (Heq : m_rpoint_J62 S x1 x2 x3 x5 x6 t0 = some o) (Kr : ∀ r : MS × Int32, o = r → ∀ (pc : Nat) (H : Heap) (locs : List Loc) (ls : Array Slot), decode prog_14_method_35_code pc = .ok (.ireturn, 1) → va_P D cls (mw md mc r.1) H → va_D A (mw md mc r.1) → va_S A s.heap H locs → W p l e ({ frames := 4, cells := 0, slots := 0, locals := 96 }) s m args below meth c H locs 0 0 Q (F0 m pc ls [.int r.2])) : ∀ (H : Heap) (locs : List Loc) (ls : Array Slot), va_P D cls (mw md mc S) H → va_D A (mw md mc S) → va_S A s.heap H locs → lv_has ls 8 [(0, .ref (md 100)), (1, .int x1), (2, .int x2), (3, .int x3), (5, .int x5), (6, .int x6)] → W p l e ({ frames := 4, cells := 0, slots := 0, locals := 96 }) s m args below meth c H locs 0 0 Q (F0 m 62 ls [.int t0]) := by
  intro H locs ls hP hD hS hl
  obtain ⟨hx, hb, hr, hml, hown, hts, hK, hA⟩ := id hC
  unfold m_rpoint_J62 at Heq
  refine lv_iload hx hb d_rpoint_62 (lv_at hl 5 rfl) ?_
  refine lv_bipush (v := 6) hx hb d_rpoint_64 (by decide) ?_
  refine lv_icmp_ne (tgt := 73) hx hb d_rpoint_66 (by decide) (fun c_1 => ?_) (fun c_1 => ?_)
  · replace Heq := (if_neg c_1).symm.trans Heq
    refine lv_iconst (v := 0) hx hb d_rpoint_73 (by decide) ?_
    exact w_rpoint_J74 hC Heq Kr _ _ _ hP hD hS (lv_sub hl [0, 1, 2, 3, 4, 5] rfl)
  · replace Heq := (if_pos c_1).symm.trans Heq
    refine lv_iconst (v := 1) hx hb d_rpoint_69 (by decide) ?_
    refine lv_goto (tgt := 74) hx hb d_rpoint_70 (by decide) ?_
    exact w_rpoint_J74 hC Heq Kr _ _ _ hP hD hS (lv_sub hl [0, 1, 2, 3, 4, 5] rfl)
def m_rpoint_J39 (S : MS) (x1 : Int32) (x2 : Int32) (x3 : Int32) (x5 : Int32) : Option (MS × Int32) := ob (m_rkindOf S x1 x2) (fun o_1 => (if o_1.2 < 0 then m_rpoint_J79 o_1.1 x1 x2 x3 x5 o_1.2 else (if x3 = (-1) then m_rpoint_J62 o_1.1 x1 x2 x3 x5 o_1.2 1 else m_rpoint_J62 o_1.1 x1 x2 x3 x5 o_1.2 0)))
theorem d_rpoint_57 : decode prog_14_method_35_code 57 = .ok (.iconst 1, 1) := by decide +kernel
theorem d_rpoint_58 : decode prog_14_method_35_code 58 = .ok (.goto 4, 3) := by decide +kernel
set_option maxHeartbeats 4000000 in
set_option maxRecDepth 100000 in
theorem w_rpoint_J39 {p : Program} {l : Launch} {e : Env} {s : State} {m : MethodId} {args : Array Value} {below : List Frame} {meth : Method} {c : Code} {A : Nat → Prop} {D : va_G} {md : Nat → Nat} {mc : Nat → ClassId} {Q : State → Prop} (hC : MCx "JoinedTreesModel" prog_14_method_35_code 8 (some .int) p s m args meth c A D mc) {S : MS} {x1 : Int32} {x2 : Int32} {x3 : Int32} {x5 : Int32} {o : MS × Int32} (Heq : m_rpoint_J39 S x1 x2 x3 x5 = some o) (Kr : ∀ r : MS × Int32, o = r → ∀ (pc : Nat) (H : Heap) (locs : List Loc) (ls : Array Slot), decode prog_14_method_35_code pc = .ok (.ireturn, 1) → va_P D cls (mw md mc r.1) H → va_D A (mw md mc r.1) → va_S A s.heap H locs → W p l e ({ frames := 4, cells := 0, slots := 0, locals := 96 }) s m args below meth c H locs 0 0 Q (F0 m pc ls [.int r.2])) : ∀ (H : Heap) (locs : List Loc) (ls : Array Slot), va_P D cls (mw md mc S) H → va_D A (mw md mc S) → va_S A s.heap H locs → lv_has ls 8 [(0, .ref (md 100)), (1, .int x1), (2, .int x2), (3, .int x3), (5, .int x5)] → W p l e ({ frames := 4, cells := 0, slots := 0, locals := 96 }) s m args below meth c H locs 0 0 Q (F0 m 39 ls []) := by
  intro H locs ls hP hD hS hl
  obtain ⟨hx, hb, hr, hml, hown, hts, hK, hA⟩ := id hC
  unfold m_rpoint_J39 at Heq
  refine lv_aload_n hx hb d_rpoint_39 rfl (lv_at hl 0 rfl) ?_
  refine lv_iload_n hx hb d_rpoint_40 rfl (lv_at hl 1 rfl) ?_
  refine lv_iload_n hx hb d_rpoint_41 rfl (lv_at hl 2 rfl) ?_
  obtain ⟨o_1, h_2, Heq⟩ := ob_some Heq
  have hFc := fr_all hD hS hA
  refine va_calli (va_runV (As := [.int x1, .int x2]) (rest := []) ⟨hx, hb, hml, hown, hts⟩ (g_rkindOf l D H.size h_2) (cw_v 2 hts kw_1648 kw_1645 kw_1647 kp_31 kw_11 rfl rfl (by decide +kernel) ⟨Nat.le_of_ble_eq_true rfl, Nat.le_of_ble_eq_true rfl⟩) ⟨g_blind, va_recv hK hP (ci := 12) (q0 := 0) rfl rfl, fun U hU hW => g_pre hU hW hP hK hD⟩ rfl rfl hl.1 rfl (lv_room (Nat.le_of_ble_eq_true rfl)) d_rpoint_42 ⟨Nat.le_of_ble_eq_true rfl, Nat.le_of_ble_eq_true rfl⟩) hS (fun q _ h => hFc q h) hFc (fun rz u t H1 locs ht hvm hw hB hz1 hk1 hS => ?_)
  obtain ⟨hP, -, hD1⟩ := hB
  rw [ht] at hP
  have hD := hD1.weaken (fun _ q _ h => hFc q.1 h)
  generalize H1 = H at hP hS ⊢
  refine W.cs (cells' := 0) (slots' := 0) rfl rfl ?_
  subst hw
  refine lv_istore (lv' := [(6, .int o_1.2), (0, .ref (md 100)), (1, .int x1), (2, .int x2), (3, .int x3), (5, .int x5)]) hx hb d_rpoint_45 hl (by decide) rfl (fun ls hl => ?_)
  refine lv_iload hx hb d_rpoint_47 (lv_at hl 0 rfl) ?_
  refine lv_if_lt (tgt := 79) hx hb d_rpoint_49 (by decide) (fun c_3 => ?_) (fun c_3 => ?_)
  · replace Heq := (if_pos c_3).symm.trans Heq
    exact w_rpoint_J79 hC Heq Kr _ _ _ hP hD hS (lv_sub hl [1, 2, 3, 4, 5, 0] rfl)
  · replace Heq := (if_neg c_3).symm.trans Heq
    refine lv_iload_n hx hb d_rpoint_52 rfl (lv_at hl 4 rfl) ?_
    refine lv_iconst (v := (-1)) hx hb d_rpoint_53 (by decide) ?_
    refine lv_icmp_ne (tgt := 61) hx hb d_rpoint_54 (by decide) (fun c_4 => ?_) (fun c_4 => ?_)
    · replace Heq := (if_neg c_4).symm.trans Heq
      refine lv_iconst (v := 0) hx hb d_rpoint_61 (by decide) ?_
      exact w_rpoint_J62 hC Heq Kr _ _ _ hP hD hS (lv_sub hl [1, 2, 3, 4, 5, 0] rfl)
    · replace Heq := (if_pos c_4).symm.trans Heq
      refine lv_iconst (v := 1) hx hb d_rpoint_57 (by decide) ?_
      refine lv_goto (tgt := 62) hx hb d_rpoint_58 (by decide) ?_
      exact w_rpoint_J62 hC Heq Kr _ _ _ hP hD hS (lv_sub hl [1, 2, 3, 4, 5, 0] rfl)
def m_rpoint_J19 (S : MS) (x1 : Int32) (x2 : Int32) (x3 : Int32) (x5 : Int32) (t0 : Int32) (t1 : Int32) : Option (MS × Int32) := (if t1 = t0 then (if x3 = (-1) then ob (m_risKey S (S.i 5)) (fun o_3 => (if o_3.2 = 0 then m_rpoint_J37 o_3.1 else m_rpoint_J39 o_3.1 x1 x2 x3 x5)) else m_rpoint_J39 S x1 x2 x3 x5) else m_rpoint_J37 S)
theorem d_rpoint_27 : decode prog_14_method_35_code 27 = .ok (.aload_n 0, 1) := by decide +kernel
theorem d_rpoint_28 : decode prog_14_method_35_code 28 = .ok (.getfield 185, 3) := by decide +kernel
theorem d_rpoint_31 : decode prog_14_method_35_code 31 = .ok (.invokestatic 255, 3) := by decide +kernel
theorem d_rpoint_34 : decode prog_14_method_35_code 34 = .ok (.ifCond .ne 5, 3) := by decide +kernel
set_option maxHeartbeats 4000000 in
set_option maxRecDepth 100000 in
theorem w_rpoint_J19 {p : Program} {l : Launch} {e : Env} {s : State} {m : MethodId} {args : Array Value} {below : List Frame} {meth : Method} {c : Code} {A : Nat → Prop} {D : va_G} {md : Nat → Nat} {mc : Nat → ClassId} {Q : State → Prop} (hC : MCx "JoinedTreesModel" prog_14_method_35_code 8 (some .int) p s m args meth c A D mc) {S : MS} {x1 : Int32} {x2 : Int32} {x3 : Int32} {x5 : Int32} {t0 : Int32} {t1 : Int32} {o : MS × Int32} (Heq : m_rpoint_J19 S x1 x2 x3 x5 t0 t1 = some o) (Kr : ∀ r : MS × Int32, o = r → ∀ (pc : Nat) (H : Heap) (locs : List Loc) (ls : Array Slot), decode prog_14_method_35_code pc = .ok (.ireturn, 1) → va_P D cls (mw md mc r.1) H → va_D A (mw md mc r.1) → va_S A s.heap H locs → W p l e ({ frames := 4, cells := 0, slots := 0, locals := 96 }) s m args below meth c H locs 0 0 Q (F0 m pc ls [.int r.2])) : ∀ (H : Heap) (locs : List Loc) (ls : Array Slot), va_P D cls (mw md mc S) H → va_D A (mw md mc S) → va_S A s.heap H locs → lv_has ls 8 [(0, .ref (md 100)), (1, .int x1), (2, .int x2), (3, .int x3), (5, .int x5)] → W p l e ({ frames := 4, cells := 0, slots := 0, locals := 96 }) s m args below meth c H locs 0 0 Q (F0 m 19 ls [.int t0, .int t1]) := by
  intro H locs ls hP hD hS hl
  obtain ⟨hx, hb, hr, hml, hown, hts, hK, hA⟩ := id hC
  unfold m_rpoint_J19 at Heq
  refine lv_icmp_ne (tgt := 37) hx hb d_rpoint_19 (by decide) (fun c_1 => ?_) (fun c_1 => ?_)
  · replace Heq := (if_neg c_1).symm.trans Heq
    exact w_rpoint_J37 hC Heq Kr _ _ _ hP hD hS (lv_sub hl [0] rfl)
  · replace Heq := (if_pos c_1).symm.trans Heq
    refine lv_iload_n hx hb d_rpoint_22 rfl (lv_at hl 3 rfl) ?_
    refine lv_iconst (v := (-1)) hx hb d_rpoint_23 (by decide) ?_
    refine lv_icmp_ne (tgt := 39) hx hb d_rpoint_24 (by decide) (fun c_2 => ?_) (fun c_2 => ?_)
    · replace Heq := (if_neg c_2).symm.trans Heq
      exact w_rpoint_J39 hC Heq Kr _ _ _ hP hD hS (lv_sub hl [0, 1, 2, 3, 4] rfl)
    · replace Heq := (if_pos c_2).symm.trans Heq
      refine lv_aload_n hx hb d_rpoint_27 rfl (lv_at hl 0 rfl) ?_
      refine va_get (D := D) (ci := 12) (v := .int (S.i 5)) (C := R_MM) (T := F_MM) (N := 77) hx hb hts i_MM hown hK hP 0 rfl rfl 5 (by decide) (hts _ kw_1387) (fun _ h9 => h9) rfl d_rpoint_28 ?_
      obtain ⟨o_3, h_4, Heq⟩ := ob_some Heq
      have hFc := fr_all hD hS hA
      refine va_calli (va_runS (As := [.int (S.i 5)]) (rest := []) ⟨hx, hb, hml, hown, hts⟩ (g_risKey l D H.size h_4) (cw_s 1 hts kw_1644 kw_1642 kw_1643 kw_11 rfl rfl (by decide +kernel) ⟨Nat.le_of_ble_eq_true rfl, Nat.le_of_ble_eq_true rfl⟩) ⟨g_blind, fun U hU hW => g_pre hU hW hP hK hD⟩ rfl rfl hl.1 rfl (lv_room (Nat.le_of_ble_eq_true rfl)) d_rpoint_31 ⟨Nat.le_of_ble_eq_true rfl, Nat.le_of_ble_eq_true rfl⟩) hS (fun q _ h => hFc q h) hFc (fun rz u t H1 locs ht hvm hw hB hz1 hk1 hS => ?_)
      obtain ⟨hP, -, hD1⟩ := hB
      rw [ht] at hP
      have hD := hD1.weaken (fun _ q _ h => hFc q.1 h)
      generalize H1 = H at hP hS ⊢
      refine W.cs (cells' := 0) (slots' := 0) rfl rfl ?_
      subst hw
      refine lv_if_ne (tgt := 39) hx hb d_rpoint_34 (by decide) (fun c_5 => ?_) (fun c_5 => ?_)
      · replace Heq := (if_neg c_5).symm.trans Heq
        exact w_rpoint_J39 hC Heq Kr _ _ _ hP hD hS (lv_sub hl [0, 1, 2, 3, 4] rfl)
      · replace Heq := (if_pos c_5).symm.trans Heq
        exact w_rpoint_J37 hC Heq Kr _ _ _ hP hD hS (lv_sub hl [0] rfl)
def m_rpoint_J0 (S : MS) (x1 : Int32) (x2 : Int32) (x3 : Int32) (x4 : Int32) (x5 : Int32) : Option (MS × Int32) := ob (m_risReplica S x1) (fun o_1 => (if o_1.2 = 0 then m_rpoint_J37 o_1.1 else (if x3 = (-1) then m_rpoint_J19 o_1.1 x1 x2 x3 x5 1 x4 else m_rpoint_J19 o_1.1 x1 x2 x3 x5 0 x4)))
theorem d_rpoint_14 : decode prog_14_method_35_code 14 = .ok (.iconst 1, 1) := by decide +kernel
theorem d_rpoint_15 : decode prog_14_method_35_code 15 = .ok (.goto 4, 3) := by decide +kernel
set_option maxHeartbeats 4000000 in
set_option maxRecDepth 100000 in
theorem w_rpoint_J0 {p : Program} {l : Launch} {e : Env} {s : State} {m : MethodId} {args : Array Value} {below : List Frame} {meth : Method} {c : Code} {A : Nat → Prop} {D : va_G} {md : Nat → Nat} {mc : Nat → ClassId} {Q : State → Prop} (hC : MCx "JoinedTreesModel" prog_14_method_35_code 8 (some .int) p s m args meth c A D mc) {S : MS} {x1 : Int32} {x2 : Int32} {x3 : Int32} {x4 : Int32} {x5 : Int32} {o : MS × Int32} (Heq : m_rpoint_J0 S x1 x2 x3 x4 x5 = some o) (Kr : ∀ r : MS × Int32, o = r → ∀ (pc : Nat) (H : Heap) (locs : List Loc) (ls : Array Slot), decode prog_14_method_35_code pc = .ok (.ireturn, 1) → va_P D cls (mw md mc r.1) H → va_D A (mw md mc r.1) → va_S A s.heap H locs → W p l e ({ frames := 4, cells := 0, slots := 0, locals := 96 }) s m args below meth c H locs 0 0 Q (F0 m pc ls [.int r.2])) : ∀ (H : Heap) (locs : List Loc) (ls : Array Slot), va_P D cls (mw md mc S) H → va_D A (mw md mc S) → va_S A s.heap H locs → lv_has ls 8 [(0, .ref (md 100)), (1, .int x1), (2, .int x2), (3, .int x3), (4, .int x4), (5, .int x5)] → W p l e ({ frames := 4, cells := 0, slots := 0, locals := 96 }) s m args below meth c H locs 0 0 Q (F0 m 0 ls []) := by
  intro H locs ls hP hD hS hl
  obtain ⟨hx, hb, hr, hml, hown, hts, hK, hA⟩ := id hC
  unfold m_rpoint_J0 at Heq
  refine lv_iload_n hx hb d_rpoint_0 rfl (lv_at hl 1 rfl) ?_
  obtain ⟨o_1, h_2, Heq⟩ := ob_some Heq
  have hFc := fr_all hD hS hA
  refine va_calli (va_runS (As := [.int x1]) (rest := []) ⟨hx, hb, hml, hown, hts⟩ (g_risReplica l D H.size h_2) (cw_s 1 hts kw_1641 kw_1639 kw_1640 kw_11 rfl rfl (by decide +kernel) ⟨Nat.le_of_ble_eq_true rfl, Nat.le_of_ble_eq_true rfl⟩) ⟨g_blind, fun U hU hW => g_pre hU hW hP hK hD⟩ rfl rfl hl.1 rfl (lv_room (Nat.le_of_ble_eq_true rfl)) d_rpoint_1 ⟨Nat.le_of_ble_eq_true rfl, Nat.le_of_ble_eq_true rfl⟩) hS (fun q _ h => hFc q h) hFc (fun rz u t H1 locs ht hvm hw hB hz1 hk1 hS => ?_)
  obtain ⟨hP, -, hD1⟩ := hB
  rw [ht] at hP
  have hD := hD1.weaken (fun _ q _ h => hFc q.1 h)
  generalize H1 = H at hP hS ⊢
  refine W.cs (cells' := 0) (slots' := 0) rfl rfl ?_
  subst hw
  refine lv_if_eq (tgt := 37) hx hb d_rpoint_4 (by decide) (fun c_3 => ?_) (fun c_3 => ?_)
  · replace Heq := (if_pos c_3).symm.trans Heq
    exact w_rpoint_J37 hC Heq Kr _ _ _ hP hD hS (lv_sub hl [0] rfl)
  · replace Heq := (if_neg c_3).symm.trans Heq
    refine lv_iload hx hb d_rpoint_7 (lv_at hl 4 rfl) ?_
    refine lv_iload_n hx hb d_rpoint_9 rfl (lv_at hl 3 rfl) ?_
    refine lv_iconst (v := (-1)) hx hb d_rpoint_10 (by decide) ?_
    refine lv_icmp_ne (tgt := 18) hx hb d_rpoint_11 (by decide) (fun c_4 => ?_) (fun c_4 => ?_)
    · replace Heq := (if_neg c_4).symm.trans Heq
      refine lv_iconst (v := 0) hx hb d_rpoint_18 (by decide) ?_
      exact w_rpoint_J19 hC Heq Kr _ _ _ hP hD hS (lv_sub hl [0, 1, 2, 3, 5] rfl)
    · replace Heq := (if_pos c_4).symm.trans Heq
      refine lv_iconst (v := 1) hx hb d_rpoint_14 (by decide) ?_
      refine lv_goto (tgt := 19) hx hb d_rpoint_15 (by decide) ?_
      exact w_rpoint_J19 hC Heq Kr _ _ _ hP hD hS (lv_sub hl [0, 1, 2, 3, 5] rfl)
def m_rpoint (S : MS) (x1 : Int32) (x2 : Int32) (x3 : Int32) (x4 : Int32) (x5 : Int32) : Option (MS × Int32) := m_rpoint_J0 S x1 x2 x3 x4 x5
theorem g_rpoint (l : Launch) (D : va_G) (sz : Nat) {md : Nat → Nat} {mc : Nat → ClassId} {S : MS} {x1 : Int32} {x2 : Int32} {x3 : Int32} {x4 : Int32} {x5 : Int32} {o : MS × Int32} (Heq : m_rpoint S x1 x2 x3 x4 x5 = some o) : Met l ⟨"JoinedTreesModel", "point", "(IIIII)I"⟩ (Cond.code ⟨"JoinedTreesModel", "point", "(IIIII)I"⟩ prog_14_method_35_code 8 (some .int) :: gb) ({ frames := 4, cells := 0, slots := 0, locals := 96 }) (gPc D (mw md mc S) (mty mc) sz [.ref (md 100), .int x1, .int x2, .int x3, .int x4, .int x5]) (va_Qi (fun (r : Int32) (_ : Unit) => r = o.2) (fun _ t => gO D (mw md mc o.1) (mty mc) (va_A (mw md mc S) sz) t) (va_A (mw md mc S) sz)) 0 0 (va_A (mw md mc S) sz) := by
  refine Met.ofW (cc := prog_14_method_35_code) (maxL := 8) (ret := (some .int)) (by decide) rfl ?_
  intro p e s m args below meth c s₁ B hml hv
  obtain ⟨rfl, hsz, hP, hK, hD0⟩ := hv
  have hx := B.exec
  have hb := B.bytes
  have hr := B.returns
  have hts : ∀ w9 ∈ gb, w9.before [.ref (md 100), .int x1, .int x2, .int x3, .int x4, .int x5].toArray s = true := fun w9 h => atoms_spec (ws := Cond.code ⟨"JoinedTreesModel", "point", "(IIIII)I"⟩ prog_14_method_35_code 8 (some .int) :: gb) B.pre w9 (List.mem_cons_of_mem _ h)
  have hown : s.vm.findClass "JoinedTreesModel" = some m.cls := findClass_of_methodNamed B.named
  have hlocks := B.notSynchronized
  subst hsz
  have hD := hD0.self (sz := s.heap.size)
  generalize hAe : va_A (mw md mc S) s.heap.size = A at hD ⊢
  have hA : ∀ q : Nat, s.heap.size ≤ q → A q := fun q h => by rw [← hAe]; exact Or.inr h
  have hS : va_S A s.heap s.heap [] := va_S.rf
  have hl := lv_entry ([.ref (md 100), .int x1, .int x2, .int x3, .int x4, .int x5]) (n := 8) (Nat.le_of_ble_eq_true rfl)
  rw [lg_entry_eq]
  generalize (lg_sl ([.ref (md 100), .int x1, .int x2, .int x3, .int x4, .int x5]) ++ List.replicate (8 - (lg_sl ([.ref (md 100), .int x1, .int x2, .int x3, .int x4, .int x5])).length) Slot.unset).toArray = ls at hl ⊢
  have hl : lv_has ls 8 [(0, .ref (md 100)), (1, .int x1), (2, .int x2), (3, .int x3), (4, .int x4), (5, .int x5)] := hl
  refine w_rpoint_J0 ⟨hx, hb, hr, hml, hown, hts, hK, hA⟩ Heq (fun r h pc H locs ls hd hP hD hS => ?_) _ _ _ hP hD hS (lv_sub hl [0, 1, 2, 3, 4, 5] rfl)
  subst h
  exact W.iret hx hb hr (fun t ht hW => ⟨⟨_, (), rfl, rfl, by rw [ht]; exact hP, va_K.moved hW.alike hK, hD⟩, hS.F ht⟩) hS.2.2 hd
def m_ract_J82 (S : MS) (x1 : Int32) (x2 : Int32) (x3 : Int32) (x4 : Int32) (x5 : Int64) (x10 : Int32) (t0 : Int32) : Option ((MS × Int32 × Int32 × Int32 × Int32 × Int64 × Int32 × Int32) ⊕ (MS × Int32 × Int32 × Int32 × Int32 × Int64 × Int32)) := some (.inl (S, x1, x2, x3, x4, x5, t0, (x10 + 1)))
theorem d_ract_0 : decode prog_14_method_36_code 0 = .ok (.aload_n 0, 1) := by decide +kernel
theorem d_ract_1 : decode prog_14_method_36_code 1 = .ok (.invokevirtual 247, 3) := by decide +kernel
theorem d_ract_4 : decode prog_14_method_36_code 4 = .ok (.istore 7, 2) := by decide +kernel
theorem d_ract_6 : decode prog_14_method_36_code 6 = .ok (.aload_n 0, 1) := by decide +kernel
theorem d_ract_7 : decode prog_14_method_36_code 7 = .ok (.iload_n 1, 1) := by decide +kernel
theorem d_ract_8 : decode prog_14_method_36_code 8 = .ok (.iload_n 2, 1) := by decide +kernel
theorem d_ract_9 : decode prog_14_method_36_code 9 = .ok (.iload_n 3, 1) := by decide +kernel
theorem d_ract_10 : decode prog_14_method_36_code 10 = .ok (.iload 7, 2) := by decide +kernel
theorem d_ract_12 : decode prog_14_method_36_code 12 = .ok (.iconst 3, 1) := by decide +kernel
theorem d_ract_13 : decode prog_14_method_36_code 13 = .ok (.invokevirtual 305, 3) := by decide +kernel
theorem d_ract_16 : decode prog_14_method_36_code 16 = .ok (.istore 8, 2) := by decide +kernel
theorem d_ract_18 : decode prog_14_method_36_code 18 = .ok (.iload 8, 2) := by decide +kernel
theorem d_ract_20 : decode prog_14_method_36_code 20 = .ok (.ifCond .eq 10, 3) := by decide +kernel
theorem d_ract_30 : decode prog_14_method_36_code 30 = .ok (.iload 4, 2) := by decide +kernel
theorem d_ract_32 : decode prog_14_method_36_code 32 = .ok (.bipush 9, 2) := by decide +kernel
theorem d_ract_34 : decode prog_14_method_36_code 34 = .ok (.if_icmp .ne 7, 3) := by decide +kernel
theorem d_ract_41 : decode prog_14_method_36_code 41 = .ok (.iconst 0, 1) := by decide +kernel
theorem d_ract_42 : decode prog_14_method_36_code 42 = .ok (.istore 9, 2) := by decide +kernel
theorem d_ract_44 : decode prog_14_method_36_code 44 = .ok (.iconst 0, 1) := by decide +kernel
theorem d_ract_45 : decode prog_14_method_36_code 45 = .ok (.istore 10, 2) := by decide +kernel
theorem d_ract_47 : decode prog_14_method_36_code 47 = .ok (.iload 10, 2) := by decide +kernel
theorem d_ract_49 : decode prog_14_method_36_code 49 = .ok (.aload_n 0, 1) := by decide +kernel
theorem d_ract_50 : decode prog_14_method_36_code 50 = .ok (.getfield 210, 3) := by decide +kernel
theorem d_ract_53 : decode prog_14_method_36_code 53 = .ok (.if_icmp .ge 37, 3) := by decide +kernel
theorem d_ract_56 : decode prog_14_method_36_code 56 = .ok (.iload 9, 2) := by decide +kernel
theorem d_ract_58 : decode prog_14_method_36_code 58 = .ok (.ifCond .ne 19, 3) := by decide +kernel
theorem d_ract_77 : decode prog_14_method_36_code 77 = .ok (.iconst 1, 1) := by decide +kernel
theorem d_ract_78 : decode prog_14_method_36_code 78 = .ok (.goto 4, 3) := by decide +kernel
theorem d_ract_82 : decode prog_14_method_36_code 82 = .ok (.istore 9, 2) := by decide +kernel
theorem d_ract_84 : decode prog_14_method_36_code 84 = .ok (.iinc 10 1, 3) := by decide +kernel
theorem d_ract_87 : decode prog_14_method_36_code 87 = .ok (.goto (-40), 3) := by decide +kernel
set_option maxHeartbeats 4000000 in
set_option maxRecDepth 100000 in
theorem w_ract_J82 {p : Program} {l : Launch} {e : Env} {s : State} {m : MethodId} {args : Array Value} {below : List Frame} {meth : Method} {c : Code} {A : Nat → Prop} {D : va_G} {md : Nat → Nat} {mc : Nat → ClassId} {Q : State → Prop} (hC : MCx "JoinedTreesModel" prog_14_method_36_code 11 (some .int) p s m args meth c A D mc) {S : MS} {x1 : Int32} {x2 : Int32} {x3 : Int32} {x4 : Int32} {x5 : Int64} {x10 : Int32} {t0 : Int32} {o : ((MS × Int32 × Int32 × Int32 × Int32 × Int64 × Int32 × Int32) ⊕ (MS × Int32 × Int32 × Int32 × Int32 × Int64 × Int32))} (Heq : m_ract_J82 S x1 x2 x3 x4 x5 x10 t0 = some o) (Ka : ∀ b : MS × Int32 × Int32 × Int32 × Int32 × Int64 × Int32 × Int32, o = .inl b → ∀ (H : Heap) (locs : List Loc) (ls : Array Slot), va_P D cls (mw md mc b.1) H → va_D A (mw md mc b.1) → va_S A s.heap H locs → lv_has ls 11 [(0, .ref (md 100)), (1, .int b.2.1), (2, .int b.2.2.1), (3, .int b.2.2.2.1), (4, .int b.2.2.2.2.1), (5, .long b.2.2.2.2.2.1), (9, .int b.2.2.2.2.2.2.1), (10, .int b.2.2.2.2.2.2.2)] → W p l e ({ frames := 5, cells := 0, slots := 0, locals := 123 }) s m args below meth c H locs 0 0 Q (F0 m 47 ls [])) (K0 : ∀ b : MS × Int32 × Int32 × Int32 × Int32 × Int64 × Int32, o = .inr b → ∀ (H : Heap) (locs : List Loc) (ls : Array Slot), va_P D cls (mw md mc b.1) H → va_D A (mw md mc b.1) → va_S A s.heap H locs → lv_has ls 11 [(0, .ref (md 100)), (1, .int b.2.1), (2, .int b.2.2.1), (3, .int b.2.2.2.1), (4, .int b.2.2.2.2.1), (5, .long b.2.2.2.2.2.1), (9, .int b.2.2.2.2.2.2)] → W p l e ({ frames := 5, cells := 0, slots := 0, locals := 123 }) s m args below meth c H locs 0 0 Q (F0 m 90 ls [])) : ∀ (H : Heap) (locs : List Loc) (ls : Array Slot), va_P D cls (mw md mc S) H → va_D A (mw md mc S) → va_S A s.heap H locs → lv_has ls 11 [(0, .ref (md 100)), (1, .int x1), (2, .int x2), (3, .int x3), (4, .int x4), (5, .long x5), (10, .int x10)] → W p l e ({ frames := 5, cells := 0, slots := 0, locals := 123 }) s m args below meth c H locs 0 0 Q (F0 m 82 ls [.int t0]) := by
  intro H locs ls hP hD hS hl
  obtain ⟨hx, hb, hr, hml, hown, hts, hK, hA⟩ := id hC
  unfold m_ract_J82 at Heq
  refine lv_istore (lv' := [(9, .int t0), (0, .ref (md 100)), (1, .int x1), (2, .int x2), (3, .int x3), (4, .int x4), (5, .long x5), (10, .int x10)]) hx hb d_ract_82 hl (by decide) rfl (fun ls hl => ?_)
  refine lv_iinc (v := x10 + 1) (lv' := [(10, .int (x10 + 1)), (9, .int t0), (0, .ref (md 100)), (1, .int x1), (2, .int x2), (3, .int x3), (4, .int x4), (5, .long x5)]) hx hb d_ract_84 hl (k := 7) rfl rfl (by decide) rfl (fun ls hl => ?_)
  refine lv_goto (tgt := 47) hx hb d_ract_87 (by decide) ?_
  exact Ka _ (Option.some.inj Heq).symm _ _ _ hP hD hS (lv_sub hl [2, 3, 4, 5, 6, 7, 1, 0] rfl)
def m_ract_J77 (S : MS) (x1 : Int32) (x2 : Int32) (x3 : Int32) (x4 : Int32) (x5 : Int64) (x10 : Int32) : Option ((MS × Int32 × Int32 × Int32 × Int32 × Int64 × Int32 × Int32) ⊕ (MS × Int32 × Int32 × Int32 × Int32 × Int64 × Int32)) := m_ract_J82 S x1 x2 x3 x4 x5 x10 1
set_option maxHeartbeats 4000000 in
set_option maxRecDepth 100000 in
theorem w_ract_J77 {p : Program} {l : Launch} {e : Env} {s : State} {m : MethodId} {args : Array Value} {below : List Frame} {meth : Method} {c : Code} {A : Nat → Prop} {D : va_G} {md : Nat → Nat} {mc : Nat → ClassId} {Q : State → Prop} (hC : MCx "JoinedTreesModel" prog_14_method_36_code 11 (some .int) p s m args meth c A D mc) {S : MS} {x1 : Int32} {x2 : Int32} {x3 : Int32} {x4 : Int32} {x5 : Int64} {x10 : Int32} {o : ((MS × Int32 × Int32 × Int32 × Int32 × Int64 × Int32 × Int32) ⊕ (MS × Int32 × Int32 × Int32 × Int32 × Int64 × Int32))} (Heq : m_ract_J77 S x1 x2 x3 x4 x5 x10 = some o) (Ka : ∀ b : MS × Int32 × Int32 × Int32 × Int32 × Int64 × Int32 × Int32, o = .inl b → ∀ (H : Heap) (locs : List Loc) (ls : Array Slot), va_P D cls (mw md mc b.1) H → va_D A (mw md mc b.1) → va_S A s.heap H locs → lv_has ls 11 [(0, .ref (md 100)), (1, .int b.2.1), (2, .int b.2.2.1), (3, .int b.2.2.2.1), (4, .int b.2.2.2.2.1), (5, .long b.2.2.2.2.2.1), (9, .int b.2.2.2.2.2.2.1), (10, .int b.2.2.2.2.2.2.2)] → W p l e ({ frames := 5, cells := 0, slots := 0, locals := 123 }) s m args below meth c H locs 0 0 Q (F0 m 47 ls [])) (K0 : ∀ b : MS × Int32 × Int32 × Int32 × Int32 × Int64 × Int32, o = .inr b → ∀ (H : Heap) (locs : List Loc) (ls : Array Slot), va_P D cls (mw md mc b.1) H → va_D A (mw md mc b.1) → va_S A s.heap H locs → lv_has ls 11 [(0, .ref (md 100)), (1, .int b.2.1), (2, .int b.2.2.1), (3, .int b.2.2.2.1), (4, .int b.2.2.2.2.1), (5, .long b.2.2.2.2.2.1), (9, .int b.2.2.2.2.2.2)] → W p l e ({ frames := 5, cells := 0, slots := 0, locals := 123 }) s m args below meth c H locs 0 0 Q (F0 m 90 ls [])) : ∀ (H : Heap) (locs : List Loc) (ls : Array Slot), va_P D cls (mw md mc S) H → va_D A (mw md mc S) → va_S A s.heap H locs → lv_has ls 11 [(0, .ref (md 100)), (1, .int x1), (2, .int x2), (3, .int x3), (4, .int x4), (5, .long x5), (10, .int x10)] → W p l e ({ frames := 5, cells := 0, slots := 0, locals := 123 }) s m args below meth c H locs 0 0 Q (F0 m 77 ls []) := by
  intro H locs ls hP hD hS hl
  obtain ⟨hx, hb, hr, hml, hown, hts, hK, hA⟩ := id hC
  unfold m_ract_J77 at Heq
  refine lv_iconst (v := 1) hx hb d_ract_77 (by decide) ?_
  refine lv_goto (tgt := 82) hx hb d_ract_78 (by decide) ?_
  exact w_ract_J82 hC Heq Ka K0 _ _ _ hP hD hS (lv_sub hl [0, 1, 2, 3, 4, 5, 6] rfl)
def m_ract_B47 (S : MS) (x1 : Int32) (x2 : Int32) (x3 : Int32) (x4 : Int32) (x5 : Int64) (x9 : Int32) (x10 : Int32) : Option ((MS × Int32 × Int32 × Int32 × Int32 × Int64 × Int32 × Int32) ⊕ (MS × Int32 × Int32 × Int32 × Int32 × Int64 × Int32)) := (if S.i 47 ≤ x10 then some (.inr (S, x1, x2, x3, x4, x5, x9)) else (if x9 = 0 then gd x10 4000 (gd (S.a 46 x10.toNatClampNeg) 4000 ((if S.a 11 ((S.a 46 x10.toNatClampNeg).toNatClampNeg) = 5 then m_ract_J77 S x1 x2 x3 x4 x5 x10 else m_ract_J82 S x1 x2 x3 x4 x5 x10 0))) else m_ract_J77 S x1 x2 x3 x4 x5 x10))
theorem d_ract_61 : decode prog_14_method_36_code 61 = .ok (.aload_n 0, 1) := by decide +kernel
theorem d_ract_62 : decode prog_14_method_36_code 62 = .ok (.getfield 29, 3) := by decide +kernel
theorem d_ract_65 : decode prog_14_method_36_code 65 = .ok (.aload_n 0, 1) := by decide +kernel
theorem d_ract_66 : decode prog_14_method_36_code 66 = .ok (.getfield 121, 3) := by decide +kernel
theorem d_ract_69 : decode prog_14_method_36_code 69 = .ok (.iload 10, 2) := by decide +kernel
theorem d_ract_71 : decode prog_14_method_36_code 71 = .ok (.iaload, 1) := by decide +kernel
theorem d_ract_72 : decode prog_14_method_36_code 72 = .ok (.iaload, 1) := by decide +kernel
theorem d_ract_73 : decode prog_14_method_36_code 73 = .ok (.iconst 5, 1) := by decide +kernel
theorem d_ract_74 : decode prog_14_method_36_code 74 = .ok (.if_icmp .ne 7, 3) := by decide +kernel
theorem d_ract_81 : decode prog_14_method_36_code 81 = .ok (.iconst 0, 1) := by decide +kernel
set_option maxHeartbeats 4000000 in
set_option maxRecDepth 100000 in
theorem w_ract_B47 {p : Program} {l : Launch} {e : Env} {s : State} {m : MethodId} {args : Array Value} {below : List Frame} {meth : Method} {c : Code} {A : Nat → Prop} {D : va_G} {md : Nat → Nat} {mc : Nat → ClassId} {Q : State → Prop} (hC : MCx "JoinedTreesModel" prog_14_method_36_code 11 (some .int) p s m args meth c A D mc) {S : MS} {x1 : Int32} {x2 : Int32} {x3 : Int32} {x4 : Int32} {x5 : Int64} {x9 : Int32} {x10 : Int32} {o : ((MS × Int32 × Int32 × Int32 × Int32 × Int64 × Int32 × Int32) ⊕ (MS × Int32 × Int32 × Int32 × Int32 × Int64 × Int32))} (Heq : m_ract_B47 S x1 x2 x3 x4 x5 x9 x10 = some o) (Ka : ∀ b : MS × Int32 × Int32 × Int32 × Int32 × Int64 × Int32 × Int32, o = .inl b → ∀ (H : Heap) (locs : List Loc) (ls : Array Slot), va_P D cls (mw md mc b.1) H → va_D A (mw md mc b.1) → va_S A s.heap H locs → lv_has ls 11 [(0, .ref (md 100)), (1, .int b.2.1), (2, .int b.2.2.1), (3, .int b.2.2.2.1), (4, .int b.2.2.2.2.1), (5, .long b.2.2.2.2.2.1), (9, .int b.2.2.2.2.2.2.1), (10, .int b.2.2.2.2.2.2.2)] → W p l e ({ frames := 5, cells := 0, slots := 0, locals := 123 }) s m args below meth c H locs 0 0 Q (F0 m 47 ls [])) (K0 : ∀ b : MS × Int32 × Int32 × Int32 × Int32 × Int64 × Int32, o = .inr b → ∀ (H : Heap) (locs : List Loc) (ls : Array Slot), va_P D cls (mw md mc b.1) H → va_D A (mw md mc b.1) → va_S A s.heap H locs → lv_has ls 11 [(0, .ref (md 100)), (1, .int b.2.1), (2, .int b.2.2.1), (3, .int b.2.2.2.1), (4, .int b.2.2.2.2.1), (5, .long b.2.2.2.2.2.1), (9, .int b.2.2.2.2.2.2)] → W p l e ({ frames := 5, cells := 0, slots := 0, locals := 123 }) s m args below meth c H locs 0 0 Q (F0 m 90 ls [])) : ∀ (H : Heap) (locs : List Loc) (ls : Array Slot), va_P D cls (mw md mc S) H → va_D A (mw md mc S) → va_S A s.heap H locs → lv_has ls 11 [(0, .ref (md 100)), (1, .int x1), (2, .int x2), (3, .int x3), (4, .int x4), (5, .long x5), (9, .int x9), (10, .int x10)] → W p l e ({ frames := 5, cells := 0, slots := 0, locals := 123 }) s m args below meth c H locs 0 0 Q (F0 m 47 ls []) := by
  intro H locs ls hP hD hS hl
  obtain ⟨hx, hb, hr, hml, hown, hts, hK, hA⟩ := id hC
  unfold m_ract_B47 at Heq
  refine lv_iload hx hb d_ract_47 (lv_at hl 7 rfl) ?_
  refine lv_aload_n hx hb d_ract_49 rfl (lv_at hl 0 rfl) ?_
  refine va_get (D := D) (ci := 12) (v := .int (S.i 47)) (C := R_MM) (T := F_MM) (N := 77) hx hb hts i_MM hown hK hP 0 rfl rfl 47 (by decide) (hts _ kw_1429) (fun _ h9 => h9) rfl d_ract_50 ?_
  refine lv_icmp_ge (tgt := 90) hx hb d_ract_53 (by decide) (fun c_1 => ?_) (fun c_1 => ?_)
  · replace Heq := (if_pos c_1).symm.trans Heq
    exact K0 _ (Option.some.inj Heq).symm _ _ _ hP hD hS (lv_sub hl [0, 1, 2, 3, 4, 5, 6] rfl)
  · replace Heq := (if_neg c_1).symm.trans Heq
    refine lv_iload hx hb d_ract_56 (lv_at hl 6 rfl) ?_
    refine lv_if_ne (tgt := 77) hx hb d_ract_58 (by decide) (fun c_2 => ?_) (fun c_2 => ?_)
    · replace Heq := (if_neg c_2).symm.trans Heq
      exact w_ract_J77 hC Heq Ka K0 _ _ _ hP hD hS (lv_sub hl [0, 1, 2, 3, 4, 5, 7] rfl)
    · replace Heq := (if_pos c_2).symm.trans Heq
      refine lv_aload_n hx hb d_ract_61 rfl (lv_at hl 0 rfl) ?_
      refine va_get (D := D) (ci := 12) (v := .ref (md 11)) (C := R_MM) (T := F_MM) (N := 77) hx hb hts i_MM hown hK hP 0 rfl rfl 11 (by decide) (hts _ kw_1393) (fun _ h9 => h9) rfl d_ract_62 ?_
      refine lv_aload_n hx hb d_ract_65 rfl (lv_at hl 0 rfl) ?_
      refine va_get (D := D) (ci := 12) (v := .ref (md 46)) (C := R_MM) (T := F_MM) (N := 77) hx hb hts i_MM hown hK hP 0 rfl rfl 46 (by decide) (hts _ kw_1428) (fun _ h9 => h9) rfl d_ract_66 ?_
      refine lv_iload hx hb d_ract_69 (lv_at hl 7 rfl) ?_
      obtain ⟨hi_3, Heq⟩ := gd_some Heq
      refine va_iald hx hb hK hP 31 0 rfl rfl (i := x10) hi_3 d_ract_71 ?_
      refine w_i (y := S.a 46 x10.toNatClampNeg) rfl ?_
      obtain ⟨hi_4, Heq⟩ := gd_some Heq
      refine va_iald hx hb hK hP 7 0 rfl rfl (i := S.a 46 x10.toNatClampNeg) hi_4 d_ract_72 ?_
      refine w_i (y := S.a 11 ((S.a 46 x10.toNatClampNeg).toNatClampNeg)) rfl ?_
      refine lv_iconst (v := 5) hx hb d_ract_73 (by decide) ?_
      refine lv_icmp_ne (tgt := 81) hx hb d_ract_74 (by decide) (fun c_5 => ?_) (fun c_5 => ?_)
      · replace Heq := (if_neg c_5).symm.trans Heq
        refine lv_iconst (v := 0) hx hb d_ract_81 (by decide) ?_
        exact w_ract_J82 hC Heq Ka K0 _ _ _ hP hD hS (lv_sub hl [0, 1, 2, 3, 4, 5, 7] rfl)
      · replace Heq := (if_pos c_5).symm.trans Heq
        exact w_ract_J77 hC Heq Ka K0 _ _ _ hP hD hS (lv_sub hl [0, 1, 2, 3, 4, 5, 7] rfl)
def m_ract_L47 (S : MS) (x1 : Int32) (x2 : Int32) (x3 : Int32) (x4 : Int32) (x5 : Int64) (x9 : Int32) (x10 : Int32) : Option (MS × Int32 × Int32 × Int32 × Int32 × Int64 × Int32) := lp (fun a : MS × Int32 × Int32 × Int32 × Int32 × Int64 × Int32 × Int32 => m_ract_B47 a.1 a.2.1 a.2.2.1 a.2.2.2.1 a.2.2.2.2.1 a.2.2.2.2.2.1 a.2.2.2.2.2.2.1 a.2.2.2.2.2.2.2) FU (S, x1, x2, x3, x4, x5, x9, x10)
theorem w_ract_L47 {p : Program} {l : Launch} {e : Env} {s : State} {m : MethodId} {args : Array Value} {below : List Frame} {meth : Method} {c : Code} {A : Nat → Prop} {D : va_G} {md : Nat → Nat} {mc : Nat → ClassId} {Q : State → Prop} (hC : MCx "JoinedTreesModel" prog_14_method_36_code 11 (some .int) p s m args meth c A D mc) {S : MS} {x1 : Int32} {x2 : Int32} {x3 : Int32} {x4 : Int32} {x5 : Int64} {x9 : Int32} {x10 : Int32} {o : MS × Int32 × Int32 × Int32 × Int32 × Int64 × Int32} (Heq : m_ract_L47 S x1 x2 x3 x4 x5 x9 x10 = some o) (K0 : ∀ b : MS × Int32 × Int32 × Int32 × Int32 × Int64 × Int32, o = b → ∀ (H : Heap) (locs : List Loc) (ls : Array Slot), va_P D cls (mw md mc b.1) H → va_D A (mw md mc b.1) → va_S A s.heap H locs → lv_has ls 11 [(0, .ref (md 100)), (1, .int b.2.1), (2, .int b.2.2.1), (3, .int b.2.2.2.1), (4, .int b.2.2.2.2.1), (5, .long b.2.2.2.2.2.1), (9, .int b.2.2.2.2.2.2)] → W p l e ({ frames := 5, cells := 0, slots := 0, locals := 123 }) s m args below meth c H locs 0 0 Q (F0 m 90 ls [])) : ∀ (H : Heap) (locs : List Loc) (ls : Array Slot), va_P D cls (mw md mc S) H → va_D A (mw md mc S) → va_S A s.heap H locs → lv_has ls 11 [(0, .ref (md 100)), (1, .int x1), (2, .int x2), (3, .int x3), (4, .int x4), (5, .long x5), (9, .int x9), (10, .int x10)] → W p l e ({ frames := 5, cells := 0, slots := 0, locals := 123 }) s m args below meth c H locs 0 0 Q (F0 m 47 ls []) := by
  refine lp_w (G := fun a : MS × Int32 × Int32 × Int32 × Int32 × Int64 × Int32 × Int32 => ∀ (H : Heap) (locs : List Loc) (ls : Array Slot), va_P D cls (mw md mc a.1) H → va_D A (mw md mc a.1) → va_S A s.heap H locs → lv_has ls 11 [(0, .ref (md 100)), (1, .int a.2.1), (2, .int a.2.2.1), (3, .int a.2.2.2.1), (4, .int a.2.2.2.2.1), (5, .long a.2.2.2.2.2.1), (9, .int a.2.2.2.2.2.2.1), (10, .int a.2.2.2.2.2.2.2)] → W p l e ({ frames := 5, cells := 0, slots := 0, locals := 123 }) s m args below meth c H locs 0 0 Q (F0 m 47 ls [])) ?_ FU (S, x1, x2, x3, x4, x5, x9, x10) Heq
  intro a o1 ho Ka Ke
  exact w_ract_B47 hC ho (fun b h => Ka b h) (fun b h => K0 b (Ke _ h).symm)
def m_ract_J226 (S : MS) (x10 : Int32) : Option (MS × Int32) := gd x10 4000 (some (S, S.a 8 x10.toNatClampNeg))
theorem d_ract_90 : decode prog_14_method_36_code 90 = .ok (.iload 9, 2) := by decide +kernel
theorem d_ract_92 : decode prog_14_method_36_code 92 = .ok (.ifCond .ne 9, 3) := by decide +kernel
theorem d_ract_101 : decode prog_14_method_36_code 101 = .ok (.aload_n 0, 1) := by decide +kernel
theorem d_ract_102 : decode prog_14_method_36_code 102 = .ok (.getfield 104, 3) := by decide +kernel
theorem d_ract_105 : decode prog_14_method_36_code 105 = .ok (.iload_n 1, 1) := by decide +kernel
theorem d_ract_106 : decode prog_14_method_36_code 106 = .ok (.iaload, 1) := by decide +kernel
theorem d_ract_107 : decode prog_14_method_36_code 107 = .ok (.ifCond .lt 9, 3) := by decide +kernel
theorem d_ract_116 : decode prog_14_method_36_code 116 = .ok (.aload_n 0, 1) := by decide +kernel
theorem d_ract_117 : decode prog_14_method_36_code 117 = .ok (.iconst 1, 1) := by decide +kernel
theorem d_ract_118 : decode prog_14_method_36_code 118 = .ok (.iload_n 3, 1) := by decide +kernel
theorem d_ract_119 : decode prog_14_method_36_code 119 = .ok (.ifCond .ge 10, 3) := by decide +kernel
theorem d_ract_129 : decode prog_14_method_36_code 129 = .ok (.iconst 0, 1) := by decide +kernel
theorem d_ract_130 : decode prog_14_method_36_code 130 = .ok (.invokevirtual 261, 3) := by decide +kernel
theorem d_ract_133 : decode prog_14_method_36_code 133 = .ok (.ifCond .eq 9, 3) := by decide +kernel
theorem d_ract_142 : decode prog_14_method_36_code 142 = .ok (.aload_n 0, 1) := by decide +kernel
theorem d_ract_143 : decode prog_14_method_36_code 143 = .ok (.iconst 0, 1) := by decide +kernel
theorem d_ract_144 : decode prog_14_method_36_code 144 = .ok (.putfield 176, 3) := by decide +kernel
theorem d_ract_147 : decode prog_14_method_36_code 147 = .ok (.aload_n 0, 1) := by decide +kernel
theorem d_ract_148 : decode prog_14_method_36_code 148 = .ok (.iload_n 1, 1) := by decide +kernel
theorem d_ract_149 : decode prog_14_method_36_code 149 = .ok (.iload_n 2, 1) := by decide +kernel
theorem d_ract_150 : decode prog_14_method_36_code 150 = .ok (.iload 4, 2) := by decide +kernel
theorem d_ract_152 : decode prog_14_method_36_code 152 = .ok (.lload 5, 2) := by decide +kernel
theorem d_ract_154 : decode prog_14_method_36_code 154 = .ok (.invokevirtual 272, 3) := by decide +kernel
theorem d_ract_157 : decode prog_14_method_36_code 157 = .ok (.istore 10, 2) := by decide +kernel
theorem d_ract_159 : decode prog_14_method_36_code 159 = .ok (.aload_n 0, 1) := by decide +kernel
theorem d_ract_160 : decode prog_14_method_36_code 160 = .ok (.iload 10, 2) := by decide +kernel
theorem d_ract_162 : decode prog_14_method_36_code 162 = .ok (.iload 4, 2) := by decide +kernel
theorem d_ract_164 : decode prog_14_method_36_code 164 = .ok (.bipush 10, 2) := by decide +kernel
theorem d_ract_166 : decode prog_14_method_36_code 166 = .ok (.if_icmp .ne 7, 3) := by decide +kernel
theorem d_ract_173 : decode prog_14_method_36_code 173 = .ok (.iconst 0, 1) := by decide +kernel
theorem d_ract_174 : decode prog_14_method_36_code 174 = .ok (.invokevirtual 276, 3) := by decide +kernel
theorem d_ract_177 : decode prog_14_method_36_code 177 = .ok (.iload_n 3, 1) := by decide +kernel
theorem d_ract_178 : decode prog_14_method_36_code 178 = .ok (.ifCond .ge 37, 3) := by decide +kernel
theorem d_ract_215 : decode prog_14_method_36_code 215 = .ok (.aload_n 0, 1) := by decide +kernel
theorem d_ract_216 : decode prog_14_method_36_code 216 = .ok (.getfield 26, 3) := by decide +kernel
theorem d_ract_219 : decode prog_14_method_36_code 219 = .ok (.iload 10, 2) := by decide +kernel
theorem d_ract_221 : decode prog_14_method_36_code 221 = .ok (.aload_n 0, 1) := by decide +kernel
theorem d_ract_222 : decode prog_14_method_36_code 222 = .ok (.getfield 302, 3) := by decide +kernel
theorem d_ract_225 : decode prog_14_method_36_code 225 = .ok (.iastore, 1) := by decide +kernel
theorem d_ract_226 : decode prog_14_method_36_code 226 = .ok (.aload_n 0, 1) := by decide +kernel
theorem d_ract_227 : decode prog_14_method_36_code 227 = .ok (.getfield 19, 3) := by decide +kernel
theorem d_ract_230 : decode prog_14_method_36_code 230 = .ok (.iload 10, 2) := by decide +kernel
theorem d_ract_232 : decode prog_14_method_36_code 232 = .ok (.iaload, 1) := by decide +kernel
theorem d_ract_233 : decode prog_14_method_36_code 233 = .ok (.ireturn, 1) := by decide +kernel
set_option maxHeartbeats 4000000 in
set_option maxRecDepth 100000 in
theorem w_ract_J226 {p : Program} {l : Launch} {e : Env} {s : State} {m : MethodId} {args : Array Value} {below : List Frame} {meth : Method} {c : Code} {A : Nat → Prop} {D : va_G} {md : Nat → Nat} {mc : Nat → ClassId} {Q : State → Prop} (hC : MCx "JoinedTreesModel" prog_14_method_36_code 11 (some .int) p s m args meth c A D mc) {S : MS} {x10 : Int32} {o : MS × Int32} (Heq : m_ract_J226 S x10 = some o) (Kr : ∀ r : MS × Int32, o = r → ∀ (pc : Nat) (H : Heap) (locs : List Loc) (ls : Array Slot), decode prog_14_method_36_code pc = .ok (.ireturn, 1) → va_P D cls (mw md mc r.1) H → va_D A (mw md mc r.1) → va_S A s.heap H locs → W p l e ({ frames := 5, cells := 0, slots := 0, locals := 123 }) s m args below meth c H locs 0 0 Q (F0 m pc ls [.int r.2])) : ∀ (H : Heap) (locs : List Loc) (ls : Array Slot), va_P D cls (mw md mc S) H → va_D A (mw md mc S) → va_S A s.heap H locs → lv_has ls 11 [(0, .ref (md 100)), (10, .int x10)] → W p l e ({ frames := 5, cells := 0, slots := 0, locals := 123 }) s m args below meth c H locs 0 0 Q (F0 m 226 ls []) := by
  intro H locs ls hP hD hS hl
  obtain ⟨hx, hb, hr, hml, hown, hts, hK, hA⟩ := id hC
  unfold m_ract_J226 at Heq
  refine lv_aload_n hx hb d_ract_226 rfl (lv_at hl 0 rfl) ?_
  refine va_get (D := D) (ci := 12) (v := .ref (md 8)) (C := R_MM) (T := F_MM) (N := 77) hx hb hts i_MM hown hK hP 0 rfl rfl 8 (by decide) (hts _ kw_1390) (fun _ h9 => h9) rfl d_ract_227 ?_
  refine lv_iload hx hb d_ract_230 (lv_at hl 1 rfl) ?_
  obtain ⟨hi_1, Heq⟩ := gd_some Heq
  refine va_iald hx hb hK hP 4 0 rfl rfl (i := x10) hi_1 d_ract_232 ?_
  refine w_i (y := S.a 8 x10.toNatClampNeg) rfl ?_
  exact Kr _ (Option.some.inj Heq).symm 233 _ _ _ d_ract_233 hP hD hS
def m_ract_J174 (S : MS) (x3 : Int32) (x10 : Int32) (t0 : Int32) (t1 : Int32) : Option (MS × Int32) := ob (m_rfollows S t1 t0) (fun o_1 => (if 0 ≤ x3 then gd x10 4000 (m_ract_J226 (o_1.setA 10 (upd (o_1.a 10) x10.toNatClampNeg (o_1.i 52))) x10) else ob (m_rkeep o_1 2 0 (o_1.i 5)) (fun o_5 => gd x10 4000 (gd x10 4000 (m_ract_J226 ((o_5.1.setA 14 (upd (o_5.1.a 14) x10.toNatClampNeg o_5.2)).setA 15 (upd (o_5.1.a 15) x10.toNatClampNeg (o_5.1.i 5))) x10)))))
theorem d_ract_181 : decode prog_14_method_36_code 181 = .ok (.aload_n 0, 1) := by decide +kernel
theorem d_ract_182 : decode prog_14_method_36_code 182 = .ok (.getfield 38, 3) := by decide +kernel
theorem d_ract_185 : decode prog_14_method_36_code 185 = .ok (.iload 10, 2) := by decide +kernel
theorem d_ract_187 : decode prog_14_method_36_code 187 = .ok (.aload_n 0, 1) := by decide +kernel
theorem d_ract_188 : decode prog_14_method_36_code 188 = .ok (.aload_n 0, 1) := by decide +kernel
theorem d_ract_189 : decode prog_14_method_36_code 189 = .ok (.getfield 13, 3) := by decide +kernel
theorem d_ract_192 : decode prog_14_method_36_code 192 = .ok (.iconst 0, 1) := by decide +kernel
theorem d_ract_193 : decode prog_14_method_36_code 193 = .ok (.aload_n 0, 1) := by decide +kernel
theorem d_ract_194 : decode prog_14_method_36_code 194 = .ok (.getfield 185, 3) := by decide +kernel
theorem d_ract_197 : decode prog_14_method_36_code 197 = .ok (.invokevirtual 280, 3) := by decide +kernel
theorem d_ract_200 : decode prog_14_method_36_code 200 = .ok (.iastore, 1) := by decide +kernel
theorem d_ract_201 : decode prog_14_method_36_code 201 = .ok (.aload_n 0, 1) := by decide +kernel
theorem d_ract_202 : decode prog_14_method_36_code 202 = .ok (.getfield 41, 3) := by decide +kernel
theorem d_ract_205 : decode prog_14_method_36_code 205 = .ok (.iload 10, 2) := by decide +kernel
theorem d_ract_207 : decode prog_14_method_36_code 207 = .ok (.aload_n 0, 1) := by decide +kernel
theorem d_ract_208 : decode prog_14_method_36_code 208 = .ok (.getfield 185, 3) := by decide +kernel
theorem d_ract_211 : decode prog_14_method_36_code 211 = .ok (.iastore, 1) := by decide +kernel
theorem d_ract_212 : decode prog_14_method_36_code 212 = .ok (.goto 14, 3) := by decide +kernel
set_option maxHeartbeats 4000000 in
set_option maxRecDepth 100000 in
theorem w_ract_J174 {p : Program} {l : Launch} {e : Env} {s : State} {m : MethodId} {args : Array Value} {below : List Frame} {meth : Method} {c : Code} {A : Nat → Prop} {D : va_G} {md : Nat → Nat} {mc : Nat → ClassId} {Q : State → Prop} (hC : MCx "JoinedTreesModel" prog_14_method_36_code 11 (some .int) p s m args meth c A D mc) {S : MS} {x3 : Int32} {x10 : Int32} {t0 : Int32} {t1 : Int32} {o : MS × Int32} (Heq : m_ract_J174 S x3 x10 t0 t1 = some o) (Kr : ∀ r : MS × Int32, o = r → ∀ (pc : Nat) (H : Heap) (locs : List Loc) (ls : Array Slot), decode prog_14_method_36_code pc = .ok (.ireturn, 1) → va_P D cls (mw md mc r.1) H → va_D A (mw md mc r.1) → va_S A s.heap H locs → W p l e ({ frames := 5, cells := 0, slots := 0, locals := 123 }) s m args below meth c H locs 0 0 Q (F0 m pc ls [.int r.2])) : ∀ (H : Heap) (locs : List Loc) (ls : Array Slot), va_P D cls (mw md mc S) H → va_D A (mw md mc S) → va_S A s.heap H locs → lv_has ls 11 [(0, .ref (md 100)), (3, .int x3), (10, .int x10)] → W p l e ({ frames := 5, cells := 0, slots := 0, locals := 123 }) s m args below meth c H locs 0 0 Q (F0 m 174 ls [.int t0, .int t1, .ref (md 100)]) := by
  intro H locs ls hP hD hS hl
  obtain ⟨hx, hb, hr, hml, hown, hts, hK, hA⟩ := id hC
  unfold m_ract_J174 at Heq
  obtain ⟨o_1, h_2, Heq⟩ := ob_some Heq
  have hFc := fr_all hD hS hA
  refine va_callv (va_runV (As := [.int t1, .int t0]) (rest := []) ⟨hx, hb, hml, hown, hts⟩ (g_rfollows l D H.size h_2) (cw_v 2 hts kw_1697 kw_1694 kw_1696 kp_43 kw_11 rfl rfl (by decide +kernel) ⟨Nat.le_of_ble_eq_true rfl, Nat.le_of_ble_eq_true rfl⟩) ⟨g_blind, va_recv hK hP (ci := 12) (q0 := 0) rfl rfl, fun U hU hW => g_pre hU hW hP hK hD⟩ rfl rfl hl.1 rfl (lv_room (Nat.le_of_ble_eq_true rfl)) d_ract_174 ⟨Nat.le_of_ble_eq_true rfl, Nat.le_of_ble_eq_true rfl⟩) hS (fun q _ h => hFc q h) hFc (fun u t H1 locs ht hvm hw hB hz1 hk1 hS => ?_)
  obtain ⟨hP, -, hD1⟩ := hB
  rw [ht] at hP
  have hD := hD1.weaken (fun _ q _ h => hFc q.1 h)
  generalize H1 = H at hP hS ⊢
  refine W.cs (cells' := 0) (slots' := 0) rfl rfl ?_
  refine lv_iload_n hx hb d_ract_177 rfl (lv_at hl 1 rfl) ?_
  refine lv_if_ge (tgt := 215) hx hb d_ract_178 (by decide) (fun c_3 => ?_) (fun c_3 => ?_)
  · replace Heq := (if_pos c_3).symm.trans Heq
    refine lv_aload_n hx hb d_ract_215 rfl (lv_at hl 0 rfl) ?_
    refine va_get (D := D) (ci := 12) (v := .ref (md 10)) (C := R_MM) (T := F_MM) (N := 77) hx hb hts i_MM hown hK hP 0 rfl rfl 10 (by decide) (hts _ kw_1392) (fun _ h9 => h9) rfl d_ract_216 ?_
    refine lv_iload hx hb d_ract_219 (lv_at hl 2 rfl) ?_
    refine lv_aload_n hx hb d_ract_221 rfl (lv_at hl 0 rfl) ?_
    refine va_get (D := D) (ci := 12) (v := .int (o_1.i 52)) (C := R_MM) (T := F_MM) (N := 77) hx hb hts i_MM hown hK hP 0 rfl rfl 52 (by decide) (hts _ kw_1434) (fun _ h9 => h9) rfl d_ract_222 ?_
    obtain ⟨hi_4, Heq⟩ := gd_some Heq
    refine va_iast hx hb hK hP hD hS 6 0 rfl rfl (i := x10) (x := o_1.i 52) hi_4 d_ract_225 (fun H locs hP hD hS => ?_)
    rw [mw_A10] at hP hD
    exact w_ract_J226 hC Heq Kr _ _ _ hP hD hS (lv_sub hl [0, 2] rfl)
  · replace Heq := (if_neg c_3).symm.trans Heq
    refine lv_aload_n hx hb d_ract_181 rfl (lv_at hl 0 rfl) ?_
    refine va_get (D := D) (ci := 12) (v := .ref (md 14)) (C := R_MM) (T := F_MM) (N := 77) hx hb hts i_MM hown hK hP 0 rfl rfl 14 (by decide) (hts _ kw_1396) (fun _ h9 => h9) rfl d_ract_182 ?_
    refine lv_iload hx hb d_ract_185 (lv_at hl 2 rfl) ?_
    refine lv_aload_n hx hb d_ract_187 rfl (lv_at hl 0 rfl) ?_
    refine lv_aload_n hx hb d_ract_188 rfl (lv_at hl 0 rfl) ?_
    refine va_get (D := D) (ci := 12) (v := .ref (md 2)) (C := R_MM) (T := F_MM) (N := 77) hx hb hts i_MM hown hK hP 0 rfl rfl 2 (by decide) (hts _ kw_1384) (fun _ h9 => h9) rfl d_ract_189 ?_
    refine lv_iconst (v := 0) hx hb d_ract_192 (by decide) ?_
    refine lv_aload_n hx hb d_ract_193 rfl (lv_at hl 0 rfl) ?_
    refine va_get (D := D) (ci := 12) (v := .int (o_1.i 5)) (C := R_MM) (T := F_MM) (N := 77) hx hb hts i_MM hown hK hP 0 rfl rfl 5 (by decide) (hts _ kw_1387) (fun _ h9 => h9) rfl d_ract_194 ?_
    obtain ⟨o_5, h_6, Heq⟩ := ob_some Heq
    have hFc := fr_all hD hS hA
    refine va_calli (va_runV (As := [.ref (md 2), .int 0, .int (o_1.i 5)]) (rest := [.int x10, .ref (md 14)]) ⟨hx, hb, hml, hown, hts⟩ (g_rkeep l D H.size h_6) (cw_v 3 hts kw_1701 kw_1698 kw_1700 kp_44 kw_11 rfl rfl (by decide +kernel) ⟨Nat.le_of_ble_eq_true rfl, Nat.le_of_ble_eq_true rfl⟩) ⟨g_blind, va_recv hK hP (ci := 12) (q0 := 0) rfl rfl, fun U hU hW => g_pre hU hW hP hK hD⟩ rfl rfl hl.1 rfl (lv_room (Nat.le_of_ble_eq_true rfl)) d_ract_197 ⟨Nat.le_of_ble_eq_true rfl, Nat.le_of_ble_eq_true rfl⟩) hS (fun q _ h => hFc q h) hFc (fun rz u t H1 locs ht hvm hw hB hz1 hk1 hS => ?_)
    obtain ⟨hP, -, hD1⟩ := hB
    rw [ht] at hP
    have hD := hD1.weaken (fun _ q _ h => hFc q.1 h)
    generalize H1 = H at hP hS ⊢
    refine W.cs (cells' := 0) (slots' := 0) rfl rfl ?_
    subst hw
    obtain ⟨hi_7, Heq⟩ := gd_some Heq
    refine va_iast hx hb hK hP hD hS 10 0 rfl rfl (i := x10) (x := o_5.2) hi_7 d_ract_200 (fun H locs hP hD hS => ?_)
    rw [mw_A14] at hP hD
    refine lv_aload_n hx hb d_ract_201 rfl (lv_at hl 0 rfl) ?_
    refine va_get (D := D) (ci := 12) (v := .ref (md 15)) (C := R_MM) (T := F_MM) (N := 77) hx hb hts i_MM hown hK hP 0 rfl rfl 15 (by decide) (hts _ kw_1397) (fun _ h9 => h9) rfl d_ract_202 ?_
    refine lv_iload hx hb d_ract_205 (lv_at hl 2 rfl) ?_
    refine lv_aload_n hx hb d_ract_207 rfl (lv_at hl 0 rfl) ?_
    refine va_get (D := D) (ci := 12) (v := .int (o_5.1.i 5)) (C := R_MM) (T := F_MM) (N := 77) hx hb hts i_MM hown hK hP 0 rfl rfl 5 (by decide) (hts _ kw_1387) (fun _ h9 => h9) rfl d_ract_208 ?_
    obtain ⟨hi_8, Heq⟩ := gd_some Heq
    refine va_iast hx hb hK hP hD hS 11 0 rfl rfl (i := x10) (x := o_5.1.i 5) hi_8 d_ract_211 (fun H locs hP hD hS => ?_)
    rw [mw_A15] at hP hD
    refine lv_goto (tgt := 226) hx hb d_ract_212 (by decide) ?_
    exact w_ract_J226 hC Heq Kr _ _ _ hP hD hS (lv_sub hl [0, 2] rfl)
def m_ract_J130 (S : MS) (x1 : Int32) (x2 : Int32) (x3 : Int32) (x4 : Int32) (x5 : Int64) (t0 : Int32) (t1 : Int32) : Option (MS × Int32) := ob (m_rfull S t1 t0) (fun o_1 => (if o_1.2 = 0 then ob (m_rmake (o_1.1.setI 0 0) x1 x2 x4 x5) (fun o_4 => (if x4 = 10 then m_ract_J174 o_4.1 x3 o_4.2 1 o_4.2 else m_ract_J174 o_4.1 x3 o_4.2 0 o_4.2)) else ob (m_rno o_1.1 4) (fun o_7 => some (o_7.1, o_7.2))))
theorem d_ract_169 : decode prog_14_method_36_code 169 = .ok (.iconst 1, 1) := by decide +kernel
theorem d_ract_170 : decode prog_14_method_36_code 170 = .ok (.goto 4, 3) := by decide +kernel
theorem d_ract_136 : decode prog_14_method_36_code 136 = .ok (.aload_n 0, 1) := by decide +kernel
theorem d_ract_137 : decode prog_14_method_36_code 137 = .ok (.iconst 4, 1) := by decide +kernel
theorem d_ract_138 : decode prog_14_method_36_code 138 = .ok (.invokevirtual 191, 3) := by decide +kernel
theorem d_ract_141 : decode prog_14_method_36_code 141 = .ok (.ireturn, 1) := by decide +kernel
set_option maxHeartbeats 4000000 in
set_option maxRecDepth 100000 in
theorem w_ract_J130 {p : Program} {l : Launch} {e : Env} {s : State} {m : MethodId} {args : Array Value} {below : List Frame} {meth : Method} {c : Code} {A : Nat → Prop} {D : va_G} {md : Nat → Nat} {mc : Nat → ClassId} {Q : State → Prop} (hC : MCx "JoinedTreesModel" prog_14_method_36_code 11 (some .int) p s m args meth c A D mc) {S : MS} {x1 : Int32} {x2 : Int32} {x3 : Int32} {x4 : Int32} {x5 : Int64} {t0 : Int32} {t1 : Int32} {o : MS × Int32} (Heq : m_ract_J130 S x1 x2 x3 x4 x5 t0 t1 = some o) (Kr : ∀ r : MS × Int32, o = r → ∀ (pc : Nat) (H : Heap) (locs : List Loc) (ls : Array Slot), decode prog_14_method_36_code pc = .ok (.ireturn, 1) → va_P D cls (mw md mc r.1) H → va_D A (mw md mc r.1) → va_S A s.heap H locs → W p l e ({ frames := 5, cells := 0, slots := 0, locals := 123 }) s m args below meth c H locs 0 0 Q (F0 m pc ls [.int r.2])) : ∀ (H : Heap) (locs : List Loc) (ls : Array Slot), va_P D cls (mw md mc S) H → va_D A (mw md mc S) → va_S A s.heap H locs → lv_has ls 11 [(0, .ref (md 100)), (1, .int x1), (2, .int x2), (3, .int x3), (4, .int x4), (5, .long x5)] → W p l e ({ frames := 5, cells := 0, slots := 0, locals := 123 }) s m args below meth c H locs 0 0 Q (F0 m 130 ls [.int t0, .int t1, .ref (md 100)]) := by
  intro H locs ls hP hD hS hl
  obtain ⟨hx, hb, hr, hml, hown, hts, hK, hA⟩ := id hC
  unfold m_ract_J130 at Heq
  obtain ⟨o_1, h_2, Heq⟩ := ob_some Heq
  have hFc := fr_all hD hS hA
  refine va_calli (va_runV (As := [.int t1, .int t0]) (rest := []) ⟨hx, hb, hml, hown, hts⟩ (g_rfull l D H.size h_2) (cw_v 2 hts kw_1660 kw_1657 kw_1659 kp_34 kw_11 rfl rfl (by decide +kernel) ⟨Nat.le_of_ble_eq_true rfl, Nat.le_of_ble_eq_true rfl⟩) ⟨g_blind, va_recv hK hP (ci := 12) (q0 := 0) rfl rfl, fun U hU hW => g_pre hU hW hP hK hD⟩ rfl rfl hl.1 rfl (lv_room (Nat.le_of_ble_eq_true rfl)) d_ract_130 ⟨Nat.le_of_ble_eq_true rfl, Nat.le_of_ble_eq_true rfl⟩) hS (fun q _ h => hFc q h) hFc (fun rz u t H1 locs ht hvm hw hB hz1 hk1 hS => ?_)
  obtain ⟨hP, -, hD1⟩ := hB
  rw [ht] at hP
  have hD := hD1.weaken (fun _ q _ h => hFc q.1 h)
  generalize H1 = H at hP hS ⊢
  refine W.cs (cells' := 0) (slots' := 0) rfl rfl ?_
  subst hw
  refine lv_if_eq (tgt := 142) hx hb d_ract_133 (by decide) (fun c_3 => ?_) (fun c_3 => ?_)
  · replace Heq := (if_pos c_3).symm.trans Heq
    refine lv_aload_n hx hb d_ract_142 rfl (lv_at hl 0 rfl) ?_
    refine lv_iconst (v := 0) hx hb d_ract_143 (by decide) ?_
    refine va_put (D := D) (ci := 12) (v := .int 0) (ty := .int) (C := R_MM) (T := F_MM) (N := 77) hx hb hts i_MM t_MM t_MM_ok n_MM hown hK hP hD hS 0 rfl rfl 0 (by decide) (hts _ kw_1382) (fun _ h9 => h9) rfl (by decide +kernel) rfl rfl (Nat.le_of_ble_eq_true rfl) d_ract_144 (fun H locs hP hD hS => ?_)
    rw [mw_I0] at hP hD
    refine lv_aload_n hx hb d_ract_147 rfl (lv_at hl 0 rfl) ?_
    refine lv_iload_n hx hb d_ract_148 rfl (lv_at hl 1 rfl) ?_
    refine lv_iload_n hx hb d_ract_149 rfl (lv_at hl 2 rfl) ?_
    refine lv_iload hx hb d_ract_150 (lv_at hl 4 rfl) ?_
    refine lv_lload hx hb d_ract_152 (lv_at hl 5 rfl) ?_
    obtain ⟨o_4, h_5, Heq⟩ := ob_some Heq
    have hFc := fr_all hD hS hA
    refine va_calli (va_runV (As := [.int x1, .int x2, .int x4, .long x5]) (rest := []) ⟨hx, hb, hml, hown, hts⟩ (g_rmake l D H.size h_5) (cw_v 4 hts kw_1684 kw_1681 kw_1683 kp_40 kw_11 rfl rfl (by decide +kernel) ⟨Nat.le_of_ble_eq_true rfl, Nat.le_of_ble_eq_true rfl⟩) ⟨g_blind, va_recv hK hP (ci := 12) (q0 := 0) rfl rfl, fun U hU hW => g_pre hU hW hP hK hD⟩ rfl rfl hl.1 rfl (lv_room (Nat.le_of_ble_eq_true rfl)) d_ract_154 ⟨Nat.le_of_ble_eq_true rfl, Nat.le_of_ble_eq_true rfl⟩) hS (fun q _ h => hFc q h) hFc (fun rz u t H1 locs ht hvm hw hB hz1 hk1 hS => ?_)
    obtain ⟨hP, -, hD1⟩ := hB
    rw [ht] at hP
    have hD := hD1.weaken (fun _ q _ h => hFc q.1 h)
    generalize H1 = H at hP hS ⊢
    refine W.cs (cells' := 0) (slots' := 0) rfl rfl ?_
    subst hw
    refine lv_istore (lv' := [(10, .int o_4.2), (0, .ref (md 100)), (1, .int x1), (2, .int x2), (3, .int x3), (4, .int x4), (5, .long x5)]) hx hb d_ract_157 hl (by decide) rfl (fun ls hl => ?_)
    refine lv_aload_n hx hb d_ract_159 rfl (lv_at hl 1 rfl) ?_
    refine lv_iload hx hb d_ract_160 (lv_at hl 0 rfl) ?_
    refine lv_iload hx hb d_ract_162 (lv_at hl 5 rfl) ?_
    refine lv_bipush (v := 10) hx hb d_ract_164 (by decide) ?_
    refine lv_icmp_ne (tgt := 173) hx hb d_ract_166 (by decide) (fun c_6 => ?_) (fun c_6 => ?_)
    · replace Heq := (if_neg c_6).symm.trans Heq
      refine lv_iconst (v := 0) hx hb d_ract_173 (by decide) ?_
      exact w_ract_J174 hC Heq Kr _ _ _ hP hD hS (lv_sub hl [1, 4, 0] rfl)
    · replace Heq := (if_pos c_6).symm.trans Heq
      refine lv_iconst (v := 1) hx hb d_ract_169 (by decide) ?_
      refine lv_goto (tgt := 174) hx hb d_ract_170 (by decide) ?_
      exact w_ract_J174 hC Heq Kr _ _ _ hP hD hS (lv_sub hl [1, 4, 0] rfl)
  · replace Heq := (if_neg c_3).symm.trans Heq
    refine lv_aload_n hx hb d_ract_136 rfl (lv_at hl 0 rfl) ?_
    refine lv_iconst (v := 4) hx hb d_ract_137 (by decide) ?_
    obtain ⟨o_7, h_8, Heq⟩ := ob_some Heq
    have hFc := fr_all hD hS hA
    refine va_calli (va_runV (As := [.int 4]) (rest := []) ⟨hx, hb, hml, hown, hts⟩ (g_rno l D H.size h_8) (cw_v 1 hts kw_1626 kw_1623 kw_1625 kp_29 kw_11 rfl rfl (by decide +kernel) ⟨Nat.le_of_ble_eq_true rfl, Nat.le_of_ble_eq_true rfl⟩) ⟨g_blind, va_recv hK hP (ci := 12) (q0 := 0) rfl rfl, fun U hU hW => g_pre hU hW hP hK hD⟩ rfl rfl hl.1 rfl (lv_room (Nat.le_of_ble_eq_true rfl)) d_ract_138 ⟨Nat.le_of_ble_eq_true rfl, Nat.le_of_ble_eq_true rfl⟩) hS (fun q _ h => hFc q h) hFc (fun rz u t H1 locs ht hvm hw hB hz1 hk1 hS => ?_)
    obtain ⟨hP, -, hD1⟩ := hB
    rw [ht] at hP
    have hD := hD1.weaken (fun _ q _ h => hFc q.1 h)
    generalize H1 = H at hP hS ⊢
    refine W.cs (cells' := 0) (slots' := 0) rfl rfl ?_
    subst hw
    exact Kr _ (Option.some.inj Heq).symm 141 _ _ _ d_ract_141 hP hD hS
def m_ract_J42 (S : MS) (x1 : Int32) (x2 : Int32) (x3 : Int32) (x4 : Int32) (x5 : Int64) (t0 : Int32) : Option (MS × Int32) := ob (m_ract_L47 S x1 x2 x3 x4 x5 t0 0) (fun b_1 => (if b_1.2.2.2.2.2.2 = 0 then ob (m_rno b_1.1 3) (fun o_9 => some (o_9.1, o_9.2)) else gd b_1.2.1 8 ((if b_1.1.a 39 b_1.2.1.toNatClampNeg < 0 then (if 0 ≤ b_1.2.2.2.1 then m_ract_J130 b_1.1 b_1.2.1 b_1.2.2.1 b_1.2.2.2.1 b_1.2.2.2.2.1 b_1.2.2.2.2.2.1 0 1 else m_ract_J130 b_1.1 b_1.2.1 b_1.2.2.1 b_1.2.2.2.1 b_1.2.2.2.2.1 b_1.2.2.2.2.2.1 (b_1.1.i 5) 1) else ob (m_rno b_1.1 2) (fun o_7 => some (o_7.1, o_7.2))))))
theorem d_ract_122 : decode prog_14_method_36_code 122 = .ok (.aload_n 0, 1) := by decide +kernel
theorem d_ract_123 : decode prog_14_method_36_code 123 = .ok (.getfield 185, 3) := by decide +kernel
theorem d_ract_126 : decode prog_14_method_36_code 126 = .ok (.goto 4, 3) := by decide +kernel
theorem d_ract_110 : decode prog_14_method_36_code 110 = .ok (.aload_n 0, 1) := by decide +kernel
theorem d_ract_111 : decode prog_14_method_36_code 111 = .ok (.iconst 2, 1) := by decide +kernel
theorem d_ract_112 : decode prog_14_method_36_code 112 = .ok (.invokevirtual 191, 3) := by decide +kernel
theorem d_ract_115 : decode prog_14_method_36_code 115 = .ok (.ireturn, 1) := by decide +kernel
theorem d_ract_95 : decode prog_14_method_36_code 95 = .ok (.aload_n 0, 1) := by decide +kernel
theorem d_ract_96 : decode prog_14_method_36_code 96 = .ok (.iconst 3, 1) := by decide +kernel
theorem d_ract_97 : decode prog_14_method_36_code 97 = .ok (.invokevirtual 191, 3) := by decide +kernel
theorem d_ract_100 : decode prog_14_method_36_code 100 = .ok (.ireturn, 1) := by decide +kernel
set_option maxHeartbeats 4000000 in
set_option maxRecDepth 100000 in
theorem w_ract_J42 {p : Program} {l : Launch} {e : Env} {s : State} {m : MethodId} {args : Array Value} {below : List Frame} {meth : Method} {c : Code} {A : Nat → Prop} {D : va_G} {md : Nat → Nat} {mc : Nat → ClassId} {Q : State → Prop} (hC : MCx "JoinedTreesModel" prog_14_method_36_code 11 (some .int) p s m args meth c A D mc) {S : MS} {x1 : Int32} {x2 : Int32} {x3 : Int32} {x4 : Int32} {x5 : Int64} {t0 : Int32} {o : MS × Int32} (Heq : m_ract_J42 S x1 x2 x3 x4 x5 t0 = some o) (Kr : ∀ r : MS × Int32, o = r → ∀ (pc : Nat) (H : Heap) (locs : List Loc) (ls : Array Slot), decode prog_14_method_36_code pc = .ok (.ireturn, 1) → va_P D cls (mw md mc r.1) H → va_D A (mw md mc r.1) → va_S A s.heap H locs → W p l e ({ frames := 5, cells := 0, slots := 0, locals := 123 }) s m args below meth c H locs 0 0 Q (F0 m pc ls [.int r.2])) : ∀ (H : Heap) (locs : List Loc) (ls : Array Slot), va_P D cls (mw md mc S) H → va_D A (mw md mc S) → va_S A s.heap H locs → lv_has ls 11 [(0, .ref (md 100)), (1, .int x1), (2, .int x2), (3, .int x3), (4, .int x4), (5, .long x5)] → W p l e ({ frames := 5, cells := 0, slots := 0, locals := 123 }) s m args below meth c H locs 0 0 Q (F0 m 42 ls [.int t0]) := by
  intro H locs ls hP hD hS hl
  obtain ⟨hx, hb, hr, hml, hown, hts, hK, hA⟩ := id hC
  unfold m_ract_J42 at Heq
  refine lv_istore (lv' := [(9, .int t0), (0, .ref (md 100)), (1, .int x1), (2, .int x2), (3, .int x3), (4, .int x4), (5, .long x5)]) hx hb d_ract_42 hl (by decide) rfl (fun ls hl => ?_)
  refine lv_iconst (v := 0) hx hb d_ract_44 (by decide) ?_
  refine lv_istore (lv' := [(10, .int 0), (9, .int t0), (0, .ref (md 100)), (1, .int x1), (2, .int x2), (3, .int x3), (4, .int x4), (5, .long x5)]) hx hb d_ract_45 hl (by decide) rfl (fun ls hl => ?_)
  obtain ⟨b_1, h_2, Heq⟩ := ob_some Heq
  refine w_ract_L47 hC h_2 (fun b h => ?_) _ _ _ hP hD hS (lv_sub hl [2, 3, 4, 5, 6, 7, 1, 0] rfl)
  subst h
  intro H locs ls hP hD hS hl
  refine lv_iload hx hb d_ract_90 (lv_at hl 6 rfl) ?_
  refine lv_if_ne (tgt := 101) hx hb d_ract_92 (by decide) (fun c_3 => ?_) (fun c_3 => ?_)
  · replace Heq := (if_neg c_3).symm.trans Heq
    refine lv_aload_n hx hb d_ract_101 rfl (lv_at hl 0 rfl) ?_
    refine va_get (D := D) (ci := 12) (v := .ref (md 39)) (C := R_MM) (T := F_MM) (N := 77) hx hb hts i_MM hown hK hP 0 rfl rfl 39 (by decide) (hts _ kw_1421) (fun _ h9 => h9) rfl d_ract_102 ?_
    refine lv_iload_n hx hb d_ract_105 rfl (lv_at hl 1 rfl) ?_
    obtain ⟨hi_4, Heq⟩ := gd_some Heq
    refine va_iald hx hb hK hP 27 0 rfl rfl (i := b_1.2.1) hi_4 d_ract_106 ?_
    refine w_i (y := b_1.1.a 39 b_1.2.1.toNatClampNeg) rfl ?_
    refine lv_if_lt (tgt := 116) hx hb d_ract_107 (by decide) (fun c_5 => ?_) (fun c_5 => ?_)
    · replace Heq := (if_pos c_5).symm.trans Heq
      refine lv_aload_n hx hb d_ract_116 rfl (lv_at hl 0 rfl) ?_
      refine lv_iconst (v := 1) hx hb d_ract_117 (by decide) ?_
      refine lv_iload_n hx hb d_ract_118 rfl (lv_at hl 3 rfl) ?_
      refine lv_if_ge (tgt := 129) hx hb d_ract_119 (by decide) (fun c_6 => ?_) (fun c_6 => ?_)
      · replace Heq := (if_pos c_6).symm.trans Heq
        refine lv_iconst (v := 0) hx hb d_ract_129 (by decide) ?_
        exact w_ract_J130 hC Heq Kr _ _ _ hP hD hS (lv_sub hl [0, 1, 2, 3, 4, 5] rfl)
      · replace Heq := (if_neg c_6).symm.trans Heq
        refine lv_aload_n hx hb d_ract_122 rfl (lv_at hl 0 rfl) ?_
        refine va_get (D := D) (ci := 12) (v := .int (b_1.1.i 5)) (C := R_MM) (T := F_MM) (N := 77) hx hb hts i_MM hown hK hP 0 rfl rfl 5 (by decide) (hts _ kw_1387) (fun _ h9 => h9) rfl d_ract_123 ?_
        refine lv_goto (tgt := 130) hx hb d_ract_126 (by decide) ?_
        exact w_ract_J130 hC Heq Kr _ _ _ hP hD hS (lv_sub hl [0, 1, 2, 3, 4, 5] rfl)
    · replace Heq := (if_neg c_5).symm.trans Heq
      refine lv_aload_n hx hb d_ract_110 rfl (lv_at hl 0 rfl) ?_
      refine lv_iconst (v := 2) hx hb d_ract_111 (by decide) ?_
      obtain ⟨o_7, h_8, Heq⟩ := ob_some Heq
      have hFc := fr_all hD hS hA
      refine va_calli (va_runV (As := [.int 2]) (rest := []) ⟨hx, hb, hml, hown, hts⟩ (g_rno l D H.size h_8) (cw_v 1 hts kw_1626 kw_1623 kw_1625 kp_29 kw_11 rfl rfl (by decide +kernel) ⟨Nat.le_of_ble_eq_true rfl, Nat.le_of_ble_eq_true rfl⟩) ⟨g_blind, va_recv hK hP (ci := 12) (q0 := 0) rfl rfl, fun U hU hW => g_pre hU hW hP hK hD⟩ rfl rfl hl.1 rfl (lv_room (Nat.le_of_ble_eq_true rfl)) d_ract_112 ⟨Nat.le_of_ble_eq_true rfl, Nat.le_of_ble_eq_true rfl⟩) hS (fun q _ h => hFc q h) hFc (fun rz u t H1 locs ht hvm hw hB hz1 hk1 hS => ?_)
      obtain ⟨hP, -, hD1⟩ := hB
      rw [ht] at hP
      have hD := hD1.weaken (fun _ q _ h => hFc q.1 h)
      generalize H1 = H at hP hS ⊢
      refine W.cs (cells' := 0) (slots' := 0) rfl rfl ?_
      subst hw
      exact Kr _ (Option.some.inj Heq).symm 115 _ _ _ d_ract_115 hP hD hS
  · replace Heq := (if_pos c_3).symm.trans Heq
    refine lv_aload_n hx hb d_ract_95 rfl (lv_at hl 0 rfl) ?_
    refine lv_iconst (v := 3) hx hb d_ract_96 (by decide) ?_
    obtain ⟨o_9, h_10, Heq⟩ := ob_some Heq
    have hFc := fr_all hD hS hA
    refine va_calli (va_runV (As := [.int 3]) (rest := []) ⟨hx, hb, hml, hown, hts⟩ (g_rno l D H.size h_10) (cw_v 1 hts kw_1626 kw_1623 kw_1625 kp_29 kw_11 rfl rfl (by decide +kernel) ⟨Nat.le_of_ble_eq_true rfl, Nat.le_of_ble_eq_true rfl⟩) ⟨g_blind, va_recv hK hP (ci := 12) (q0 := 0) rfl rfl, fun U hU hW => g_pre hU hW hP hK hD⟩ rfl rfl hl.1 rfl (lv_room (Nat.le_of_ble_eq_true rfl)) d_ract_97 ⟨Nat.le_of_ble_eq_true rfl, Nat.le_of_ble_eq_true rfl⟩) hS (fun q _ h => hFc q h) hFc (fun rz u t H1 locs ht hvm hw hB hz1 hk1 hS => ?_)
    obtain ⟨hP, -, hD1⟩ := hB
    rw [ht] at hP
    have hD := hD1.weaken (fun _ q _ h => hFc q.1 h)
    generalize H1 = H at hP hS ⊢
    refine W.cs (cells' := 0) (slots' := 0) rfl rfl ?_
    subst hw
    exact Kr _ (Option.some.inj Heq).symm 100 _ _ _ d_ract_100 hP hD hS
def m_ract_J0 (S : MS) (x1 : Int32) (x2 : Int32) (x3 : Int32) (x4 : Int32) (x5 : Int64) : Option (MS × Int32) := ob (m_rtaken S) (fun o_1 => ob (m_rpoint o_1.1 x1 x2 x3 o_1.2 3) (fun o_3 => (if o_3.2 = 0 then (if x4 = 9 then m_ract_J42 o_3.1 x1 x2 x3 x4 x5 1 else m_ract_J42 o_3.1 x1 x2 x3 x4 x5 0) else ob (m_rno o_3.1 o_3.2) (fun o_7 => some (o_7.1, o_7.2)))))
theorem d_ract_37 : decode prog_14_method_36_code 37 = .ok (.iconst 1, 1) := by decide +kernel
theorem d_ract_38 : decode prog_14_method_36_code 38 = .ok (.goto 4, 3) := by decide +kernel
theorem d_ract_23 : decode prog_14_method_36_code 23 = .ok (.aload_n 0, 1) := by decide +kernel
theorem d_ract_24 : decode prog_14_method_36_code 24 = .ok (.iload 8, 2) := by decide +kernel
theorem d_ract_26 : decode prog_14_method_36_code 26 = .ok (.invokevirtual 191, 3) := by decide +kernel
theorem d_ract_29 : decode prog_14_method_36_code 29 = .ok (.ireturn, 1) := by decide +kernel
set_option maxHeartbeats 4000000 in
set_option maxRecDepth 100000 in
theorem w_ract_J0 {p : Program} {l : Launch} {e : Env} {s : State} {m : MethodId} {args : Array Value} {below : List Frame} {meth : Method} {c : Code} {A : Nat → Prop} {D : va_G} {md : Nat → Nat} {mc : Nat → ClassId} {Q : State → Prop} (hC : MCx "JoinedTreesModel" prog_14_method_36_code 11 (some .int) p s m args meth c A D mc) {S : MS} {x1 : Int32} {x2 : Int32} {x3 : Int32} {x4 : Int32} {x5 : Int64} {o : MS × Int32} (Heq : m_ract_J0 S x1 x2 x3 x4 x5 = some o) (Kr : ∀ r : MS × Int32, o = r → ∀ (pc : Nat) (H : Heap) (locs : List Loc) (ls : Array Slot), decode prog_14_method_36_code pc = .ok (.ireturn, 1) → va_P D cls (mw md mc r.1) H → va_D A (mw md mc r.1) → va_S A s.heap H locs → W p l e ({ frames := 5, cells := 0, slots := 0, locals := 123 }) s m args below meth c H locs 0 0 Q (F0 m pc ls [.int r.2])) : ∀ (H : Heap) (locs : List Loc) (ls : Array Slot), va_P D cls (mw md mc S) H → va_D A (mw md mc S) → va_S A s.heap H locs → lv_has ls 11 [(0, .ref (md 100)), (1, .int x1), (2, .int x2), (3, .int x3), (4, .int x4), (5, .long x5)] → W p l e ({ frames := 5, cells := 0, slots := 0, locals := 123 }) s m args below meth c H locs 0 0 Q (F0 m 0 ls []) := by
  intro H locs ls hP hD hS hl
  obtain ⟨hx, hb, hr, hml, hown, hts, hK, hA⟩ := id hC
  unfold m_ract_J0 at Heq
  refine lv_aload_n hx hb d_ract_0 rfl (lv_at hl 0 rfl) ?_
  obtain ⟨o_1, h_2, Heq⟩ := ob_some Heq
  have hFc := fr_all hD hS hA
  refine va_calli (va_runV (As := []) (rest := []) ⟨hx, hb, hml, hown, hts⟩ (g_rtaken l D H.size h_2) (cw_v 0 hts kw_1638 kw_1635 kw_1637 kp_30 kw_11 rfl rfl (by decide +kernel) ⟨Nat.le_of_ble_eq_true rfl, Nat.le_of_ble_eq_true rfl⟩) ⟨g_blind, va_recv hK hP (ci := 12) (q0 := 0) rfl rfl, fun U hU hW => g_pre hU hW hP hK hD⟩ rfl rfl hl.1 rfl (lv_room (Nat.le_of_ble_eq_true rfl)) d_ract_1 ⟨Nat.le_of_ble_eq_true rfl, Nat.le_of_ble_eq_true rfl⟩) hS (fun q _ h => hFc q h) hFc (fun rz u t H1 locs ht hvm hw hB hz1 hk1 hS => ?_)
  obtain ⟨hP, -, hD1⟩ := hB
  rw [ht] at hP
  have hD := hD1.weaken (fun _ q _ h => hFc q.1 h)
  generalize H1 = H at hP hS ⊢
  refine W.cs (cells' := 0) (slots' := 0) rfl rfl ?_
  subst hw
  refine lv_istore (lv' := [(7, .int o_1.2), (0, .ref (md 100)), (1, .int x1), (2, .int x2), (3, .int x3), (4, .int x4), (5, .long x5)]) hx hb d_ract_4 hl (by decide) rfl (fun ls hl => ?_)
  refine lv_aload_n hx hb d_ract_6 rfl (lv_at hl 1 rfl) ?_
  refine lv_iload_n hx hb d_ract_7 rfl (lv_at hl 2 rfl) ?_
  refine lv_iload_n hx hb d_ract_8 rfl (lv_at hl 3 rfl) ?_
  refine lv_iload_n hx hb d_ract_9 rfl (lv_at hl 4 rfl) ?_
  refine lv_iload hx hb d_ract_10 (lv_at hl 0 rfl) ?_
  refine lv_iconst (v := 3) hx hb d_ract_12 (by decide) ?_
  obtain ⟨o_3, h_4, Heq⟩ := ob_some Heq
  have hFc := fr_all hD hS hA
  refine va_calli (va_runV (As := [.int x1, .int x2, .int x3, .int o_1.2, .int 3]) (rest := []) ⟨hx, hb, hml, hown, hts⟩ (g_rpoint l D H.size h_4) (cw_v 5 hts kw_1753 kw_1750 kw_1752 kp_53 kw_11 rfl rfl (by decide +kernel) ⟨Nat.le_of_ble_eq_true rfl, Nat.le_of_ble_eq_true rfl⟩) ⟨g_blind, va_recv hK hP (ci := 12) (q0 := 0) rfl rfl, fun U hU hW => g_pre hU hW hP hK hD⟩ rfl rfl hl.1 rfl (lv_room (Nat.le_of_ble_eq_true rfl)) d_ract_13 ⟨Nat.le_of_ble_eq_true rfl, Nat.le_of_ble_eq_true rfl⟩) hS (fun q _ h => hFc q h) hFc (fun rz u t H1 locs ht hvm hw hB hz1 hk1 hS => ?_)
  obtain ⟨hP, -, hD1⟩ := hB
  rw [ht] at hP
  have hD := hD1.weaken (fun _ q _ h => hFc q.1 h)
  generalize H1 = H at hP hS ⊢
  refine W.cs (cells' := 0) (slots' := 0) rfl rfl ?_
  subst hw
  refine lv_istore (lv' := [(8, .int o_3.2), (7, .int o_1.2), (0, .ref (md 100)), (1, .int x1), (2, .int x2), (3, .int x3), (4, .int x4), (5, .long x5)]) hx hb d_ract_16 hl (by decide) rfl (fun ls hl => ?_)
  refine lv_iload hx hb d_ract_18 (lv_at hl 0 rfl) ?_
  refine lv_if_eq (tgt := 30) hx hb d_ract_20 (by decide) (fun c_5 => ?_) (fun c_5 => ?_)
  · replace Heq := (if_pos c_5).symm.trans Heq
    refine lv_iload hx hb d_ract_30 (lv_at hl 6 rfl) ?_
    refine lv_bipush (v := 9) hx hb d_ract_32 (by decide) ?_
    refine lv_icmp_ne (tgt := 41) hx hb d_ract_34 (by decide) (fun c_6 => ?_) (fun c_6 => ?_)
    · replace Heq := (if_neg c_6).symm.trans Heq
      refine lv_iconst (v := 0) hx hb d_ract_41 (by decide) ?_
      exact w_ract_J42 hC Heq Kr _ _ _ hP hD hS (lv_sub hl [2, 3, 4, 5, 6, 7] rfl)
    · replace Heq := (if_pos c_6).symm.trans Heq
      refine lv_iconst (v := 1) hx hb d_ract_37 (by decide) ?_
      refine lv_goto (tgt := 42) hx hb d_ract_38 (by decide) ?_
      exact w_ract_J42 hC Heq Kr _ _ _ hP hD hS (lv_sub hl [2, 3, 4, 5, 6, 7] rfl)
  · replace Heq := (if_neg c_5).symm.trans Heq
    refine lv_aload_n hx hb d_ract_23 rfl (lv_at hl 2 rfl) ?_
    refine lv_iload hx hb d_ract_24 (lv_at hl 0 rfl) ?_
    obtain ⟨o_7, h_8, Heq⟩ := ob_some Heq
    have hFc := fr_all hD hS hA
    refine va_calli (va_runV (As := [.int o_3.2]) (rest := []) ⟨hx, hb, hml, hown, hts⟩ (g_rno l D H.size h_8) (cw_v 1 hts kw_1626 kw_1623 kw_1625 kp_29 kw_11 rfl rfl (by decide +kernel) ⟨Nat.le_of_ble_eq_true rfl, Nat.le_of_ble_eq_true rfl⟩) ⟨g_blind, va_recv hK hP (ci := 12) (q0 := 0) rfl rfl, fun U hU hW => g_pre hU hW hP hK hD⟩ rfl rfl hl.1 rfl (lv_room (Nat.le_of_ble_eq_true rfl)) d_ract_26 ⟨Nat.le_of_ble_eq_true rfl, Nat.le_of_ble_eq_true rfl⟩) hS (fun q _ h => hFc q h) hFc (fun rz u t H1 locs ht hvm hw hB hz1 hk1 hS => ?_)
    obtain ⟨hP, -, hD1⟩ := hB
    rw [ht] at hP
    have hD := hD1.weaken (fun _ q _ h => hFc q.1 h)
    generalize H1 = H at hP hS ⊢
    refine W.cs (cells' := 0) (slots' := 0) rfl rfl ?_
    subst hw
    exact Kr _ (Option.some.inj Heq).symm 29 _ _ _ d_ract_29 hP hD hS
def m_ract (S : MS) (x1 : Int32) (x2 : Int32) (x3 : Int32) (x4 : Int32) (x5 : Int64) : Option (MS × Int32) := m_ract_J0 S x1 x2 x3 x4 x5
theorem g_ract (l : Launch) (D : va_G) (sz : Nat) {md : Nat → Nat} {mc : Nat → ClassId} {S : MS} {x1 : Int32} {x2 : Int32} {x3 : Int32} {x4 : Int32} {x5 : Int64} {o : MS × Int32} (Heq : m_ract S x1 x2 x3 x4 x5 = some o) : Met l ⟨"JoinedTreesModel", "act", "(IIIIJ)I"⟩ (Cond.code ⟨"JoinedTreesModel", "act", "(IIIIJ)I"⟩ prog_14_method_36_code 11 (some .int) :: gb) ({ frames := 5, cells := 0, slots := 0, locals := 123 }) (gPc D (mw md mc S) (mty mc) sz [.ref (md 100), .int x1, .int x2, .int x3, .int x4, .long x5]) (va_Qi (fun (r : Int32) (_ : Unit) => r = o.2) (fun _ t => gO D (mw md mc o.1) (mty mc) (va_A (mw md mc S) sz) t) (va_A (mw md mc S) sz)) 0 0 (va_A (mw md mc S) sz) := by
  refine Met.ofW (cc := prog_14_method_36_code) (maxL := 11) (ret := (some .int)) (by decide) rfl ?_
  intro p e s m args below meth c s₁ B hml hv
  obtain ⟨rfl, hsz, hP, hK, hD0⟩ := hv
  have hx := B.exec
  have hb := B.bytes
  have hr := B.returns
  have hts : ∀ w9 ∈ gb, w9.before [.ref (md 100), .int x1, .int x2, .int x3, .int x4, .long x5].toArray s = true := fun w9 h => atoms_spec (ws := Cond.code ⟨"JoinedTreesModel", "act", "(IIIIJ)I"⟩ prog_14_method_36_code 11 (some .int) :: gb) B.pre w9 (List.mem_cons_of_mem _ h)
  have hown : s.vm.findClass "JoinedTreesModel" = some m.cls := findClass_of_methodNamed B.named
  have hlocks := B.notSynchronized
  subst hsz
  have hD := hD0.self (sz := s.heap.size)
  generalize hAe : va_A (mw md mc S) s.heap.size = A at hD ⊢
  have hA : ∀ q : Nat, s.heap.size ≤ q → A q := fun q h => by rw [← hAe]; exact Or.inr h
  have hS : va_S A s.heap s.heap [] := va_S.rf
  have hl := lv_entry ([.ref (md 100), .int x1, .int x2, .int x3, .int x4, .long x5]) (n := 11) (Nat.le_of_ble_eq_true rfl)
  rw [lg_entry_eq]
  generalize (lg_sl ([.ref (md 100), .int x1, .int x2, .int x3, .int x4, .long x5]) ++ List.replicate (11 - (lg_sl ([.ref (md 100), .int x1, .int x2, .int x3, .int x4, .long x5])).length) Slot.unset).toArray = ls at hl ⊢
  have hl : lv_has ls 11 [(0, .ref (md 100)), (1, .int x1), (2, .int x2), (3, .int x3), (4, .int x4), (5, .long x5)] := hl
  refine w_ract_J0 ⟨hx, hb, hr, hml, hown, hts, hK, hA⟩ Heq (fun r h pc H locs ls hd hP hD hS => ?_) _ _ _ hP hD hS (lv_sub hl [0, 1, 2, 3, 4, 5] rfl)
  subst h
  exact W.iret hx hb hr (fun t ht hW => ⟨⟨_, (), rfl, rfl, by rw [ht]; exact hP, va_K.moved hW.alike hK, hD⟩, hS.F ht⟩) hS.2.2 hd
def m_rerase_J0 (S : MS) (x1 : Int32) (x2 : Int32) (x3 : Int32) : Option (MS × Int32) := ob (m_ract S x1 x2 x3 9 0) (fun o_1 => some (o_1.1, o_1.2))
theorem d_rerase_0 : decode prog_14_method_37_code 0 = .ok (.aload_n 0, 1) := by decide +kernel
theorem d_rerase_1 : decode prog_14_method_37_code 1 = .ok (.iload_n 1, 1) := by decide +kernel
theorem d_rerase_2 : decode prog_14_method_37_code 2 = .ok (.iload_n 2, 1) := by decide +kernel
theorem d_rerase_3 : decode prog_14_method_37_code 3 = .ok (.iload_n 3, 1) := by decide +kernel
theorem d_rerase_4 : decode prog_14_method_37_code 4 = .ok (.bipush 9, 2) := by decide +kernel
theorem d_rerase_6 : decode prog_14_method_37_code 6 = .ok (.lconst 0, 1) := by decide +kernel
theorem d_rerase_7 : decode prog_14_method_37_code 7 = .ok (.invokevirtual 309, 3) := by decide +kernel
theorem d_rerase_10 : decode prog_14_method_37_code 10 = .ok (.ireturn, 1) := by decide +kernel
set_option maxHeartbeats 4000000 in
set_option maxRecDepth 100000 in
theorem w_rerase_J0 {p : Program} {l : Launch} {e : Env} {s : State} {m : MethodId} {args : Array Value} {below : List Frame} {meth : Method} {c : Code} {A : Nat → Prop} {D : va_G} {md : Nat → Nat} {mc : Nat → ClassId} {Q : State → Prop} (hC : MCx "JoinedTreesModel" prog_14_method_37_code 4 (some .int) p s m args meth c A D mc) {S : MS} {x1 : Int32} {x2 : Int32} {x3 : Int32} {o : MS × Int32} (Heq : m_rerase_J0 S x1 x2 x3 = some o) (Kr : ∀ r : MS × Int32, o = r → ∀ (pc : Nat) (H : Heap) (locs : List Loc) (ls : Array Slot), decode prog_14_method_37_code pc = .ok (.ireturn, 1) → va_P D cls (mw md mc r.1) H → va_D A (mw md mc r.1) → va_S A s.heap H locs → W p l e ({ frames := 6, cells := 0, slots := 0, locals := 153 }) s m args below meth c H locs 0 0 Q (F0 m pc ls [.int r.2])) : ∀ (H : Heap) (locs : List Loc) (ls : Array Slot), va_P D cls (mw md mc S) H → va_D A (mw md mc S) → va_S A s.heap H locs → lv_has ls 4 [(0, .ref (md 100)), (1, .int x1), (2, .int x2), (3, .int x3)] → W p l e ({ frames := 6, cells := 0, slots := 0, locals := 153 }) s m args below meth c H locs 0 0 Q (F0 m 0 ls []) := by
  intro H locs ls hP hD hS hl
  obtain ⟨hx, hb, hr, hml, hown, hts, hK, hA⟩ := id hC
  unfold m_rerase_J0 at Heq
  refine lv_aload_n hx hb d_rerase_0 rfl (lv_at hl 0 rfl) ?_
  refine lv_iload_n hx hb d_rerase_1 rfl (lv_at hl 1 rfl) ?_
  refine lv_iload_n hx hb d_rerase_2 rfl (lv_at hl 2 rfl) ?_
  refine lv_iload_n hx hb d_rerase_3 rfl (lv_at hl 3 rfl) ?_
  refine lv_bipush (v := 9) hx hb d_rerase_4 (by decide) ?_
  refine lv_lconst (v := 0) hx hb d_rerase_6 (by decide) ?_
  obtain ⟨o_1, h_2, Heq⟩ := ob_some Heq
  have hFc := fr_all hD hS hA
  refine va_calli (va_runV (As := [.int x1, .int x2, .int x3, .int 9, .long 0]) (rest := []) ⟨hx, hb, hml, hown, hts⟩ (g_ract l D H.size h_2) (cw_v 5 hts kw_1749 kw_1746 kw_1748 kp_52 kw_11 rfl rfl (by decide +kernel) ⟨Nat.le_of_ble_eq_true rfl, Nat.le_of_ble_eq_true rfl⟩) ⟨g_blind, va_recv hK hP (ci := 12) (q0 := 0) rfl rfl, fun U hU hW => g_pre hU hW hP hK hD⟩ rfl rfl hl.1 rfl (lv_room (Nat.le_of_ble_eq_true rfl)) d_rerase_7 ⟨Nat.le_of_ble_eq_true rfl, Nat.le_of_ble_eq_true rfl⟩) hS (fun q _ h => hFc q h) hFc (fun rz u t H1 locs ht hvm hw hB hz1 hk1 hS => ?_)
  obtain ⟨hP, -, hD1⟩ := hB
  rw [ht] at hP
  have hD := hD1.weaken (fun _ q _ h => hFc q.1 h)
  generalize H1 = H at hP hS ⊢
  refine W.cs (cells' := 0) (slots' := 0) rfl rfl ?_
  subst hw
  exact Kr _ (Option.some.inj Heq).symm 10 _ _ _ d_rerase_10 hP hD hS
def m_rerase (S : MS) (x1 : Int32) (x2 : Int32) (x3 : Int32) : Option (MS × Int32) := m_rerase_J0 S x1 x2 x3
theorem g_rerase (l : Launch) (D : va_G) (sz : Nat) {md : Nat → Nat} {mc : Nat → ClassId} {S : MS} {x1 : Int32} {x2 : Int32} {x3 : Int32} {o : MS × Int32} (Heq : m_rerase S x1 x2 x3 = some o) : Met l ⟨"JoinedTreesModel", "erase", "(III)I"⟩ (Cond.code ⟨"JoinedTreesModel", "erase", "(III)I"⟩ prog_14_method_37_code 4 (some .int) :: gb) ({ frames := 6, cells := 0, slots := 0, locals := 153 }) (gPc D (mw md mc S) (mty mc) sz [.ref (md 100), .int x1, .int x2, .int x3]) (va_Qi (fun (r : Int32) (_ : Unit) => r = o.2) (fun _ t => gO D (mw md mc o.1) (mty mc) (va_A (mw md mc S) sz) t) (va_A (mw md mc S) sz)) 0 0 (va_A (mw md mc S) sz) := by
  refine Met.ofW (cc := prog_14_method_37_code) (maxL := 4) (ret := (some .int)) (by decide) rfl ?_
  intro p e s m args below meth c s₁ B hml hv
  obtain ⟨rfl, hsz, hP, hK, hD0⟩ := hv
  have hx := B.exec
  have hb := B.bytes
  have hr := B.returns
  have hts : ∀ w9 ∈ gb, w9.before [.ref (md 100), .int x1, .int x2, .int x3].toArray s = true := fun w9 h => atoms_spec (ws := Cond.code ⟨"JoinedTreesModel", "erase", "(III)I"⟩ prog_14_method_37_code 4 (some .int) :: gb) B.pre w9 (List.mem_cons_of_mem _ h)
  have hown : s.vm.findClass "JoinedTreesModel" = some m.cls := findClass_of_methodNamed B.named
  have hlocks := B.notSynchronized
  subst hsz
  have hD := hD0.self (sz := s.heap.size)
  generalize hAe : va_A (mw md mc S) s.heap.size = A at hD ⊢
  have hA : ∀ q : Nat, s.heap.size ≤ q → A q := fun q h => by rw [← hAe]; exact Or.inr h
  have hS : va_S A s.heap s.heap [] := va_S.rf
  have hl := lv_entry ([.ref (md 100), .int x1, .int x2, .int x3]) (n := 4) (Nat.le_of_ble_eq_true rfl)
  rw [lg_entry_eq]
  generalize (lg_sl ([.ref (md 100), .int x1, .int x2, .int x3]) ++ List.replicate (4 - (lg_sl ([.ref (md 100), .int x1, .int x2, .int x3])).length) Slot.unset).toArray = ls at hl ⊢
  have hl : lv_has ls 4 [(0, .ref (md 100)), (1, .int x1), (2, .int x2), (3, .int x3)] := hl
  refine w_rerase_J0 ⟨hx, hb, hr, hml, hown, hts, hK, hA⟩ Heq (fun r h pc H locs ls hd hP hD hS => ?_) _ _ _ hP hD hS (lv_sub hl [0, 1, 2, 3] rfl)
  subst h
  exact W.iret hx hb hr (fun t ht hW => ⟨⟨_, (), rfl, rfl, by rw [ht]; exact hP, va_K.moved hW.alike hK, hD⟩, hS.F ht⟩) hS.2.2 hd
def m_radd_J0 (S : MS) (x1 : Int32) (x2 : Int32) (x3 : Int32) (x4 : Int64) : Option (MS × Int32) := ob (m_ract S x1 x2 x3 10 x4) (fun o_1 => some (o_1.1, o_1.2))
theorem d_radd_0 : decode prog_14_method_38_code 0 = .ok (.aload_n 0, 1) := by decide +kernel
theorem d_radd_1 : decode prog_14_method_38_code 1 = .ok (.iload_n 1, 1) := by decide +kernel
theorem d_radd_2 : decode prog_14_method_38_code 2 = .ok (.iload_n 2, 1) := by decide +kernel
theorem d_radd_3 : decode prog_14_method_38_code 3 = .ok (.iload_n 3, 1) := by decide +kernel
theorem d_radd_4 : decode prog_14_method_38_code 4 = .ok (.bipush 10, 2) := by decide +kernel
theorem d_radd_6 : decode prog_14_method_38_code 6 = .ok (.lload 4, 2) := by decide +kernel
theorem d_radd_8 : decode prog_14_method_38_code 8 = .ok (.invokevirtual 309, 3) := by decide +kernel
theorem d_radd_11 : decode prog_14_method_38_code 11 = .ok (.ireturn, 1) := by decide +kernel
set_option maxHeartbeats 4000000 in
set_option maxRecDepth 100000 in
theorem w_radd_J0 {p : Program} {l : Launch} {e : Env} {s : State} {m : MethodId} {args : Array Value} {below : List Frame} {meth : Method} {c : Code} {A : Nat → Prop} {D : va_G} {md : Nat → Nat} {mc : Nat → ClassId} {Q : State → Prop} (hC : MCx "JoinedTreesModel" prog_14_method_38_code 6 (some .int) p s m args meth c A D mc) {S : MS} {x1 : Int32} {x2 : Int32} {x3 : Int32} {x4 : Int64} {o : MS × Int32} (Heq : m_radd_J0 S x1 x2 x3 x4 = some o) (Kr : ∀ r : MS × Int32, o = r → ∀ (pc : Nat) (H : Heap) (locs : List Loc) (ls : Array Slot), decode prog_14_method_38_code pc = .ok (.ireturn, 1) → va_P D cls (mw md mc r.1) H → va_D A (mw md mc r.1) → va_S A s.heap H locs → W p l e ({ frames := 6, cells := 0, slots := 0, locals := 153 }) s m args below meth c H locs 0 0 Q (F0 m pc ls [.int r.2])) : ∀ (H : Heap) (locs : List Loc) (ls : Array Slot), va_P D cls (mw md mc S) H → va_D A (mw md mc S) → va_S A s.heap H locs → lv_has ls 6 [(0, .ref (md 100)), (1, .int x1), (2, .int x2), (3, .int x3), (4, .long x4)] → W p l e ({ frames := 6, cells := 0, slots := 0, locals := 153 }) s m args below meth c H locs 0 0 Q (F0 m 0 ls []) := by
  intro H locs ls hP hD hS hl
  obtain ⟨hx, hb, hr, hml, hown, hts, hK, hA⟩ := id hC
  unfold m_radd_J0 at Heq
  refine lv_aload_n hx hb d_radd_0 rfl (lv_at hl 0 rfl) ?_
  refine lv_iload_n hx hb d_radd_1 rfl (lv_at hl 1 rfl) ?_
  refine lv_iload_n hx hb d_radd_2 rfl (lv_at hl 2 rfl) ?_
  refine lv_iload_n hx hb d_radd_3 rfl (lv_at hl 3 rfl) ?_
  refine lv_bipush (v := 10) hx hb d_radd_4 (by decide) ?_
  refine lv_lload hx hb d_radd_6 (lv_at hl 4 rfl) ?_
  obtain ⟨o_1, h_2, Heq⟩ := ob_some Heq
  have hFc := fr_all hD hS hA
  refine va_calli (va_runV (As := [.int x1, .int x2, .int x3, .int 10, .long x4]) (rest := []) ⟨hx, hb, hml, hown, hts⟩ (g_ract l D H.size h_2) (cw_v 5 hts kw_1749 kw_1746 kw_1748 kp_52 kw_11 rfl rfl (by decide +kernel) ⟨Nat.le_of_ble_eq_true rfl, Nat.le_of_ble_eq_true rfl⟩) ⟨g_blind, va_recv hK hP (ci := 12) (q0 := 0) rfl rfl, fun U hU hW => g_pre hU hW hP hK hD⟩ rfl rfl hl.1 rfl (lv_room (Nat.le_of_ble_eq_true rfl)) d_radd_8 ⟨Nat.le_of_ble_eq_true rfl, Nat.le_of_ble_eq_true rfl⟩) hS (fun q _ h => hFc q h) hFc (fun rz u t H1 locs ht hvm hw hB hz1 hk1 hS => ?_)
  obtain ⟨hP, -, hD1⟩ := hB
  rw [ht] at hP
  have hD := hD1.weaken (fun _ q _ h => hFc q.1 h)
  generalize H1 = H at hP hS ⊢
  refine W.cs (cells' := 0) (slots' := 0) rfl rfl ?_
  subst hw
  exact Kr _ (Option.some.inj Heq).symm 11 _ _ _ d_radd_11 hP hD hS
def m_radd (S : MS) (x1 : Int32) (x2 : Int32) (x3 : Int32) (x4 : Int64) : Option (MS × Int32) := m_radd_J0 S x1 x2 x3 x4
theorem g_radd (l : Launch) (D : va_G) (sz : Nat) {md : Nat → Nat} {mc : Nat → ClassId} {S : MS} {x1 : Int32} {x2 : Int32} {x3 : Int32} {x4 : Int64} {o : MS × Int32} (Heq : m_radd S x1 x2 x3 x4 = some o) : Met l ⟨"JoinedTreesModel", "add", "(IIIJ)I"⟩ (Cond.code ⟨"JoinedTreesModel", "add", "(IIIJ)I"⟩ prog_14_method_38_code 6 (some .int) :: gb) ({ frames := 6, cells := 0, slots := 0, locals := 153 }) (gPc D (mw md mc S) (mty mc) sz [.ref (md 100), .int x1, .int x2, .int x3, .long x4]) (va_Qi (fun (r : Int32) (_ : Unit) => r = o.2) (fun _ t => gO D (mw md mc o.1) (mty mc) (va_A (mw md mc S) sz) t) (va_A (mw md mc S) sz)) 0 0 (va_A (mw md mc S) sz) := by
  refine Met.ofW (cc := prog_14_method_38_code) (maxL := 6) (ret := (some .int)) (by decide) rfl ?_
  intro p e s m args below meth c s₁ B hml hv
  obtain ⟨rfl, hsz, hP, hK, hD0⟩ := hv
  have hx := B.exec
  have hb := B.bytes
  have hr := B.returns
  have hts : ∀ w9 ∈ gb, w9.before [.ref (md 100), .int x1, .int x2, .int x3, .long x4].toArray s = true := fun w9 h => atoms_spec (ws := Cond.code ⟨"JoinedTreesModel", "add", "(IIIJ)I"⟩ prog_14_method_38_code 6 (some .int) :: gb) B.pre w9 (List.mem_cons_of_mem _ h)
  have hown : s.vm.findClass "JoinedTreesModel" = some m.cls := findClass_of_methodNamed B.named
  have hlocks := B.notSynchronized
  subst hsz
  have hD := hD0.self (sz := s.heap.size)
  generalize hAe : va_A (mw md mc S) s.heap.size = A at hD ⊢
  have hA : ∀ q : Nat, s.heap.size ≤ q → A q := fun q h => by rw [← hAe]; exact Or.inr h
  have hS : va_S A s.heap s.heap [] := va_S.rf
  have hl := lv_entry ([.ref (md 100), .int x1, .int x2, .int x3, .long x4]) (n := 6) (Nat.le_of_ble_eq_true rfl)
  rw [lg_entry_eq]
  generalize (lg_sl ([.ref (md 100), .int x1, .int x2, .int x3, .long x4]) ++ List.replicate (6 - (lg_sl ([.ref (md 100), .int x1, .int x2, .int x3, .long x4])).length) Slot.unset).toArray = ls at hl ⊢
  have hl : lv_has ls 6 [(0, .ref (md 100)), (1, .int x1), (2, .int x2), (3, .int x3), (4, .long x4)] := hl
  refine w_radd_J0 ⟨hx, hb, hr, hml, hown, hts, hK, hA⟩ Heq (fun r h pc H locs ls hd hP hD hS => ?_) _ _ _ hP hD hS (lv_sub hl [0, 1, 2, 3, 4] rfl)
  subst h
  exact W.iret hx hb hr (fun t ht hW => ⟨⟨_, (), rfl, rfl, by rw [ht]; exact hP, va_K.moved hW.alike hK, hD⟩, hS.F ht⟩) hS.2.2 hd
def m_rsign_J28 (S : MS) (t0 : Int32) : Option (MS × Int32) := some (S, t0)
theorem d_rsign_0 : decode prog_14_method_39_code 0 = .ok (.aload_n 0, 1) := by decide +kernel
theorem d_rsign_1 : decode prog_14_method_39_code 1 = .ok (.getfield 313, 3) := by decide +kernel
theorem d_rsign_4 : decode prog_14_method_39_code 4 = .ok (.aload_n 0, 1) := by decide +kernel
theorem d_rsign_5 : decode prog_14_method_39_code 5 = .ok (.getfield 188, 3) := by decide +kernel
theorem d_rsign_8 : decode prog_14_method_39_code 8 = .ok (.if_icmp .ge 19, 3) := by decide +kernel
theorem d_rsign_27 : decode prog_14_method_39_code 27 = .ok (.iconst (-1), 1) := by decide +kernel
theorem d_rsign_28 : decode prog_14_method_39_code 28 = .ok (.ireturn, 1) := by decide +kernel
set_option maxHeartbeats 4000000 in
set_option maxRecDepth 100000 in
theorem w_rsign_J28 {p : Program} {l : Launch} {e : Env} {s : State} {m : MethodId} {args : Array Value} {below : List Frame} {meth : Method} {c : Code} {A : Nat → Prop} {D : va_G} {md : Nat → Nat} {mc : Nat → ClassId} {Q : State → Prop} (hC : MCx "JoinedTreesModel" prog_14_method_39_code 1 (some .int) p s m args meth c A D mc) {S : MS} {t0 : Int32} {o : MS × Int32} (Heq : m_rsign_J28 S t0 = some o) (Kr : ∀ r : MS × Int32, o = r → ∀ (pc : Nat) (H : Heap) (locs : List Loc) (ls : Array Slot), decode prog_14_method_39_code pc = .ok (.ireturn, 1) → va_P D cls (mw md mc r.1) H → va_D A (mw md mc r.1) → va_S A s.heap H locs → W p l e ({ frames := 0, cells := 0, slots := 0, locals := 0 }) s m args below meth c H locs 0 0 Q (F0 m pc ls [.int r.2])) : ∀ (H : Heap) (locs : List Loc) (ls : Array Slot), va_P D cls (mw md mc S) H → va_D A (mw md mc S) → va_S A s.heap H locs → lv_has ls 1 [(0, .ref (md 100))] → W p l e ({ frames := 0, cells := 0, slots := 0, locals := 0 }) s m args below meth c H locs 0 0 Q (F0 m 28 ls [.int t0]) := by
  intro H locs ls hP hD hS hl
  obtain ⟨hx, hb, hr, hml, hown, hts, hK, hA⟩ := id hC
  unfold m_rsign_J28 at Heq
  exact Kr _ (Option.some.inj Heq).symm 28 _ _ _ d_rsign_28 hP hD hS
def m_rsign_J0 (S : MS) : Option (MS × Int32) := (if S.i 6 ≤ S.i 66 then m_rsign_J28 S (-1) else gd (S.i 66) 8300 (m_rsign_J28 S ((S.a 3 ((S.i 66).toNatClampNeg)) &&& 255)))
theorem d_rsign_11 : decode prog_14_method_39_code 11 = .ok (.aload_n 0, 1) := by decide +kernel
theorem d_rsign_12 : decode prog_14_method_39_code 12 = .ok (.getfield 16, 3) := by decide +kernel
theorem d_rsign_15 : decode prog_14_method_39_code 15 = .ok (.aload_n 0, 1) := by decide +kernel
theorem d_rsign_16 : decode prog_14_method_39_code 16 = .ok (.getfield 313, 3) := by decide +kernel
theorem d_rsign_19 : decode prog_14_method_39_code 19 = .ok (.baload, 1) := by decide +kernel
theorem d_rsign_20 : decode prog_14_method_39_code 20 = .ok (.sipush 255, 3) := by decide +kernel
theorem d_rsign_23 : decode prog_14_method_39_code 23 = .ok (.iand, 1) := by decide +kernel
theorem d_rsign_24 : decode prog_14_method_39_code 24 = .ok (.goto 4, 3) := by decide +kernel
set_option maxHeartbeats 4000000 in
set_option maxRecDepth 100000 in
theorem w_rsign_J0 {p : Program} {l : Launch} {e : Env} {s : State} {m : MethodId} {args : Array Value} {below : List Frame} {meth : Method} {c : Code} {A : Nat → Prop} {D : va_G} {md : Nat → Nat} {mc : Nat → ClassId} {Q : State → Prop} (hC : MCx "JoinedTreesModel" prog_14_method_39_code 1 (some .int) p s m args meth c A D mc) {S : MS} {o : MS × Int32} (Heq : m_rsign_J0 S = some o) (Kr : ∀ r : MS × Int32, o = r → ∀ (pc : Nat) (H : Heap) (locs : List Loc) (ls : Array Slot), decode prog_14_method_39_code pc = .ok (.ireturn, 1) → va_P D cls (mw md mc r.1) H → va_D A (mw md mc r.1) → va_S A s.heap H locs → W p l e ({ frames := 0, cells := 0, slots := 0, locals := 0 }) s m args below meth c H locs 0 0 Q (F0 m pc ls [.int r.2])) : ∀ (H : Heap) (locs : List Loc) (ls : Array Slot), va_P D cls (mw md mc S) H → va_D A (mw md mc S) → va_S A s.heap H locs → lv_has ls 1 [(0, .ref (md 100))] → W p l e ({ frames := 0, cells := 0, slots := 0, locals := 0 }) s m args below meth c H locs 0 0 Q (F0 m 0 ls []) := by
  intro H locs ls hP hD hS hl
  obtain ⟨hx, hb, hr, hml, hown, hts, hK, hA⟩ := id hC
  unfold m_rsign_J0 at Heq
  refine lv_aload_n hx hb d_rsign_0 rfl (lv_at hl 0 rfl) ?_
  refine va_get (D := D) (ci := 12) (v := .int (S.i 66)) (C := R_MM) (T := F_MM) (N := 77) hx hb hts i_MM hown hK hP 0 rfl rfl 66 (by decide) (hts _ kw_1448) (fun _ h9 => h9) rfl d_rsign_1 ?_
  refine lv_aload_n hx hb d_rsign_4 rfl (lv_at hl 0 rfl) ?_
  refine va_get (D := D) (ci := 12) (v := .int (S.i 6)) (C := R_MM) (T := F_MM) (N := 77) hx hb hts i_MM hown hK hP 0 rfl rfl 6 (by decide) (hts _ kw_1388) (fun _ h9 => h9) rfl d_rsign_5 ?_
  refine lv_icmp_ge (tgt := 27) hx hb d_rsign_8 (by decide) (fun c_1 => ?_) (fun c_1 => ?_)
  · replace Heq := (if_pos c_1).symm.trans Heq
    refine lv_iconst (v := (-1)) hx hb d_rsign_27 (by decide) ?_
    exact w_rsign_J28 hC Heq Kr _ _ _ hP hD hS (lv_sub hl [0] rfl)
  · replace Heq := (if_neg c_1).symm.trans Heq
    refine lv_aload_n hx hb d_rsign_11 rfl (lv_at hl 0 rfl) ?_
    refine va_get (D := D) (ci := 12) (v := .ref (md 3)) (C := R_MM) (T := F_MM) (N := 77) hx hb hts i_MM hown hK hP 0 rfl rfl 3 (by decide) (hts _ kw_1385) (fun _ h9 => h9) rfl d_rsign_12 ?_
    refine lv_aload_n hx hb d_rsign_15 rfl (lv_at hl 0 rfl) ?_
    refine va_get (D := D) (ci := 12) (v := .int (S.i 66)) (C := R_MM) (T := F_MM) (N := 77) hx hb hts i_MM hown hK hP 0 rfl rfl 66 (by decide) (hts _ kw_1448) (fun _ h9 => h9) rfl d_rsign_16 ?_
    obtain ⟨hi_2, Heq⟩ := gd_some Heq
    refine va_bald hx hb hK hP 3 1 rfl rfl (i := S.i 66) hi_2 d_rsign_19 ?_
    refine w_i (y := S.a 3 ((S.i 66).toNatClampNeg)) rfl ?_
    refine lv_sipush (v := 255) hx hb d_rsign_20 (by decide) ?_
    refine lv_iand hx hb d_rsign_23 ?_
    refine w_i (y := (S.a 3 ((S.i 66).toNatClampNeg)) &&& 255) rfl ?_
    refine lv_goto (tgt := 28) hx hb d_rsign_24 (by decide) ?_
    exact w_rsign_J28 hC Heq Kr _ _ _ hP hD hS (lv_sub hl [0] rfl)
def m_rsign (S : MS) : Option (MS × Int32) := m_rsign_J0 S
theorem g_rsign (l : Launch) (D : va_G) (sz : Nat) {md : Nat → Nat} {mc : Nat → ClassId} {S : MS} {o : MS × Int32} (Heq : m_rsign S = some o) : Met l ⟨"JoinedTreesModel", "sign", "()I"⟩ (Cond.code ⟨"JoinedTreesModel", "sign", "()I"⟩ prog_14_method_39_code 1 (some .int) :: gb) ({ frames := 0, cells := 0, slots := 0, locals := 0 }) (gPc D (mw md mc S) (mty mc) sz [.ref (md 100)]) (va_Qi (fun (r : Int32) (_ : Unit) => r = o.2) (fun _ t => gO D (mw md mc o.1) (mty mc) (va_A (mw md mc S) sz) t) (va_A (mw md mc S) sz)) 0 0 (va_A (mw md mc S) sz) := by
  refine Met.ofW (cc := prog_14_method_39_code) (maxL := 1) (ret := (some .int)) (by decide) rfl ?_
  intro p e s m args below meth c s₁ B hml hv
  obtain ⟨rfl, hsz, hP, hK, hD0⟩ := hv
  have hx := B.exec
  have hb := B.bytes
  have hr := B.returns
  have hts : ∀ w9 ∈ gb, w9.before [.ref (md 100)].toArray s = true := fun w9 h => atoms_spec (ws := Cond.code ⟨"JoinedTreesModel", "sign", "()I"⟩ prog_14_method_39_code 1 (some .int) :: gb) B.pre w9 (List.mem_cons_of_mem _ h)
  have hown : s.vm.findClass "JoinedTreesModel" = some m.cls := findClass_of_methodNamed B.named
  have hlocks := B.notSynchronized
  subst hsz
  have hD := hD0.self (sz := s.heap.size)
  generalize hAe : va_A (mw md mc S) s.heap.size = A at hD ⊢
  have hA : ∀ q : Nat, s.heap.size ≤ q → A q := fun q h => by rw [← hAe]; exact Or.inr h
  have hS : va_S A s.heap s.heap [] := va_S.rf
  have hl := lv_entry ([.ref (md 100)]) (n := 1) (Nat.le_of_ble_eq_true rfl)
  rw [lg_entry_eq]
  generalize (lg_sl ([.ref (md 100)]) ++ List.replicate (1 - (lg_sl ([.ref (md 100)])).length) Slot.unset).toArray = ls at hl ⊢
  have hl : lv_has ls 1 [(0, .ref (md 100))] := hl
  refine w_rsign_J0 ⟨hx, hb, hr, hml, hown, hts, hK, hA⟩ Heq (fun r h pc H locs ls hd hP hD hS => ?_) _ _ _ hP hD hS (lv_sub hl [0] rfl)
  subst h
  exact W.iret hx hb hr (fun t ht hW => ⟨⟨_, (), rfl, rfl, by rw [ht]; exact hP, va_K.moved hW.alike hK, hD⟩, hS.F ht⟩) hS.2.2 hd
def m_rskip_J36 (S : MS) : Option (MS ⊕ MS) := some (.inl ((S.setI 66 ((S.i 66) + 1))))
theorem d_rskip_0 : decode prog_14_method_40_code 0 = .ok (.aload_n 0, 1) := by decide +kernel
theorem d_rskip_1 : decode prog_14_method_40_code 1 = .ok (.invokevirtual 316, 3) := by decide +kernel
theorem d_rskip_4 : decode prog_14_method_40_code 4 = .ok (.bipush 9, 2) := by decide +kernel
theorem d_rskip_6 : decode prog_14_method_40_code 6 = .ok (.if_icmp .eq 30, 3) := by decide +kernel
theorem d_rskip_36 : decode prog_14_method_40_code 36 = .ok (.aload_n 0, 1) := by decide +kernel
theorem d_rskip_37 : decode prog_14_method_40_code 37 = .ok (.dup, 1) := by decide +kernel
theorem d_rskip_38 : decode prog_14_method_40_code 38 = .ok (.getfield 313, 3) := by decide +kernel
theorem d_rskip_41 : decode prog_14_method_40_code 41 = .ok (.iconst 1, 1) := by decide +kernel
theorem d_rskip_42 : decode prog_14_method_40_code 42 = .ok (.iadd, 1) := by decide +kernel
theorem d_rskip_43 : decode prog_14_method_40_code 43 = .ok (.putfield 313, 3) := by decide +kernel
theorem d_rskip_46 : decode prog_14_method_40_code 46 = .ok (.goto (-46), 3) := by decide +kernel
set_option maxHeartbeats 4000000 in
set_option maxRecDepth 100000 in
theorem w_rskip_J36 {p : Program} {l : Launch} {e : Env} {s : State} {m : MethodId} {args : Array Value} {below : List Frame} {meth : Method} {c : Code} {A : Nat → Prop} {D : va_G} {md : Nat → Nat} {mc : Nat → ClassId} {Q : State → Prop} (hC : MCx "JoinedTreesModel" prog_14_method_40_code 1 none p s m args meth c A D mc) {S : MS} {o : (MS ⊕ MS)} (Heq : m_rskip_J36 S = some o) (Ka : ∀ b : MS, o = .inl b → ∀ (H : Heap) (locs : List Loc) (ls : Array Slot), va_P D cls (mw md mc b) H → va_D A (mw md mc b) → va_S A s.heap H locs → lv_has ls 1 [(0, .ref (md 100))] → W p l e ({ frames := 1, cells := 0, slots := 0, locals := 20 }) s m args below meth c H locs 0 0 Q (F0 m 0 ls [])) (K0 : ∀ b : MS, o = .inr b → ∀ (H : Heap) (locs : List Loc) (ls : Array Slot), va_P D cls (mw md mc b) H → va_D A (mw md mc b) → va_S A s.heap H locs → lv_has ls 1 [(0, .ref (md 100))] → W p l e ({ frames := 1, cells := 0, slots := 0, locals := 20 }) s m args below meth c H locs 0 0 Q (F0 m 49 ls [])) : ∀ (H : Heap) (locs : List Loc) (ls : Array Slot), va_P D cls (mw md mc S) H → va_D A (mw md mc S) → va_S A s.heap H locs → lv_has ls 1 [(0, .ref (md 100))] → W p l e ({ frames := 1, cells := 0, slots := 0, locals := 20 }) s m args below meth c H locs 0 0 Q (F0 m 36 ls []) := by
  intro H locs ls hP hD hS hl
  obtain ⟨hx, hb, hr, hml, hown, hts, hK, hA⟩ := id hC
  unfold m_rskip_J36 at Heq
  refine lv_aload_n hx hb d_rskip_36 rfl (lv_at hl 0 rfl) ?_
  refine lv_dup hx hb d_rskip_37 rfl ?_
  refine va_get (D := D) (ci := 12) (v := .int (S.i 66)) (C := R_MM) (T := F_MM) (N := 77) hx hb hts i_MM hown hK hP 0 rfl rfl 66 (by decide) (hts _ kw_1448) (fun _ h9 => h9) rfl d_rskip_38 ?_
  refine lv_iconst (v := 1) hx hb d_rskip_41 (by decide) ?_
  refine lv_iadd hx hb d_rskip_42 ?_
  refine w_i (y := (S.i 66) + 1) rfl ?_
  refine va_put (D := D) (ci := 12) (v := .int ((S.i 66) + 1)) (ty := .int) (C := R_MM) (T := F_MM) (N := 77) hx hb hts i_MM t_MM t_MM_ok n_MM hown hK hP hD hS 0 rfl rfl 66 (by decide) (hts _ kw_1448) (fun _ h9 => h9) rfl (by decide +kernel) rfl rfl (Nat.le_of_ble_eq_true rfl) d_rskip_43 (fun H locs hP hD hS => ?_)
  rw [mw_I66] at hP hD
  refine lv_goto (tgt := 0) hx hb d_rskip_46 (by decide) ?_
  exact Ka _ (Option.some.inj Heq).symm _ _ _ hP hD hS (lv_sub hl [0] rfl)
def m_rskip_B0 (S : MS) : Option (MS ⊕ MS) := ob (m_rsign S) (fun o_1 => (if o_1.2 = 9 then m_rskip_J36 o_1.1 else ob (m_rsign o_1.1) (fun o_4 => (if o_4.2 = 10 then m_rskip_J36 o_4.1 else ob (m_rsign o_4.1) (fun o_7 => (if o_7.2 = 13 then m_rskip_J36 o_7.1 else ob (m_rsign o_7.1) (fun o_10 => (if o_10.2 = 32 then m_rskip_J36 o_10.1 else some (.inr (o_10.1))))))))))
theorem d_rskip_9 : decode prog_14_method_40_code 9 = .ok (.aload_n 0, 1) := by decide +kernel
theorem d_rskip_10 : decode prog_14_method_40_code 10 = .ok (.invokevirtual 316, 3) := by decide +kernel
theorem d_rskip_13 : decode prog_14_method_40_code 13 = .ok (.bipush 10, 2) := by decide +kernel
theorem d_rskip_15 : decode prog_14_method_40_code 15 = .ok (.if_icmp .eq 21, 3) := by decide +kernel
theorem d_rskip_18 : decode prog_14_method_40_code 18 = .ok (.aload_n 0, 1) := by decide +kernel
theorem d_rskip_19 : decode prog_14_method_40_code 19 = .ok (.invokevirtual 316, 3) := by decide +kernel
theorem d_rskip_22 : decode prog_14_method_40_code 22 = .ok (.bipush 13, 2) := by decide +kernel
theorem d_rskip_24 : decode prog_14_method_40_code 24 = .ok (.if_icmp .eq 12, 3) := by decide +kernel
theorem d_rskip_27 : decode prog_14_method_40_code 27 = .ok (.aload_n 0, 1) := by decide +kernel
theorem d_rskip_28 : decode prog_14_method_40_code 28 = .ok (.invokevirtual 316, 3) := by decide +kernel
theorem d_rskip_31 : decode prog_14_method_40_code 31 = .ok (.bipush 32, 2) := by decide +kernel
theorem d_rskip_33 : decode prog_14_method_40_code 33 = .ok (.if_icmp .ne 16, 3) := by decide +kernel
set_option maxHeartbeats 4000000 in
set_option maxRecDepth 100000 in
theorem w_rskip_B0 {p : Program} {l : Launch} {e : Env} {s : State} {m : MethodId} {args : Array Value} {below : List Frame} {meth : Method} {c : Code} {A : Nat → Prop} {D : va_G} {md : Nat → Nat} {mc : Nat → ClassId} {Q : State → Prop} (hC : MCx "JoinedTreesModel" prog_14_method_40_code 1 none p s m args meth c A D mc) {S : MS} {o : (MS ⊕ MS)} (Heq : m_rskip_B0 S = some o) (Ka : ∀ b : MS, o = .inl b → ∀ (H : Heap) (locs : List Loc) (ls : Array Slot), va_P D cls (mw md mc b) H → va_D A (mw md mc b) → va_S A s.heap H locs → lv_has ls 1 [(0, .ref (md 100))] → W p l e ({ frames := 1, cells := 0, slots := 0, locals := 20 }) s m args below meth c H locs 0 0 Q (F0 m 0 ls [])) (K0 : ∀ b : MS, o = .inr b → ∀ (H : Heap) (locs : List Loc) (ls : Array Slot), va_P D cls (mw md mc b) H → va_D A (mw md mc b) → va_S A s.heap H locs → lv_has ls 1 [(0, .ref (md 100))] → W p l e ({ frames := 1, cells := 0, slots := 0, locals := 20 }) s m args below meth c H locs 0 0 Q (F0 m 49 ls [])) : ∀ (H : Heap) (locs : List Loc) (ls : Array Slot), va_P D cls (mw md mc S) H → va_D A (mw md mc S) → va_S A s.heap H locs → lv_has ls 1 [(0, .ref (md 100))] → W p l e ({ frames := 1, cells := 0, slots := 0, locals := 20 }) s m args below meth c H locs 0 0 Q (F0 m 0 ls []) := by
  intro H locs ls hP hD hS hl
  obtain ⟨hx, hb, hr, hml, hown, hts, hK, hA⟩ := id hC
  unfold m_rskip_B0 at Heq
  refine lv_aload_n hx hb d_rskip_0 rfl (lv_at hl 0 rfl) ?_
  obtain ⟨o_1, h_2, Heq⟩ := ob_some Heq
  have hFc := fr_all hD hS hA
  refine va_calli (va_runV (As := []) (rest := []) ⟨hx, hb, hml, hown, hts⟩ (g_rsign l D H.size h_2) (cw_v 0 hts kw_1777 kw_1774 kw_1776 kp_57 kw_11 rfl rfl (by decide +kernel) ⟨Nat.le_of_ble_eq_true rfl, Nat.le_of_ble_eq_true rfl⟩) ⟨g_blind, va_recv hK hP (ci := 12) (q0 := 0) rfl rfl, fun U hU hW => g_pre hU hW hP hK hD⟩ rfl rfl hl.1 rfl (lv_room (Nat.le_of_ble_eq_true rfl)) d_rskip_1 ⟨Nat.le_of_ble_eq_true rfl, Nat.le_of_ble_eq_true rfl⟩) hS (fun q _ h => hFc q h) hFc (fun rz u t H1 locs ht hvm hw hB hz1 hk1 hS => ?_)
  obtain ⟨hP, -, hD1⟩ := hB
  rw [ht] at hP
  have hD := hD1.weaken (fun _ q _ h => hFc q.1 h)
  generalize H1 = H at hP hS ⊢
  refine W.cs (cells' := 0) (slots' := 0) rfl rfl ?_
  subst hw
  refine lv_bipush (v := 9) hx hb d_rskip_4 (by decide) ?_
  refine lv_icmp_eq (tgt := 36) hx hb d_rskip_6 (by decide) (fun c_3 => ?_) (fun c_3 => ?_)
  · replace Heq := (if_pos c_3).symm.trans Heq
    exact w_rskip_J36 hC Heq Ka K0 _ _ _ hP hD hS (lv_sub hl [0] rfl)
  · replace Heq := (if_neg c_3).symm.trans Heq
    refine lv_aload_n hx hb d_rskip_9 rfl (lv_at hl 0 rfl) ?_
    obtain ⟨o_4, h_5, Heq⟩ := ob_some Heq
    have hFc := fr_all hD hS hA
    refine va_calli (va_runV (As := []) (rest := []) ⟨hx, hb, hml, hown, hts⟩ (g_rsign l D H.size h_5) (cw_v 0 hts kw_1777 kw_1774 kw_1776 kp_57 kw_11 rfl rfl (by decide +kernel) ⟨Nat.le_of_ble_eq_true rfl, Nat.le_of_ble_eq_true rfl⟩) ⟨g_blind, va_recv hK hP (ci := 12) (q0 := 0) rfl rfl, fun U hU hW => g_pre hU hW hP hK hD⟩ rfl rfl hl.1 rfl (lv_room (Nat.le_of_ble_eq_true rfl)) d_rskip_10 ⟨Nat.le_of_ble_eq_true rfl, Nat.le_of_ble_eq_true rfl⟩) hS (fun q _ h => hFc q h) hFc (fun rz u t H1 locs ht hvm hw hB hz1 hk1 hS => ?_)
    obtain ⟨hP, -, hD1⟩ := hB
    rw [ht] at hP
    have hD := hD1.weaken (fun _ q _ h => hFc q.1 h)
    generalize H1 = H at hP hS ⊢
    refine W.cs (cells' := 0) (slots' := 0) rfl rfl ?_
    subst hw
    refine lv_bipush (v := 10) hx hb d_rskip_13 (by decide) ?_
    refine lv_icmp_eq (tgt := 36) hx hb d_rskip_15 (by decide) (fun c_6 => ?_) (fun c_6 => ?_)
    · replace Heq := (if_pos c_6).symm.trans Heq
      exact w_rskip_J36 hC Heq Ka K0 _ _ _ hP hD hS (lv_sub hl [0] rfl)
    · replace Heq := (if_neg c_6).symm.trans Heq
      refine lv_aload_n hx hb d_rskip_18 rfl (lv_at hl 0 rfl) ?_
      obtain ⟨o_7, h_8, Heq⟩ := ob_some Heq
      have hFc := fr_all hD hS hA
      refine va_calli (va_runV (As := []) (rest := []) ⟨hx, hb, hml, hown, hts⟩ (g_rsign l D H.size h_8) (cw_v 0 hts kw_1777 kw_1774 kw_1776 kp_57 kw_11 rfl rfl (by decide +kernel) ⟨Nat.le_of_ble_eq_true rfl, Nat.le_of_ble_eq_true rfl⟩) ⟨g_blind, va_recv hK hP (ci := 12) (q0 := 0) rfl rfl, fun U hU hW => g_pre hU hW hP hK hD⟩ rfl rfl hl.1 rfl (lv_room (Nat.le_of_ble_eq_true rfl)) d_rskip_19 ⟨Nat.le_of_ble_eq_true rfl, Nat.le_of_ble_eq_true rfl⟩) hS (fun q _ h => hFc q h) hFc (fun rz u t H1 locs ht hvm hw hB hz1 hk1 hS => ?_)
      obtain ⟨hP, -, hD1⟩ := hB
      rw [ht] at hP
      have hD := hD1.weaken (fun _ q _ h => hFc q.1 h)
      generalize H1 = H at hP hS ⊢
      refine W.cs (cells' := 0) (slots' := 0) rfl rfl ?_
      subst hw
      refine lv_bipush (v := 13) hx hb d_rskip_22 (by decide) ?_
      refine lv_icmp_eq (tgt := 36) hx hb d_rskip_24 (by decide) (fun c_9 => ?_) (fun c_9 => ?_)
      · replace Heq := (if_pos c_9).symm.trans Heq
        exact w_rskip_J36 hC Heq Ka K0 _ _ _ hP hD hS (lv_sub hl [0] rfl)
      · replace Heq := (if_neg c_9).symm.trans Heq
        refine lv_aload_n hx hb d_rskip_27 rfl (lv_at hl 0 rfl) ?_
        obtain ⟨o_10, h_11, Heq⟩ := ob_some Heq
        have hFc := fr_all hD hS hA
        refine va_calli (va_runV (As := []) (rest := []) ⟨hx, hb, hml, hown, hts⟩ (g_rsign l D H.size h_11) (cw_v 0 hts kw_1777 kw_1774 kw_1776 kp_57 kw_11 rfl rfl (by decide +kernel) ⟨Nat.le_of_ble_eq_true rfl, Nat.le_of_ble_eq_true rfl⟩) ⟨g_blind, va_recv hK hP (ci := 12) (q0 := 0) rfl rfl, fun U hU hW => g_pre hU hW hP hK hD⟩ rfl rfl hl.1 rfl (lv_room (Nat.le_of_ble_eq_true rfl)) d_rskip_28 ⟨Nat.le_of_ble_eq_true rfl, Nat.le_of_ble_eq_true rfl⟩) hS (fun q _ h => hFc q h) hFc (fun rz u t H1 locs ht hvm hw hB hz1 hk1 hS => ?_)
        obtain ⟨hP, -, hD1⟩ := hB
        rw [ht] at hP
        have hD := hD1.weaken (fun _ q _ h => hFc q.1 h)
        generalize H1 = H at hP hS ⊢
        refine W.cs (cells' := 0) (slots' := 0) rfl rfl ?_
        subst hw
        refine lv_bipush (v := 32) hx hb d_rskip_31 (by decide) ?_
        refine lv_icmp_ne (tgt := 49) hx hb d_rskip_33 (by decide) (fun c_12 => ?_) (fun c_12 => ?_)
        · replace Heq := (if_neg c_12).symm.trans Heq
          exact K0 _ (Option.some.inj Heq).symm _ _ _ hP hD hS (lv_sub hl [0] rfl)
        · replace Heq := (if_pos c_12).symm.trans Heq
          exact w_rskip_J36 hC Heq Ka K0 _ _ _ hP hD hS (lv_sub hl [0] rfl)
def m_rskip_L0 (S : MS) : Option MS := lp (fun a : MS => m_rskip_B0 a) FU S
theorem w_rskip_L0 {p : Program} {l : Launch} {e : Env} {s : State} {m : MethodId} {args : Array Value} {below : List Frame} {meth : Method} {c : Code} {A : Nat → Prop} {D : va_G} {md : Nat → Nat} {mc : Nat → ClassId} {Q : State → Prop} (hC : MCx "JoinedTreesModel" prog_14_method_40_code 1 none p s m args meth c A D mc) {S : MS} {o : MS} (Heq : m_rskip_L0 S = some o) (K0 : ∀ b : MS, o = b → ∀ (H : Heap) (locs : List Loc) (ls : Array Slot), va_P D cls (mw md mc b) H → va_D A (mw md mc b) → va_S A s.heap H locs → lv_has ls 1 [(0, .ref (md 100))] → W p l e ({ frames := 1, cells := 0, slots := 0, locals := 20 }) s m args below meth c H locs 0 0 Q (F0 m 49 ls [])) : ∀ (H : Heap) (locs : List Loc) (ls : Array Slot), va_P D cls (mw md mc S) H → va_D A (mw md mc S) → va_S A s.heap H locs → lv_has ls 1 [(0, .ref (md 100))] → W p l e ({ frames := 1, cells := 0, slots := 0, locals := 20 }) s m args below meth c H locs 0 0 Q (F0 m 0 ls []) := by
  refine lp_w (G := fun a : MS => ∀ (H : Heap) (locs : List Loc) (ls : Array Slot), va_P D cls (mw md mc a) H → va_D A (mw md mc a) → va_S A s.heap H locs → lv_has ls 1 [(0, .ref (md 100))] → W p l e ({ frames := 1, cells := 0, slots := 0, locals := 20 }) s m args below meth c H locs 0 0 Q (F0 m 0 ls [])) ?_ FU S Heq
  intro a o1 ho Ka Ke
  exact w_rskip_B0 hC ho (fun b h => Ka b h) (fun b h => K0 b (Ke _ h).symm)
def m_rskip_J0 (S : MS) : Option MS := ob (m_rskip_L0 S) (fun b_1 => some b_1)
theorem d_rskip_49 : decode prog_14_method_40_code 49 = .ok (.return_, 1) := by decide +kernel
set_option maxHeartbeats 4000000 in
set_option maxRecDepth 100000 in
theorem w_rskip_J0 {p : Program} {l : Launch} {e : Env} {s : State} {m : MethodId} {args : Array Value} {below : List Frame} {meth : Method} {c : Code} {A : Nat → Prop} {D : va_G} {md : Nat → Nat} {mc : Nat → ClassId} {Q : State → Prop} (hC : MCx "JoinedTreesModel" prog_14_method_40_code 1 none p s m args meth c A D mc) {S : MS} {o : MS} (Heq : m_rskip_J0 S = some o) (Kr : ∀ r : MS, o = r → ∀ (pc : Nat) (H : Heap) (locs : List Loc) (ls : Array Slot), decode prog_14_method_40_code pc = .ok (.return_, 1) → va_P D cls (mw md mc r) H → va_D A (mw md mc r) → va_S A s.heap H locs → W p l e ({ frames := 1, cells := 0, slots := 0, locals := 20 }) s m args below meth c H locs 0 0 Q (F0 m pc ls [])) : ∀ (H : Heap) (locs : List Loc) (ls : Array Slot), va_P D cls (mw md mc S) H → va_D A (mw md mc S) → va_S A s.heap H locs → lv_has ls 1 [(0, .ref (md 100))] → W p l e ({ frames := 1, cells := 0, slots := 0, locals := 20 }) s m args below meth c H locs 0 0 Q (F0 m 0 ls []) := by
  intro H locs ls hP hD hS hl
  obtain ⟨hx, hb, hr, hml, hown, hts, hK, hA⟩ := id hC
  unfold m_rskip_J0 at Heq
  obtain ⟨b_1, h_2, Heq⟩ := ob_some Heq
  refine w_rskip_L0 hC h_2 (fun b h => ?_) _ _ _ hP hD hS (lv_sub hl [0] rfl)
  subst h
  intro H locs ls hP hD hS hl
  exact Kr _ (Option.some.inj Heq).symm 49 _ _ _ d_rskip_49 hP hD hS
def m_rskip (S : MS) : Option MS := m_rskip_J0 S
theorem g_rskip (l : Launch) (D : va_G) (sz : Nat) {md : Nat → Nat} {mc : Nat → ClassId} {S : MS} {o : MS} (Heq : m_rskip S = some o) : Met l ⟨"JoinedTreesModel", "skip", "()V"⟩ (Cond.code ⟨"JoinedTreesModel", "skip", "()V"⟩ prog_14_method_40_code 1 none :: gb) ({ frames := 1, cells := 0, slots := 0, locals := 20 }) (gPc D (mw md mc S) (mty mc) sz [.ref (md 100)]) (va_Qv (fun _ : Unit => True) (fun _ t => gO D (mw md mc o) (mty mc) (va_A (mw md mc S) sz) t) (va_A (mw md mc S) sz)) 0 0 (va_A (mw md mc S) sz) := by
  refine Met.ofW (cc := prog_14_method_40_code) (maxL := 1) (ret := none) (by decide) rfl ?_
  intro p e s m args below meth c s₁ B hml hv
  obtain ⟨rfl, hsz, hP, hK, hD0⟩ := hv
  have hx := B.exec
  have hb := B.bytes
  have hr := B.returns
  have hts : ∀ w9 ∈ gb, w9.before [.ref (md 100)].toArray s = true := fun w9 h => atoms_spec (ws := Cond.code ⟨"JoinedTreesModel", "skip", "()V"⟩ prog_14_method_40_code 1 none :: gb) B.pre w9 (List.mem_cons_of_mem _ h)
  have hown : s.vm.findClass "JoinedTreesModel" = some m.cls := findClass_of_methodNamed B.named
  have hlocks := B.notSynchronized
  subst hsz
  have hD := hD0.self (sz := s.heap.size)
  generalize hAe : va_A (mw md mc S) s.heap.size = A at hD ⊢
  have hA : ∀ q : Nat, s.heap.size ≤ q → A q := fun q h => by rw [← hAe]; exact Or.inr h
  have hS : va_S A s.heap s.heap [] := va_S.rf
  have hl := lv_entry ([.ref (md 100)]) (n := 1) (Nat.le_of_ble_eq_true rfl)
  rw [lg_entry_eq]
  generalize (lg_sl ([.ref (md 100)]) ++ List.replicate (1 - (lg_sl ([.ref (md 100)])).length) Slot.unset).toArray = ls at hl ⊢
  have hl : lv_has ls 1 [(0, .ref (md 100))] := hl
  refine w_rskip_J0 ⟨hx, hb, hr, hml, hown, hts, hK, hA⟩ Heq (fun r h pc H locs ls hd hP hD hS => ?_) _ _ _ hP hD hS (lv_sub hl [0] rfl)
  subst h
  exact W.vret hx hb hr (fun t ht hW => ⟨⟨(), rfl, trivial, by rw [ht]; exact hP, va_K.moved hW.alike hK, hD⟩, hS.F ht⟩) hS.2.2 hd
