def m_rtext_J199 (S : MS) (x1 : Int32) (x4 : Int32) : Option ((MS × Int32 × Int32) ⊕ (MS × Int32)) := some (.inl (S, x1, x4))
theorem d_rtext_0 : decode prog_14_method_82_code 0 = .ok (.iload_n 1, 1) := by decide +kernel
theorem d_rtext_1 : decode prog_14_method_82_code 1 = .ok (.invokestatic 251, 3) := by decide +kernel
theorem d_rtext_4 : decode prog_14_method_82_code 4 = .ok (.ifCond .ne 9, 3) := by decide +kernel
theorem d_rtext_13 : decode prog_14_method_82_code 13 = .ok (.aload_n 0, 1) := by decide +kernel
theorem d_rtext_14 : decode prog_14_method_82_code 14 = .ok (.iload_n 1, 1) := by decide +kernel
theorem d_rtext_15 : decode prog_14_method_82_code 15 = .ok (.iload_n 2, 1) := by decide +kernel
theorem d_rtext_16 : decode prog_14_method_82_code 16 = .ok (.invokevirtual 258, 3) := by decide +kernel
theorem d_rtext_19 : decode prog_14_method_82_code 19 = .ok (.istore_n 3, 1) := by decide +kernel
theorem d_rtext_20 : decode prog_14_method_82_code 20 = .ok (.iload_n 3, 1) := by decide +kernel
theorem d_rtext_21 : decode prog_14_method_82_code 21 = .ok (.ifCond .ge 9, 3) := by decide +kernel
theorem d_rtext_30 : decode prog_14_method_82_code 30 = .ok (.aload_n 0, 1) := by decide +kernel
theorem d_rtext_31 : decode prog_14_method_82_code 31 = .ok (.getfield 433, 3) := by decide +kernel
theorem d_rtext_34 : decode prog_14_method_82_code 34 = .ok (.istore 4, 2) := by decide +kernel
theorem d_rtext_36 : decode prog_14_method_82_code 36 = .ok (.aload_n 0, 1) := by decide +kernel
theorem d_rtext_37 : decode prog_14_method_82_code 37 = .ok (.ldc 172, 2) := by decide +kernel
theorem d_rtext_39 : decode prog_14_method_82_code 39 = .ok (.putfield 433, 3) := by decide +kernel
theorem d_rtext_42 : decode prog_14_method_82_code 42 = .ok (.aload_n 0, 1) := by decide +kernel
theorem d_rtext_43 : decode prog_14_method_82_code 43 = .ok (.iconst 0, 1) := by decide +kernel
theorem d_rtext_44 : decode prog_14_method_82_code 44 = .ok (.putfield 453, 3) := by decide +kernel
theorem d_rtext_47 : decode prog_14_method_82_code 47 = .ok (.aload_n 0, 1) := by decide +kernel
theorem d_rtext_48 : decode prog_14_method_82_code 48 = .ok (.iload_n 1, 1) := by decide +kernel
theorem d_rtext_49 : decode prog_14_method_82_code 49 = .ok (.iload_n 2, 1) := by decide +kernel
theorem d_rtext_50 : decode prog_14_method_82_code 50 = .ok (.iload_n 3, 1) := by decide +kernel
theorem d_rtext_51 : decode prog_14_method_82_code 51 = .ok (.invokevirtual 456, 3) := by decide +kernel
theorem d_rtext_54 : decode prog_14_method_82_code 54 = .ok (.aload_n 0, 1) := by decide +kernel
theorem d_rtext_55 : decode prog_14_method_82_code 55 = .ok (.getfield 453, 3) := by decide +kernel
theorem d_rtext_58 : decode prog_14_method_82_code 58 = .ok (.ifCond .le 144, 3) := by decide +kernel
theorem d_rtext_61 : decode prog_14_method_82_code 61 = .ok (.aload_n 0, 1) := by decide +kernel
theorem d_rtext_62 : decode prog_14_method_82_code 62 = .ok (.getfield 433, 3) := by decide +kernel
theorem d_rtext_65 : decode prog_14_method_82_code 65 = .ok (.ldc 172, 2) := by decide +kernel
theorem d_rtext_67 : decode prog_14_method_82_code 67 = .ok (.isub, 1) := by decide +kernel
theorem d_rtext_68 : decode prog_14_method_82_code 68 = .ok (.sipush 16384, 3) := by decide +kernel
theorem d_rtext_71 : decode prog_14_method_82_code 71 = .ok (.if_icmp .gt 131, 3) := by decide +kernel
theorem d_rtext_74 : decode prog_14_method_82_code 74 = .ok (.aload_n 0, 1) := by decide +kernel
theorem d_rtext_75 : decode prog_14_method_82_code 75 = .ok (.dup, 1) := by decide +kernel
theorem d_rtext_76 : decode prog_14_method_82_code 76 = .ok (.getfield 453, 3) := by decide +kernel
theorem d_rtext_79 : decode prog_14_method_82_code 79 = .ok (.iconst 1, 1) := by decide +kernel
theorem d_rtext_80 : decode prog_14_method_82_code 80 = .ok (.isub, 1) := by decide +kernel
theorem d_rtext_81 : decode prog_14_method_82_code 81 = .ok (.putfield 453, 3) := by decide +kernel
theorem d_rtext_84 : decode prog_14_method_82_code 84 = .ok (.aload_n 0, 1) := by decide +kernel
theorem d_rtext_85 : decode prog_14_method_82_code 85 = .ok (.getfield 169, 3) := by decide +kernel
theorem d_rtext_88 : decode prog_14_method_82_code 88 = .ok (.aload_n 0, 1) := by decide +kernel
theorem d_rtext_89 : decode prog_14_method_82_code 89 = .ok (.getfield 453, 3) := by decide +kernel
theorem d_rtext_92 : decode prog_14_method_82_code 92 = .ok (.iaload, 1) := by decide +kernel
theorem d_rtext_93 : decode prog_14_method_82_code 93 = .ok (.istore 5, 2) := by decide +kernel
theorem d_rtext_95 : decode prog_14_method_82_code 95 = .ok (.iload 5, 2) := by decide +kernel
theorem d_rtext_97 : decode prog_14_method_82_code 97 = .ok (.bipush (-3), 2) := by decide +kernel
theorem d_rtext_99 : decode prog_14_method_82_code 99 = .ok (.if_icmp .ne 12, 3) := by decide +kernel
theorem d_rtext_111 : decode prog_14_method_82_code 111 = .ok (.iload 5, 2) := by decide +kernel
theorem d_rtext_113 : decode prog_14_method_82_code 113 = .ok (.iconst (-1), 1) := by decide +kernel
theorem d_rtext_114 : decode prog_14_method_82_code 114 = .ok (.if_icmp .ne 12, 3) := by decide +kernel
theorem d_rtext_126 : decode prog_14_method_82_code 126 = .ok (.iload 5, 2) := by decide +kernel
theorem d_rtext_128 : decode prog_14_method_82_code 128 = .ok (.bipush (-2), 2) := by decide +kernel
theorem d_rtext_130 : decode prog_14_method_82_code 130 = .ok (.if_icmp .ne 12, 3) := by decide +kernel
theorem d_rtext_142 : decode prog_14_method_82_code 142 = .ok (.aload_n 0, 1) := by decide +kernel
theorem d_rtext_143 : decode prog_14_method_82_code 143 = .ok (.getfield 41, 3) := by decide +kernel
theorem d_rtext_146 : decode prog_14_method_82_code 146 = .ok (.iload 5, 2) := by decide +kernel
theorem d_rtext_148 : decode prog_14_method_82_code 148 = .ok (.iaload, 1) := by decide +kernel
theorem d_rtext_149 : decode prog_14_method_82_code 149 = .ok (.ifCond .le 9, 3) := by decide +kernel
theorem d_rtext_158 : decode prog_14_method_82_code 158 = .ok (.aload_n 0, 1) := by decide +kernel
theorem d_rtext_159 : decode prog_14_method_82_code 159 = .ok (.getfield 29, 3) := by decide +kernel
theorem d_rtext_162 : decode prog_14_method_82_code 162 = .ok (.iload 5, 2) := by decide +kernel
theorem d_rtext_164 : decode prog_14_method_82_code 164 = .ok (.iaload, 1) := by decide +kernel
theorem d_rtext_165 : decode prog_14_method_82_code 165 = .ok (.bipush 6, 2) := by decide +kernel
theorem d_rtext_167 : decode prog_14_method_82_code 167 = .ok (.if_icmp .lt 25, 3) := by decide +kernel
theorem d_rtext_192 : decode prog_14_method_82_code 192 = .ok (.aload_n 0, 1) := by decide +kernel
theorem d_rtext_193 : decode prog_14_method_82_code 193 = .ok (.iload_n 1, 1) := by decide +kernel
theorem d_rtext_194 : decode prog_14_method_82_code 194 = .ok (.iload 5, 2) := by decide +kernel
theorem d_rtext_196 : decode prog_14_method_82_code 196 = .ok (.invokevirtual 462, 3) := by decide +kernel
theorem d_rtext_199 : decode prog_14_method_82_code 199 = .ok (.goto (-145), 3) := by decide +kernel
set_option maxHeartbeats 4000000 in
set_option maxRecDepth 100000 in
theorem w_rtext_J199 {p : Program} {l : Launch} {e : Env} {s : State} {m : MethodId} {args : Array Value} {below : List Frame} {meth : Method} {c : Code} {A : Nat → Prop} {D : va_G} {md : Nat → Nat} {mc : Nat → ClassId} {Q : State → Prop} {sad sav : Nat → Nat} (hC : MCs sad sav "JoinedTreesModel" prog_14_method_82_code 7 (some .int) p s m args meth c A D mc) {S : MS} {x1 : Int32} {x4 : Int32} {o : ((MS × Int32 × Int32) ⊕ (MS × Int32))} (Heq : m_rtext_J199 S x1 x4 = some o) (Ka : ∀ b : MS × Int32 × Int32, o = .inl b → ∀ (H : Heap) (locs : List Loc) (ls : Array Slot), va_P D cls (mw md mc b.1) H → va_D A (mw md mc b.1) → va_S A s.heap H locs → lv_has ls 7 [(0, .ref (md 100)), (1, .int b.2.1), (4, .int b.2.2)] → W p l e ({ frames := 5, cells := 0, slots := 0, locals := 135 }) s m args below meth c H locs 0 0 Q (F0 m 54 ls [])) (K0 : ∀ b : MS × Int32, o = .inr b → ∀ (H : Heap) (locs : List Loc) (ls : Array Slot), va_P D cls (mw md mc b.1) H → va_D A (mw md mc b.1) → va_S A s.heap H locs → lv_has ls 7 [(0, .ref (md 100)), (4, .int b.2)] → W p l e ({ frames := 5, cells := 0, slots := 0, locals := 135 }) s m args below meth c H locs 0 0 Q (F0 m 202 ls [])) : ∀ (H : Heap) (locs : List Loc) (ls : Array Slot), va_P D cls (mw md mc S) H → va_D A (mw md mc S) → va_S A s.heap H locs → lv_has ls 7 [(0, .ref (md 100)), (1, .int x1), (4, .int x4)] → W p l e ({ frames := 5, cells := 0, slots := 0, locals := 135 }) s m args below meth c H locs 0 0 Q (F0 m 199 ls []) := by
  intro H locs ls hP hD hS hl
  obtain ⟨⟨hx, hb, hr, hml, hown, hts, hK, hA⟩, hE⟩ := id hC
  unfold m_rtext_J199 at Heq
  refine lv_goto (tgt := 54) hx hb d_rtext_199 (by decide) ?_
  exact Ka _ (Option.some.inj Heq).symm _ _ _ hP hD hS (lv_sub hl [0, 1, 2] rfl)
def m_rtext_J158 (S : MS) (x1 : Int32) (x4 : Int32) (x5 : Int32) : Option ((MS × Int32 × Int32) ⊕ (MS × Int32)) := gd x5 4000 ((if S.a 11 x5.toNatClampNeg < 6 then ob (m_rplain S x1 x5) (fun o_3 => m_rtext_J199 o_3 x1 x4) else gd x5 4000 (gd x5 4000 (ob (m_rbegin S x1 (S.a 8 x5.toNatClampNeg) (S.a 11 x5.toNatClampNeg)) (fun o_7 => m_rtext_J199 o_7 x1 x4)))))
theorem d_rtext_170 : decode prog_14_method_82_code 170 = .ok (.aload_n 0, 1) := by decide +kernel
theorem d_rtext_171 : decode prog_14_method_82_code 171 = .ok (.iload_n 1, 1) := by decide +kernel
theorem d_rtext_172 : decode prog_14_method_82_code 172 = .ok (.aload_n 0, 1) := by decide +kernel
theorem d_rtext_173 : decode prog_14_method_82_code 173 = .ok (.getfield 19, 3) := by decide +kernel
theorem d_rtext_176 : decode prog_14_method_82_code 176 = .ok (.iload 5, 2) := by decide +kernel
theorem d_rtext_178 : decode prog_14_method_82_code 178 = .ok (.iaload, 1) := by decide +kernel
theorem d_rtext_179 : decode prog_14_method_82_code 179 = .ok (.aload_n 0, 1) := by decide +kernel
theorem d_rtext_180 : decode prog_14_method_82_code 180 = .ok (.getfield 29, 3) := by decide +kernel
theorem d_rtext_183 : decode prog_14_method_82_code 183 = .ok (.iload 5, 2) := by decide +kernel
theorem d_rtext_185 : decode prog_14_method_82_code 185 = .ok (.iaload, 1) := by decide +kernel
theorem d_rtext_186 : decode prog_14_method_82_code 186 = .ok (.invokevirtual 456, 3) := by decide +kernel
theorem d_rtext_189 : decode prog_14_method_82_code 189 = .ok (.goto 10, 3) := by decide +kernel
set_option maxHeartbeats 4000000 in
set_option maxRecDepth 100000 in
theorem w_rtext_J158 {p : Program} {l : Launch} {e : Env} {s : State} {m : MethodId} {args : Array Value} {below : List Frame} {meth : Method} {c : Code} {A : Nat → Prop} {D : va_G} {md : Nat → Nat} {mc : Nat → ClassId} {Q : State → Prop} {sad sav : Nat → Nat} (hC : MCs sad sav "JoinedTreesModel" prog_14_method_82_code 7 (some .int) p s m args meth c A D mc) {S : MS} {x1 : Int32} {x4 : Int32} {x5 : Int32} {o : ((MS × Int32 × Int32) ⊕ (MS × Int32))} (Heq : m_rtext_J158 S x1 x4 x5 = some o) (Ka : ∀ b : MS × Int32 × Int32, o = .inl b → ∀ (H : Heap) (locs : List Loc) (ls : Array Slot), va_P D cls (mw md mc b.1) H → va_D A (mw md mc b.1) → va_S A s.heap H locs → lv_has ls 7 [(0, .ref (md 100)), (1, .int b.2.1), (4, .int b.2.2)] → W p l e ({ frames := 5, cells := 0, slots := 0, locals := 135 }) s m args below meth c H locs 0 0 Q (F0 m 54 ls [])) (K0 : ∀ b : MS × Int32, o = .inr b → ∀ (H : Heap) (locs : List Loc) (ls : Array Slot), va_P D cls (mw md mc b.1) H → va_D A (mw md mc b.1) → va_S A s.heap H locs → lv_has ls 7 [(0, .ref (md 100)), (4, .int b.2)] → W p l e ({ frames := 5, cells := 0, slots := 0, locals := 135 }) s m args below meth c H locs 0 0 Q (F0 m 202 ls [])) : ∀ (H : Heap) (locs : List Loc) (ls : Array Slot), va_P D cls (mw md mc S) H → va_D A (mw md mc S) → va_S A s.heap H locs → lv_has ls 7 [(0, .ref (md 100)), (1, .int x1), (4, .int x4), (5, .int x5)] → W p l e ({ frames := 5, cells := 0, slots := 0, locals := 135 }) s m args below meth c H locs 0 0 Q (F0 m 158 ls []) := by
  intro H locs ls hP hD hS hl
  obtain ⟨⟨hx, hb, hr, hml, hown, hts, hK, hA⟩, hE⟩ := id hC
  unfold m_rtext_J158 at Heq
  refine lv_aload_n hx hb d_rtext_158 rfl (lv_at hl 0 rfl) ?_
  refine va_get (D := D) (ci := 12) (v := .ref (md 11)) (C := R_MM) (T := F_MM) (N := 77) hx hb hts i_MM hown hK hP 0 rfl rfl 11 (by decide) (hts _ kw_1393) (fun _ h9 => h9) rfl d_rtext_159 ?_
  refine lv_iload hx hb d_rtext_162 (lv_at hl 3 rfl) ?_
  obtain ⟨hi_1, Heq⟩ := gd_some Heq
  refine va_iald hx hb hK hP 7 0 rfl rfl (i := x5) hi_1 d_rtext_164 ?_
  refine w_i (y := S.a 11 x5.toNatClampNeg) rfl ?_
  refine lv_bipush (v := 6) hx hb d_rtext_165 (by decide) ?_
  refine lv_icmp_lt (tgt := 192) hx hb d_rtext_167 (by decide) (fun c_2 => ?_) (fun c_2 => ?_)
  · replace Heq := (if_pos c_2).symm.trans Heq
    refine lv_aload_n hx hb d_rtext_192 rfl (lv_at hl 0 rfl) ?_
    refine lv_iload_n hx hb d_rtext_193 rfl (lv_at hl 1 rfl) ?_
    refine lv_iload hx hb d_rtext_194 (lv_at hl 3 rfl) ?_
    obtain ⟨o_3, h_4, Heq⟩ := ob_some Heq
    have hFc := fr_all hD hS hA
    refine va_callv (va_runV (As := [.int x1, .int x5]) (rest := []) ⟨hx, hb, hml, hown, hts⟩ (g_rplain l D H.size (sad := sad) (sav := sav) h_4) (cw_v 2 hts kw_1937 kw_1934 kw_1936 kp_80 kw_11 rfl rfl (by decide +kernel) ⟨Nat.le_of_ble_eq_true rfl, Nat.le_of_ble_eq_true rfl⟩) ⟨gs_blind, va_recv hK hP (ci := 12) (q0 := 0) rfl rfl, fun U hU hW => gs_pre hU hW hP hK hD hE hS hFc⟩ rfl rfl hl.1 rfl (lv_room (Nat.le_of_ble_eq_true rfl)) d_rtext_196 ⟨Nat.le_of_ble_eq_true rfl, Nat.le_of_ble_eq_true rfl⟩) hS (fun q _ h => hFc q h) hFc (fun u t H1 locs ht hvm hw hB hz1 hk1 hS => ?_)
    obtain ⟨hP, -, hD1⟩ := hB
    rw [ht] at hP
    have hD := hD1.weaken (fun _ q _ h => hFc q.1 h)
    generalize H1 = H at hP hS ⊢
    refine W.cs (cells' := 0) (slots' := 0) rfl rfl ?_
    exact w_rtext_J199 hC Heq Ka K0 _ _ _ hP hD hS (lv_sub hl [0, 1, 2] rfl)
  · replace Heq := (if_neg c_2).symm.trans Heq
    refine lv_aload_n hx hb d_rtext_170 rfl (lv_at hl 0 rfl) ?_
    refine lv_iload_n hx hb d_rtext_171 rfl (lv_at hl 1 rfl) ?_
    refine lv_aload_n hx hb d_rtext_172 rfl (lv_at hl 0 rfl) ?_
    refine va_get (D := D) (ci := 12) (v := .ref (md 8)) (C := R_MM) (T := F_MM) (N := 77) hx hb hts i_MM hown hK hP 0 rfl rfl 8 (by decide) (hts _ kw_1390) (fun _ h9 => h9) rfl d_rtext_173 ?_
    refine lv_iload hx hb d_rtext_176 (lv_at hl 3 rfl) ?_
    obtain ⟨hi_5, Heq⟩ := gd_some Heq
    refine va_iald hx hb hK hP 4 0 rfl rfl (i := x5) hi_5 d_rtext_178 ?_
    refine w_i (y := S.a 8 x5.toNatClampNeg) rfl ?_
    refine lv_aload_n hx hb d_rtext_179 rfl (lv_at hl 0 rfl) ?_
    refine va_get (D := D) (ci := 12) (v := .ref (md 11)) (C := R_MM) (T := F_MM) (N := 77) hx hb hts i_MM hown hK hP 0 rfl rfl 11 (by decide) (hts _ kw_1393) (fun _ h9 => h9) rfl d_rtext_180 ?_
    refine lv_iload hx hb d_rtext_183 (lv_at hl 3 rfl) ?_
    obtain ⟨hi_6, Heq⟩ := gd_some Heq
    refine va_iald hx hb hK hP 7 0 rfl rfl (i := x5) hi_6 d_rtext_185 ?_
    refine w_i (y := S.a 11 x5.toNatClampNeg) rfl ?_
    obtain ⟨o_7, h_8, Heq⟩ := ob_some Heq
    have hFc := fr_all hD hS hA
    refine va_callv (va_runV (As := [.int x1, .int (S.a 8 x5.toNatClampNeg), .int (S.a 11 x5.toNatClampNeg)]) (rest := []) ⟨hx, hb, hml, hown, hts⟩ (g_rbegin l D H.size h_8) (cw_v 3 hts kw_1914 kw_1911 kw_1913 kp_75 kw_11 rfl rfl (by decide +kernel) ⟨Nat.le_of_ble_eq_true rfl, Nat.le_of_ble_eq_true rfl⟩) ⟨g_blind, va_recv hK hP (ci := 12) (q0 := 0) rfl rfl, fun U hU hW => g_pre hU hW hP hK hD⟩ rfl rfl hl.1 rfl (lv_room (Nat.le_of_ble_eq_true rfl)) d_rtext_186 ⟨Nat.le_of_ble_eq_true rfl, Nat.le_of_ble_eq_true rfl⟩) hS (fun q _ h => hFc q h) hFc (fun u t H1 locs ht hvm hw hB hz1 hk1 hS => ?_)
    obtain ⟨hP, -, hD1⟩ := hB
    rw [ht] at hP
    have hD := hD1.weaken (fun _ q _ h => hFc q.1 h)
    generalize H1 = H at hP hS ⊢
    refine W.cs (cells' := 0) (slots' := 0) rfl rfl ?_
    refine lv_goto (tgt := 199) hx hb d_rtext_189 (by decide) ?_
    exact w_rtext_J199 hC Heq Ka K0 _ _ _ hP hD hS (lv_sub hl [0, 1, 2] rfl)
def m_rtext_B54 (S : MS) (x1 : Int32) (x4 : Int32) : Option ((MS × Int32 × Int32) ⊕ (MS × Int32)) := (if S.i 73 ≤ 0 then some (.inr (S, x4)) else (if 16384 < (S.i 41) - 400000 then some (.inr (S, x4)) else gd ((S.i 73) - 1) 12010 ((if S.a 72 (((S.i 73) - 1).toNatClampNeg) = (-3) then ob (m_rwrite (S.setI 73 ((S.i 73) - 1)) 44) (fun o_15 => m_rtext_J199 o_15 x1 x4) else (if S.a 72 (((S.i 73) - 1).toNatClampNeg) = (-1) then ob (m_rwrite (S.setI 73 ((S.i 73) - 1)) 125) (fun o_13 => m_rtext_J199 o_13 x1 x4) else (if S.a 72 (((S.i 73) - 1).toNatClampNeg) = (-2) then ob (m_rwrite (S.setI 73 ((S.i 73) - 1)) 93) (fun o_11 => m_rtext_J199 o_11 x1 x4) else gd (S.a 72 (((S.i 73) - 1).toNatClampNeg)) 4000 ((if S.a 15 ((S.a 72 (((S.i 73) - 1).toNatClampNeg)).toNatClampNeg) ≤ 0 then m_rtext_J158 (S.setI 73 ((S.i 73) - 1)) x1 x4 (S.a 72 (((S.i 73) - 1).toNatClampNeg)) else ob (m_rname (S.setI 73 ((S.i 73) - 1)) (S.a 72 (((S.i 73) - 1).toNatClampNeg))) (fun o_9 => m_rtext_J158 o_9 x1 x4 (S.a 72 (((S.i 73) - 1).toNatClampNeg)))))))))))
theorem d_rtext_152 : decode prog_14_method_82_code 152 = .ok (.aload_n 0, 1) := by decide +kernel
theorem d_rtext_153 : decode prog_14_method_82_code 153 = .ok (.iload 5, 2) := by decide +kernel
theorem d_rtext_155 : decode prog_14_method_82_code 155 = .ok (.invokevirtual 459, 3) := by decide +kernel
theorem d_rtext_133 : decode prog_14_method_82_code 133 = .ok (.aload_n 0, 1) := by decide +kernel
theorem d_rtext_134 : decode prog_14_method_82_code 134 = .ok (.bipush 93, 2) := by decide +kernel
theorem d_rtext_136 : decode prog_14_method_82_code 136 = .ok (.invokevirtual 436, 3) := by decide +kernel
theorem d_rtext_139 : decode prog_14_method_82_code 139 = .ok (.goto 60, 3) := by decide +kernel
theorem d_rtext_117 : decode prog_14_method_82_code 117 = .ok (.aload_n 0, 1) := by decide +kernel
theorem d_rtext_118 : decode prog_14_method_82_code 118 = .ok (.bipush 125, 2) := by decide +kernel
theorem d_rtext_120 : decode prog_14_method_82_code 120 = .ok (.invokevirtual 436, 3) := by decide +kernel
theorem d_rtext_123 : decode prog_14_method_82_code 123 = .ok (.goto 76, 3) := by decide +kernel
theorem d_rtext_102 : decode prog_14_method_82_code 102 = .ok (.aload_n 0, 1) := by decide +kernel
theorem d_rtext_103 : decode prog_14_method_82_code 103 = .ok (.bipush 44, 2) := by decide +kernel
theorem d_rtext_105 : decode prog_14_method_82_code 105 = .ok (.invokevirtual 436, 3) := by decide +kernel
theorem d_rtext_108 : decode prog_14_method_82_code 108 = .ok (.goto 91, 3) := by decide +kernel
set_option maxHeartbeats 4000000 in
set_option maxRecDepth 100000 in
theorem w_rtext_B54 {p : Program} {l : Launch} {e : Env} {s : State} {m : MethodId} {args : Array Value} {below : List Frame} {meth : Method} {c : Code} {A : Nat → Prop} {D : va_G} {md : Nat → Nat} {mc : Nat → ClassId} {Q : State → Prop} {sad sav : Nat → Nat} (hC : MCs sad sav "JoinedTreesModel" prog_14_method_82_code 7 (some .int) p s m args meth c A D mc) {S : MS} {x1 : Int32} {x4 : Int32} {o : ((MS × Int32 × Int32) ⊕ (MS × Int32))} (Heq : m_rtext_B54 S x1 x4 = some o) (Ka : ∀ b : MS × Int32 × Int32, o = .inl b → ∀ (H : Heap) (locs : List Loc) (ls : Array Slot), va_P D cls (mw md mc b.1) H → va_D A (mw md mc b.1) → va_S A s.heap H locs → lv_has ls 7 [(0, .ref (md 100)), (1, .int b.2.1), (4, .int b.2.2)] → W p l e ({ frames := 5, cells := 0, slots := 0, locals := 135 }) s m args below meth c H locs 0 0 Q (F0 m 54 ls [])) (K0 : ∀ b : MS × Int32, o = .inr b → ∀ (H : Heap) (locs : List Loc) (ls : Array Slot), va_P D cls (mw md mc b.1) H → va_D A (mw md mc b.1) → va_S A s.heap H locs → lv_has ls 7 [(0, .ref (md 100)), (4, .int b.2)] → W p l e ({ frames := 5, cells := 0, slots := 0, locals := 135 }) s m args below meth c H locs 0 0 Q (F0 m 202 ls [])) : ∀ (H : Heap) (locs : List Loc) (ls : Array Slot), va_P D cls (mw md mc S) H → va_D A (mw md mc S) → va_S A s.heap H locs → lv_has ls 7 [(0, .ref (md 100)), (1, .int x1), (4, .int x4)] → W p l e ({ frames := 5, cells := 0, slots := 0, locals := 135 }) s m args below meth c H locs 0 0 Q (F0 m 54 ls []) := by
  intro H locs ls hP hD hS hl
  obtain ⟨⟨hx, hb, hr, hml, hown, hts, hK, hA⟩, hE⟩ := id hC
  unfold m_rtext_B54 at Heq
  refine lv_aload_n hx hb d_rtext_54 rfl (lv_at hl 0 rfl) ?_
  refine va_get (D := D) (ci := 12) (v := .int (S.i 73)) (C := R_MM) (T := F_MM) (N := 77) hx hb hts i_MM hown hK hP 0 rfl rfl 73 (by decide) (hts _ kw_1455) (fun _ h9 => h9) rfl d_rtext_55 ?_
  refine lv_if_le (tgt := 202) hx hb d_rtext_58 (by decide) (fun c_1 => ?_) (fun c_1 => ?_)
  · replace Heq := (if_pos c_1).symm.trans Heq
    exact K0 _ (Option.some.inj Heq).symm _ _ _ hP hD hS (lv_sub hl [0, 2] rfl)
  · replace Heq := (if_neg c_1).symm.trans Heq
    refine lv_aload_n hx hb d_rtext_61 rfl (lv_at hl 0 rfl) ?_
    refine va_get (D := D) (ci := 12) (v := .int (S.i 41)) (C := R_MM) (T := F_MM) (N := 77) hx hb hts i_MM hown hK hP 0 rfl rfl 41 (by decide) (hts _ kw_1423) (fun _ h9 => h9) rfl d_rtext_62 ?_
    refine lv_ldc (v := 400000) hx hb hown (hts _ kw_1381) d_rtext_65 ?_
    refine lv_isub hx hb d_rtext_67 ?_
    refine w_i (y := (S.i 41) - 400000) rfl ?_
    refine lv_sipush (v := 16384) hx hb d_rtext_68 (by decide) ?_
    refine lv_icmp_gt (tgt := 202) hx hb d_rtext_71 (by decide) (fun c_2 => ?_) (fun c_2 => ?_)
    · replace Heq := (if_pos c_2).symm.trans Heq
      exact K0 _ (Option.some.inj Heq).symm _ _ _ hP hD hS (lv_sub hl [0, 2] rfl)
    · replace Heq := (if_neg c_2).symm.trans Heq
      refine lv_aload_n hx hb d_rtext_74 rfl (lv_at hl 0 rfl) ?_
      refine lv_dup hx hb d_rtext_75 rfl ?_
      refine va_get (D := D) (ci := 12) (v := .int (S.i 73)) (C := R_MM) (T := F_MM) (N := 77) hx hb hts i_MM hown hK hP 0 rfl rfl 73 (by decide) (hts _ kw_1455) (fun _ h9 => h9) rfl d_rtext_76 ?_
      refine lv_iconst (v := 1) hx hb d_rtext_79 (by decide) ?_
      refine lv_isub hx hb d_rtext_80 ?_
      refine w_i (y := (S.i 73) - 1) rfl ?_
      refine va_put (D := D) (ci := 12) (v := .int ((S.i 73) - 1)) (ty := .int) (C := R_MM) (T := F_MM) (N := 77) hx hb hts i_MM t_MM t_MM_ok n_MM hown hK hP hD hS 0 rfl rfl 73 (by decide) (hts _ kw_1455) (fun _ h9 => h9) rfl (by decide +kernel) rfl rfl (Nat.le_of_ble_eq_true rfl) d_rtext_81 (fun H locs hP hD hS => ?_)
      rw [mw_I73] at hP hD
      refine lv_aload_n hx hb d_rtext_84 rfl (lv_at hl 0 rfl) ?_
      refine va_get (D := D) (ci := 12) (v := .ref (md 72)) (C := R_MM) (T := F_MM) (N := 77) hx hb hts i_MM hown hK hP 0 rfl rfl 72 (by decide) (hts _ kw_1454) (fun _ h9 => h9) rfl d_rtext_85 ?_
      refine lv_aload_n hx hb d_rtext_88 rfl (lv_at hl 0 rfl) ?_
      refine va_get (D := D) (ci := 12) (v := .int ((S.i 73) - 1)) (C := R_MM) (T := F_MM) (N := 77) hx hb hts i_MM hown hK hP 0 rfl rfl 73 (by decide) (hts _ kw_1455) (fun _ h9 => h9) rfl d_rtext_89 ?_
      obtain ⟨hi_3, Heq⟩ := gd_some Heq
      refine va_iald hx hb hK hP 47 0 rfl rfl (i := (S.i 73) - 1) hi_3 d_rtext_92 ?_
      refine w_i (y := S.a 72 (((S.i 73) - 1).toNatClampNeg)) rfl ?_
      refine lv_istore (lv' := [(5, .int (S.a 72 (((S.i 73) - 1).toNatClampNeg))), (0, .ref (md 100)), (1, .int x1), (4, .int x4)]) hx hb d_rtext_93 hl (by decide) rfl (fun ls hl => ?_)
      refine lv_iload hx hb d_rtext_95 (lv_at hl 0 rfl) ?_
      refine lv_bipush (v := (-3)) hx hb d_rtext_97 (by decide) ?_
      refine lv_icmp_ne (tgt := 111) hx hb d_rtext_99 (by decide) (fun c_4 => ?_) (fun c_4 => ?_)
      · replace Heq := (if_neg c_4).symm.trans Heq
        refine lv_iload hx hb d_rtext_111 (lv_at hl 0 rfl) ?_
        refine lv_iconst (v := (-1)) hx hb d_rtext_113 (by decide) ?_
        refine lv_icmp_ne (tgt := 126) hx hb d_rtext_114 (by decide) (fun c_5 => ?_) (fun c_5 => ?_)
        · replace Heq := (if_neg c_5).symm.trans Heq
          refine lv_iload hx hb d_rtext_126 (lv_at hl 0 rfl) ?_
          refine lv_bipush (v := (-2)) hx hb d_rtext_128 (by decide) ?_
          refine lv_icmp_ne (tgt := 142) hx hb d_rtext_130 (by decide) (fun c_6 => ?_) (fun c_6 => ?_)
          · replace Heq := (if_neg c_6).symm.trans Heq
            refine lv_aload_n hx hb d_rtext_142 rfl (lv_at hl 1 rfl) ?_
            refine va_get (D := D) (ci := 12) (v := .ref (md 15)) (C := R_MM) (T := F_MM) (N := 77) hx hb hts i_MM hown hK hP 0 rfl rfl 15 (by decide) (hts _ kw_1397) (fun _ h9 => h9) rfl d_rtext_143 ?_
            refine lv_iload hx hb d_rtext_146 (lv_at hl 0 rfl) ?_
            obtain ⟨hi_7, Heq⟩ := gd_some Heq
            refine va_iald hx hb hK hP 11 0 rfl rfl (i := S.a 72 (((S.i 73) - 1).toNatClampNeg)) hi_7 d_rtext_148 ?_
            refine w_i (y := S.a 15 ((S.a 72 (((S.i 73) - 1).toNatClampNeg)).toNatClampNeg)) rfl ?_
            refine lv_if_le (tgt := 158) hx hb d_rtext_149 (by decide) (fun c_8 => ?_) (fun c_8 => ?_)
            · replace Heq := (if_pos c_8).symm.trans Heq
              exact w_rtext_J158 hC Heq Ka K0 _ _ _ hP hD hS (lv_sub hl [1, 2, 3, 0] rfl)
            · replace Heq := (if_neg c_8).symm.trans Heq
              refine lv_aload_n hx hb d_rtext_152 rfl (lv_at hl 1 rfl) ?_
              refine lv_iload hx hb d_rtext_153 (lv_at hl 0 rfl) ?_
              obtain ⟨o_9, h_10, Heq⟩ := ob_some Heq
              have hFc := fr_all hD hS hA
              refine va_callv (va_runV (As := [.int (S.a 72 (((S.i 73) - 1).toNatClampNeg))]) (rest := []) ⟨hx, hb, hml, hown, hts⟩ (g_rname l D H.size h_10) (cw_v 1 hts kw_1933 kw_1930 kw_1932 kp_79 kw_11 rfl rfl (by decide +kernel) ⟨Nat.le_of_ble_eq_true rfl, Nat.le_of_ble_eq_true rfl⟩) ⟨g_blind, va_recv hK hP (ci := 12) (q0 := 0) rfl rfl, fun U hU hW => g_pre hU hW hP hK hD⟩ rfl rfl hl.1 rfl (lv_room (Nat.le_of_ble_eq_true rfl)) d_rtext_155 ⟨Nat.le_of_ble_eq_true rfl, Nat.le_of_ble_eq_true rfl⟩) hS (fun q _ h => hFc q h) hFc (fun u t H1 locs ht hvm hw hB hz1 hk1 hS => ?_)
              obtain ⟨hP, -, hD1⟩ := hB
              rw [ht] at hP
              have hD := hD1.weaken (fun _ q _ h => hFc q.1 h)
              generalize H1 = H at hP hS ⊢
              refine W.cs (cells' := 0) (slots' := 0) rfl rfl ?_
              exact w_rtext_J158 hC Heq Ka K0 _ _ _ hP hD hS (lv_sub hl [1, 2, 3, 0] rfl)
          · replace Heq := (if_pos c_6).symm.trans Heq
            refine lv_aload_n hx hb d_rtext_133 rfl (lv_at hl 1 rfl) ?_
            refine lv_bipush (v := 93) hx hb d_rtext_134 (by decide) ?_
            obtain ⟨o_11, h_12, Heq⟩ := ob_some Heq
            have hFc := fr_all hD hS hA
            refine va_callv (va_runV (As := [.int 93]) (rest := []) ⟨hx, hb, hml, hown, hts⟩ (g_rwrite l D H.size h_12) (cw_v 1 hts kw_1918 kw_1915 kw_1917 kp_76 kw_11 rfl rfl (by decide +kernel) ⟨Nat.le_of_ble_eq_true rfl, Nat.le_of_ble_eq_true rfl⟩) ⟨g_blind, va_recv hK hP (ci := 12) (q0 := 0) rfl rfl, fun U hU hW => g_pre hU hW hP hK hD⟩ rfl rfl hl.1 rfl (lv_room (Nat.le_of_ble_eq_true rfl)) d_rtext_136 ⟨Nat.le_of_ble_eq_true rfl, Nat.le_of_ble_eq_true rfl⟩) hS (fun q _ h => hFc q h) hFc (fun u t H1 locs ht hvm hw hB hz1 hk1 hS => ?_)
            obtain ⟨hP, -, hD1⟩ := hB
            rw [ht] at hP
            have hD := hD1.weaken (fun _ q _ h => hFc q.1 h)
            generalize H1 = H at hP hS ⊢
            refine W.cs (cells' := 0) (slots' := 0) rfl rfl ?_
            refine lv_goto (tgt := 199) hx hb d_rtext_139 (by decide) ?_
            exact w_rtext_J199 hC Heq Ka K0 _ _ _ hP hD hS (lv_sub hl [1, 2, 3] rfl)
        · replace Heq := (if_pos c_5).symm.trans Heq
          refine lv_aload_n hx hb d_rtext_117 rfl (lv_at hl 1 rfl) ?_
          refine lv_bipush (v := 125) hx hb d_rtext_118 (by decide) ?_
          obtain ⟨o_13, h_14, Heq⟩ := ob_some Heq
          have hFc := fr_all hD hS hA
          refine va_callv (va_runV (As := [.int 125]) (rest := []) ⟨hx, hb, hml, hown, hts⟩ (g_rwrite l D H.size h_14) (cw_v 1 hts kw_1918 kw_1915 kw_1917 kp_76 kw_11 rfl rfl (by decide +kernel) ⟨Nat.le_of_ble_eq_true rfl, Nat.le_of_ble_eq_true rfl⟩) ⟨g_blind, va_recv hK hP (ci := 12) (q0 := 0) rfl rfl, fun U hU hW => g_pre hU hW hP hK hD⟩ rfl rfl hl.1 rfl (lv_room (Nat.le_of_ble_eq_true rfl)) d_rtext_120 ⟨Nat.le_of_ble_eq_true rfl, Nat.le_of_ble_eq_true rfl⟩) hS (fun q _ h => hFc q h) hFc (fun u t H1 locs ht hvm hw hB hz1 hk1 hS => ?_)
          obtain ⟨hP, -, hD1⟩ := hB
          rw [ht] at hP
          have hD := hD1.weaken (fun _ q _ h => hFc q.1 h)
          generalize H1 = H at hP hS ⊢
          refine W.cs (cells' := 0) (slots' := 0) rfl rfl ?_
          refine lv_goto (tgt := 199) hx hb d_rtext_123 (by decide) ?_
          exact w_rtext_J199 hC Heq Ka K0 _ _ _ hP hD hS (lv_sub hl [1, 2, 3] rfl)
      · replace Heq := (if_pos c_4).symm.trans Heq
        refine lv_aload_n hx hb d_rtext_102 rfl (lv_at hl 1 rfl) ?_
        refine lv_bipush (v := 44) hx hb d_rtext_103 (by decide) ?_
        obtain ⟨o_15, h_16, Heq⟩ := ob_some Heq
        have hFc := fr_all hD hS hA
        refine va_callv (va_runV (As := [.int 44]) (rest := []) ⟨hx, hb, hml, hown, hts⟩ (g_rwrite l D H.size h_16) (cw_v 1 hts kw_1918 kw_1915 kw_1917 kp_76 kw_11 rfl rfl (by decide +kernel) ⟨Nat.le_of_ble_eq_true rfl, Nat.le_of_ble_eq_true rfl⟩) ⟨g_blind, va_recv hK hP (ci := 12) (q0 := 0) rfl rfl, fun U hU hW => g_pre hU hW hP hK hD⟩ rfl rfl hl.1 rfl (lv_room (Nat.le_of_ble_eq_true rfl)) d_rtext_105 ⟨Nat.le_of_ble_eq_true rfl, Nat.le_of_ble_eq_true rfl⟩) hS (fun q _ h => hFc q h) hFc (fun u t H1 locs ht hvm hw hB hz1 hk1 hS => ?_)
        obtain ⟨hP, -, hD1⟩ := hB
        rw [ht] at hP
        have hD := hD1.weaken (fun _ q _ h => hFc q.1 h)
        generalize H1 = H at hP hS ⊢
        refine W.cs (cells' := 0) (slots' := 0) rfl rfl ?_
        refine lv_goto (tgt := 199) hx hb d_rtext_108 (by decide) ?_
        exact w_rtext_J199 hC Heq Ka K0 _ _ _ hP hD hS (lv_sub hl [1, 2, 3] rfl)
def m_rtext_L54 (S : MS) (x1 : Int32) (x4 : Int32) : Option (MS × Int32) := lp (fun a : MS × Int32 × Int32 => m_rtext_B54 a.1 a.2.1 a.2.2) FU (S, x1, x4)
theorem w_rtext_L54 {p : Program} {l : Launch} {e : Env} {s : State} {m : MethodId} {args : Array Value} {below : List Frame} {meth : Method} {c : Code} {A : Nat → Prop} {D : va_G} {md : Nat → Nat} {mc : Nat → ClassId} {Q : State → Prop} {sad sav : Nat → Nat} (hC : MCs sad sav "JoinedTreesModel" prog_14_method_82_code 7 (some .int) p s m args meth c A D mc) {S : MS} {x1 : Int32} {x4 : Int32} {o : MS × Int32} (Heq : m_rtext_L54 S x1 x4 = some o) (K0 : ∀ b : MS × Int32, o = b → ∀ (H : Heap) (locs : List Loc) (ls : Array Slot), va_P D cls (mw md mc b.1) H → va_D A (mw md mc b.1) → va_S A s.heap H locs → lv_has ls 7 [(0, .ref (md 100)), (4, .int b.2)] → W p l e ({ frames := 5, cells := 0, slots := 0, locals := 135 }) s m args below meth c H locs 0 0 Q (F0 m 202 ls [])) : ∀ (H : Heap) (locs : List Loc) (ls : Array Slot), va_P D cls (mw md mc S) H → va_D A (mw md mc S) → va_S A s.heap H locs → lv_has ls 7 [(0, .ref (md 100)), (1, .int x1), (4, .int x4)] → W p l e ({ frames := 5, cells := 0, slots := 0, locals := 135 }) s m args below meth c H locs 0 0 Q (F0 m 54 ls []) := by
  refine lp_w (G := fun a : MS × Int32 × Int32 => ∀ (H : Heap) (locs : List Loc) (ls : Array Slot), va_P D cls (mw md mc a.1) H → va_D A (mw md mc a.1) → va_S A s.heap H locs → lv_has ls 7 [(0, .ref (md 100)), (1, .int a.2.1), (4, .int a.2.2)] → W p l e ({ frames := 5, cells := 0, slots := 0, locals := 135 }) s m args below meth c H locs 0 0 Q (F0 m 54 ls [])) ?_ FU (S, x1, x4) Heq
  intro a o1 ho Ka Ke
  exact w_rtext_B54 hC ho (fun b h => Ka b h) (fun b h => K0 b (Ke _ h).symm)
def m_rtext_B239 (S : MS) (x5 : Int32) (x6 : Int32) : Option ((MS × Int32 × Int32) ⊕ (MS × Int32)) := (if x5 ≤ x6 then some (.inr (S, x5)) else gd (400000 + x6) 800000 (gd x6 800000 (some (.inl ((S.setA 40 (upd (S.a 40) x6.toNatClampNeg (vp_nar .byte (S.a 40 ((400000 + x6).toNatClampNeg))))), x5, (x6 + 1))))))
theorem d_rtext_202 : decode prog_14_method_82_code 202 = .ok (.aload_n 0, 1) := by decide +kernel
theorem d_rtext_203 : decode prog_14_method_82_code 203 = .ok (.getfield 433, 3) := by decide +kernel
theorem d_rtext_206 : decode prog_14_method_82_code 206 = .ok (.ldc 172, 2) := by decide +kernel
theorem d_rtext_208 : decode prog_14_method_82_code 208 = .ok (.isub, 1) := by decide +kernel
theorem d_rtext_209 : decode prog_14_method_82_code 209 = .ok (.istore 5, 2) := by decide +kernel
theorem d_rtext_211 : decode prog_14_method_82_code 211 = .ok (.aload_n 0, 1) := by decide +kernel
theorem d_rtext_212 : decode prog_14_method_82_code 212 = .ok (.iload 4, 2) := by decide +kernel
theorem d_rtext_214 : decode prog_14_method_82_code 214 = .ok (.putfield 433, 3) := by decide +kernel
theorem d_rtext_217 : decode prog_14_method_82_code 217 = .ok (.iload 5, 2) := by decide +kernel
theorem d_rtext_219 : decode prog_14_method_82_code 219 = .ok (.sipush 16384, 3) := by decide +kernel
theorem d_rtext_222 : decode prog_14_method_82_code 222 = .ok (.if_icmp .le 9, 3) := by decide +kernel
theorem d_rtext_231 : decode prog_14_method_82_code 231 = .ok (.aload_n 0, 1) := by decide +kernel
theorem d_rtext_232 : decode prog_14_method_82_code 232 = .ok (.iconst 0, 1) := by decide +kernel
theorem d_rtext_233 : decode prog_14_method_82_code 233 = .ok (.putfield 176, 3) := by decide +kernel
theorem d_rtext_236 : decode prog_14_method_82_code 236 = .ok (.iconst 0, 1) := by decide +kernel
theorem d_rtext_237 : decode prog_14_method_82_code 237 = .ok (.istore 6, 2) := by decide +kernel
theorem d_rtext_239 : decode prog_14_method_82_code 239 = .ok (.iload 6, 2) := by decide +kernel
theorem d_rtext_241 : decode prog_14_method_82_code 241 = .ok (.iload 5, 2) := by decide +kernel
theorem d_rtext_243 : decode prog_14_method_82_code 243 = .ok (.if_icmp .ge 26, 3) := by decide +kernel
theorem d_rtext_246 : decode prog_14_method_82_code 246 = .ok (.aload_n 0, 1) := by decide +kernel
theorem d_rtext_247 : decode prog_14_method_82_code 247 = .ok (.getfield 108, 3) := by decide +kernel
theorem d_rtext_250 : decode prog_14_method_82_code 250 = .ok (.iload 6, 2) := by decide +kernel
theorem d_rtext_252 : decode prog_14_method_82_code 252 = .ok (.aload_n 0, 1) := by decide +kernel
theorem d_rtext_253 : decode prog_14_method_82_code 253 = .ok (.getfield 108, 3) := by decide +kernel
theorem d_rtext_256 : decode prog_14_method_82_code 256 = .ok (.ldc 172, 2) := by decide +kernel
theorem d_rtext_258 : decode prog_14_method_82_code 258 = .ok (.iload 6, 2) := by decide +kernel
theorem d_rtext_260 : decode prog_14_method_82_code 260 = .ok (.iadd, 1) := by decide +kernel
theorem d_rtext_261 : decode prog_14_method_82_code 261 = .ok (.baload, 1) := by decide +kernel
theorem d_rtext_262 : decode prog_14_method_82_code 262 = .ok (.bastore, 1) := by decide +kernel
theorem d_rtext_263 : decode prog_14_method_82_code 263 = .ok (.iinc 6 1, 3) := by decide +kernel
theorem d_rtext_266 : decode prog_14_method_82_code 266 = .ok (.goto (-27), 3) := by decide +kernel
set_option maxHeartbeats 4000000 in
set_option maxRecDepth 100000 in
theorem w_rtext_B239 {p : Program} {l : Launch} {e : Env} {s : State} {m : MethodId} {args : Array Value} {below : List Frame} {meth : Method} {c : Code} {A : Nat → Prop} {D : va_G} {md : Nat → Nat} {mc : Nat → ClassId} {Q : State → Prop} {sad sav : Nat → Nat} (hC : MCs sad sav "JoinedTreesModel" prog_14_method_82_code 7 (some .int) p s m args meth c A D mc) {S : MS} {x5 : Int32} {x6 : Int32} {o : ((MS × Int32 × Int32) ⊕ (MS × Int32))} (Heq : m_rtext_B239 S x5 x6 = some o) (Ka : ∀ b : MS × Int32 × Int32, o = .inl b → ∀ (H : Heap) (locs : List Loc) (ls : Array Slot), va_P D cls (mw md mc b.1) H → va_D A (mw md mc b.1) → va_S A s.heap H locs → lv_has ls 7 [(0, .ref (md 100)), (5, .int b.2.1), (6, .int b.2.2)] → W p l e ({ frames := 5, cells := 0, slots := 0, locals := 135 }) s m args below meth c H locs 0 0 Q (F0 m 239 ls [])) (K0 : ∀ b : MS × Int32, o = .inr b → ∀ (H : Heap) (locs : List Loc) (ls : Array Slot), va_P D cls (mw md mc b.1) H → va_D A (mw md mc b.1) → va_S A s.heap H locs → lv_has ls 7 [(0, .ref (md 100)), (5, .int b.2)] → W p l e ({ frames := 5, cells := 0, slots := 0, locals := 135 }) s m args below meth c H locs 0 0 Q (F0 m 269 ls [])) : ∀ (H : Heap) (locs : List Loc) (ls : Array Slot), va_P D cls (mw md mc S) H → va_D A (mw md mc S) → va_S A s.heap H locs → lv_has ls 7 [(0, .ref (md 100)), (5, .int x5), (6, .int x6)] → W p l e ({ frames := 5, cells := 0, slots := 0, locals := 135 }) s m args below meth c H locs 0 0 Q (F0 m 239 ls []) := by
  intro H locs ls hP hD hS hl
  obtain ⟨⟨hx, hb, hr, hml, hown, hts, hK, hA⟩, hE⟩ := id hC
  unfold m_rtext_B239 at Heq
  refine lv_iload hx hb d_rtext_239 (lv_at hl 2 rfl) ?_
  refine lv_iload hx hb d_rtext_241 (lv_at hl 1 rfl) ?_
  refine lv_icmp_ge (tgt := 269) hx hb d_rtext_243 (by decide) (fun c_1 => ?_) (fun c_1 => ?_)
  · replace Heq := (if_pos c_1).symm.trans Heq
    exact K0 _ (Option.some.inj Heq).symm _ _ _ hP hD hS (lv_sub hl [0, 1] rfl)
  · replace Heq := (if_neg c_1).symm.trans Heq
    refine lv_aload_n hx hb d_rtext_246 rfl (lv_at hl 0 rfl) ?_
    refine va_get (D := D) (ci := 12) (v := .ref (md 40)) (C := R_MM) (T := F_MM) (N := 77) hx hb hts i_MM hown hK hP 0 rfl rfl 40 (by decide) (hts _ kw_1422) (fun _ h9 => h9) rfl d_rtext_247 ?_
    refine lv_iload hx hb d_rtext_250 (lv_at hl 2 rfl) ?_
    refine lv_aload_n hx hb d_rtext_252 rfl (lv_at hl 0 rfl) ?_
    refine va_get (D := D) (ci := 12) (v := .ref (md 40)) (C := R_MM) (T := F_MM) (N := 77) hx hb hts i_MM hown hK hP 0 rfl rfl 40 (by decide) (hts _ kw_1422) (fun _ h9 => h9) rfl d_rtext_253 ?_
    refine lv_ldc (v := 400000) hx hb hown (hts _ kw_1381) d_rtext_256 ?_
    refine lv_iload hx hb d_rtext_258 (lv_at hl 2 rfl) ?_
    refine lv_iadd hx hb d_rtext_260 ?_
    refine w_i (y := 400000 + x6) rfl ?_
    obtain ⟨hi_2, Heq⟩ := gd_some Heq
    refine va_bald hx hb hK hP 28 1 rfl rfl (i := 400000 + x6) hi_2 d_rtext_261 ?_
    refine w_i (y := S.a 40 ((400000 + x6).toNatClampNeg)) rfl ?_
    obtain ⟨hi_3, Heq⟩ := gd_some Heq
    refine va_bast hx hb hK hP hD hS 28 1 rfl rfl (i := x6) (x := S.a 40 ((400000 + x6).toNatClampNeg)) hi_3 d_rtext_262 (fun H locs hP hD hS => ?_)
    rw [mw_A40] at hP hD
    refine lv_iinc (v := x6 + 1) (lv' := [(6, .int (x6 + 1)), (0, .ref (md 100)), (5, .int x5)]) hx hb d_rtext_263 hl (k := 2) rfl rfl (by decide) rfl (fun ls hl => ?_)
    refine lv_goto (tgt := 239) hx hb d_rtext_266 (by decide) ?_
    exact Ka _ (Option.some.inj Heq).symm _ _ _ hP hD hS (lv_sub hl [1, 2, 0] rfl)
def m_rtext_L239 (S : MS) (x5 : Int32) (x6 : Int32) : Option (MS × Int32) := lp (fun a : MS × Int32 × Int32 => m_rtext_B239 a.1 a.2.1 a.2.2) FU (S, x5, x6)
theorem w_rtext_L239 {p : Program} {l : Launch} {e : Env} {s : State} {m : MethodId} {args : Array Value} {below : List Frame} {meth : Method} {c : Code} {A : Nat → Prop} {D : va_G} {md : Nat → Nat} {mc : Nat → ClassId} {Q : State → Prop} {sad sav : Nat → Nat} (hC : MCs sad sav "JoinedTreesModel" prog_14_method_82_code 7 (some .int) p s m args meth c A D mc) {S : MS} {x5 : Int32} {x6 : Int32} {o : MS × Int32} (Heq : m_rtext_L239 S x5 x6 = some o) (K0 : ∀ b : MS × Int32, o = b → ∀ (H : Heap) (locs : List Loc) (ls : Array Slot), va_P D cls (mw md mc b.1) H → va_D A (mw md mc b.1) → va_S A s.heap H locs → lv_has ls 7 [(0, .ref (md 100)), (5, .int b.2)] → W p l e ({ frames := 5, cells := 0, slots := 0, locals := 135 }) s m args below meth c H locs 0 0 Q (F0 m 269 ls [])) : ∀ (H : Heap) (locs : List Loc) (ls : Array Slot), va_P D cls (mw md mc S) H → va_D A (mw md mc S) → va_S A s.heap H locs → lv_has ls 7 [(0, .ref (md 100)), (5, .int x5), (6, .int x6)] → W p l e ({ frames := 5, cells := 0, slots := 0, locals := 135 }) s m args below meth c H locs 0 0 Q (F0 m 239 ls []) := by
  refine lp_w (G := fun a : MS × Int32 × Int32 => ∀ (H : Heap) (locs : List Loc) (ls : Array Slot), va_P D cls (mw md mc a.1) H → va_D A (mw md mc a.1) → va_S A s.heap H locs → lv_has ls 7 [(0, .ref (md 100)), (5, .int a.2.1), (6, .int a.2.2)] → W p l e ({ frames := 5, cells := 0, slots := 0, locals := 135 }) s m args below meth c H locs 0 0 Q (F0 m 239 ls [])) ?_ FU (S, x5, x6) Heq
  intro a o1 ho Ka Ke
  exact w_rtext_B239 hC ho (fun b h => Ka b h) (fun b h => K0 b (Ke _ h).symm)
def m_rtext_J202 (S : MS) (x4 : Int32) : Option (MS × Int32) := (if (S.i 41) - 400000 ≤ 16384 then ob (m_rtext_L239 ((S.setI 41 x4).setI 0 0) ((S.i 41) - 400000) 0) (fun b_2 => some (((b_2.1.setI 41 b_2.2).setI 43 0), b_2.2)) else ob (m_rno (S.setI 41 x4) 2) (fun o_4 => some (o_4.1, o_4.2)))
theorem d_rtext_269 : decode prog_14_method_82_code 269 = .ok (.aload_n 0, 1) := by decide +kernel
theorem d_rtext_270 : decode prog_14_method_82_code 270 = .ok (.iload 5, 2) := by decide +kernel
theorem d_rtext_272 : decode prog_14_method_82_code 272 = .ok (.putfield 433, 3) := by decide +kernel
theorem d_rtext_275 : decode prog_14_method_82_code 275 = .ok (.aload_n 0, 1) := by decide +kernel
theorem d_rtext_276 : decode prog_14_method_82_code 276 = .ok (.iconst 0, 1) := by decide +kernel
theorem d_rtext_277 : decode prog_14_method_82_code 277 = .ok (.putfield 465, 3) := by decide +kernel
theorem d_rtext_280 : decode prog_14_method_82_code 280 = .ok (.iload 5, 2) := by decide +kernel
theorem d_rtext_282 : decode prog_14_method_82_code 282 = .ok (.ireturn, 1) := by decide +kernel
theorem d_rtext_225 : decode prog_14_method_82_code 225 = .ok (.aload_n 0, 1) := by decide +kernel
theorem d_rtext_226 : decode prog_14_method_82_code 226 = .ok (.iconst 2, 1) := by decide +kernel
theorem d_rtext_227 : decode prog_14_method_82_code 227 = .ok (.invokevirtual 191, 3) := by decide +kernel
theorem d_rtext_230 : decode prog_14_method_82_code 230 = .ok (.ireturn, 1) := by decide +kernel
set_option maxHeartbeats 4000000 in
set_option maxRecDepth 100000 in
theorem w_rtext_J202 {p : Program} {l : Launch} {e : Env} {s : State} {m : MethodId} {args : Array Value} {below : List Frame} {meth : Method} {c : Code} {A : Nat → Prop} {D : va_G} {md : Nat → Nat} {mc : Nat → ClassId} {Q : State → Prop} {sad sav : Nat → Nat} (hC : MCs sad sav "JoinedTreesModel" prog_14_method_82_code 7 (some .int) p s m args meth c A D mc) {S : MS} {x4 : Int32} {o : MS × Int32} (Heq : m_rtext_J202 S x4 = some o) (Kr : ∀ r : MS × Int32, o = r → ∀ (pc : Nat) (H : Heap) (locs : List Loc) (ls : Array Slot), decode prog_14_method_82_code pc = .ok (.ireturn, 1) → va_P D cls (mw md mc r.1) H → va_D A (mw md mc r.1) → va_S A s.heap H locs → W p l e ({ frames := 5, cells := 0, slots := 0, locals := 135 }) s m args below meth c H locs 0 0 Q (F0 m pc ls [.int r.2])) : ∀ (H : Heap) (locs : List Loc) (ls : Array Slot), va_P D cls (mw md mc S) H → va_D A (mw md mc S) → va_S A s.heap H locs → lv_has ls 7 [(0, .ref (md 100)), (4, .int x4)] → W p l e ({ frames := 5, cells := 0, slots := 0, locals := 135 }) s m args below meth c H locs 0 0 Q (F0 m 202 ls []) := by
  intro H locs ls hP hD hS hl
  obtain ⟨⟨hx, hb, hr, hml, hown, hts, hK, hA⟩, hE⟩ := id hC
  unfold m_rtext_J202 at Heq
  refine lv_aload_n hx hb d_rtext_202 rfl (lv_at hl 0 rfl) ?_
  refine va_get (D := D) (ci := 12) (v := .int (S.i 41)) (C := R_MM) (T := F_MM) (N := 77) hx hb hts i_MM hown hK hP 0 rfl rfl 41 (by decide) (hts _ kw_1423) (fun _ h9 => h9) rfl d_rtext_203 ?_
  refine lv_ldc (v := 400000) hx hb hown (hts _ kw_1381) d_rtext_206 ?_
  refine lv_isub hx hb d_rtext_208 ?_
  refine w_i (y := (S.i 41) - 400000) rfl ?_
  refine lv_istore (lv' := [(5, .int ((S.i 41) - 400000)), (0, .ref (md 100)), (4, .int x4)]) hx hb d_rtext_209 hl (by decide) rfl (fun ls hl => ?_)
  refine lv_aload_n hx hb d_rtext_211 rfl (lv_at hl 1 rfl) ?_
  refine lv_iload hx hb d_rtext_212 (lv_at hl 2 rfl) ?_
  refine va_put (D := D) (ci := 12) (v := .int x4) (ty := .int) (C := R_MM) (T := F_MM) (N := 77) hx hb hts i_MM t_MM t_MM_ok n_MM hown hK hP hD hS 0 rfl rfl 41 (by decide) (hts _ kw_1423) (fun _ h9 => h9) rfl (by decide +kernel) rfl rfl (Nat.le_of_ble_eq_true rfl) d_rtext_214 (fun H locs hP hD hS => ?_)
  rw [mw_I41] at hP hD
  refine lv_iload hx hb d_rtext_217 (lv_at hl 0 rfl) ?_
  refine lv_sipush (v := 16384) hx hb d_rtext_219 (by decide) ?_
  refine lv_icmp_le (tgt := 231) hx hb d_rtext_222 (by decide) (fun c_1 => ?_) (fun c_1 => ?_)
  · replace Heq := (if_pos c_1).symm.trans Heq
    refine lv_aload_n hx hb d_rtext_231 rfl (lv_at hl 1 rfl) ?_
    refine lv_iconst (v := 0) hx hb d_rtext_232 (by decide) ?_
    refine va_put (D := D) (ci := 12) (v := .int 0) (ty := .int) (C := R_MM) (T := F_MM) (N := 77) hx hb hts i_MM t_MM t_MM_ok n_MM hown hK hP hD hS 0 rfl rfl 0 (by decide) (hts _ kw_1382) (fun _ h9 => h9) rfl (by decide +kernel) rfl rfl (Nat.le_of_ble_eq_true rfl) d_rtext_233 (fun H locs hP hD hS => ?_)
    rw [mw_I0] at hP hD
    refine lv_iconst (v := 0) hx hb d_rtext_236 (by decide) ?_
    refine lv_istore (lv' := [(6, .int 0), (5, .int ((S.i 41) - 400000)), (0, .ref (md 100)), (4, .int x4)]) hx hb d_rtext_237 hl (by decide) rfl (fun ls hl => ?_)
    obtain ⟨b_2, h_3, Heq⟩ := ob_some Heq
    refine w_rtext_L239 hC h_3 (fun b h => ?_) _ _ _ hP hD hS (lv_sub hl [2, 1, 0] rfl)
    subst h
    intro H locs ls hP hD hS hl
    refine lv_aload_n hx hb d_rtext_269 rfl (lv_at hl 0 rfl) ?_
    refine lv_iload hx hb d_rtext_270 (lv_at hl 1 rfl) ?_
    refine va_put (D := D) (ci := 12) (v := .int b_2.2) (ty := .int) (C := R_MM) (T := F_MM) (N := 77) hx hb hts i_MM t_MM t_MM_ok n_MM hown hK hP hD hS 0 rfl rfl 41 (by decide) (hts _ kw_1423) (fun _ h9 => h9) rfl (by decide +kernel) rfl rfl (Nat.le_of_ble_eq_true rfl) d_rtext_272 (fun H locs hP hD hS => ?_)
    rw [mw_I41] at hP hD
    refine lv_aload_n hx hb d_rtext_275 rfl (lv_at hl 0 rfl) ?_
    refine lv_iconst (v := 0) hx hb d_rtext_276 (by decide) ?_
    refine va_put (D := D) (ci := 12) (v := .int 0) (ty := .boolean) (C := R_MM) (T := F_MM) (N := 77) hx hb hts i_MM t_MM t_MM_ok n_MM hown hK hP hD hS 0 rfl rfl 43 (by decide) (hts _ kw_1425) (fun _ h9 => h9) rfl (by decide +kernel) (by decide) (by decide) (Nat.le_of_ble_eq_true rfl) d_rtext_277 (fun H locs hP hD hS => ?_)
    rw [mw_I43] at hP hD
    refine lv_iload hx hb d_rtext_280 (lv_at hl 1 rfl) ?_
    exact Kr _ (Option.some.inj Heq).symm 282 _ _ _ d_rtext_282 hP hD hS
  · replace Heq := (if_neg c_1).symm.trans Heq
    refine lv_aload_n hx hb d_rtext_225 rfl (lv_at hl 1 rfl) ?_
    refine lv_iconst (v := 2) hx hb d_rtext_226 (by decide) ?_
    obtain ⟨o_4, h_5, Heq⟩ := ob_some Heq
    have hFc := fr_all hD hS hA
    refine va_calli (va_runV (As := [.int 2]) (rest := []) ⟨hx, hb, hml, hown, hts⟩ (g_rno l D H.size h_5) (cw_v 1 hts kw_1626 kw_1623 kw_1625 kp_29 kw_11 rfl rfl (by decide +kernel) ⟨Nat.le_of_ble_eq_true rfl, Nat.le_of_ble_eq_true rfl⟩) ⟨g_blind, va_recv hK hP (ci := 12) (q0 := 0) rfl rfl, fun U hU hW => g_pre hU hW hP hK hD⟩ rfl rfl hl.1 rfl (lv_room (Nat.le_of_ble_eq_true rfl)) d_rtext_227 ⟨Nat.le_of_ble_eq_true rfl, Nat.le_of_ble_eq_true rfl⟩) hS (fun q _ h => hFc q h) hFc (fun rz u t H1 locs ht hvm hw hB hz1 hk1 hS => ?_)
    obtain ⟨hP, -, hD1⟩ := hB
    rw [ht] at hP
    have hD := hD1.weaken (fun _ q _ h => hFc q.1 h)
    generalize H1 = H at hP hS ⊢
    refine W.cs (cells' := 0) (slots' := 0) rfl rfl ?_
    subst hw
    exact Kr _ (Option.some.inj Heq).symm 230 _ _ _ d_rtext_230 hP hD hS
def m_rtext_J0 (S : MS) (x1 : Int32) (x2 : Int32) : Option (MS × Int32) := ob (m_risReplica S x1) (fun o_1 => (if o_1.2 = 0 then ob (m_rno o_1.1 1) (fun o_13 => some (o_13.1, o_13.2)) else ob (m_rkindOf o_1.1 x1 x2) (fun o_4 => (if 0 ≤ o_4.2 then ob (m_rbegin ((o_4.1.setI 41 400000).setI 73 0) x1 x2 o_4.2) (fun o_7 => ob (m_rtext_L54 o_7 x1 (o_4.1.i 41)) (fun b_9 => m_rtext_J202 b_9.1 b_9.2)) else ob (m_rno o_4.1 3) (fun o_11 => some (o_11.1, o_11.2))))))
theorem d_rtext_24 : decode prog_14_method_82_code 24 = .ok (.aload_n 0, 1) := by decide +kernel
theorem d_rtext_25 : decode prog_14_method_82_code 25 = .ok (.iconst 3, 1) := by decide +kernel
theorem d_rtext_26 : decode prog_14_method_82_code 26 = .ok (.invokevirtual 191, 3) := by decide +kernel
theorem d_rtext_29 : decode prog_14_method_82_code 29 = .ok (.ireturn, 1) := by decide +kernel
theorem d_rtext_7 : decode prog_14_method_82_code 7 = .ok (.aload_n 0, 1) := by decide +kernel
theorem d_rtext_8 : decode prog_14_method_82_code 8 = .ok (.iconst 1, 1) := by decide +kernel
theorem d_rtext_9 : decode prog_14_method_82_code 9 = .ok (.invokevirtual 191, 3) := by decide +kernel
theorem d_rtext_12 : decode prog_14_method_82_code 12 = .ok (.ireturn, 1) := by decide +kernel
set_option maxHeartbeats 4000000 in
set_option maxRecDepth 100000 in
theorem w_rtext_J0 {p : Program} {l : Launch} {e : Env} {s : State} {m : MethodId} {args : Array Value} {below : List Frame} {meth : Method} {c : Code} {A : Nat → Prop} {D : va_G} {md : Nat → Nat} {mc : Nat → ClassId} {Q : State → Prop} {sad sav : Nat → Nat} (hC : MCs sad sav "JoinedTreesModel" prog_14_method_82_code 7 (some .int) p s m args meth c A D mc) {S : MS} {x1 : Int32} {x2 : Int32} {o : MS × Int32} (Heq : m_rtext_J0 S x1 x2 = some o) (Kr : ∀ r : MS × Int32, o = r → ∀ (pc : Nat) (H : Heap) (locs : List Loc) (ls : Array Slot), decode prog_14_method_82_code pc = .ok (.ireturn, 1) → va_P D cls (mw md mc r.1) H → va_D A (mw md mc r.1) → va_S A s.heap H locs → W p l e ({ frames := 5, cells := 0, slots := 0, locals := 135 }) s m args below meth c H locs 0 0 Q (F0 m pc ls [.int r.2])) : ∀ (H : Heap) (locs : List Loc) (ls : Array Slot), va_P D cls (mw md mc S) H → va_D A (mw md mc S) → va_S A s.heap H locs → lv_has ls 7 [(0, .ref (md 100)), (1, .int x1), (2, .int x2)] → W p l e ({ frames := 5, cells := 0, slots := 0, locals := 135 }) s m args below meth c H locs 0 0 Q (F0 m 0 ls []) := by
  intro H locs ls hP hD hS hl
  obtain ⟨⟨hx, hb, hr, hml, hown, hts, hK, hA⟩, hE⟩ := id hC
  unfold m_rtext_J0 at Heq
  refine lv_iload_n hx hb d_rtext_0 rfl (lv_at hl 1 rfl) ?_
  obtain ⟨o_1, h_2, Heq⟩ := ob_some Heq
  have hFc := fr_all hD hS hA
  refine va_calli (va_runS (As := [.int x1]) (rest := []) ⟨hx, hb, hml, hown, hts⟩ (g_risReplica l D H.size h_2) (cw_s 1 hts kw_1641 kw_1639 kw_1640 kw_11 rfl rfl (by decide +kernel) ⟨Nat.le_of_ble_eq_true rfl, Nat.le_of_ble_eq_true rfl⟩) ⟨g_blind, fun U hU hW => g_pre hU hW hP hK hD⟩ rfl rfl hl.1 rfl (lv_room (Nat.le_of_ble_eq_true rfl)) d_rtext_1 ⟨Nat.le_of_ble_eq_true rfl, Nat.le_of_ble_eq_true rfl⟩) hS (fun q _ h => hFc q h) hFc (fun rz u t H1 locs ht hvm hw hB hz1 hk1 hS => ?_)
  obtain ⟨hP, -, hD1⟩ := hB
  rw [ht] at hP
  have hD := hD1.weaken (fun _ q _ h => hFc q.1 h)
  generalize H1 = H at hP hS ⊢
  refine W.cs (cells' := 0) (slots' := 0) rfl rfl ?_
  subst hw
  refine lv_if_ne (tgt := 13) hx hb d_rtext_4 (by decide) (fun c_3 => ?_) (fun c_3 => ?_)
  · replace Heq := (if_neg c_3).symm.trans Heq
    refine lv_aload_n hx hb d_rtext_13 rfl (lv_at hl 0 rfl) ?_
    refine lv_iload_n hx hb d_rtext_14 rfl (lv_at hl 1 rfl) ?_
    refine lv_iload_n hx hb d_rtext_15 rfl (lv_at hl 2 rfl) ?_
    obtain ⟨o_4, h_5, Heq⟩ := ob_some Heq
    have hFc := fr_all hD hS hA
    refine va_calli (va_runV (As := [.int x1, .int x2]) (rest := []) ⟨hx, hb, hml, hown, hts⟩ (g_rkindOf l D H.size h_5) (cw_v 2 hts kw_1648 kw_1645 kw_1647 kp_31 kw_11 rfl rfl (by decide +kernel) ⟨Nat.le_of_ble_eq_true rfl, Nat.le_of_ble_eq_true rfl⟩) ⟨g_blind, va_recv hK hP (ci := 12) (q0 := 0) rfl rfl, fun U hU hW => g_pre hU hW hP hK hD⟩ rfl rfl hl.1 rfl (lv_room (Nat.le_of_ble_eq_true rfl)) d_rtext_16 ⟨Nat.le_of_ble_eq_true rfl, Nat.le_of_ble_eq_true rfl⟩) hS (fun q _ h => hFc q h) hFc (fun rz u t H1 locs ht hvm hw hB hz1 hk1 hS => ?_)
    obtain ⟨hP, -, hD1⟩ := hB
    rw [ht] at hP
    have hD := hD1.weaken (fun _ q _ h => hFc q.1 h)
    generalize H1 = H at hP hS ⊢
    refine W.cs (cells' := 0) (slots' := 0) rfl rfl ?_
    subst hw
    refine lv_istore_n (lv' := [(3, .int o_4.2), (0, .ref (md 100)), (1, .int x1), (2, .int x2)]) hx hb d_rtext_19 rfl hl (by decide) rfl (fun ls hl => ?_)
    refine lv_iload_n hx hb d_rtext_20 rfl (lv_at hl 0 rfl) ?_
    refine lv_if_ge (tgt := 30) hx hb d_rtext_21 (by decide) (fun c_6 => ?_) (fun c_6 => ?_)
    · replace Heq := (if_pos c_6).symm.trans Heq
      refine lv_aload_n hx hb d_rtext_30 rfl (lv_at hl 1 rfl) ?_
      refine va_get (D := D) (ci := 12) (v := .int (o_4.1.i 41)) (C := R_MM) (T := F_MM) (N := 77) hx hb hts i_MM hown hK hP 0 rfl rfl 41 (by decide) (hts _ kw_1423) (fun _ h9 => h9) rfl d_rtext_31 ?_
      refine lv_istore (lv' := [(4, .int (o_4.1.i 41)), (3, .int o_4.2), (0, .ref (md 100)), (1, .int x1), (2, .int x2)]) hx hb d_rtext_34 hl (by decide) rfl (fun ls hl => ?_)
      refine lv_aload_n hx hb d_rtext_36 rfl (lv_at hl 2 rfl) ?_
      refine lv_ldc (v := 400000) hx hb hown (hts _ kw_1381) d_rtext_37 ?_
      refine va_put (D := D) (ci := 12) (v := .int 400000) (ty := .int) (C := R_MM) (T := F_MM) (N := 77) hx hb hts i_MM t_MM t_MM_ok n_MM hown hK hP hD hS 0 rfl rfl 41 (by decide) (hts _ kw_1423) (fun _ h9 => h9) rfl (by decide +kernel) rfl rfl (Nat.le_of_ble_eq_true rfl) d_rtext_39 (fun H locs hP hD hS => ?_)
      rw [mw_I41] at hP hD
      refine lv_aload_n hx hb d_rtext_42 rfl (lv_at hl 2 rfl) ?_
      refine lv_iconst (v := 0) hx hb d_rtext_43 (by decide) ?_
      refine va_put (D := D) (ci := 12) (v := .int 0) (ty := .int) (C := R_MM) (T := F_MM) (N := 77) hx hb hts i_MM t_MM t_MM_ok n_MM hown hK hP hD hS 0 rfl rfl 73 (by decide) (hts _ kw_1455) (fun _ h9 => h9) rfl (by decide +kernel) rfl rfl (Nat.le_of_ble_eq_true rfl) d_rtext_44 (fun H locs hP hD hS => ?_)
      rw [mw_I73] at hP hD
      refine lv_aload_n hx hb d_rtext_47 rfl (lv_at hl 2 rfl) ?_
      refine lv_iload_n hx hb d_rtext_48 rfl (lv_at hl 3 rfl) ?_
      refine lv_iload_n hx hb d_rtext_49 rfl (lv_at hl 4 rfl) ?_
      refine lv_iload_n hx hb d_rtext_50 rfl (lv_at hl 1 rfl) ?_
      obtain ⟨o_7, h_8, Heq⟩ := ob_some Heq
      have hFc := fr_all hD hS hA
      refine va_callv (va_runV (As := [.int x1, .int x2, .int o_4.2]) (rest := []) ⟨hx, hb, hml, hown, hts⟩ (g_rbegin l D H.size h_8) (cw_v 3 hts kw_1914 kw_1911 kw_1913 kp_75 kw_11 rfl rfl (by decide +kernel) ⟨Nat.le_of_ble_eq_true rfl, Nat.le_of_ble_eq_true rfl⟩) ⟨g_blind, va_recv hK hP (ci := 12) (q0 := 0) rfl rfl, fun U hU hW => g_pre hU hW hP hK hD⟩ rfl rfl hl.1 rfl (lv_room (Nat.le_of_ble_eq_true rfl)) d_rtext_51 ⟨Nat.le_of_ble_eq_true rfl, Nat.le_of_ble_eq_true rfl⟩) hS (fun q _ h => hFc q h) hFc (fun u t H1 locs ht hvm hw hB hz1 hk1 hS => ?_)
      obtain ⟨hP, -, hD1⟩ := hB
      rw [ht] at hP
      have hD := hD1.weaken (fun _ q _ h => hFc q.1 h)
      generalize H1 = H at hP hS ⊢
      refine W.cs (cells' := 0) (slots' := 0) rfl rfl ?_
      obtain ⟨b_9, h_10, Heq⟩ := ob_some Heq
      refine w_rtext_L54 hC h_10 (fun b h => ?_) _ _ _ hP hD hS (lv_sub hl [2, 3, 0] rfl)
      subst h
      intro H locs ls hP hD hS hl
      exact w_rtext_J202 hC Heq Kr _ _ _ hP hD hS (lv_sub hl [0, 1] rfl)
    · replace Heq := (if_neg c_6).symm.trans Heq
      refine lv_aload_n hx hb d_rtext_24 rfl (lv_at hl 1 rfl) ?_
      refine lv_iconst (v := 3) hx hb d_rtext_25 (by decide) ?_
      obtain ⟨o_11, h_12, Heq⟩ := ob_some Heq
      have hFc := fr_all hD hS hA
      refine va_calli (va_runV (As := [.int 3]) (rest := []) ⟨hx, hb, hml, hown, hts⟩ (g_rno l D H.size h_12) (cw_v 1 hts kw_1626 kw_1623 kw_1625 kp_29 kw_11 rfl rfl (by decide +kernel) ⟨Nat.le_of_ble_eq_true rfl, Nat.le_of_ble_eq_true rfl⟩) ⟨g_blind, va_recv hK hP (ci := 12) (q0 := 0) rfl rfl, fun U hU hW => g_pre hU hW hP hK hD⟩ rfl rfl hl.1 rfl (lv_room (Nat.le_of_ble_eq_true rfl)) d_rtext_26 ⟨Nat.le_of_ble_eq_true rfl, Nat.le_of_ble_eq_true rfl⟩) hS (fun q _ h => hFc q h) hFc (fun rz u t H1 locs ht hvm hw hB hz1 hk1 hS => ?_)
      obtain ⟨hP, -, hD1⟩ := hB
      rw [ht] at hP
      have hD := hD1.weaken (fun _ q _ h => hFc q.1 h)
      generalize H1 = H at hP hS ⊢
      refine W.cs (cells' := 0) (slots' := 0) rfl rfl ?_
      subst hw
      exact Kr _ (Option.some.inj Heq).symm 29 _ _ _ d_rtext_29 hP hD hS
  · replace Heq := (if_pos c_3).symm.trans Heq
    refine lv_aload_n hx hb d_rtext_7 rfl (lv_at hl 0 rfl) ?_
    refine lv_iconst (v := 1) hx hb d_rtext_8 (by decide) ?_
    obtain ⟨o_13, h_14, Heq⟩ := ob_some Heq
    have hFc := fr_all hD hS hA
    refine va_calli (va_runV (As := [.int 1]) (rest := []) ⟨hx, hb, hml, hown, hts⟩ (g_rno l D H.size h_14) (cw_v 1 hts kw_1626 kw_1623 kw_1625 kp_29 kw_11 rfl rfl (by decide +kernel) ⟨Nat.le_of_ble_eq_true rfl, Nat.le_of_ble_eq_true rfl⟩) ⟨g_blind, va_recv hK hP (ci := 12) (q0 := 0) rfl rfl, fun U hU hW => g_pre hU hW hP hK hD⟩ rfl rfl hl.1 rfl (lv_room (Nat.le_of_ble_eq_true rfl)) d_rtext_9 ⟨Nat.le_of_ble_eq_true rfl, Nat.le_of_ble_eq_true rfl⟩) hS (fun q _ h => hFc q h) hFc (fun rz u t H1 locs ht hvm hw hB hz1 hk1 hS => ?_)
    obtain ⟨hP, -, hD1⟩ := hB
    rw [ht] at hP
    have hD := hD1.weaken (fun _ q _ h => hFc q.1 h)
    generalize H1 = H at hP hS ⊢
    refine W.cs (cells' := 0) (slots' := 0) rfl rfl ?_
    subst hw
    exact Kr _ (Option.some.inj Heq).symm 12 _ _ _ d_rtext_12 hP hD hS
def m_rtext (S : MS) (x1 : Int32) (x2 : Int32) : Option (MS × Int32) := m_rtext_J0 S x1 x2
theorem g_rtext (l : Launch) (D : va_G) (sz : Nat) {sad sav : Nat → Nat} {md : Nat → Nat} {mc : Nat → ClassId} {S : MS} {x1 : Int32} {x2 : Int32} {o : MS × Int32} (Heq : m_rtext S x1 x2 = some o) : Met l ⟨"JoinedTreesModel", "text", "(II)I"⟩ (Cond.code ⟨"JoinedTreesModel", "text", "(II)I"⟩ prog_14_method_82_code 7 (some .int) :: gb) ({ frames := 5, cells := 0, slots := 0, locals := 135 }) (gPs sad sav D (mw md mc S) (mty mc) sz [.ref (md 100), .int x1, .int x2]) (va_Qi (fun (r : Int32) (_ : Unit) => r = o.2) (fun _ t => gO D (mw md mc o.1) (mty mc) (va_A (mw md mc S) sz) t) (va_A (mw md mc S) sz)) 0 0 (va_A (mw md mc S) sz) := by
  refine Met.ofW (cc := prog_14_method_82_code) (maxL := 7) (ret := (some .int)) (by decide) rfl ?_
  intro p e s m args below meth c s₁ B hml hv
  obtain ⟨rfl, hsz, hP, hK, hD0, hE⟩ := hv
  have hx := B.exec
  have hb := B.bytes
  have hr := B.returns
  have hts : ∀ w9 ∈ gb, w9.before [.ref (md 100), .int x1, .int x2].toArray s = true := fun w9 h => atoms_spec (ws := Cond.code ⟨"JoinedTreesModel", "text", "(II)I"⟩ prog_14_method_82_code 7 (some .int) :: gb) B.pre w9 (List.mem_cons_of_mem _ h)
  have hown : s.vm.findClass "JoinedTreesModel" = some m.cls := findClass_of_methodNamed B.named
  have hlocks := B.notSynchronized
  subst hsz
  have hD := hD0.self (sz := s.heap.size)
  generalize hAe : va_A (mw md mc S) s.heap.size = A at hD hE ⊢
  have hA : ∀ q : Nat, s.heap.size ≤ q → A q := fun q h => by rw [← hAe]; exact Or.inr h
  have hS : va_S A s.heap s.heap [] := va_S.rf
  have hl := lv_entry ([.ref (md 100), .int x1, .int x2]) (n := 7) (Nat.le_of_ble_eq_true rfl)
  rw [lg_entry_eq]
  generalize (lg_sl ([.ref (md 100), .int x1, .int x2]) ++ List.replicate (7 - (lg_sl ([.ref (md 100), .int x1, .int x2])).length) Slot.unset).toArray = ls at hl ⊢
  have hl : lv_has ls 7 [(0, .ref (md 100)), (1, .int x1), (2, .int x2)] := hl
  refine w_rtext_J0 ⟨⟨hx, hb, hr, hml, hown, hts, hK, hA⟩, hE⟩ Heq (fun r h pc H locs ls hd hP hD hS => ?_) _ _ _ hP hD hS (lv_sub hl [0, 1, 2] rfl)
  subst h
  exact W.iret hx hb hr (fun t ht hW => ⟨⟨_, (), rfl, rfl, by rw [ht]; exact hP, va_K.moved hW.alike hK, hD⟩, hS.F ht⟩) hS.2.2 hd
