def m_cRd_readValue_J0 (N : Nat → Nat) (x0 : Nat) (S : CS) : Option (CS × Int32) := gl x0 (N 1) ((if S.i 1 3 x0 = 500 then some ((S.setI 1 7 x0 0), 0) else gn (S.r 1 0 x0) (N 18) (fun j_2 => gd (S.i 1 3 x0) (S.z 18 j_2) (gn (S.q 18 j_2 ((S.i 1 3 x0).toNatClampNeg)) (N 9) (fun j_6 => ob (m_cVa_begin N j_6 (S.setI 1 7 x0 0) (S.r 1 6 x0) (S.i 1 8 x0) (S.i 1 9 x0)) (fun o_9 => gn (o_9.r 1 2 x0) (N 5) (fun j_11 => ob (m_cRw_at N j_11 (o_9.setI 1 3 x0 ((o_9.i 1 3 x0) + 1)) (o_9.i 1 4 x0)) (fun o_14 => (if o_14.2 = 34 then ob (m_cRd_readStringValue N x0 o_14.1 j_6) (fun o_17 => (if o_17.2 = 0 ∨ o_17.2 = 1 then some (o_17.1, o_17.2) else none)) else (if o_14.2 = 91 then ob (m_cRd_openInside N x0 o_14.1 j_6 7) (fun o_21 => (if o_21.2 = 0 ∨ o_21.2 = 1 then some (o_21.1, o_21.2) else none)) else (if o_14.2 = 102 then ob (m_cRd_readWord N x0 o_14.1 j_6 1 4) (fun o_25 => (if o_25.2 = 0 ∨ o_25.2 = 1 then some (o_25.1, o_25.2) else none)) else (if o_14.2 = 110 then ob (m_cRd_readWord N x0 o_14.1 j_6 0 3) (fun o_29 => (if o_29.2 = 0 ∨ o_29.2 = 1 then some (o_29.1, o_29.2) else none)) else (if o_14.2 = 116 then ob (m_cRd_readWord N x0 o_14.1 j_6 2 5) (fun o_33 => (if o_33.2 = 0 ∨ o_33.2 = 1 then some (o_33.1, o_33.2) else none)) else (if o_14.2 = 123 then ob (m_cRd_openInside N x0 o_14.1 j_6 6) (fun o_37 => (if o_37.2 = 0 ∨ o_37.2 = 1 then some (o_37.1, o_37.2) else none)) else ob (m_cRd_readNumber N x0 o_14.1 j_6) (fun o_40 => (if o_40.2 = 0 ∨ o_40.2 = 1 then some (o_40.1, o_40.2) else none))))))))))))))))
theorem d_cRd_readValue_0 : decode prog_3_method_8_code 0 = .ok (.aload_n 0, 1) := by decide +kernel
theorem d_cRd_readValue_1 : decode prog_3_method_8_code 1 = .ok (.iconst 0, 1) := by decide +kernel
theorem d_cRd_readValue_2 : decode prog_3_method_8_code 2 = .ok (.putfield 63, 3) := by decide +kernel
theorem d_cRd_readValue_5 : decode prog_3_method_8_code 5 = .ok (.aload_n 0, 1) := by decide +kernel
theorem d_cRd_readValue_6 : decode prog_3_method_8_code 6 = .ok (.getfield 30, 3) := by decide +kernel
theorem d_cRd_readValue_9 : decode prog_3_method_8_code 9 = .ok (.sipush 500, 3) := by decide +kernel
theorem d_cRd_readValue_12 : decode prog_3_method_8_code 12 = .ok (.if_icmp .ne 5, 3) := by decide +kernel
theorem d_cRd_readValue_17 : decode prog_3_method_8_code 17 = .ok (.aload_n 0, 1) := by decide +kernel
theorem d_cRd_readValue_18 : decode prog_3_method_8_code 18 = .ok (.getfield 11, 3) := by decide +kernel
theorem d_cRd_readValue_21 : decode prog_3_method_8_code 21 = .ok (.aload_n 0, 1) := by decide +kernel
theorem d_cRd_readValue_22 : decode prog_3_method_8_code 22 = .ok (.getfield 30, 3) := by decide +kernel
theorem d_cRd_readValue_25 : decode prog_3_method_8_code 25 = .ok (.aaload, 1) := by decide +kernel
theorem d_cRd_readValue_26 : decode prog_3_method_8_code 26 = .ok (.astore_n 1, 1) := by decide +kernel
theorem d_cRd_readValue_27 : decode prog_3_method_8_code 27 = .ok (.aload_n 1, 1) := by decide +kernel
theorem d_cRd_readValue_28 : decode prog_3_method_8_code 28 = .ok (.aload_n 0, 1) := by decide +kernel
theorem d_cRd_readValue_29 : decode prog_3_method_8_code 29 = .ok (.getfield 40, 3) := by decide +kernel
theorem d_cRd_readValue_32 : decode prog_3_method_8_code 32 = .ok (.aload_n 0, 1) := by decide +kernel
theorem d_cRd_readValue_33 : decode prog_3_method_8_code 33 = .ok (.getfield 44, 3) := by decide +kernel
theorem d_cRd_readValue_36 : decode prog_3_method_8_code 36 = .ok (.aload_n 0, 1) := by decide +kernel
theorem d_cRd_readValue_37 : decode prog_3_method_8_code 37 = .ok (.getfield 47, 3) := by decide +kernel
theorem d_cRd_readValue_40 : decode prog_3_method_8_code 40 = .ok (.invokevirtual 101, 3) := by decide +kernel
theorem d_cRd_readValue_43 : decode prog_3_method_8_code 43 = .ok (.aload_n 0, 1) := by decide +kernel
theorem d_cRd_readValue_44 : decode prog_3_method_8_code 44 = .ok (.dup, 1) := by decide +kernel
theorem d_cRd_readValue_45 : decode prog_3_method_8_code 45 = .ok (.getfield 30, 3) := by decide +kernel
theorem d_cRd_readValue_48 : decode prog_3_method_8_code 48 = .ok (.iconst 1, 1) := by decide +kernel
theorem d_cRd_readValue_49 : decode prog_3_method_8_code 49 = .ok (.iadd, 1) := by decide +kernel
theorem d_cRd_readValue_50 : decode prog_3_method_8_code 50 = .ok (.putfield 30, 3) := by decide +kernel
theorem d_cRd_readValue_53 : decode prog_3_method_8_code 53 = .ok (.aload_n 0, 1) := by decide +kernel
theorem d_cRd_readValue_54 : decode prog_3_method_8_code 54 = .ok (.getfield 27, 3) := by decide +kernel
theorem d_cRd_readValue_57 : decode prog_3_method_8_code 57 = .ok (.aload_n 0, 1) := by decide +kernel
theorem d_cRd_readValue_58 : decode prog_3_method_8_code 58 = .ok (.getfield 34, 3) := by decide +kernel
theorem d_cRd_readValue_61 : decode prog_3_method_8_code 61 = .ok (.invokevirtual 70, 3) := by decide +kernel
theorem d_cRd_readValue_64 : decode prog_3_method_8_code 64 = .ok (.lookupswitch 109 #[(34, 76), (91, 68), (102, 91), (110, 82), (116, 100), (123, 60)], 60) := by decide +kernel
theorem d_cRd_readValue_140 : decode prog_3_method_8_code 140 = .ok (.aload_n 0, 1) := by decide +kernel
theorem d_cRd_readValue_141 : decode prog_3_method_8_code 141 = .ok (.aload_n 1, 1) := by decide +kernel
theorem d_cRd_readValue_142 : decode prog_3_method_8_code 142 = .ok (.invokevirtual 109, 3) := by decide +kernel
theorem d_cRd_readValue_145 : decode prog_3_method_8_code 145 = .ok (.ireturn, 1) := by decide +kernel
theorem d_cRd_readValue_132 : decode prog_3_method_8_code 132 = .ok (.aload_n 0, 1) := by decide +kernel
theorem d_cRd_readValue_133 : decode prog_3_method_8_code 133 = .ok (.aload_n 1, 1) := by decide +kernel
theorem d_cRd_readValue_134 : decode prog_3_method_8_code 134 = .ok (.bipush 7, 2) := by decide +kernel
theorem d_cRd_readValue_136 : decode prog_3_method_8_code 136 = .ok (.invokevirtual 105, 3) := by decide +kernel
theorem d_cRd_readValue_139 : decode prog_3_method_8_code 139 = .ok (.ireturn, 1) := by decide +kernel
theorem d_cRd_readValue_155 : decode prog_3_method_8_code 155 = .ok (.aload_n 0, 1) := by decide +kernel
theorem d_cRd_readValue_156 : decode prog_3_method_8_code 156 = .ok (.aload_n 1, 1) := by decide +kernel
theorem d_cRd_readValue_157 : decode prog_3_method_8_code 157 = .ok (.iconst 1, 1) := by decide +kernel
theorem d_cRd_readValue_158 : decode prog_3_method_8_code 158 = .ok (.ldc 119, 2) := by decide +kernel
theorem d_cRd_readValue_160 : decode prog_3_method_8_code 160 = .ok (.invokevirtual 115, 3) := by decide +kernel
theorem d_cRd_readValue_163 : decode prog_3_method_8_code 163 = .ok (.ireturn, 1) := by decide +kernel
theorem d_cRd_readValue_146 : decode prog_3_method_8_code 146 = .ok (.aload_n 0, 1) := by decide +kernel
theorem d_cRd_readValue_147 : decode prog_3_method_8_code 147 = .ok (.aload_n 1, 1) := by decide +kernel
theorem d_cRd_readValue_148 : decode prog_3_method_8_code 148 = .ok (.iconst 0, 1) := by decide +kernel
theorem d_cRd_readValue_149 : decode prog_3_method_8_code 149 = .ok (.ldc 113, 2) := by decide +kernel
theorem d_cRd_readValue_151 : decode prog_3_method_8_code 151 = .ok (.invokevirtual 115, 3) := by decide +kernel
theorem d_cRd_readValue_154 : decode prog_3_method_8_code 154 = .ok (.ireturn, 1) := by decide +kernel
theorem d_cRd_readValue_164 : decode prog_3_method_8_code 164 = .ok (.aload_n 0, 1) := by decide +kernel
theorem d_cRd_readValue_165 : decode prog_3_method_8_code 165 = .ok (.aload_n 1, 1) := by decide +kernel
theorem d_cRd_readValue_166 : decode prog_3_method_8_code 166 = .ok (.iconst 2, 1) := by decide +kernel
theorem d_cRd_readValue_167 : decode prog_3_method_8_code 167 = .ok (.ldc 121, 2) := by decide +kernel
theorem d_cRd_readValue_169 : decode prog_3_method_8_code 169 = .ok (.invokevirtual 115, 3) := by decide +kernel
theorem d_cRd_readValue_172 : decode prog_3_method_8_code 172 = .ok (.ireturn, 1) := by decide +kernel
theorem d_cRd_readValue_124 : decode prog_3_method_8_code 124 = .ok (.aload_n 0, 1) := by decide +kernel
theorem d_cRd_readValue_125 : decode prog_3_method_8_code 125 = .ok (.aload_n 1, 1) := by decide +kernel
theorem d_cRd_readValue_126 : decode prog_3_method_8_code 126 = .ok (.bipush 6, 2) := by decide +kernel
theorem d_cRd_readValue_128 : decode prog_3_method_8_code 128 = .ok (.invokevirtual 105, 3) := by decide +kernel
theorem d_cRd_readValue_131 : decode prog_3_method_8_code 131 = .ok (.ireturn, 1) := by decide +kernel
theorem d_cRd_readValue_173 : decode prog_3_method_8_code 173 = .ok (.aload_n 0, 1) := by decide +kernel
theorem d_cRd_readValue_174 : decode prog_3_method_8_code 174 = .ok (.aload_n 1, 1) := by decide +kernel
theorem d_cRd_readValue_175 : decode prog_3_method_8_code 175 = .ok (.invokevirtual 123, 3) := by decide +kernel
theorem d_cRd_readValue_178 : decode prog_3_method_8_code 178 = .ok (.ireturn, 1) := by decide +kernel
theorem d_cRd_readValue_15 : decode prog_3_method_8_code 15 = .ok (.iconst 0, 1) := by decide +kernel
theorem d_cRd_readValue_16 : decode prog_3_method_8_code 16 = .ok (.ireturn, 1) := by decide +kernel
set_option maxHeartbeats 4000000 in
set_option maxRecDepth 100000 in
theorem w_cRd_readValue_J0 {p : Program} {l : Launch} {e : Env} {s : State} {m : MethodId} {args : Array Value} {below : List Frame} {meth : Method} {c : Code} {A : Nat → Prop} {D : va_G} {ad : Nat → Nat → Nat} {cc : Nat → ClassId} {sad sav : Nat → Nat} {Q : State → Prop} (hC : MCc sad sav "JoinedTrees$JsonReader" prog_3_method_8_code 2 (some .boolean) p s m args meth c A D cc) {N : Nat → Nat} {x0 : Nat} {S : CS} {o : CS × Int32} (Heq : m_cRd_readValue_J0 N x0 S = some o) (Kr : ∀ r : CS × Int32, o = r → ∀ (pc : Nat) (H : Heap) (locs : List Loc) (ls : Array Slot), decode prog_3_method_8_code pc = .ok (.ireturn, 1) → (r.2 = 0 ∨ r.2 = 1) → va_P D cls (cw ad cc N r.1) H → va_D A (cw ad cc N r.1) → va_S A s.heap H locs → W p l e ({ frames := 5, cells := 0, slots := 0, locals := 135 }) s m args below meth c H locs 0 0 Q (F0 m pc ls [.int r.2])) : ∀ (H : Heap) (locs : List Loc) (ls : Array Slot), va_P D cls (cw ad cc N S) H → va_D A (cw ad cc N S) → va_S A s.heap H locs → lv_has ls 2 [(0, .ref (ad 1 x0))] → W p l e ({ frames := 5, cells := 0, slots := 0, locals := 135 }) s m args below meth c H locs 0 0 Q (F0 m 0 ls []) := by
  intro H locs ls hP hD hS hl
  obtain ⟨hx, hb, hr, hml, hown, hts, hK, hA, hev, hE, hN, hNS⟩ := id hC
  unfold m_cRd_readValue_J0 at Heq
  refine lv_aload_n hx hb d_cRd_readValue_0 rfl (lv_at hl 0 rfl) ?_
  refine lv_iconst (v := 0) hx hb d_cRd_readValue_1 (by decide) ?_
  obtain ⟨hl_x0_1, Heq⟩ := gl_some Heq
  refine va_put (D := D) (ci := 1) (v := .int 0) (ty := .boolean) (C := R_Rd) (T := F_Rd) (N := 10) hx hb hts i_Rd t_Rd t_Rd_ok n_Rd hown hK hP hD hS (cPos N 1 x0) (cw_obj (k := 1) (by decide) hl_x0_1) rfl 7 (by decide) (hts _ kw_353) (fun _ h9 => h9) rfl (by decide +kernel) (by decide) (by decide) (Nat.le_of_ble_eq_true rfl) d_cRd_readValue_2 (fun H locs hP hD hS => ?_)
  have hD := (congrArg (fun w9 => va_D A w9) (cw_setI (ad := ad) (cc := cc) (S := S) (k := 1) (f := 7) (v := 0) (by decide) rfl hl_x0_1)).mp hD
  have hP := (congrArg (fun w9 => va_P D cls w9 H) (cw_setI (ad := ad) (cc := cc) (S := S) (k := 1) (f := 7) (v := 0) (by decide) rfl hl_x0_1)).mp hP
  refine lv_aload_n hx hb d_cRd_readValue_5 rfl (lv_at hl 0 rfl) ?_
  refine va_get (D := D) (ci := 1) (v := .int ((S.setI 1 7 x0 0).i 1 3 x0)) (C := R_Rd) (T := F_Rd) (N := 10) hx hb hts i_Rd hown hK hP (cPos N 1 x0) (cw_obj (k := 1) (by decide) hl_x0_1) rfl 3 (by decide) (hts _ kw_347) (fun _ h9 => h9) rfl d_cRd_readValue_6 ?_
  refine w_i (y := S.i 1 3 x0) rfl ?_
  refine lv_sipush (v := 500) hx hb d_cRd_readValue_9 (by decide) ?_
  refine lv_icmp_ne (tgt := 17) hx hb d_cRd_readValue_12 (by decide) (fun c_1 => ?_) (fun c_1 => ?_)
  · replace Heq := (if_neg c_1).symm.trans Heq
    refine lv_aload_n hx hb d_cRd_readValue_17 rfl (lv_at hl 0 rfl) ?_
    refine va_get (D := D) (ci := 1) (v := rv ad 18 ((S.setI 1 7 x0 0).r 1 0 x0)) (C := R_Rd) (T := F_Rd) (N := 10) hx hb hts i_Rd hown hK hP (cPos N 1 x0) (cw_obj (k := 1) (by decide) hl_x0_1) rfl 0 (by decide) (hts _ kw_342) (fun _ h9 => h9) rfl d_cRd_readValue_18 ?_
    refine w_v (y := rv ad 18 (S.r 1 0 x0)) (congrArg (rv ad 18) rfl) ?_
    refine lv_aload_n hx hb d_cRd_readValue_21 rfl (lv_at hl 0 rfl) ?_
    refine va_get (D := D) (ci := 1) (v := .int ((S.setI 1 7 x0 0).i 1 3 x0)) (C := R_Rd) (T := F_Rd) (N := 10) hx hb hts i_Rd hown hK hP (cPos N 1 x0) (cw_obj (k := 1) (by decide) hl_x0_1) rfl 3 (by decide) (hts _ kw_347) (fun _ h9 => h9) rfl d_cRd_readValue_22 ?_
    refine w_i (y := S.i 1 3 x0) rfl ?_
    obtain ⟨j_2, hj_3, hl_4, Heq⟩ := gn_some Heq
    refine w_s (st' := [.int (S.i 1 3 x0), .ref (ad 18 j_2)]) (congrArg (fun z9 : Option Nat => [.int (S.i 1 3 x0), rv ad 18 z9]) hj_3) ?_
    obtain ⟨hi_5, Heq⟩ := gd_some Heq
    refine va_aldq hx hb hK hP (cPos N 18 j_2) 6 (cw_refs (k := 18) (by decide) hl_4) rfl (i := S.i 1 3 x0) hi_5 d_cRd_readValue_25 ?_
    refine w_v (y := rv ad 9 (S.q 18 j_2 ((S.i 1 3 x0).toNatClampNeg))) (congrArg (rv ad 9) rfl) ?_
    refine tx_astore_n (x := (S.q 18 j_2 ((S.i 1 3 x0).toNatClampNeg)).map (ad 9)) (lv' := [(1, rv ad 9 (S.q 18 j_2 ((S.i 1 3 x0).toNatClampNeg))), (0, .ref (ad 1 x0))]) hx hb d_cRd_readValue_26 rfl hl (by decide) rfl (fun ls hl => ?_)
    refine tx_aload_n (x := (S.q 18 j_2 ((S.i 1 3 x0).toNatClampNeg)).map (ad 9)) hx hb d_cRd_readValue_27 rfl (lv_at hl 0 rfl) ?_
    refine w_v (y := rv ad 9 (S.q 18 j_2 ((S.i 1 3 x0).toNatClampNeg))) rfl ?_
    refine lv_aload_n hx hb d_cRd_readValue_28 rfl (lv_at hl 1 rfl) ?_
    refine va_get (D := D) (ci := 1) (v := rv ad 9 ((S.setI 1 7 x0 0).r 1 6 x0)) (C := R_Rd) (T := F_Rd) (N := 10) hx hb hts i_Rd hown hK hP (cPos N 1 x0) (cw_obj (k := 1) (by decide) hl_x0_1) rfl 6 (by decide) (hts _ kw_352) (fun _ h9 => h9) rfl d_cRd_readValue_29 ?_
    refine w_v (y := rv ad 9 (S.r 1 6 x0)) (congrArg (rv ad 9) rfl) ?_
    refine lv_aload_n hx hb d_cRd_readValue_32 rfl (lv_at hl 1 rfl) ?_
    refine va_get (D := D) (ci := 1) (v := .int ((S.setI 1 7 x0 0).i 1 8 x0)) (C := R_Rd) (T := F_Rd) (N := 10) hx hb hts i_Rd hown hK hP (cPos N 1 x0) (cw_obj (k := 1) (by decide) hl_x0_1) rfl 8 (by decide) (hts _ kw_354) (fun _ h9 => h9) rfl d_cRd_readValue_33 ?_
    refine w_i (y := S.i 1 8 x0) rfl ?_
    refine lv_aload_n hx hb d_cRd_readValue_36 rfl (lv_at hl 1 rfl) ?_
    refine va_get (D := D) (ci := 1) (v := .int ((S.setI 1 7 x0 0).i 1 9 x0)) (C := R_Rd) (T := F_Rd) (N := 10) hx hb hts i_Rd hown hK hP (cPos N 1 x0) (cw_obj (k := 1) (by decide) hl_x0_1) rfl 9 (by decide) (hts _ kw_355) (fun _ h9 => h9) rfl d_cRd_readValue_37 ?_
    refine w_i (y := S.i 1 9 x0) rfl ?_
    obtain ⟨j_6, hj_7, hl_8, Heq⟩ := gn_some Heq
    refine w_s (st' := [.int (S.i 1 9 x0), .int (S.i 1 8 x0), rv ad 9 (S.r 1 6 x0), .ref (ad 9 j_6)]) (congrArg (fun z9 : Option Nat => [.int (S.i 1 9 x0), .int (S.i 1 8 x0), rv ad 9 (S.r 1 6 x0), rv ad 9 z9]) hj_7) ?_
    obtain ⟨o_9, h_10, Heq⟩ := ob_some Heq
    refine w_s (st' := [.int (S.i 1 9 x0), .int (S.i 1 8 x0), rv ad 9 (S.r 1 6 x0), .ref (ad 9 j_6)]) rfl ?_
    have hFc := fr_all hD hS hA
    refine va_callv (va_runV (As := [rv ad 9 (S.r 1 6 x0), .int (S.i 1 8 x0), .int (S.i 1 9 x0)]) (rest := []) ⟨hx, hb, hml, hown, hts⟩ (g_cVa_begin l D H.size (ad := ad) (cc := cc) (sad := sad) (sav := sav) h_10) (cw_v 3 hts kw_882 kw_879 kw_880 kw_881 kw_8 rfl rfl (by decide +kernel) ⟨Nat.le_of_ble_eq_true rfl, Nat.le_of_ble_eq_true rfl⟩) ⟨c_blind, va_recv hK hP (ci := 9) (q0 := cPos N 9 j_6) rfl (cw_obj (k := 9) (by decide) hl_8), fun U hU hW => c_pre hU hW hP hK hD hev hE hN hNS hS hFc⟩ rfl rfl hl.1 rfl (lv_room (Nat.le_of_ble_eq_true rfl)) d_cRd_readValue_40 ⟨Nat.le_of_ble_eq_true rfl, Nat.le_of_ble_eq_true rfl⟩) hS (fun q _ h => hFc q h) hFc (fun u t H1 locs ht hvm hw hB hz1 hk1 hS => ?_)
    obtain ⟨hP, -, hD1⟩ := hB
    rw [ht] at hP
    have hD := hD1.weaken (fun _ q _ h => hFc q.1 h)
    generalize H1 = H at hP hS ⊢
    refine W.cs (cells' := 0) (slots' := 0) rfl rfl ?_
    refine lv_aload_n hx hb d_cRd_readValue_43 rfl (lv_at hl 1 rfl) ?_
    refine lv_dup hx hb d_cRd_readValue_44 (by first | rfl | exact rv_cat) ?_
    refine va_get (D := D) (ci := 1) (v := .int (o_9.i 1 3 x0)) (C := R_Rd) (T := F_Rd) (N := 10) hx hb hts i_Rd hown hK hP (cPos N 1 x0) (cw_obj (k := 1) (by decide) hl_x0_1) rfl 3 (by decide) (hts _ kw_347) (fun _ h9 => h9) rfl d_cRd_readValue_45 ?_
    refine lv_iconst (v := 1) hx hb d_cRd_readValue_48 (by decide) ?_
    refine lv_iadd hx hb d_cRd_readValue_49 ?_
    refine w_i (y := (o_9.i 1 3 x0) + 1) rfl ?_
    refine va_put (D := D) (ci := 1) (v := .int ((o_9.i 1 3 x0) + 1)) (ty := .int) (C := R_Rd) (T := F_Rd) (N := 10) hx hb hts i_Rd t_Rd t_Rd_ok n_Rd hown hK hP hD hS (cPos N 1 x0) (cw_obj (k := 1) (by decide) hl_x0_1) rfl 3 (by decide) (hts _ kw_347) (fun _ h9 => h9) rfl (by decide +kernel) rfl rfl (Nat.le_of_ble_eq_true rfl) d_cRd_readValue_50 (fun H locs hP hD hS => ?_)
    have hD := (congrArg (fun w9 => va_D A w9) (cw_setI (ad := ad) (cc := cc) (S := o_9) (k := 1) (f := 3) (v := (o_9.i 1 3 x0) + 1) (by decide) rfl hl_x0_1)).mp hD
    have hP := (congrArg (fun w9 => va_P D cls w9 H) (cw_setI (ad := ad) (cc := cc) (S := o_9) (k := 1) (f := 3) (v := (o_9.i 1 3 x0) + 1) (by decide) rfl hl_x0_1)).mp hP
    refine lv_aload_n hx hb d_cRd_readValue_53 rfl (lv_at hl 1 rfl) ?_
    refine va_get (D := D) (ci := 1) (v := rv ad 5 ((o_9.setI 1 3 x0 ((o_9.i 1 3 x0) + 1)).r 1 2 x0)) (C := R_Rd) (T := F_Rd) (N := 10) hx hb hts i_Rd hown hK hP (cPos N 1 x0) (cw_obj (k := 1) (by decide) hl_x0_1) rfl 2 (by decide) (hts _ kw_346) (fun _ h9 => h9) rfl d_cRd_readValue_54 ?_
    refine w_v (y := rv ad 5 (o_9.r 1 2 x0)) (congrArg (rv ad 5) rfl) ?_
    refine lv_aload_n hx hb d_cRd_readValue_57 rfl (lv_at hl 1 rfl) ?_
    refine va_get (D := D) (ci := 1) (v := .int ((o_9.setI 1 3 x0 ((o_9.i 1 3 x0) + 1)).i 1 4 x0)) (C := R_Rd) (T := F_Rd) (N := 10) hx hb hts i_Rd hown hK hP (cPos N 1 x0) (cw_obj (k := 1) (by decide) hl_x0_1) rfl 4 (by decide) (hts _ kw_349) (fun _ h9 => h9) rfl d_cRd_readValue_58 ?_
    refine w_i (y := o_9.i 1 4 x0) rfl ?_
    obtain ⟨j_11, hj_12, hl_13, Heq⟩ := gn_some Heq
    refine w_s (st' := [.int (o_9.i 1 4 x0), .ref (ad 5 j_11)]) (congrArg (fun z9 : Option Nat => [.int (o_9.i 1 4 x0), rv ad 5 z9]) hj_12) ?_
    obtain ⟨o_14, h_15, Heq⟩ := ob_some Heq
    have hFc := fr_all hD hS hA
    refine va_calli (va_runV (As := [.int (o_9.i 1 4 x0)]) (rest := []) ⟨hx, hb, hml, hown, hts⟩ (g_cRw_at l D H.size (ad := ad) (cc := cc) (sad := sad) (sav := sav) h_15) (cw_v 1 hts kw_689 kw_871 kw_687 kw_688 kw_4 rfl rfl (by decide +kernel) ⟨Nat.le_of_ble_eq_true rfl, Nat.le_of_ble_eq_true rfl⟩) ⟨c_blind, va_recv hK hP (ci := 5) (q0 := cPos N 5 j_11) rfl (cw_obj (k := 5) (by decide) hl_13), fun U hU hW => c_pre hU hW hP hK hD hev hE hN hNS hS hFc⟩ rfl rfl hl.1 rfl (lv_room (Nat.le_of_ble_eq_true rfl)) d_cRd_readValue_61 ⟨Nat.le_of_ble_eq_true rfl, Nat.le_of_ble_eq_true rfl⟩) hS (fun q _ h => hFc q h) hFc (fun rz u t H1 locs ht hvm hw hB hz1 hk1 hS => ?_)
    obtain ⟨hP, -, hD1⟩ := hB
    rw [ht] at hP
    have hD := hD1.weaken (fun _ q _ h => hFc q.1 h)
    generalize H1 = H at hP hS ⊢
    refine W.cs (cells' := 0) (slots' := 0) rfl rfl ?_
    subst hw
    by_cases c_16 : o_14.2 = 34
    · replace Heq := (if_pos c_16).symm.trans Heq
      refine w_i (y := 34) c_16 ?_
      refine lv_lookup (tgt := 140) hx hb d_cRd_readValue_64 (by decide) rfl (by decide) ?_
      refine lv_aload_n hx hb d_cRd_readValue_140 rfl (lv_at hl 1 rfl) ?_
      refine tx_aload_n (x := (S.q 18 j_2 ((S.i 1 3 x0).toNatClampNeg)).map (ad 9)) hx hb d_cRd_readValue_141 rfl (lv_at hl 0 rfl) ?_
      refine w_v (y := rv ad 9 (S.q 18 j_2 ((S.i 1 3 x0).toNatClampNeg))) rfl ?_
      refine w_s (st' := [.ref (ad 9 j_6), .ref (ad 1 x0)]) (congrArg (fun z9 : Option Nat => [rv ad 9 z9, .ref (ad 1 x0)]) hj_7) ?_
      obtain ⟨o_17, h_18, Heq⟩ := ob_some Heq
      have hFc := fr_all hD hS hA
      refine va_calli (va_runV (As := [.ref (ad 9 j_6)]) (rest := []) ⟨hx, hb, hml, hown, hts⟩ (g_cRd_readStringValue l D H.size (ad := ad) (cc := cc) (sad := sad) (sav := sav) h_18) (cw_v 1 hts kw_890 kw_887 kw_888 kw_889 kw_7 rfl rfl (by decide +kernel) ⟨Nat.le_of_ble_eq_true rfl, Nat.le_of_ble_eq_true rfl⟩) ⟨c_blind, va_recv hK hP (ci := 1) (q0 := cPos N 1 x0) rfl (cw_obj (k := 1) (by decide) hl_x0_1), fun U hU hW => c_pre hU hW hP hK hD hev hE hN hNS hS hFc⟩ rfl rfl hl.1 rfl (lv_room (Nat.le_of_ble_eq_true rfl)) d_cRd_readValue_142 ⟨Nat.le_of_ble_eq_true rfl, Nat.le_of_ble_eq_true rfl⟩) hS (fun q _ h => hFc q h) hFc (fun rz u t H1 locs ht hvm hw hB hz1 hk1 hS => ?_)
      obtain ⟨hP, -, hD1⟩ := hB
      rw [ht] at hP
      have hD := hD1.weaken (fun _ q _ h => hFc q.1 h)
      generalize H1 = H at hP hS ⊢
      refine W.cs (cells' := 0) (slots' := 0) rfl rfl ?_
      subst hw
      by_cases hz_19 : o_17.2 = 0 ∨ o_17.2 = 1
      case neg => rw [if_neg hz_19] at Heq; cases Heq
      replace Heq := (if_pos hz_19).symm.trans Heq
      exact Kr _ (Option.some.inj Heq).symm 145 _ _ _ d_cRd_readValue_145 hz_19 hP hD hS
    replace Heq := (if_neg c_16).symm.trans Heq
    by_cases c_20 : o_14.2 = 91
    · replace Heq := (if_pos c_20).symm.trans Heq
      refine w_i (y := 91) c_20 ?_
      refine lv_lookup (tgt := 132) hx hb d_cRd_readValue_64 (by decide) rfl (by decide) ?_
      refine lv_aload_n hx hb d_cRd_readValue_132 rfl (lv_at hl 1 rfl) ?_
      refine tx_aload_n (x := (S.q 18 j_2 ((S.i 1 3 x0).toNatClampNeg)).map (ad 9)) hx hb d_cRd_readValue_133 rfl (lv_at hl 0 rfl) ?_
      refine w_v (y := rv ad 9 (S.q 18 j_2 ((S.i 1 3 x0).toNatClampNeg))) rfl ?_
      refine lv_bipush (v := 7) hx hb d_cRd_readValue_134 (by decide) ?_
      refine w_s (st' := [.int 7, .ref (ad 9 j_6), .ref (ad 1 x0)]) (congrArg (fun z9 : Option Nat => [.int 7, rv ad 9 z9, .ref (ad 1 x0)]) hj_7) ?_
      obtain ⟨o_21, h_22, Heq⟩ := ob_some Heq
      have hFc := fr_all hD hS hA
      refine va_calli (va_runV (As := [.ref (ad 9 j_6), .int 7]) (rest := []) ⟨hx, hb, hml, hown, hts⟩ (g_cRd_openInside l D H.size (ad := ad) (cc := cc) (sad := sad) (sav := sav) h_22) (cw_v 2 hts kw_886 kw_883 kw_884 kw_885 kw_7 rfl rfl (by decide +kernel) ⟨Nat.le_of_ble_eq_true rfl, Nat.le_of_ble_eq_true rfl⟩) ⟨c_blind, va_recv hK hP (ci := 1) (q0 := cPos N 1 x0) rfl (cw_obj (k := 1) (by decide) hl_x0_1), fun U hU hW => c_pre hU hW hP hK hD hev hE hN hNS hS hFc⟩ rfl rfl hl.1 rfl (lv_room (Nat.le_of_ble_eq_true rfl)) d_cRd_readValue_136 ⟨Nat.le_of_ble_eq_true rfl, Nat.le_of_ble_eq_true rfl⟩) hS (fun q _ h => hFc q h) hFc (fun rz u t H1 locs ht hvm hw hB hz1 hk1 hS => ?_)
      obtain ⟨hP, -, hD1⟩ := hB
      rw [ht] at hP
      have hD := hD1.weaken (fun _ q _ h => hFc q.1 h)
      generalize H1 = H at hP hS ⊢
      refine W.cs (cells' := 0) (slots' := 0) rfl rfl ?_
      subst hw
      by_cases hz_23 : o_21.2 = 0 ∨ o_21.2 = 1
      case neg => rw [if_neg hz_23] at Heq; cases Heq
      replace Heq := (if_pos hz_23).symm.trans Heq
      exact Kr _ (Option.some.inj Heq).symm 139 _ _ _ d_cRd_readValue_139 hz_23 hP hD hS
    replace Heq := (if_neg c_20).symm.trans Heq
    by_cases c_24 : o_14.2 = 102
    · replace Heq := (if_pos c_24).symm.trans Heq
      refine w_i (y := 102) c_24 ?_
      refine lv_lookup (tgt := 155) hx hb d_cRd_readValue_64 (by decide) rfl (by decide) ?_
      refine lv_aload_n hx hb d_cRd_readValue_155 rfl (lv_at hl 1 rfl) ?_
      refine tx_aload_n (x := (S.q 18 j_2 ((S.i 1 3 x0).toNatClampNeg)).map (ad 9)) hx hb d_cRd_readValue_156 rfl (lv_at hl 0 rfl) ?_
      refine w_v (y := rv ad 9 (S.q 18 j_2 ((S.i 1 3 x0).toNatClampNeg))) rfl ?_
      refine lv_iconst (v := 1) hx hb d_cRd_readValue_157 (by decide) ?_
      refine va_ldcS (own := "JoinedTrees$JsonReader") (tx := "false") (q := sad 4) hx hb hown (hE.1 4 (by decide)).1 d_cRd_readValue_158 ?_
      refine w_s (st' := [.ref (sad 4), .int 1, .ref (ad 9 j_6), .ref (ad 1 x0)]) (congrArg (fun z9 : Option Nat => [.ref (sad 4), .int 1, rv ad 9 z9, .ref (ad 1 x0)]) hj_7) ?_
      obtain ⟨o_25, h_26, Heq⟩ := ob_some Heq
      have hFc := fr_all hD hS hA
      refine va_calli (va_runV (As := [.ref (ad 9 j_6), .int 1, .ref (sad 4)]) (rest := []) ⟨hx, hb, hml, hown, hts⟩ (g_cRd_readWord l D H.size (ad := ad) (cc := cc) (sad := sad) (sav := sav) h_26) (cw_v 3 hts kw_907 kw_904 kw_905 kw_906 kw_7 rfl rfl (by decide +kernel) ⟨Nat.le_of_ble_eq_true rfl, Nat.le_of_ble_eq_true rfl⟩) ⟨c_blind, va_recv hK hP (ci := 1) (q0 := cPos N 1 x0) rfl (cw_obj (k := 1) (by decide) hl_x0_1), fun U hU hW => c_pre hU hW hP hK hD hev hE hN hNS hS hFc⟩ rfl rfl hl.1 rfl (lv_room (Nat.le_of_ble_eq_true rfl)) d_cRd_readValue_160 ⟨Nat.le_of_ble_eq_true rfl, Nat.le_of_ble_eq_true rfl⟩) hS (fun q _ h => hFc q h) hFc (fun rz u t H1 locs ht hvm hw hB hz1 hk1 hS => ?_)
      obtain ⟨hP, -, hD1⟩ := hB
      rw [ht] at hP
      have hD := hD1.weaken (fun _ q _ h => hFc q.1 h)
      generalize H1 = H at hP hS ⊢
      refine W.cs (cells' := 0) (slots' := 0) rfl rfl ?_
      subst hw
      by_cases hz_27 : o_25.2 = 0 ∨ o_25.2 = 1
      case neg => rw [if_neg hz_27] at Heq; cases Heq
      replace Heq := (if_pos hz_27).symm.trans Heq
      exact Kr _ (Option.some.inj Heq).symm 163 _ _ _ d_cRd_readValue_163 hz_27 hP hD hS
    replace Heq := (if_neg c_24).symm.trans Heq
    by_cases c_28 : o_14.2 = 110
    · replace Heq := (if_pos c_28).symm.trans Heq
      refine w_i (y := 110) c_28 ?_
      refine lv_lookup (tgt := 146) hx hb d_cRd_readValue_64 (by decide) rfl (by decide) ?_
      refine lv_aload_n hx hb d_cRd_readValue_146 rfl (lv_at hl 1 rfl) ?_
      refine tx_aload_n (x := (S.q 18 j_2 ((S.i 1 3 x0).toNatClampNeg)).map (ad 9)) hx hb d_cRd_readValue_147 rfl (lv_at hl 0 rfl) ?_
      refine w_v (y := rv ad 9 (S.q 18 j_2 ((S.i 1 3 x0).toNatClampNeg))) rfl ?_
      refine lv_iconst (v := 0) hx hb d_cRd_readValue_148 (by decide) ?_
      refine va_ldcS (own := "JoinedTrees$JsonReader") (tx := "null") (q := sad 3) hx hb hown (hE.1 3 (by decide)).1 d_cRd_readValue_149 ?_
      refine w_s (st' := [.ref (sad 3), .int 0, .ref (ad 9 j_6), .ref (ad 1 x0)]) (congrArg (fun z9 : Option Nat => [.ref (sad 3), .int 0, rv ad 9 z9, .ref (ad 1 x0)]) hj_7) ?_
      obtain ⟨o_29, h_30, Heq⟩ := ob_some Heq
      have hFc := fr_all hD hS hA
      refine va_calli (va_runV (As := [.ref (ad 9 j_6), .int 0, .ref (sad 3)]) (rest := []) ⟨hx, hb, hml, hown, hts⟩ (g_cRd_readWord l D H.size (ad := ad) (cc := cc) (sad := sad) (sav := sav) h_30) (cw_v 3 hts kw_907 kw_904 kw_905 kw_906 kw_7 rfl rfl (by decide +kernel) ⟨Nat.le_of_ble_eq_true rfl, Nat.le_of_ble_eq_true rfl⟩) ⟨c_blind, va_recv hK hP (ci := 1) (q0 := cPos N 1 x0) rfl (cw_obj (k := 1) (by decide) hl_x0_1), fun U hU hW => c_pre hU hW hP hK hD hev hE hN hNS hS hFc⟩ rfl rfl hl.1 rfl (lv_room (Nat.le_of_ble_eq_true rfl)) d_cRd_readValue_151 ⟨Nat.le_of_ble_eq_true rfl, Nat.le_of_ble_eq_true rfl⟩) hS (fun q _ h => hFc q h) hFc (fun rz u t H1 locs ht hvm hw hB hz1 hk1 hS => ?_)
      obtain ⟨hP, -, hD1⟩ := hB
      rw [ht] at hP
      have hD := hD1.weaken (fun _ q _ h => hFc q.1 h)
      generalize H1 = H at hP hS ⊢
      refine W.cs (cells' := 0) (slots' := 0) rfl rfl ?_
      subst hw
      by_cases hz_31 : o_29.2 = 0 ∨ o_29.2 = 1
      case neg => rw [if_neg hz_31] at Heq; cases Heq
      replace Heq := (if_pos hz_31).symm.trans Heq
      exact Kr _ (Option.some.inj Heq).symm 154 _ _ _ d_cRd_readValue_154 hz_31 hP hD hS
    replace Heq := (if_neg c_28).symm.trans Heq
    by_cases c_32 : o_14.2 = 116
    · replace Heq := (if_pos c_32).symm.trans Heq
      refine w_i (y := 116) c_32 ?_
      refine lv_lookup (tgt := 164) hx hb d_cRd_readValue_64 (by decide) rfl (by decide) ?_
      refine lv_aload_n hx hb d_cRd_readValue_164 rfl (lv_at hl 1 rfl) ?_
      refine tx_aload_n (x := (S.q 18 j_2 ((S.i 1 3 x0).toNatClampNeg)).map (ad 9)) hx hb d_cRd_readValue_165 rfl (lv_at hl 0 rfl) ?_
      refine w_v (y := rv ad 9 (S.q 18 j_2 ((S.i 1 3 x0).toNatClampNeg))) rfl ?_
      refine lv_iconst (v := 2) hx hb d_cRd_readValue_166 (by decide) ?_
      refine va_ldcS (own := "JoinedTrees$JsonReader") (tx := "true") (q := sad 5) hx hb hown (hE.1 5 (by decide)).1 d_cRd_readValue_167 ?_
      refine w_s (st' := [.ref (sad 5), .int 2, .ref (ad 9 j_6), .ref (ad 1 x0)]) (congrArg (fun z9 : Option Nat => [.ref (sad 5), .int 2, rv ad 9 z9, .ref (ad 1 x0)]) hj_7) ?_
      obtain ⟨o_33, h_34, Heq⟩ := ob_some Heq
      have hFc := fr_all hD hS hA
      refine va_calli (va_runV (As := [.ref (ad 9 j_6), .int 2, .ref (sad 5)]) (rest := []) ⟨hx, hb, hml, hown, hts⟩ (g_cRd_readWord l D H.size (ad := ad) (cc := cc) (sad := sad) (sav := sav) h_34) (cw_v 3 hts kw_907 kw_904 kw_905 kw_906 kw_7 rfl rfl (by decide +kernel) ⟨Nat.le_of_ble_eq_true rfl, Nat.le_of_ble_eq_true rfl⟩) ⟨c_blind, va_recv hK hP (ci := 1) (q0 := cPos N 1 x0) rfl (cw_obj (k := 1) (by decide) hl_x0_1), fun U hU hW => c_pre hU hW hP hK hD hev hE hN hNS hS hFc⟩ rfl rfl hl.1 rfl (lv_room (Nat.le_of_ble_eq_true rfl)) d_cRd_readValue_169 ⟨Nat.le_of_ble_eq_true rfl, Nat.le_of_ble_eq_true rfl⟩) hS (fun q _ h => hFc q h) hFc (fun rz u t H1 locs ht hvm hw hB hz1 hk1 hS => ?_)
      obtain ⟨hP, -, hD1⟩ := hB
      rw [ht] at hP
      have hD := hD1.weaken (fun _ q _ h => hFc q.1 h)
      generalize H1 = H at hP hS ⊢
      refine W.cs (cells' := 0) (slots' := 0) rfl rfl ?_
      subst hw
      by_cases hz_35 : o_33.2 = 0 ∨ o_33.2 = 1
      case neg => rw [if_neg hz_35] at Heq; cases Heq
      replace Heq := (if_pos hz_35).symm.trans Heq
      exact Kr _ (Option.some.inj Heq).symm 172 _ _ _ d_cRd_readValue_172 hz_35 hP hD hS
    replace Heq := (if_neg c_32).symm.trans Heq
    by_cases c_36 : o_14.2 = 123
    · replace Heq := (if_pos c_36).symm.trans Heq
      refine w_i (y := 123) c_36 ?_
      refine lv_lookup (tgt := 124) hx hb d_cRd_readValue_64 (by decide) rfl (by decide) ?_
      refine lv_aload_n hx hb d_cRd_readValue_124 rfl (lv_at hl 1 rfl) ?_
      refine tx_aload_n (x := (S.q 18 j_2 ((S.i 1 3 x0).toNatClampNeg)).map (ad 9)) hx hb d_cRd_readValue_125 rfl (lv_at hl 0 rfl) ?_
      refine w_v (y := rv ad 9 (S.q 18 j_2 ((S.i 1 3 x0).toNatClampNeg))) rfl ?_
      refine lv_bipush (v := 6) hx hb d_cRd_readValue_126 (by decide) ?_
      refine w_s (st' := [.int 6, .ref (ad 9 j_6), .ref (ad 1 x0)]) (congrArg (fun z9 : Option Nat => [.int 6, rv ad 9 z9, .ref (ad 1 x0)]) hj_7) ?_
      obtain ⟨o_37, h_38, Heq⟩ := ob_some Heq
      have hFc := fr_all hD hS hA
      refine va_calli (va_runV (As := [.ref (ad 9 j_6), .int 6]) (rest := []) ⟨hx, hb, hml, hown, hts⟩ (g_cRd_openInside l D H.size (ad := ad) (cc := cc) (sad := sad) (sav := sav) h_38) (cw_v 2 hts kw_886 kw_883 kw_884 kw_885 kw_7 rfl rfl (by decide +kernel) ⟨Nat.le_of_ble_eq_true rfl, Nat.le_of_ble_eq_true rfl⟩) ⟨c_blind, va_recv hK hP (ci := 1) (q0 := cPos N 1 x0) rfl (cw_obj (k := 1) (by decide) hl_x0_1), fun U hU hW => c_pre hU hW hP hK hD hev hE hN hNS hS hFc⟩ rfl rfl hl.1 rfl (lv_room (Nat.le_of_ble_eq_true rfl)) d_cRd_readValue_128 ⟨Nat.le_of_ble_eq_true rfl, Nat.le_of_ble_eq_true rfl⟩) hS (fun q _ h => hFc q h) hFc (fun rz u t H1 locs ht hvm hw hB hz1 hk1 hS => ?_)
      obtain ⟨hP, -, hD1⟩ := hB
      rw [ht] at hP
      have hD := hD1.weaken (fun _ q _ h => hFc q.1 h)
      generalize H1 = H at hP hS ⊢
      refine W.cs (cells' := 0) (slots' := 0) rfl rfl ?_
      subst hw
      by_cases hz_39 : o_37.2 = 0 ∨ o_37.2 = 1
      case neg => rw [if_neg hz_39] at Heq; cases Heq
      replace Heq := (if_pos hz_39).symm.trans Heq
      exact Kr _ (Option.some.inj Heq).symm 131 _ _ _ d_cRd_readValue_131 hz_39 hP hD hS
    replace Heq := (if_neg c_36).symm.trans Heq
    refine lv_lookup (tgt := 173) (off := 109) hx hb d_cRd_readValue_64 (by decide) (by have q0 : (o_14.2).toInt ≠ 34 := fun h => c_16 (Int32.toInt_inj.mp (h.trans (by decide))); have q1 : (o_14.2).toInt ≠ 91 := fun h => c_20 (Int32.toInt_inj.mp (h.trans (by decide))); have q2 : (o_14.2).toInt ≠ 102 := fun h => c_24 (Int32.toInt_inj.mp (h.trans (by decide))); have q3 : (o_14.2).toInt ≠ 110 := fun h => c_28 (Int32.toInt_inj.mp (h.trans (by decide))); have q4 : (o_14.2).toInt ≠ 116 := fun h => c_32 (Int32.toInt_inj.mp (h.trans (by decide))); have q5 : (o_14.2).toInt ≠ 123 := fun h => c_36 (Int32.toInt_inj.mp (h.trans (by decide))); exact lk_out (by simp [q0, q1, q2, q3, q4, q5, Ne.symm q0, Ne.symm q1, Ne.symm q2, Ne.symm q3, Ne.symm q4, Ne.symm q5])) (by decide) ?_
    refine lv_aload_n hx hb d_cRd_readValue_173 rfl (lv_at hl 1 rfl) ?_
    refine tx_aload_n (x := (S.q 18 j_2 ((S.i 1 3 x0).toNatClampNeg)).map (ad 9)) hx hb d_cRd_readValue_174 rfl (lv_at hl 0 rfl) ?_
    refine w_v (y := rv ad 9 (S.q 18 j_2 ((S.i 1 3 x0).toNatClampNeg))) rfl ?_
    refine w_s (st' := [.ref (ad 9 j_6), .ref (ad 1 x0)]) (congrArg (fun z9 : Option Nat => [rv ad 9 z9, .ref (ad 1 x0)]) hj_7) ?_
    obtain ⟨o_40, h_41, Heq⟩ := ob_some Heq
    have hFc := fr_all hD hS hA
    refine va_calli (va_runV (As := [.ref (ad 9 j_6)]) (rest := []) ⟨hx, hb, hml, hown, hts⟩ (g_cRd_readNumber l D H.size (ad := ad) (cc := cc) (sad := sad) (sav := sav) h_41) (cw_v 1 hts kw_961 kw_958 kw_959 kw_960 kw_7 rfl rfl (by decide +kernel) ⟨Nat.le_of_ble_eq_true rfl, Nat.le_of_ble_eq_true rfl⟩) ⟨c_blind, va_recv hK hP (ci := 1) (q0 := cPos N 1 x0) rfl (cw_obj (k := 1) (by decide) hl_x0_1), fun U hU hW => c_pre hU hW hP hK hD hev hE hN hNS hS hFc⟩ rfl rfl hl.1 rfl (lv_room (Nat.le_of_ble_eq_true rfl)) d_cRd_readValue_175 ⟨Nat.le_of_ble_eq_true rfl, Nat.le_of_ble_eq_true rfl⟩) hS (fun q _ h => hFc q h) hFc (fun rz u t H1 locs ht hvm hw hB hz1 hk1 hS => ?_)
    obtain ⟨hP, -, hD1⟩ := hB
    rw [ht] at hP
    have hD := hD1.weaken (fun _ q _ h => hFc q.1 h)
    generalize H1 = H at hP hS ⊢
    refine W.cs (cells' := 0) (slots' := 0) rfl rfl ?_
    subst hw
    by_cases hz_42 : o_40.2 = 0 ∨ o_40.2 = 1
    case neg => rw [if_neg hz_42] at Heq; cases Heq
    replace Heq := (if_pos hz_42).symm.trans Heq
    exact Kr _ (Option.some.inj Heq).symm 178 _ _ _ d_cRd_readValue_178 hz_42 hP hD hS
  · replace Heq := (if_pos c_1).symm.trans Heq
    refine lv_iconst (v := 0) hx hb d_cRd_readValue_15 (by decide) ?_
    exact Kr _ (Option.some.inj Heq).symm 16 _ _ _ d_cRd_readValue_16 (Or.inl rfl) hP hD hS
def m_cRd_readValue (N : Nat → Nat) (x0 : Nat) (S : CS) : Option (CS × Int32) := m_cRd_readValue_J0 N x0 S
set_option maxHeartbeats 4000000 in
theorem g_cRd_readValue (l : Launch) (D : va_G) (sz : Nat) {ad : Nat → Nat → Nat} {cc : Nat → ClassId} {sad sav : Nat → Nat} {N : Nat → Nat} {x0 : Nat} {S : CS} {o : CS × Int32} (Heq : m_cRd_readValue N x0 S = some o) : Met l ⟨"JoinedTrees$JsonReader", "readValue", "()Z"⟩ (Cond.code ⟨"JoinedTrees$JsonReader", "readValue", "()Z"⟩ prog_3_method_8_code 2 (some .boolean) :: gb) ({ frames := 5, cells := 0, slots := 0, locals := 135 }) (cPc sad sav D (cw ad cc N S) (cty cc) sz [.ref (ad 1 x0)]) (va_Qi (fun (r : Int32) (_ : Unit) => r = o.2) (fun _ t => gO D (cw ad cc N o.1) (cty cc) (va_A (cw ad cc N S) sz) t) (va_A (cw ad cc N S) sz)) 0 0 (va_A (cw ad cc N S) sz) := by
  refine Met.ofW (cc := prog_3_method_8_code) (maxL := 2) (ret := (some .boolean)) (by decide) rfl ?_
  intro p e s m args below meth c s₁ B hml hv
  obtain ⟨rfl, hsz, hP, hK, hD0, hev, hE, hN⟩ := hv
  have hx := B.exec
  have hb := B.bytes
  have hr := B.returns
  have hts : ∀ w9 ∈ gb, w9.before [.ref (ad 1 x0)].toArray s = true := fun w9 h => atoms_spec (ws := Cond.code ⟨"JoinedTrees$JsonReader", "readValue", "()Z"⟩ prog_3_method_8_code 2 (some .boolean) :: gb) B.pre w9 (List.mem_cons_of_mem _ h)
  have hown : s.vm.findClass "JoinedTrees$JsonReader" = some m.cls := findClass_of_methodNamed B.named
  have hlocks := B.notSynchronized
  have hNS := ns_of hP
  subst hsz
  have hD := hD0.self (sz := s.heap.size)
  generalize hAe : va_A (cw ad cc N S) s.heap.size = A at hD hev hE hNS ⊢
  have hA : ∀ q : Nat, s.heap.size ≤ q → A q := fun q h => by rw [← hAe]; exact Or.inr h
  have hS : va_S A s.heap s.heap [] := va_S.rf
  obtain ⟨ls, hl, hle⟩ : ∃ ls : Array Slot, lv_has ls 2 [(0, .ref (ad 1 x0))] ∧ entryFrame m ([.ref (ad 1 x0)] : List Value).toArray 2 = F0 m 0 ls [] := by
    exact ⟨_, lv_entry (n := 2) _ (Nat.le_of_ble_eq_true rfl), lg_entry_eq ..⟩
  rw [hle]
  refine w_cRd_readValue_J0 ⟨hx, hb, hr, hml, hown, hts, hK, hA, hev, hE, hN, hNS⟩ Heq (fun r h pc H locs ls hd hz hP hD hS => ?_) _ _ _ hP hD hS (lv_sub hl [0] rfl)
  subst h
  exact W.zret (ty := .boolean) hx hb hr (by rcases hz with hz | hz <;> rw [hz] <;> rfl) (fun t ht hW => ⟨⟨_, (), rfl, rfl, by rw [ht]; exact hP, va_K.moved hW.alike hK, hD⟩, hS.F ht⟩) hS.2.2 hd
def m_cRd_isNewKey_J68 (N : Nat → Nat) (x0 : Nat) (S : CS) (x1 : Int32) (x2 : Int32) (x3 : Int32) : Option ((CS × Int32 × Int32 × Int32) ⊕ ((CS × Int32) ⊕ (CS × Int32))) := some (.inl (S, x1, x2, (x3 + 1)))
theorem d_cRd_isNewKey_0 : decode prog_3_method_7_code 0 = .ok (.aload_n 0, 1) := by decide +kernel
theorem d_cRd_isNewKey_1 : decode prog_3_method_7_code 1 = .ok (.getfield 22, 3) := by decide +kernel
theorem d_cRd_isNewKey_4 : decode prog_3_method_7_code 4 = .ok (.getfield 67, 3) := by decide +kernel
theorem d_cRd_isNewKey_7 : decode prog_3_method_7_code 7 = .ok (.iload_n 1, 1) := by decide +kernel
theorem d_cRd_isNewKey_8 : decode prog_3_method_7_code 8 = .ok (.isub, 1) := by decide +kernel
theorem d_cRd_isNewKey_9 : decode prog_3_method_7_code 9 = .ok (.istore_n 2, 1) := by decide +kernel
theorem d_cRd_isNewKey_10 : decode prog_3_method_7_code 10 = .ok (.iconst 0, 1) := by decide +kernel
theorem d_cRd_isNewKey_11 : decode prog_3_method_7_code 11 = .ok (.istore_n 3, 1) := by decide +kernel
theorem d_cRd_isNewKey_12 : decode prog_3_method_7_code 12 = .ok (.iload_n 3, 1) := by decide +kernel
theorem d_cRd_isNewKey_13 : decode prog_3_method_7_code 13 = .ok (.aload_n 0, 1) := by decide +kernel
theorem d_cRd_isNewKey_14 : decode prog_3_method_7_code 14 = .ok (.getfield 30, 3) := by decide +kernel
theorem d_cRd_isNewKey_17 : decode prog_3_method_7_code 17 = .ok (.if_icmp .ge 57, 3) := by decide +kernel
theorem d_cRd_isNewKey_20 : decode prog_3_method_7_code 20 = .ok (.aload_n 0, 1) := by decide +kernel
theorem d_cRd_isNewKey_21 : decode prog_3_method_7_code 21 = .ok (.getfield 11, 3) := by decide +kernel
theorem d_cRd_isNewKey_24 : decode prog_3_method_7_code 24 = .ok (.iload_n 3, 1) := by decide +kernel
theorem d_cRd_isNewKey_25 : decode prog_3_method_7_code 25 = .ok (.aaload, 1) := by decide +kernel
theorem d_cRd_isNewKey_26 : decode prog_3_method_7_code 26 = .ok (.astore 4, 2) := by decide +kernel
theorem d_cRd_isNewKey_28 : decode prog_3_method_7_code 28 = .ok (.aload 4, 2) := by decide +kernel
theorem d_cRd_isNewKey_30 : decode prog_3_method_7_code 30 = .ok (.getfield 80, 3) := by decide +kernel
theorem d_cRd_isNewKey_33 : decode prog_3_method_7_code 33 = .ok (.aload_n 0, 1) := by decide +kernel
theorem d_cRd_isNewKey_34 : decode prog_3_method_7_code 34 = .ok (.getfield 40, 3) := by decide +kernel
theorem d_cRd_isNewKey_37 : decode prog_3_method_7_code 37 = .ok (.if_acmp .ne 31, 3) := by decide +kernel
theorem d_cRd_isNewKey_68 : decode prog_3_method_7_code 68 = .ok (.iinc 3 1, 3) := by decide +kernel
theorem d_cRd_isNewKey_71 : decode prog_3_method_7_code 71 = .ok (.goto (-59), 3) := by decide +kernel
set_option maxHeartbeats 4000000 in
set_option maxRecDepth 100000 in
theorem w_cRd_isNewKey_J68 {p : Program} {l : Launch} {e : Env} {s : State} {m : MethodId} {args : Array Value} {below : List Frame} {meth : Method} {c : Code} {A : Nat → Prop} {D : va_G} {ad : Nat → Nat → Nat} {cc : Nat → ClassId} {sad sav : Nat → Nat} {Q : State → Prop} (hC : MCc sad sav "JoinedTrees$JsonReader" prog_3_method_7_code 5 (some .boolean) p s m args meth c A D cc) {N : Nat → Nat} {x0 : Nat} {S : CS} {x1 : Int32} {x2 : Int32} {x3 : Int32} {o : ((CS × Int32 × Int32 × Int32) ⊕ ((CS × Int32) ⊕ (CS × Int32)))} (Heq : m_cRd_isNewKey_J68 N x0 S x1 x2 x3 = some o) (Ka : ∀ b : CS × Int32 × Int32 × Int32, o = .inl b → ∀ (H : Heap) (locs : List Loc) (ls : Array Slot), va_P D cls (cw ad cc N b.1) H → va_D A (cw ad cc N b.1) → va_S A s.heap H locs → lv_has ls 5 [(0, .ref (ad 1 x0)), (1, .int b.2.1), (2, .int b.2.2.1), (3, .int b.2.2.2)] → W p l e ({ frames := 2, cells := 0, slots := 0, locals := 48 }) s m args below meth c H locs 0 0 Q (F0 m 12 ls [])) (K0 : ∀ b : CS × Int32, o = .inr (.inl b) → ∀ (H : Heap) (locs : List Loc) (ls : Array Slot), va_P D cls (cw ad cc N b.1) H → va_D A (cw ad cc N b.1) → va_S A s.heap H locs → lv_has ls 5 [(0, .ref (ad 1 x0)), (2, .int b.2)] → W p l e ({ frames := 2, cells := 0, slots := 0, locals := 48 }) s m args below meth c H locs 0 0 Q (F0 m 74 ls [])) (Kr : ∀ r : CS × Int32, o = .inr (.inr r) → ∀ (pc : Nat) (H : Heap) (locs : List Loc) (ls : Array Slot), decode prog_3_method_7_code pc = .ok (.ireturn, 1) → (r.2 = 0 ∨ r.2 = 1) → va_P D cls (cw ad cc N r.1) H → va_D A (cw ad cc N r.1) → va_S A s.heap H locs → W p l e ({ frames := 2, cells := 0, slots := 0, locals := 48 }) s m args below meth c H locs 0 0 Q (F0 m pc ls [.int r.2])) : ∀ (H : Heap) (locs : List Loc) (ls : Array Slot), va_P D cls (cw ad cc N S) H → va_D A (cw ad cc N S) → va_S A s.heap H locs → lv_has ls 5 [(0, .ref (ad 1 x0)), (1, .int x1), (2, .int x2), (3, .int x3)] → W p l e ({ frames := 2, cells := 0, slots := 0, locals := 48 }) s m args below meth c H locs 0 0 Q (F0 m 68 ls []) := by
  intro H locs ls hP hD hS hl
  obtain ⟨hx, hb, hr, hml, hown, hts, hK, hA, hev, hE, hN, hNS⟩ := id hC
  unfold m_cRd_isNewKey_J68 at Heq
  refine lv_iinc (v := x3 + 1) (lv' := [(3, .int (x3 + 1)), (0, .ref (ad 1 x0)), (1, .int x1), (2, .int x2)]) hx hb d_cRd_isNewKey_68 hl (k := 3) rfl rfl (by decide) rfl (fun ls hl => ?_)
  refine lv_goto (tgt := 12) hx hb d_cRd_isNewKey_71 (by decide) ?_
  exact Ka _ (Option.some.inj Heq).symm _ _ _ hP hD hS (lv_sub hl [1, 2, 3, 0] rfl)
def m_cRd_isNewKey_B12 (N : Nat → Nat) (x0 : Nat) (S : CS) (x1 : Int32) (x2 : Int32) (x3 : Int32) : Option ((CS × Int32 × Int32 × Int32) ⊕ ((CS × Int32) ⊕ (CS × Int32))) := gl x0 (N 1) ((if S.i 1 3 x0 ≤ x3 then some (.inr (.inl (S, x2))) else gn (S.r 1 0 x0) (N 18) (fun j_2 => gd x3 (S.z 18 j_2) (gn (S.q 18 j_2 x3.toNatClampNeg) (N 9) (fun j_6 => gv (S.r 9 2 j_6) (N 9) (gv (S.r 1 6 x0) (N 9) ((if (S.r 9 2 j_6) = (S.r 1 6 x0) then gn (S.r 1 1 x0) (N 5) (fun j_12 => ob (m_cRw_compareWith N j_12 S (S.i 9 3 j_6) (S.i 9 4 j_6) j_12 x1 x2) (fun o_15 => (if o_15.2 = 0 then some (.inr (.inr (o_15.1, 0))) else m_cRd_isNewKey_J68 N x0 o_15.1 x1 x2 x3))) else m_cRd_isNewKey_J68 N x0 S x1 x2 x3))))))))
theorem d_cRd_isNewKey_40 : decode prog_3_method_7_code 40 = .ok (.aload_n 0, 1) := by decide +kernel
theorem d_cRd_isNewKey_41 : decode prog_3_method_7_code 41 = .ok (.getfield 22, 3) := by decide +kernel
theorem d_cRd_isNewKey_44 : decode prog_3_method_7_code 44 = .ok (.aload 4, 2) := by decide +kernel
theorem d_cRd_isNewKey_46 : decode prog_3_method_7_code 46 = .ok (.getfield 95, 3) := by decide +kernel
theorem d_cRd_isNewKey_49 : decode prog_3_method_7_code 49 = .ok (.aload 4, 2) := by decide +kernel
theorem d_cRd_isNewKey_51 : decode prog_3_method_7_code 51 = .ok (.getfield 96, 3) := by decide +kernel
theorem d_cRd_isNewKey_54 : decode prog_3_method_7_code 54 = .ok (.aload_n 0, 1) := by decide +kernel
theorem d_cRd_isNewKey_55 : decode prog_3_method_7_code 55 = .ok (.getfield 22, 3) := by decide +kernel
theorem d_cRd_isNewKey_58 : decode prog_3_method_7_code 58 = .ok (.iload_n 1, 1) := by decide +kernel
theorem d_cRd_isNewKey_59 : decode prog_3_method_7_code 59 = .ok (.iload_n 2, 1) := by decide +kernel
theorem d_cRd_isNewKey_60 : decode prog_3_method_7_code 60 = .ok (.invokevirtual 97, 3) := by decide +kernel
theorem d_cRd_isNewKey_63 : decode prog_3_method_7_code 63 = .ok (.ifCond .ne 5, 3) := by decide +kernel
theorem d_cRd_isNewKey_66 : decode prog_3_method_7_code 66 = .ok (.iconst 0, 1) := by decide +kernel
theorem d_cRd_isNewKey_67 : decode prog_3_method_7_code 67 = .ok (.ireturn, 1) := by decide +kernel
set_option maxHeartbeats 4000000 in
set_option maxRecDepth 100000 in
theorem w_cRd_isNewKey_B12 {p : Program} {l : Launch} {e : Env} {s : State} {m : MethodId} {args : Array Value} {below : List Frame} {meth : Method} {c : Code} {A : Nat → Prop} {D : va_G} {ad : Nat → Nat → Nat} {cc : Nat → ClassId} {sad sav : Nat → Nat} {Q : State → Prop} (hC : MCc sad sav "JoinedTrees$JsonReader" prog_3_method_7_code 5 (some .boolean) p s m args meth c A D cc) {N : Nat → Nat} {x0 : Nat} {S : CS} {x1 : Int32} {x2 : Int32} {x3 : Int32} {o : ((CS × Int32 × Int32 × Int32) ⊕ ((CS × Int32) ⊕ (CS × Int32)))} (Heq : m_cRd_isNewKey_B12 N x0 S x1 x2 x3 = some o) (Ka : ∀ b : CS × Int32 × Int32 × Int32, o = .inl b → ∀ (H : Heap) (locs : List Loc) (ls : Array Slot), va_P D cls (cw ad cc N b.1) H → va_D A (cw ad cc N b.1) → va_S A s.heap H locs → lv_has ls 5 [(0, .ref (ad 1 x0)), (1, .int b.2.1), (2, .int b.2.2.1), (3, .int b.2.2.2)] → W p l e ({ frames := 2, cells := 0, slots := 0, locals := 48 }) s m args below meth c H locs 0 0 Q (F0 m 12 ls [])) (K0 : ∀ b : CS × Int32, o = .inr (.inl b) → ∀ (H : Heap) (locs : List Loc) (ls : Array Slot), va_P D cls (cw ad cc N b.1) H → va_D A (cw ad cc N b.1) → va_S A s.heap H locs → lv_has ls 5 [(0, .ref (ad 1 x0)), (2, .int b.2)] → W p l e ({ frames := 2, cells := 0, slots := 0, locals := 48 }) s m args below meth c H locs 0 0 Q (F0 m 74 ls [])) (Kr : ∀ r : CS × Int32, o = .inr (.inr r) → ∀ (pc : Nat) (H : Heap) (locs : List Loc) (ls : Array Slot), decode prog_3_method_7_code pc = .ok (.ireturn, 1) → (r.2 = 0 ∨ r.2 = 1) → va_P D cls (cw ad cc N r.1) H → va_D A (cw ad cc N r.1) → va_S A s.heap H locs → W p l e ({ frames := 2, cells := 0, slots := 0, locals := 48 }) s m args below meth c H locs 0 0 Q (F0 m pc ls [.int r.2])) : ∀ (H : Heap) (locs : List Loc) (ls : Array Slot), va_P D cls (cw ad cc N S) H → va_D A (cw ad cc N S) → va_S A s.heap H locs → lv_has ls 5 [(0, .ref (ad 1 x0)), (1, .int x1), (2, .int x2), (3, .int x3)] → W p l e ({ frames := 2, cells := 0, slots := 0, locals := 48 }) s m args below meth c H locs 0 0 Q (F0 m 12 ls []) := by
  intro H locs ls hP hD hS hl
  obtain ⟨hx, hb, hr, hml, hown, hts, hK, hA, hev, hE, hN, hNS⟩ := id hC
  unfold m_cRd_isNewKey_B12 at Heq
  refine lv_iload_n hx hb d_cRd_isNewKey_12 rfl (lv_at hl 3 rfl) ?_
  refine lv_aload_n hx hb d_cRd_isNewKey_13 rfl (lv_at hl 0 rfl) ?_
  obtain ⟨hl_x0_1, Heq⟩ := gl_some Heq
  refine va_get (D := D) (ci := 1) (v := .int (S.i 1 3 x0)) (C := R_Rd) (T := F_Rd) (N := 10) hx hb hts i_Rd hown hK hP (cPos N 1 x0) (cw_obj (k := 1) (by decide) hl_x0_1) rfl 3 (by decide) (hts _ kw_347) (fun _ h9 => h9) rfl d_cRd_isNewKey_14 ?_
  refine lv_icmp_ge (tgt := 74) hx hb d_cRd_isNewKey_17 (by decide) (fun c_1 => ?_) (fun c_1 => ?_)
  · replace Heq := (if_pos c_1).symm.trans Heq
    exact K0 _ (Option.some.inj Heq).symm _ _ _ hP hD hS (lv_sub hl [0, 2] rfl)
  · replace Heq := (if_neg c_1).symm.trans Heq
    refine lv_aload_n hx hb d_cRd_isNewKey_20 rfl (lv_at hl 0 rfl) ?_
    refine va_get (D := D) (ci := 1) (v := rv ad 18 (S.r 1 0 x0)) (C := R_Rd) (T := F_Rd) (N := 10) hx hb hts i_Rd hown hK hP (cPos N 1 x0) (cw_obj (k := 1) (by decide) hl_x0_1) rfl 0 (by decide) (hts _ kw_342) (fun _ h9 => h9) rfl d_cRd_isNewKey_21 ?_
    refine lv_iload_n hx hb d_cRd_isNewKey_24 rfl (lv_at hl 3 rfl) ?_
    obtain ⟨j_2, hj_3, hl_4, Heq⟩ := gn_some Heq
    refine w_s (st' := [.int x3, .ref (ad 18 j_2)]) (congrArg (fun z9 : Option Nat => [.int x3, rv ad 18 z9]) hj_3) ?_
    obtain ⟨hi_5, Heq⟩ := gd_some Heq
    refine va_aldq hx hb hK hP (cPos N 18 j_2) 6 (cw_refs (k := 18) (by decide) hl_4) rfl (i := x3) hi_5 d_cRd_isNewKey_25 ?_
    refine w_v (y := rv ad 9 (S.q 18 j_2 x3.toNatClampNeg)) (congrArg (rv ad 9) rfl) ?_
    refine tx_astore (x := (S.q 18 j_2 x3.toNatClampNeg).map (ad 9)) (lv' := [(4, rv ad 9 (S.q 18 j_2 x3.toNatClampNeg)), (0, .ref (ad 1 x0)), (1, .int x1), (2, .int x2), (3, .int x3)]) hx hb d_cRd_isNewKey_26 hl (by decide) rfl (fun ls hl => ?_)
    refine tx_aload (x := (S.q 18 j_2 x3.toNatClampNeg).map (ad 9)) hx hb d_cRd_isNewKey_28 (lv_at hl 0 rfl) ?_
    refine w_v (y := rv ad 9 (S.q 18 j_2 x3.toNatClampNeg)) rfl ?_
    obtain ⟨j_6, hj_7, hl_8, Heq⟩ := gn_some Heq
    refine w_s (st' := [.ref (ad 9 j_6)]) (congrArg (fun z9 : Option Nat => [rv ad 9 z9]) hj_7) ?_
    refine va_get (D := D) (ci := 9) (v := rv ad 9 (S.r 9 2 j_6)) (C := R_Va) (T := F_Va) (N := 10) hx hb hts i_Va hown hK hP (cPos N 9 j_6) (cw_obj (k := 9) (by decide) hl_8) rfl 2 (by decide) (hts _ kw_301) (fun _ h9 => h9) rfl d_cRd_isNewKey_30 ?_
    refine lv_aload_n hx hb d_cRd_isNewKey_33 rfl (lv_at hl 1 rfl) ?_
    refine va_get (D := D) (ci := 1) (v := rv ad 9 (S.r 1 6 x0)) (C := R_Rd) (T := F_Rd) (N := 10) hx hb hts i_Rd hown hK hP (cPos N 1 x0) (cw_obj (k := 1) (by decide) hl_x0_1) rfl 6 (by decide) (hts _ kw_352) (fun _ h9 => h9) rfl d_cRd_isNewKey_34 ?_
    obtain ⟨hv_9, Heq⟩ := gv_some Heq
    obtain ⟨hv_10, Heq⟩ := gv_some Heq
    have ec_11 := rv_eq hD (k := 9) (by decide) (x := (S.r 9 2 j_6)) (y := (S.r 1 6 x0)) hv_9 hv_10
    refine lv_acmp_ne (rx := (S.r 9 2 j_6).map (ad 9)) (ry := (S.r 1 6 x0).map (ad 9)) (tgt := 68) hx hb d_cRd_isNewKey_37 (by decide) (fun c_11 => ?_) (fun c_11 => ?_)
    · replace Heq := (if_neg (fun q9 => c_11 (ec_11.mpr q9))).symm.trans Heq
      exact w_cRd_isNewKey_J68 hC Heq Ka K0 Kr _ _ _ hP hD hS (lv_sub hl [1, 2, 3, 4] rfl)
    · replace Heq := (if_pos (ec_11.mp c_11)).symm.trans Heq
      refine lv_aload_n hx hb d_cRd_isNewKey_40 rfl (lv_at hl 1 rfl) ?_
      refine va_get (D := D) (ci := 1) (v := rv ad 5 (S.r 1 1 x0)) (C := R_Rd) (T := F_Rd) (N := 10) hx hb hts i_Rd hown hK hP (cPos N 1 x0) (cw_obj (k := 1) (by decide) hl_x0_1) rfl 1 (by decide) (hts _ kw_344) (fun _ h9 => h9) rfl d_cRd_isNewKey_41 ?_
      refine tx_aload (x := (S.q 18 j_2 x3.toNatClampNeg).map (ad 9)) hx hb d_cRd_isNewKey_44 (lv_at hl 0 rfl) ?_
      refine w_v (y := rv ad 9 (S.q 18 j_2 x3.toNatClampNeg)) rfl ?_
      refine w_s (st' := [.ref (ad 9 j_6), rv ad 5 (S.r 1 1 x0)]) (congrArg (fun z9 : Option Nat => [rv ad 9 z9, rv ad 5 (S.r 1 1 x0)]) hj_7) ?_
      refine va_get (D := D) (ci := 9) (v := .int (S.i 9 3 j_6)) (C := R_Va) (T := F_Va) (N := 10) hx hb hts i_Va hown hK hP (cPos N 9 j_6) (cw_obj (k := 9) (by decide) hl_8) rfl 3 (by decide) (hts _ kw_304) (fun _ h9 => h9) rfl d_cRd_isNewKey_46 ?_
      refine tx_aload (x := (S.q 18 j_2 x3.toNatClampNeg).map (ad 9)) hx hb d_cRd_isNewKey_49 (lv_at hl 0 rfl) ?_
      refine w_v (y := rv ad 9 (S.q 18 j_2 x3.toNatClampNeg)) rfl ?_
      refine w_s (st' := [.ref (ad 9 j_6), .int (S.i 9 3 j_6), rv ad 5 (S.r 1 1 x0)]) (congrArg (fun z9 : Option Nat => [rv ad 9 z9, .int (S.i 9 3 j_6), rv ad 5 (S.r 1 1 x0)]) hj_7) ?_
      refine va_get (D := D) (ci := 9) (v := .int (S.i 9 4 j_6)) (C := R_Va) (T := F_Va) (N := 10) hx hb hts i_Va hown hK hP (cPos N 9 j_6) (cw_obj (k := 9) (by decide) hl_8) rfl 4 (by decide) (hts _ kw_307) (fun _ h9 => h9) rfl d_cRd_isNewKey_51 ?_
      refine lv_aload_n hx hb d_cRd_isNewKey_54 rfl (lv_at hl 1 rfl) ?_
      refine va_get (D := D) (ci := 1) (v := rv ad 5 (S.r 1 1 x0)) (C := R_Rd) (T := F_Rd) (N := 10) hx hb hts i_Rd hown hK hP (cPos N 1 x0) (cw_obj (k := 1) (by decide) hl_x0_1) rfl 1 (by decide) (hts _ kw_344) (fun _ h9 => h9) rfl d_cRd_isNewKey_55 ?_
      refine lv_iload_n hx hb d_cRd_isNewKey_58 rfl (lv_at hl 2 rfl) ?_
      refine lv_iload_n hx hb d_cRd_isNewKey_59 rfl (lv_at hl 3 rfl) ?_
      obtain ⟨j_12, hj_13, hl_14, Heq⟩ := gn_some Heq
      refine w_s (st' := [.int x2, .int x1, .ref (ad 5 j_12), .int (S.i 9 4 j_6), .int (S.i 9 3 j_6), rv ad 5 (S.r 1 1 x0)]) (congrArg (fun z9 : Option Nat => [.int x2, .int x1, rv ad 5 z9, .int (S.i 9 4 j_6), .int (S.i 9 3 j_6), rv ad 5 (S.r 1 1 x0)]) hj_13) ?_
      refine w_s (st' := [.int x2, .int x1, .ref (ad 5 j_12), .int (S.i 9 4 j_6), .int (S.i 9 3 j_6), .ref (ad 5 j_12)]) (congrArg (fun z9 : Option Nat => [.int x2, .int x1, .ref (ad 5 j_12), .int (S.i 9 4 j_6), .int (S.i 9 3 j_6), rv ad 5 z9]) hj_13) ?_
      obtain ⟨o_15, h_16, Heq⟩ := ob_some Heq
      have hFc := fr_all hD hS hA
      refine va_calli (va_runV (As := [.int (S.i 9 3 j_6), .int (S.i 9 4 j_6), .ref (ad 5 j_12), .int x1, .int x2]) (rest := []) ⟨hx, hb, hml, hown, hts⟩ (g_cRw_compareWith l D H.size (ad := ad) (cc := cc) (sad := sad) (sav := sav) h_16) (cw_v 5 hts kw_685 kw_979 kw_683 kw_684 kw_4 rfl rfl (by decide +kernel) ⟨Nat.le_of_ble_eq_true rfl, Nat.le_of_ble_eq_true rfl⟩) ⟨c_blind, va_recv hK hP (ci := 5) (q0 := cPos N 5 j_12) rfl (cw_obj (k := 5) (by decide) hl_14), fun U hU hW => c_pre hU hW hP hK hD hev hE hN hNS hS hFc⟩ rfl rfl hl.1 rfl (lv_room (Nat.le_of_ble_eq_true rfl)) d_cRd_isNewKey_60 ⟨Nat.le_of_ble_eq_true rfl, Nat.le_of_ble_eq_true rfl⟩) hS (fun q _ h => hFc q h) hFc (fun rz u t H1 locs ht hvm hw hB hz1 hk1 hS => ?_)
      obtain ⟨hP, -, hD1⟩ := hB
      rw [ht] at hP
      have hD := hD1.weaken (fun _ q _ h => hFc q.1 h)
      generalize H1 = H at hP hS ⊢
      refine W.cs (cells' := 0) (slots' := 0) rfl rfl ?_
      subst hw
      refine lv_if_ne (tgt := 68) hx hb d_cRd_isNewKey_63 (by decide) (fun c_17 => ?_) (fun c_17 => ?_)
      · replace Heq := (if_neg c_17).symm.trans Heq
        exact w_cRd_isNewKey_J68 hC Heq Ka K0 Kr _ _ _ hP hD hS (lv_sub hl [1, 2, 3, 4] rfl)
      · replace Heq := (if_pos c_17).symm.trans Heq
        refine lv_iconst (v := 0) hx hb d_cRd_isNewKey_66 (by decide) ?_
        exact Kr _ (Option.some.inj Heq).symm 67 _ _ _ d_cRd_isNewKey_67 (Or.inl rfl) hP hD hS
def m_cRd_isNewKey_L12 (N : Nat → Nat) (x0 : Nat) (S : CS) (x1 : Int32) (x2 : Int32) (x3 : Int32) : Option ((CS × Int32) ⊕ (CS × Int32)) := lp (fun a : CS × Int32 × Int32 × Int32 => m_cRd_isNewKey_B12 N x0 a.1 a.2.1 a.2.2.1 a.2.2.2) FU (S, x1, x2, x3)
theorem w_cRd_isNewKey_L12 {p : Program} {l : Launch} {e : Env} {s : State} {m : MethodId} {args : Array Value} {below : List Frame} {meth : Method} {c : Code} {A : Nat → Prop} {D : va_G} {ad : Nat → Nat → Nat} {cc : Nat → ClassId} {sad sav : Nat → Nat} {Q : State → Prop} (hC : MCc sad sav "JoinedTrees$JsonReader" prog_3_method_7_code 5 (some .boolean) p s m args meth c A D cc) {N : Nat → Nat} {x0 : Nat} {S : CS} {x1 : Int32} {x2 : Int32} {x3 : Int32} {o : ((CS × Int32) ⊕ (CS × Int32))} (Heq : m_cRd_isNewKey_L12 N x0 S x1 x2 x3 = some o) (K0 : ∀ b : CS × Int32, o = (.inl b) → ∀ (H : Heap) (locs : List Loc) (ls : Array Slot), va_P D cls (cw ad cc N b.1) H → va_D A (cw ad cc N b.1) → va_S A s.heap H locs → lv_has ls 5 [(0, .ref (ad 1 x0)), (2, .int b.2)] → W p l e ({ frames := 2, cells := 0, slots := 0, locals := 48 }) s m args below meth c H locs 0 0 Q (F0 m 74 ls [])) (Kr : ∀ r : CS × Int32, o = (.inr r) → ∀ (pc : Nat) (H : Heap) (locs : List Loc) (ls : Array Slot), decode prog_3_method_7_code pc = .ok (.ireturn, 1) → (r.2 = 0 ∨ r.2 = 1) → va_P D cls (cw ad cc N r.1) H → va_D A (cw ad cc N r.1) → va_S A s.heap H locs → W p l e ({ frames := 2, cells := 0, slots := 0, locals := 48 }) s m args below meth c H locs 0 0 Q (F0 m pc ls [.int r.2])) : ∀ (H : Heap) (locs : List Loc) (ls : Array Slot), va_P D cls (cw ad cc N S) H → va_D A (cw ad cc N S) → va_S A s.heap H locs → lv_has ls 5 [(0, .ref (ad 1 x0)), (1, .int x1), (2, .int x2), (3, .int x3)] → W p l e ({ frames := 2, cells := 0, slots := 0, locals := 48 }) s m args below meth c H locs 0 0 Q (F0 m 12 ls []) := by
  refine lp_w (G := fun a : CS × Int32 × Int32 × Int32 => ∀ (H : Heap) (locs : List Loc) (ls : Array Slot), va_P D cls (cw ad cc N a.1) H → va_D A (cw ad cc N a.1) → va_S A s.heap H locs → lv_has ls 5 [(0, .ref (ad 1 x0)), (1, .int a.2.1), (2, .int a.2.2.1), (3, .int a.2.2.2)] → W p l e ({ frames := 2, cells := 0, slots := 0, locals := 48 }) s m args below meth c H locs 0 0 Q (F0 m 12 ls [])) ?_ FU (S, x1, x2, x3) Heq
  intro a o1 ho Ka Ke
  exact w_cRd_isNewKey_B12 hC ho (fun b h => Ka b h) (fun b h => K0 b (Ke _ h).symm) (fun r h => Kr r (Ke _ h).symm)
def m_cRd_isNewKey_J83 (N : Nat → Nat) (x0 : Nat) (S : CS) (t0 : Int32) : Option (CS × Int32) := (if t0 = 0 ∨ t0 = 1 then some (S, t0) else none)
theorem d_cRd_isNewKey_74 : decode prog_3_method_7_code 74 = .ok (.iload_n 2, 1) := by decide +kernel
theorem d_cRd_isNewKey_75 : decode prog_3_method_7_code 75 = .ok (.ifCond .le 7, 3) := by decide +kernel
theorem d_cRd_isNewKey_82 : decode prog_3_method_7_code 82 = .ok (.iconst 0, 1) := by decide +kernel
theorem d_cRd_isNewKey_83 : decode prog_3_method_7_code 83 = .ok (.ireturn, 1) := by decide +kernel
set_option maxHeartbeats 4000000 in
set_option maxRecDepth 100000 in
theorem w_cRd_isNewKey_J83 {p : Program} {l : Launch} {e : Env} {s : State} {m : MethodId} {args : Array Value} {below : List Frame} {meth : Method} {c : Code} {A : Nat → Prop} {D : va_G} {ad : Nat → Nat → Nat} {cc : Nat → ClassId} {sad sav : Nat → Nat} {Q : State → Prop} (hC : MCc sad sav "JoinedTrees$JsonReader" prog_3_method_7_code 5 (some .boolean) p s m args meth c A D cc) {N : Nat → Nat} {x0 : Nat} {S : CS} {t0 : Int32} {o : CS × Int32} (Heq : m_cRd_isNewKey_J83 N x0 S t0 = some o) (Kr : ∀ r : CS × Int32, o = r → ∀ (pc : Nat) (H : Heap) (locs : List Loc) (ls : Array Slot), decode prog_3_method_7_code pc = .ok (.ireturn, 1) → (r.2 = 0 ∨ r.2 = 1) → va_P D cls (cw ad cc N r.1) H → va_D A (cw ad cc N r.1) → va_S A s.heap H locs → W p l e ({ frames := 2, cells := 0, slots := 0, locals := 48 }) s m args below meth c H locs 0 0 Q (F0 m pc ls [.int r.2])) : ∀ (H : Heap) (locs : List Loc) (ls : Array Slot), va_P D cls (cw ad cc N S) H → va_D A (cw ad cc N S) → va_S A s.heap H locs → lv_has ls 5 [(0, .ref (ad 1 x0))] → W p l e ({ frames := 2, cells := 0, slots := 0, locals := 48 }) s m args below meth c H locs 0 0 Q (F0 m 83 ls [.int t0]) := by
  intro H locs ls hP hD hS hl
  obtain ⟨hx, hb, hr, hml, hown, hts, hK, hA, hev, hE, hN, hNS⟩ := id hC
  unfold m_cRd_isNewKey_J83 at Heq
  by_cases hz_1 : t0 = 0 ∨ t0 = 1
  case neg => rw [if_neg hz_1] at Heq; cases Heq
  replace Heq := (if_pos hz_1).symm.trans Heq
  exact Kr _ (Option.some.inj Heq).symm 83 _ _ _ d_cRd_isNewKey_83 hz_1 hP hD hS
def m_cRd_isNewKey_J0 (N : Nat → Nat) (x0 : Nat) (S : CS) (x1 : Int32) : Option (CS × Int32) := gl x0 (N 1) (gn (S.r 1 1 x0) (N 5) (fun j_1 => oe (m_cRd_isNewKey_L12 N x0 S x1 ((S.i 5 1 j_1) - x1) 0) (fun b_4 => (if b_4.2 ≤ 0 then m_cRd_isNewKey_J83 N x0 b_4.1 0 else m_cRd_isNewKey_J83 N x0 b_4.1 1)) (fun r_6 => some r_6)))
theorem d_cRd_isNewKey_78 : decode prog_3_method_7_code 78 = .ok (.iconst 1, 1) := by decide +kernel
theorem d_cRd_isNewKey_79 : decode prog_3_method_7_code 79 = .ok (.goto 4, 3) := by decide +kernel
set_option maxHeartbeats 4000000 in
set_option maxRecDepth 100000 in
theorem w_cRd_isNewKey_J0 {p : Program} {l : Launch} {e : Env} {s : State} {m : MethodId} {args : Array Value} {below : List Frame} {meth : Method} {c : Code} {A : Nat → Prop} {D : va_G} {ad : Nat → Nat → Nat} {cc : Nat → ClassId} {sad sav : Nat → Nat} {Q : State → Prop} (hC : MCc sad sav "JoinedTrees$JsonReader" prog_3_method_7_code 5 (some .boolean) p s m args meth c A D cc) {N : Nat → Nat} {x0 : Nat} {S : CS} {x1 : Int32} {o : CS × Int32} (Heq : m_cRd_isNewKey_J0 N x0 S x1 = some o) (Kr : ∀ r : CS × Int32, o = r → ∀ (pc : Nat) (H : Heap) (locs : List Loc) (ls : Array Slot), decode prog_3_method_7_code pc = .ok (.ireturn, 1) → (r.2 = 0 ∨ r.2 = 1) → va_P D cls (cw ad cc N r.1) H → va_D A (cw ad cc N r.1) → va_S A s.heap H locs → W p l e ({ frames := 2, cells := 0, slots := 0, locals := 48 }) s m args below meth c H locs 0 0 Q (F0 m pc ls [.int r.2])) : ∀ (H : Heap) (locs : List Loc) (ls : Array Slot), va_P D cls (cw ad cc N S) H → va_D A (cw ad cc N S) → va_S A s.heap H locs → lv_has ls 5 [(0, .ref (ad 1 x0)), (1, .int x1)] → W p l e ({ frames := 2, cells := 0, slots := 0, locals := 48 }) s m args below meth c H locs 0 0 Q (F0 m 0 ls []) := by
  intro H locs ls hP hD hS hl
  obtain ⟨hx, hb, hr, hml, hown, hts, hK, hA, hev, hE, hN, hNS⟩ := id hC
  unfold m_cRd_isNewKey_J0 at Heq
  refine lv_aload_n hx hb d_cRd_isNewKey_0 rfl (lv_at hl 0 rfl) ?_
  obtain ⟨hl_x0_1, Heq⟩ := gl_some Heq
  refine va_get (D := D) (ci := 1) (v := rv ad 5 (S.r 1 1 x0)) (C := R_Rd) (T := F_Rd) (N := 10) hx hb hts i_Rd hown hK hP (cPos N 1 x0) (cw_obj (k := 1) (by decide) hl_x0_1) rfl 1 (by decide) (hts _ kw_344) (fun _ h9 => h9) rfl d_cRd_isNewKey_1 ?_
  obtain ⟨j_1, hj_2, hl_3, Heq⟩ := gn_some Heq
  refine w_s (st' := [.ref (ad 5 j_1)]) (congrArg (fun z9 : Option Nat => [rv ad 5 z9]) hj_2) ?_
  refine va_get (D := D) (ci := 5) (v := .int (S.i 5 1 j_1)) (C := R_Rw) (T := F_Rw) (N := 3) hx hb hts i_Rw hown hK hP (cPos N 5 j_1) (cw_obj (k := 5) (by decide) hl_3) rfl 1 (by decide) (hts _ kw_146) (fun _ h9 => h9) rfl d_cRd_isNewKey_4 ?_
  refine lv_iload_n hx hb d_cRd_isNewKey_7 rfl (lv_at hl 1 rfl) ?_
  refine lv_isub hx hb d_cRd_isNewKey_8 ?_
  refine w_i (y := (S.i 5 1 j_1) - x1) rfl ?_
  refine lv_istore_n (lv' := [(2, .int ((S.i 5 1 j_1) - x1)), (0, .ref (ad 1 x0)), (1, .int x1)]) hx hb d_cRd_isNewKey_9 rfl hl (by decide) rfl (fun ls hl => ?_)
  refine lv_iconst (v := 0) hx hb d_cRd_isNewKey_10 (by decide) ?_
  refine lv_istore_n (lv' := [(3, .int 0), (2, .int ((S.i 5 1 j_1) - x1)), (0, .ref (ad 1 x0)), (1, .int x1)]) hx hb d_cRd_isNewKey_11 rfl hl (by decide) rfl (fun ls hl => ?_)
  rcases oe_some Heq with ⟨b_4, h_5, Heq⟩ | ⟨r_6, h_5, Heq⟩
  · refine w_cRd_isNewKey_L12 hC h_5 (fun b h => ?_) (fun r h => by cases h) _ _ _ hP hD hS (lv_sub hl [2, 3, 1, 0] rfl)
    cases h
    intro H locs ls hP hD hS hl
    refine lv_iload_n hx hb d_cRd_isNewKey_74 rfl (lv_at hl 1 rfl) ?_
    refine lv_if_le (tgt := 82) hx hb d_cRd_isNewKey_75 (by decide) (fun c_7 => ?_) (fun c_7 => ?_)
    · replace Heq := (if_pos c_7).symm.trans Heq
      refine lv_iconst (v := 0) hx hb d_cRd_isNewKey_82 (by decide) ?_
      exact w_cRd_isNewKey_J83 hC Heq Kr _ _ _ hP hD hS (lv_sub hl [0] rfl)
    · replace Heq := (if_neg c_7).symm.trans Heq
      refine lv_iconst (v := 1) hx hb d_cRd_isNewKey_78 (by decide) ?_
      refine lv_goto (tgt := 83) hx hb d_cRd_isNewKey_79 (by decide) ?_
      exact w_cRd_isNewKey_J83 hC Heq Kr _ _ _ hP hD hS (lv_sub hl [0] rfl)
  · refine w_cRd_isNewKey_L12 hC h_5 (fun b h => by cases h) (fun r h => ?_) _ _ _ hP hD hS (lv_sub hl [2, 3, 1, 0] rfl)
    cases h
    exact Kr _ (Option.some.inj Heq).symm
def m_cRd_isNewKey (N : Nat → Nat) (x0 : Nat) (S : CS) (x1 : Int32) : Option (CS × Int32) := m_cRd_isNewKey_J0 N x0 S x1
set_option maxHeartbeats 4000000 in
theorem g_cRd_isNewKey (l : Launch) (D : va_G) (sz : Nat) {ad : Nat → Nat → Nat} {cc : Nat → ClassId} {sad sav : Nat → Nat} {N : Nat → Nat} {x0 : Nat} {S : CS} {x1 : Int32} {o : CS × Int32} (Heq : m_cRd_isNewKey N x0 S x1 = some o) : Met l ⟨"JoinedTrees$JsonReader", "isNewKey", "(I)Z"⟩ (Cond.code ⟨"JoinedTrees$JsonReader", "isNewKey", "(I)Z"⟩ prog_3_method_7_code 5 (some .boolean) :: gb) ({ frames := 2, cells := 0, slots := 0, locals := 48 }) (cPc sad sav D (cw ad cc N S) (cty cc) sz [.ref (ad 1 x0), .int x1]) (va_Qi (fun (r : Int32) (_ : Unit) => r = o.2) (fun _ t => gO D (cw ad cc N o.1) (cty cc) (va_A (cw ad cc N S) sz) t) (va_A (cw ad cc N S) sz)) 0 0 (va_A (cw ad cc N S) sz) := by
  refine Met.ofW (cc := prog_3_method_7_code) (maxL := 5) (ret := (some .boolean)) (by decide) rfl ?_
  intro p e s m args below meth c s₁ B hml hv
  obtain ⟨rfl, hsz, hP, hK, hD0, hev, hE, hN⟩ := hv
  have hx := B.exec
  have hb := B.bytes
  have hr := B.returns
  have hts : ∀ w9 ∈ gb, w9.before [.ref (ad 1 x0), .int x1].toArray s = true := fun w9 h => atoms_spec (ws := Cond.code ⟨"JoinedTrees$JsonReader", "isNewKey", "(I)Z"⟩ prog_3_method_7_code 5 (some .boolean) :: gb) B.pre w9 (List.mem_cons_of_mem _ h)
  have hown : s.vm.findClass "JoinedTrees$JsonReader" = some m.cls := findClass_of_methodNamed B.named
  have hlocks := B.notSynchronized
  have hNS := ns_of hP
  subst hsz
  have hD := hD0.self (sz := s.heap.size)
  generalize hAe : va_A (cw ad cc N S) s.heap.size = A at hD hev hE hNS ⊢
  have hA : ∀ q : Nat, s.heap.size ≤ q → A q := fun q h => by rw [← hAe]; exact Or.inr h
  have hS : va_S A s.heap s.heap [] := va_S.rf
  obtain ⟨ls, hl, hle⟩ : ∃ ls : Array Slot, lv_has ls 5 [(0, .ref (ad 1 x0)), (1, .int x1)] ∧ entryFrame m ([.ref (ad 1 x0), .int x1] : List Value).toArray 5 = F0 m 0 ls [] := by
    exact ⟨_, lv_entry (n := 5) _ (Nat.le_of_ble_eq_true rfl), lg_entry_eq ..⟩
  rw [hle]
  refine w_cRd_isNewKey_J0 ⟨hx, hb, hr, hml, hown, hts, hK, hA, hev, hE, hN, hNS⟩ Heq (fun r h pc H locs ls hd hz hP hD hS => ?_) _ _ _ hP hD hS (lv_sub hl [0, 1] rfl)
  subst h
  exact W.zret (ty := .boolean) hx hb hr (by rcases hz with hz | hz <;> rw [hz] <;> rfl) (fun t ht hW => ⟨⟨_, (), rfl, rfl, by rw [ht]; exact hP, va_K.moved hW.alike hK, hD⟩, hS.F ht⟩) hS.2.2 hd
def m_cRd_readKey_J41 (N : Nat → Nat) (x0 : Nat) (S : CS) : Option (CS × Int32) := some (S, 0)
theorem d_cRd_readKey_0 : decode prog_3_method_6_code 0 = .ok (.aload_n 0, 1) := by decide +kernel
theorem d_cRd_readKey_1 : decode prog_3_method_6_code 1 = .ok (.getfield 22, 3) := by decide +kernel
theorem d_cRd_readKey_4 : decode prog_3_method_6_code 4 = .ok (.getfield 67, 3) := by decide +kernel
theorem d_cRd_readKey_7 : decode prog_3_method_6_code 7 = .ok (.istore_n 1, 1) := by decide +kernel
theorem d_cRd_readKey_8 : decode prog_3_method_6_code 8 = .ok (.aload_n 0, 1) := by decide +kernel
theorem d_cRd_readKey_9 : decode prog_3_method_6_code 9 = .ok (.getfield 27, 3) := by decide +kernel
theorem d_cRd_readKey_12 : decode prog_3_method_6_code 12 = .ok (.aload_n 0, 1) := by decide +kernel
theorem d_cRd_readKey_13 : decode prog_3_method_6_code 13 = .ok (.getfield 34, 3) := by decide +kernel
theorem d_cRd_readKey_16 : decode prog_3_method_6_code 16 = .ok (.invokevirtual 70, 3) := by decide +kernel
theorem d_cRd_readKey_19 : decode prog_3_method_6_code 19 = .ok (.bipush 34, 2) := by decide +kernel
theorem d_cRd_readKey_21 : decode prog_3_method_6_code 21 = .ok (.if_icmp .ne 20, 3) := by decide +kernel
theorem d_cRd_readKey_41 : decode prog_3_method_6_code 41 = .ok (.iconst 0, 1) := by decide +kernel
theorem d_cRd_readKey_42 : decode prog_3_method_6_code 42 = .ok (.ireturn, 1) := by decide +kernel
set_option maxHeartbeats 4000000 in
set_option maxRecDepth 100000 in
theorem w_cRd_readKey_J41 {p : Program} {l : Launch} {e : Env} {s : State} {m : MethodId} {args : Array Value} {below : List Frame} {meth : Method} {c : Code} {A : Nat → Prop} {D : va_G} {ad : Nat → Nat → Nat} {cc : Nat → ClassId} {sad sav : Nat → Nat} {Q : State → Prop} (hC : MCc sad sav "JoinedTrees$JsonReader" prog_3_method_6_code 2 (some .boolean) p s m args meth c A D cc) {N : Nat → Nat} {x0 : Nat} {S : CS} {o : CS × Int32} (Heq : m_cRd_readKey_J41 N x0 S = some o) (Kr : ∀ r : CS × Int32, o = r → ∀ (pc : Nat) (H : Heap) (locs : List Loc) (ls : Array Slot), decode prog_3_method_6_code pc = .ok (.ireturn, 1) → (r.2 = 0 ∨ r.2 = 1) → va_P D cls (cw ad cc N r.1) H → va_D A (cw ad cc N r.1) → va_S A s.heap H locs → W p l e ({ frames := 3, cells := 0, slots := 0, locals := 72 }) s m args below meth c H locs 0 0 Q (F0 m pc ls [.int r.2])) : ∀ (H : Heap) (locs : List Loc) (ls : Array Slot), va_P D cls (cw ad cc N S) H → va_D A (cw ad cc N S) → va_S A s.heap H locs → lv_has ls 2 [(0, .ref (ad 1 x0))] → W p l e ({ frames := 3, cells := 0, slots := 0, locals := 72 }) s m args below meth c H locs 0 0 Q (F0 m 41 ls []) := by
  intro H locs ls hP hD hS hl
  obtain ⟨hx, hb, hr, hml, hown, hts, hK, hA, hev, hE, hN, hNS⟩ := id hC
  unfold m_cRd_readKey_J41 at Heq
  refine lv_iconst (v := 0) hx hb d_cRd_readKey_41 (by decide) ?_
  exact Kr _ (Option.some.inj Heq).symm 42 _ _ _ d_cRd_readKey_42 (Or.inl rfl) hP hD hS
def m_cRd_readKey_J0 (N : Nat → Nat) (x0 : Nat) (S : CS) : Option (CS × Int32) := gl x0 (N 1) (gn (S.r 1 1 x0) (N 5) (fun j_1 => gn (S.r 1 2 x0) (N 5) (fun j_4 => ob (m_cRw_at N j_4 S (S.i 1 4 x0)) (fun o_7 => (if o_7.2 = 34 then ob (m_cRd_readString N x0 o_7.1 64) (fun o_10 => (if o_10.2 = 0 then m_cRd_readKey_J41 N x0 o_10.1 else ob (m_cRd_isNewKey N x0 o_10.1 (S.i 5 1 j_1)) (fun o_13 => (if o_13.2 = 0 then m_cRd_readKey_J41 N x0 o_13.1 else gn (o_13.1.r 1 1 x0) (N 5) (fun j_16 => ob (m_cRd_skipBlanks N x0 (((o_13.1.setI 1 8 x0 (S.i 5 1 j_1)).setI 1 9 x0 ((o_13.1.i 5 1 j_16) - (S.i 5 1 j_1))).setI 1 4 x0 ((o_13.1.i 1 4 x0) + 1))) (fun o_19 => gn (o_19.r 1 2 x0) (N 5) (fun j_21 => ob (m_cRw_at N j_21 o_19 (o_19.i 1 4 x0)) (fun o_24 => (if o_24.2 = 58 then ob (m_cRd_skipBlanks N x0 (o_24.1.setI 1 4 x0 ((o_24.1.i 1 4 x0) + 1))) (fun o_27 => some (o_27, 1)) else some (o_24.1, 0)))))))))) else m_cRd_readKey_J41 N x0 o_7.1)))))
theorem d_cRd_readKey_24 : decode prog_3_method_6_code 24 = .ok (.aload_n 0, 1) := by decide +kernel
theorem d_cRd_readKey_25 : decode prog_3_method_6_code 25 = .ok (.bipush 64, 2) := by decide +kernel
theorem d_cRd_readKey_27 : decode prog_3_method_6_code 27 = .ok (.invokevirtual 89, 3) := by decide +kernel
theorem d_cRd_readKey_30 : decode prog_3_method_6_code 30 = .ok (.ifCond .eq 11, 3) := by decide +kernel
theorem d_cRd_readKey_33 : decode prog_3_method_6_code 33 = .ok (.aload_n 0, 1) := by decide +kernel
theorem d_cRd_readKey_34 : decode prog_3_method_6_code 34 = .ok (.iload_n 1, 1) := by decide +kernel
theorem d_cRd_readKey_35 : decode prog_3_method_6_code 35 = .ok (.invokevirtual 92, 3) := by decide +kernel
theorem d_cRd_readKey_38 : decode prog_3_method_6_code 38 = .ok (.ifCond .ne 5, 3) := by decide +kernel
theorem d_cRd_readKey_43 : decode prog_3_method_6_code 43 = .ok (.aload_n 0, 1) := by decide +kernel
theorem d_cRd_readKey_44 : decode prog_3_method_6_code 44 = .ok (.iload_n 1, 1) := by decide +kernel
theorem d_cRd_readKey_45 : decode prog_3_method_6_code 45 = .ok (.putfield 44, 3) := by decide +kernel
theorem d_cRd_readKey_48 : decode prog_3_method_6_code 48 = .ok (.aload_n 0, 1) := by decide +kernel
theorem d_cRd_readKey_49 : decode prog_3_method_6_code 49 = .ok (.aload_n 0, 1) := by decide +kernel
theorem d_cRd_readKey_50 : decode prog_3_method_6_code 50 = .ok (.getfield 22, 3) := by decide +kernel
theorem d_cRd_readKey_53 : decode prog_3_method_6_code 53 = .ok (.getfield 67, 3) := by decide +kernel
theorem d_cRd_readKey_56 : decode prog_3_method_6_code 56 = .ok (.iload_n 1, 1) := by decide +kernel
theorem d_cRd_readKey_57 : decode prog_3_method_6_code 57 = .ok (.isub, 1) := by decide +kernel
theorem d_cRd_readKey_58 : decode prog_3_method_6_code 58 = .ok (.putfield 47, 3) := by decide +kernel
theorem d_cRd_readKey_61 : decode prog_3_method_6_code 61 = .ok (.aload_n 0, 1) := by decide +kernel
theorem d_cRd_readKey_62 : decode prog_3_method_6_code 62 = .ok (.dup, 1) := by decide +kernel
theorem d_cRd_readKey_63 : decode prog_3_method_6_code 63 = .ok (.getfield 34, 3) := by decide +kernel
theorem d_cRd_readKey_66 : decode prog_3_method_6_code 66 = .ok (.iconst 1, 1) := by decide +kernel
theorem d_cRd_readKey_67 : decode prog_3_method_6_code 67 = .ok (.iadd, 1) := by decide +kernel
theorem d_cRd_readKey_68 : decode prog_3_method_6_code 68 = .ok (.putfield 34, 3) := by decide +kernel
theorem d_cRd_readKey_71 : decode prog_3_method_6_code 71 = .ok (.aload_n 0, 1) := by decide +kernel
theorem d_cRd_readKey_72 : decode prog_3_method_6_code 72 = .ok (.invokevirtual 53, 3) := by decide +kernel
theorem d_cRd_readKey_75 : decode prog_3_method_6_code 75 = .ok (.aload_n 0, 1) := by decide +kernel
theorem d_cRd_readKey_76 : decode prog_3_method_6_code 76 = .ok (.getfield 27, 3) := by decide +kernel
theorem d_cRd_readKey_79 : decode prog_3_method_6_code 79 = .ok (.aload_n 0, 1) := by decide +kernel
theorem d_cRd_readKey_80 : decode prog_3_method_6_code 80 = .ok (.getfield 34, 3) := by decide +kernel
theorem d_cRd_readKey_83 : decode prog_3_method_6_code 83 = .ok (.invokevirtual 70, 3) := by decide +kernel
theorem d_cRd_readKey_86 : decode prog_3_method_6_code 86 = .ok (.bipush 58, 2) := by decide +kernel
theorem d_cRd_readKey_88 : decode prog_3_method_6_code 88 = .ok (.if_icmp .eq 5, 3) := by decide +kernel
theorem d_cRd_readKey_93 : decode prog_3_method_6_code 93 = .ok (.aload_n 0, 1) := by decide +kernel
theorem d_cRd_readKey_94 : decode prog_3_method_6_code 94 = .ok (.dup, 1) := by decide +kernel
theorem d_cRd_readKey_95 : decode prog_3_method_6_code 95 = .ok (.getfield 34, 3) := by decide +kernel
theorem d_cRd_readKey_98 : decode prog_3_method_6_code 98 = .ok (.iconst 1, 1) := by decide +kernel
theorem d_cRd_readKey_99 : decode prog_3_method_6_code 99 = .ok (.iadd, 1) := by decide +kernel
theorem d_cRd_readKey_100 : decode prog_3_method_6_code 100 = .ok (.putfield 34, 3) := by decide +kernel
theorem d_cRd_readKey_103 : decode prog_3_method_6_code 103 = .ok (.aload_n 0, 1) := by decide +kernel
theorem d_cRd_readKey_104 : decode prog_3_method_6_code 104 = .ok (.invokevirtual 53, 3) := by decide +kernel
theorem d_cRd_readKey_107 : decode prog_3_method_6_code 107 = .ok (.iconst 1, 1) := by decide +kernel
theorem d_cRd_readKey_108 : decode prog_3_method_6_code 108 = .ok (.ireturn, 1) := by decide +kernel
theorem d_cRd_readKey_91 : decode prog_3_method_6_code 91 = .ok (.iconst 0, 1) := by decide +kernel
theorem d_cRd_readKey_92 : decode prog_3_method_6_code 92 = .ok (.ireturn, 1) := by decide +kernel
set_option maxHeartbeats 4000000 in
set_option maxRecDepth 100000 in
theorem w_cRd_readKey_J0 {p : Program} {l : Launch} {e : Env} {s : State} {m : MethodId} {args : Array Value} {below : List Frame} {meth : Method} {c : Code} {A : Nat → Prop} {D : va_G} {ad : Nat → Nat → Nat} {cc : Nat → ClassId} {sad sav : Nat → Nat} {Q : State → Prop} (hC : MCc sad sav "JoinedTrees$JsonReader" prog_3_method_6_code 2 (some .boolean) p s m args meth c A D cc) {N : Nat → Nat} {x0 : Nat} {S : CS} {o : CS × Int32} (Heq : m_cRd_readKey_J0 N x0 S = some o) (Kr : ∀ r : CS × Int32, o = r → ∀ (pc : Nat) (H : Heap) (locs : List Loc) (ls : Array Slot), decode prog_3_method_6_code pc = .ok (.ireturn, 1) → (r.2 = 0 ∨ r.2 = 1) → va_P D cls (cw ad cc N r.1) H → va_D A (cw ad cc N r.1) → va_S A s.heap H locs → W p l e ({ frames := 3, cells := 0, slots := 0, locals := 72 }) s m args below meth c H locs 0 0 Q (F0 m pc ls [.int r.2])) : ∀ (H : Heap) (locs : List Loc) (ls : Array Slot), va_P D cls (cw ad cc N S) H → va_D A (cw ad cc N S) → va_S A s.heap H locs → lv_has ls 2 [(0, .ref (ad 1 x0))] → W p l e ({ frames := 3, cells := 0, slots := 0, locals := 72 }) s m args below meth c H locs 0 0 Q (F0 m 0 ls []) := by
  intro H locs ls hP hD hS hl
  obtain ⟨hx, hb, hr, hml, hown, hts, hK, hA, hev, hE, hN, hNS⟩ := id hC
  unfold m_cRd_readKey_J0 at Heq
  refine lv_aload_n hx hb d_cRd_readKey_0 rfl (lv_at hl 0 rfl) ?_
  obtain ⟨hl_x0_1, Heq⟩ := gl_some Heq
  refine va_get (D := D) (ci := 1) (v := rv ad 5 (S.r 1 1 x0)) (C := R_Rd) (T := F_Rd) (N := 10) hx hb hts i_Rd hown hK hP (cPos N 1 x0) (cw_obj (k := 1) (by decide) hl_x0_1) rfl 1 (by decide) (hts _ kw_344) (fun _ h9 => h9) rfl d_cRd_readKey_1 ?_
  obtain ⟨j_1, hj_2, hl_3, Heq⟩ := gn_some Heq
  refine w_s (st' := [.ref (ad 5 j_1)]) (congrArg (fun z9 : Option Nat => [rv ad 5 z9]) hj_2) ?_
  refine va_get (D := D) (ci := 5) (v := .int (S.i 5 1 j_1)) (C := R_Rw) (T := F_Rw) (N := 3) hx hb hts i_Rw hown hK hP (cPos N 5 j_1) (cw_obj (k := 5) (by decide) hl_3) rfl 1 (by decide) (hts _ kw_146) (fun _ h9 => h9) rfl d_cRd_readKey_4 ?_
  refine lv_istore_n (lv' := [(1, .int (S.i 5 1 j_1)), (0, .ref (ad 1 x0))]) hx hb d_cRd_readKey_7 rfl hl (by decide) rfl (fun ls hl => ?_)
  refine lv_aload_n hx hb d_cRd_readKey_8 rfl (lv_at hl 1 rfl) ?_
  refine va_get (D := D) (ci := 1) (v := rv ad 5 (S.r 1 2 x0)) (C := R_Rd) (T := F_Rd) (N := 10) hx hb hts i_Rd hown hK hP (cPos N 1 x0) (cw_obj (k := 1) (by decide) hl_x0_1) rfl 2 (by decide) (hts _ kw_346) (fun _ h9 => h9) rfl d_cRd_readKey_9 ?_
  refine lv_aload_n hx hb d_cRd_readKey_12 rfl (lv_at hl 1 rfl) ?_
  refine va_get (D := D) (ci := 1) (v := .int (S.i 1 4 x0)) (C := R_Rd) (T := F_Rd) (N := 10) hx hb hts i_Rd hown hK hP (cPos N 1 x0) (cw_obj (k := 1) (by decide) hl_x0_1) rfl 4 (by decide) (hts _ kw_349) (fun _ h9 => h9) rfl d_cRd_readKey_13 ?_
  obtain ⟨j_4, hj_5, hl_6, Heq⟩ := gn_some Heq
  refine w_s (st' := [.int (S.i 1 4 x0), .ref (ad 5 j_4)]) (congrArg (fun z9 : Option Nat => [.int (S.i 1 4 x0), rv ad 5 z9]) hj_5) ?_
  obtain ⟨o_7, h_8, Heq⟩ := ob_some Heq
  have hFc := fr_all hD hS hA
  refine va_calli (va_runV (As := [.int (S.i 1 4 x0)]) (rest := []) ⟨hx, hb, hml, hown, hts⟩ (g_cRw_at l D H.size (ad := ad) (cc := cc) (sad := sad) (sav := sav) h_8) (cw_v 1 hts kw_689 kw_871 kw_687 kw_688 kw_4 rfl rfl (by decide +kernel) ⟨Nat.le_of_ble_eq_true rfl, Nat.le_of_ble_eq_true rfl⟩) ⟨c_blind, va_recv hK hP (ci := 5) (q0 := cPos N 5 j_4) rfl (cw_obj (k := 5) (by decide) hl_6), fun U hU hW => c_pre hU hW hP hK hD hev hE hN hNS hS hFc⟩ rfl rfl hl.1 rfl (lv_room (Nat.le_of_ble_eq_true rfl)) d_cRd_readKey_16 ⟨Nat.le_of_ble_eq_true rfl, Nat.le_of_ble_eq_true rfl⟩) hS (fun q _ h => hFc q h) hFc (fun rz u t H1 locs ht hvm hw hB hz1 hk1 hS => ?_)
  obtain ⟨hP, -, hD1⟩ := hB
  rw [ht] at hP
  have hD := hD1.weaken (fun _ q _ h => hFc q.1 h)
  generalize H1 = H at hP hS ⊢
  refine W.cs (cells' := 0) (slots' := 0) rfl rfl ?_
  subst hw
  refine lv_bipush (v := 34) hx hb d_cRd_readKey_19 (by decide) ?_
  refine lv_icmp_ne (tgt := 41) hx hb d_cRd_readKey_21 (by decide) (fun c_9 => ?_) (fun c_9 => ?_)
  · replace Heq := (if_neg c_9).symm.trans Heq
    exact w_cRd_readKey_J41 hC Heq Kr _ _ _ hP hD hS (lv_sub hl [1] rfl)
  · replace Heq := (if_pos c_9).symm.trans Heq
    refine lv_aload_n hx hb d_cRd_readKey_24 rfl (lv_at hl 1 rfl) ?_
    refine lv_bipush (v := 64) hx hb d_cRd_readKey_25 (by decide) ?_
    obtain ⟨o_10, h_11, Heq⟩ := ob_some Heq
    have hFc := fr_all hD hS hA
    refine va_calli (va_runV (As := [.int 64]) (rest := []) ⟨hx, hb, hml, hown, hts⟩ (g_cRd_readString l D H.size (ad := ad) (cc := cc) (sad := sad) (sav := sav) h_11) (cw_v 1 hts kw_894 kw_891 kw_892 kw_893 kw_7 rfl rfl (by decide +kernel) ⟨Nat.le_of_ble_eq_true rfl, Nat.le_of_ble_eq_true rfl⟩) ⟨c_blind, va_recv hK hP (ci := 1) (q0 := cPos N 1 x0) rfl (cw_obj (k := 1) (by decide) hl_x0_1), fun U hU hW => c_pre hU hW hP hK hD hev hE hN hNS hS hFc⟩ rfl rfl hl.1 rfl (lv_room (Nat.le_of_ble_eq_true rfl)) d_cRd_readKey_27 ⟨Nat.le_of_ble_eq_true rfl, Nat.le_of_ble_eq_true rfl⟩) hS (fun q _ h => hFc q h) hFc (fun rz u t H1 locs ht hvm hw hB hz1 hk1 hS => ?_)
    obtain ⟨hP, -, hD1⟩ := hB
    rw [ht] at hP
    have hD := hD1.weaken (fun _ q _ h => hFc q.1 h)
    generalize H1 = H at hP hS ⊢
    refine W.cs (cells' := 0) (slots' := 0) rfl rfl ?_
    subst hw
    refine lv_if_eq (tgt := 41) hx hb d_cRd_readKey_30 (by decide) (fun c_12 => ?_) (fun c_12 => ?_)
    · replace Heq := (if_pos c_12).symm.trans Heq
      exact w_cRd_readKey_J41 hC Heq Kr _ _ _ hP hD hS (lv_sub hl [1] rfl)
    · replace Heq := (if_neg c_12).symm.trans Heq
      refine lv_aload_n hx hb d_cRd_readKey_33 rfl (lv_at hl 1 rfl) ?_
      refine lv_iload_n hx hb d_cRd_readKey_34 rfl (lv_at hl 0 rfl) ?_
      obtain ⟨o_13, h_14, Heq⟩ := ob_some Heq
      have hFc := fr_all hD hS hA
      refine va_calli (va_runV (As := [.int (S.i 5 1 j_1)]) (rest := []) ⟨hx, hb, hml, hown, hts⟩ (g_cRd_isNewKey l D H.size (ad := ad) (cc := cc) (sad := sad) (sav := sav) h_14) (cw_v 1 hts kw_978 kw_975 kw_976 kw_977 kw_7 rfl rfl (by decide +kernel) ⟨Nat.le_of_ble_eq_true rfl, Nat.le_of_ble_eq_true rfl⟩) ⟨c_blind, va_recv hK hP (ci := 1) (q0 := cPos N 1 x0) rfl (cw_obj (k := 1) (by decide) hl_x0_1), fun U hU hW => c_pre hU hW hP hK hD hev hE hN hNS hS hFc⟩ rfl rfl hl.1 rfl (lv_room (Nat.le_of_ble_eq_true rfl)) d_cRd_readKey_35 ⟨Nat.le_of_ble_eq_true rfl, Nat.le_of_ble_eq_true rfl⟩) hS (fun q _ h => hFc q h) hFc (fun rz u t H1 locs ht hvm hw hB hz1 hk1 hS => ?_)
      obtain ⟨hP, -, hD1⟩ := hB
      rw [ht] at hP
      have hD := hD1.weaken (fun _ q _ h => hFc q.1 h)
      generalize H1 = H at hP hS ⊢
      refine W.cs (cells' := 0) (slots' := 0) rfl rfl ?_
      subst hw
      refine lv_if_ne (tgt := 43) hx hb d_cRd_readKey_38 (by decide) (fun c_15 => ?_) (fun c_15 => ?_)
      · replace Heq := (if_neg c_15).symm.trans Heq
        refine lv_aload_n hx hb d_cRd_readKey_43 rfl (lv_at hl 1 rfl) ?_
        refine lv_iload_n hx hb d_cRd_readKey_44 rfl (lv_at hl 0 rfl) ?_
        refine va_put (D := D) (ci := 1) (v := .int (S.i 5 1 j_1)) (ty := .int) (C := R_Rd) (T := F_Rd) (N := 10) hx hb hts i_Rd t_Rd t_Rd_ok n_Rd hown hK hP hD hS (cPos N 1 x0) (cw_obj (k := 1) (by decide) hl_x0_1) rfl 8 (by decide) (hts _ kw_354) (fun _ h9 => h9) rfl (by decide +kernel) rfl rfl (Nat.le_of_ble_eq_true rfl) d_cRd_readKey_45 (fun H locs hP hD hS => ?_)
        have hD := (congrArg (fun w9 => va_D A w9) (cw_setI (ad := ad) (cc := cc) (S := o_13.1) (k := 1) (f := 8) (v := S.i 5 1 j_1) (by decide) rfl hl_x0_1)).mp hD
        have hP := (congrArg (fun w9 => va_P D cls w9 H) (cw_setI (ad := ad) (cc := cc) (S := o_13.1) (k := 1) (f := 8) (v := S.i 5 1 j_1) (by decide) rfl hl_x0_1)).mp hP
        refine lv_aload_n hx hb d_cRd_readKey_48 rfl (lv_at hl 1 rfl) ?_
        refine lv_aload_n hx hb d_cRd_readKey_49 rfl (lv_at hl 1 rfl) ?_
        refine va_get (D := D) (ci := 1) (v := rv ad 5 ((o_13.1.setI 1 8 x0 (S.i 5 1 j_1)).r 1 1 x0)) (C := R_Rd) (T := F_Rd) (N := 10) hx hb hts i_Rd hown hK hP (cPos N 1 x0) (cw_obj (k := 1) (by decide) hl_x0_1) rfl 1 (by decide) (hts _ kw_344) (fun _ h9 => h9) rfl d_cRd_readKey_50 ?_
        refine w_v (y := rv ad 5 (o_13.1.r 1 1 x0)) (congrArg (rv ad 5) rfl) ?_
        obtain ⟨j_16, hj_17, hl_18, Heq⟩ := gn_some Heq
        refine w_s (st' := [.ref (ad 5 j_16), .ref (ad 1 x0)]) (congrArg (fun z9 : Option Nat => [rv ad 5 z9, .ref (ad 1 x0)]) hj_17) ?_
        refine va_get (D := D) (ci := 5) (v := .int ((o_13.1.setI 1 8 x0 (S.i 5 1 j_1)).i 5 1 j_16)) (C := R_Rw) (T := F_Rw) (N := 3) hx hb hts i_Rw hown hK hP (cPos N 5 j_16) (cw_obj (k := 5) (by decide) hl_18) rfl 1 (by decide) (hts _ kw_146) (fun _ h9 => h9) rfl d_cRd_readKey_53 ?_
        refine w_i (y := o_13.1.i 5 1 j_16) rfl ?_
        refine lv_iload_n hx hb d_cRd_readKey_56 rfl (lv_at hl 0 rfl) ?_
        refine lv_isub hx hb d_cRd_readKey_57 ?_
        refine w_i (y := (o_13.1.i 5 1 j_16) - (S.i 5 1 j_1)) rfl ?_
        refine va_put (D := D) (ci := 1) (v := .int ((o_13.1.i 5 1 j_16) - (S.i 5 1 j_1))) (ty := .int) (C := R_Rd) (T := F_Rd) (N := 10) hx hb hts i_Rd t_Rd t_Rd_ok n_Rd hown hK hP hD hS (cPos N 1 x0) (cw_obj (k := 1) (by decide) hl_x0_1) rfl 9 (by decide) (hts _ kw_355) (fun _ h9 => h9) rfl (by decide +kernel) rfl rfl (Nat.le_of_ble_eq_true rfl) d_cRd_readKey_58 (fun H locs hP hD hS => ?_)
        have hD := (congrArg (fun w9 => va_D A w9) (cw_setI (ad := ad) (cc := cc) (S := (o_13.1.setI 1 8 x0 (S.i 5 1 j_1))) (k := 1) (f := 9) (v := (o_13.1.i 5 1 j_16) - (S.i 5 1 j_1)) (by decide) rfl hl_x0_1)).mp hD
        have hP := (congrArg (fun w9 => va_P D cls w9 H) (cw_setI (ad := ad) (cc := cc) (S := (o_13.1.setI 1 8 x0 (S.i 5 1 j_1))) (k := 1) (f := 9) (v := (o_13.1.i 5 1 j_16) - (S.i 5 1 j_1)) (by decide) rfl hl_x0_1)).mp hP
        refine lv_aload_n hx hb d_cRd_readKey_61 rfl (lv_at hl 1 rfl) ?_
        refine lv_dup hx hb d_cRd_readKey_62 (by first | rfl | exact rv_cat) ?_
        refine va_get (D := D) (ci := 1) (v := .int (((o_13.1.setI 1 8 x0 (S.i 5 1 j_1)).setI 1 9 x0 ((o_13.1.i 5 1 j_16) - (S.i 5 1 j_1))).i 1 4 x0)) (C := R_Rd) (T := F_Rd) (N := 10) hx hb hts i_Rd hown hK hP (cPos N 1 x0) (cw_obj (k := 1) (by decide) hl_x0_1) rfl 4 (by decide) (hts _ kw_349) (fun _ h9 => h9) rfl d_cRd_readKey_63 ?_
        refine w_i (y := o_13.1.i 1 4 x0) rfl ?_
        refine lv_iconst (v := 1) hx hb d_cRd_readKey_66 (by decide) ?_
        refine lv_iadd hx hb d_cRd_readKey_67 ?_
        refine w_i (y := (o_13.1.i 1 4 x0) + 1) rfl ?_
        refine va_put (D := D) (ci := 1) (v := .int ((o_13.1.i 1 4 x0) + 1)) (ty := .int) (C := R_Rd) (T := F_Rd) (N := 10) hx hb hts i_Rd t_Rd t_Rd_ok n_Rd hown hK hP hD hS (cPos N 1 x0) (cw_obj (k := 1) (by decide) hl_x0_1) rfl 4 (by decide) (hts _ kw_349) (fun _ h9 => h9) rfl (by decide +kernel) rfl rfl (Nat.le_of_ble_eq_true rfl) d_cRd_readKey_68 (fun H locs hP hD hS => ?_)
        have hD := (congrArg (fun w9 => va_D A w9) (cw_setI (ad := ad) (cc := cc) (S := ((o_13.1.setI 1 8 x0 (S.i 5 1 j_1)).setI 1 9 x0 ((o_13.1.i 5 1 j_16) - (S.i 5 1 j_1)))) (k := 1) (f := 4) (v := (o_13.1.i 1 4 x0) + 1) (by decide) rfl hl_x0_1)).mp hD
        have hP := (congrArg (fun w9 => va_P D cls w9 H) (cw_setI (ad := ad) (cc := cc) (S := ((o_13.1.setI 1 8 x0 (S.i 5 1 j_1)).setI 1 9 x0 ((o_13.1.i 5 1 j_16) - (S.i 5 1 j_1)))) (k := 1) (f := 4) (v := (o_13.1.i 1 4 x0) + 1) (by decide) rfl hl_x0_1)).mp hP
        refine lv_aload_n hx hb d_cRd_readKey_71 rfl (lv_at hl 1 rfl) ?_
        obtain ⟨o_19, h_20, Heq⟩ := ob_some Heq
        have hFc := fr_all hD hS hA
        refine va_callv (va_runV (As := []) (rest := []) ⟨hx, hb, hml, hown, hts⟩ (g_cRd_skipBlanks l D H.size (ad := ad) (cc := cc) (sad := sad) (sav := sav) h_20) (cw_v 0 hts kw_870 kw_867 kw_868 kw_869 kw_7 rfl rfl (by decide +kernel) ⟨Nat.le_of_ble_eq_true rfl, Nat.le_of_ble_eq_true rfl⟩) ⟨c_blind, va_recv hK hP (ci := 1) (q0 := cPos N 1 x0) rfl (cw_obj (k := 1) (by decide) hl_x0_1), fun U hU hW => c_pre hU hW hP hK hD hev hE hN hNS hS hFc⟩ rfl rfl hl.1 rfl (lv_room (Nat.le_of_ble_eq_true rfl)) d_cRd_readKey_72 ⟨Nat.le_of_ble_eq_true rfl, Nat.le_of_ble_eq_true rfl⟩) hS (fun q _ h => hFc q h) hFc (fun u t H1 locs ht hvm hw hB hz1 hk1 hS => ?_)
        obtain ⟨hP, -, hD1⟩ := hB
        rw [ht] at hP
        have hD := hD1.weaken (fun _ q _ h => hFc q.1 h)
        generalize H1 = H at hP hS ⊢
        refine W.cs (cells' := 0) (slots' := 0) rfl rfl ?_
        refine lv_aload_n hx hb d_cRd_readKey_75 rfl (lv_at hl 1 rfl) ?_
        refine va_get (D := D) (ci := 1) (v := rv ad 5 (o_19.r 1 2 x0)) (C := R_Rd) (T := F_Rd) (N := 10) hx hb hts i_Rd hown hK hP (cPos N 1 x0) (cw_obj (k := 1) (by decide) hl_x0_1) rfl 2 (by decide) (hts _ kw_346) (fun _ h9 => h9) rfl d_cRd_readKey_76 ?_
        refine lv_aload_n hx hb d_cRd_readKey_79 rfl (lv_at hl 1 rfl) ?_
        refine va_get (D := D) (ci := 1) (v := .int (o_19.i 1 4 x0)) (C := R_Rd) (T := F_Rd) (N := 10) hx hb hts i_Rd hown hK hP (cPos N 1 x0) (cw_obj (k := 1) (by decide) hl_x0_1) rfl 4 (by decide) (hts _ kw_349) (fun _ h9 => h9) rfl d_cRd_readKey_80 ?_
        obtain ⟨j_21, hj_22, hl_23, Heq⟩ := gn_some Heq
        refine w_s (st' := [.int (o_19.i 1 4 x0), .ref (ad 5 j_21)]) (congrArg (fun z9 : Option Nat => [.int (o_19.i 1 4 x0), rv ad 5 z9]) hj_22) ?_
        obtain ⟨o_24, h_25, Heq⟩ := ob_some Heq
        have hFc := fr_all hD hS hA
        refine va_calli (va_runV (As := [.int (o_19.i 1 4 x0)]) (rest := []) ⟨hx, hb, hml, hown, hts⟩ (g_cRw_at l D H.size (ad := ad) (cc := cc) (sad := sad) (sav := sav) h_25) (cw_v 1 hts kw_689 kw_871 kw_687 kw_688 kw_4 rfl rfl (by decide +kernel) ⟨Nat.le_of_ble_eq_true rfl, Nat.le_of_ble_eq_true rfl⟩) ⟨c_blind, va_recv hK hP (ci := 5) (q0 := cPos N 5 j_21) rfl (cw_obj (k := 5) (by decide) hl_23), fun U hU hW => c_pre hU hW hP hK hD hev hE hN hNS hS hFc⟩ rfl rfl hl.1 rfl (lv_room (Nat.le_of_ble_eq_true rfl)) d_cRd_readKey_83 ⟨Nat.le_of_ble_eq_true rfl, Nat.le_of_ble_eq_true rfl⟩) hS (fun q _ h => hFc q h) hFc (fun rz u t H1 locs ht hvm hw hB hz1 hk1 hS => ?_)
        obtain ⟨hP, -, hD1⟩ := hB
        rw [ht] at hP
        have hD := hD1.weaken (fun _ q _ h => hFc q.1 h)
        generalize H1 = H at hP hS ⊢
        refine W.cs (cells' := 0) (slots' := 0) rfl rfl ?_
        subst hw
        refine lv_bipush (v := 58) hx hb d_cRd_readKey_86 (by decide) ?_
        refine lv_icmp_eq (tgt := 93) hx hb d_cRd_readKey_88 (by decide) (fun c_26 => ?_) (fun c_26 => ?_)
        · replace Heq := (if_pos c_26).symm.trans Heq
          refine lv_aload_n hx hb d_cRd_readKey_93 rfl (lv_at hl 1 rfl) ?_
          refine lv_dup hx hb d_cRd_readKey_94 (by first | rfl | exact rv_cat) ?_
          refine va_get (D := D) (ci := 1) (v := .int (o_24.1.i 1 4 x0)) (C := R_Rd) (T := F_Rd) (N := 10) hx hb hts i_Rd hown hK hP (cPos N 1 x0) (cw_obj (k := 1) (by decide) hl_x0_1) rfl 4 (by decide) (hts _ kw_349) (fun _ h9 => h9) rfl d_cRd_readKey_95 ?_
          refine lv_iconst (v := 1) hx hb d_cRd_readKey_98 (by decide) ?_
          refine lv_iadd hx hb d_cRd_readKey_99 ?_
          refine w_i (y := (o_24.1.i 1 4 x0) + 1) rfl ?_
          refine va_put (D := D) (ci := 1) (v := .int ((o_24.1.i 1 4 x0) + 1)) (ty := .int) (C := R_Rd) (T := F_Rd) (N := 10) hx hb hts i_Rd t_Rd t_Rd_ok n_Rd hown hK hP hD hS (cPos N 1 x0) (cw_obj (k := 1) (by decide) hl_x0_1) rfl 4 (by decide) (hts _ kw_349) (fun _ h9 => h9) rfl (by decide +kernel) rfl rfl (Nat.le_of_ble_eq_true rfl) d_cRd_readKey_100 (fun H locs hP hD hS => ?_)
          have hD := (congrArg (fun w9 => va_D A w9) (cw_setI (ad := ad) (cc := cc) (S := o_24.1) (k := 1) (f := 4) (v := (o_24.1.i 1 4 x0) + 1) (by decide) rfl hl_x0_1)).mp hD
          have hP := (congrArg (fun w9 => va_P D cls w9 H) (cw_setI (ad := ad) (cc := cc) (S := o_24.1) (k := 1) (f := 4) (v := (o_24.1.i 1 4 x0) + 1) (by decide) rfl hl_x0_1)).mp hP
          refine lv_aload_n hx hb d_cRd_readKey_103 rfl (lv_at hl 1 rfl) ?_
          obtain ⟨o_27, h_28, Heq⟩ := ob_some Heq
          have hFc := fr_all hD hS hA
          refine va_callv (va_runV (As := []) (rest := []) ⟨hx, hb, hml, hown, hts⟩ (g_cRd_skipBlanks l D H.size (ad := ad) (cc := cc) (sad := sad) (sav := sav) h_28) (cw_v 0 hts kw_870 kw_867 kw_868 kw_869 kw_7 rfl rfl (by decide +kernel) ⟨Nat.le_of_ble_eq_true rfl, Nat.le_of_ble_eq_true rfl⟩) ⟨c_blind, va_recv hK hP (ci := 1) (q0 := cPos N 1 x0) rfl (cw_obj (k := 1) (by decide) hl_x0_1), fun U hU hW => c_pre hU hW hP hK hD hev hE hN hNS hS hFc⟩ rfl rfl hl.1 rfl (lv_room (Nat.le_of_ble_eq_true rfl)) d_cRd_readKey_104 ⟨Nat.le_of_ble_eq_true rfl, Nat.le_of_ble_eq_true rfl⟩) hS (fun q _ h => hFc q h) hFc (fun u t H1 locs ht hvm hw hB hz1 hk1 hS => ?_)
          obtain ⟨hP, -, hD1⟩ := hB
          rw [ht] at hP
          have hD := hD1.weaken (fun _ q _ h => hFc q.1 h)
          generalize H1 = H at hP hS ⊢
          refine W.cs (cells' := 0) (slots' := 0) rfl rfl ?_
          refine lv_iconst (v := 1) hx hb d_cRd_readKey_107 (by decide) ?_
          exact Kr _ (Option.some.inj Heq).symm 108 _ _ _ d_cRd_readKey_108 (Or.inr rfl) hP hD hS
        · replace Heq := (if_neg c_26).symm.trans Heq
          refine lv_iconst (v := 0) hx hb d_cRd_readKey_91 (by decide) ?_
          exact Kr _ (Option.some.inj Heq).symm 92 _ _ _ d_cRd_readKey_92 (Or.inl rfl) hP hD hS
      · replace Heq := (if_pos c_15).symm.trans Heq
        exact w_cRd_readKey_J41 hC Heq Kr _ _ _ hP hD hS (lv_sub hl [1] rfl)
def m_cRd_readKey (N : Nat → Nat) (x0 : Nat) (S : CS) : Option (CS × Int32) := m_cRd_readKey_J0 N x0 S
set_option maxHeartbeats 4000000 in
theorem g_cRd_readKey (l : Launch) (D : va_G) (sz : Nat) {ad : Nat → Nat → Nat} {cc : Nat → ClassId} {sad sav : Nat → Nat} {N : Nat → Nat} {x0 : Nat} {S : CS} {o : CS × Int32} (Heq : m_cRd_readKey N x0 S = some o) : Met l ⟨"JoinedTrees$JsonReader", "readKey", "()Z"⟩ (Cond.code ⟨"JoinedTrees$JsonReader", "readKey", "()Z"⟩ prog_3_method_6_code 2 (some .boolean) :: gb) ({ frames := 3, cells := 0, slots := 0, locals := 72 }) (cPc sad sav D (cw ad cc N S) (cty cc) sz [.ref (ad 1 x0)]) (va_Qi (fun (r : Int32) (_ : Unit) => r = o.2) (fun _ t => gO D (cw ad cc N o.1) (cty cc) (va_A (cw ad cc N S) sz) t) (va_A (cw ad cc N S) sz)) 0 0 (va_A (cw ad cc N S) sz) := by
  refine Met.ofW (cc := prog_3_method_6_code) (maxL := 2) (ret := (some .boolean)) (by decide) rfl ?_
  intro p e s m args below meth c s₁ B hml hv
  obtain ⟨rfl, hsz, hP, hK, hD0, hev, hE, hN⟩ := hv
  have hx := B.exec
  have hb := B.bytes
  have hr := B.returns
  have hts : ∀ w9 ∈ gb, w9.before [.ref (ad 1 x0)].toArray s = true := fun w9 h => atoms_spec (ws := Cond.code ⟨"JoinedTrees$JsonReader", "readKey", "()Z"⟩ prog_3_method_6_code 2 (some .boolean) :: gb) B.pre w9 (List.mem_cons_of_mem _ h)
  have hown : s.vm.findClass "JoinedTrees$JsonReader" = some m.cls := findClass_of_methodNamed B.named
  have hlocks := B.notSynchronized
  have hNS := ns_of hP
  subst hsz
  have hD := hD0.self (sz := s.heap.size)
  generalize hAe : va_A (cw ad cc N S) s.heap.size = A at hD hev hE hNS ⊢
  have hA : ∀ q : Nat, s.heap.size ≤ q → A q := fun q h => by rw [← hAe]; exact Or.inr h
  have hS : va_S A s.heap s.heap [] := va_S.rf
  obtain ⟨ls, hl, hle⟩ : ∃ ls : Array Slot, lv_has ls 2 [(0, .ref (ad 1 x0))] ∧ entryFrame m ([.ref (ad 1 x0)] : List Value).toArray 2 = F0 m 0 ls [] := by
    exact ⟨_, lv_entry (n := 2) _ (Nat.le_of_ble_eq_true rfl), lg_entry_eq ..⟩
  rw [hle]
  refine w_cRd_readKey_J0 ⟨hx, hb, hr, hml, hown, hts, hK, hA, hev, hE, hN, hNS⟩ Heq (fun r h pc H locs ls hd hz hP hD hS => ?_) _ _ _ hP hD hS (lv_sub hl [0] rfl)
  subst h
  exact W.zret (ty := .boolean) hx hb hr (by rcases hz with hz | hz <;> rw [hz] <;> rfl) (fun t ht hW => ⟨⟨_, (), rfl, rfl, by rw [ht]; exact hP, va_K.moved hW.alike hK, hD⟩, hS.F ht⟩) hS.2.2 hd
def m_cRd_readInside_J149 (N : Nat → Nat) (x0 : Nat) (S : CS) (t0 : Int32) : Option (CS × Int32) := (if t0 = 0 ∨ t0 = 1 then some (S, t0) else none)
theorem d_cRd_readInside_0 : decode prog_3_method_5_code 0 = .ok (.aload_n 0, 1) := by decide +kernel
theorem d_cRd_readInside_1 : decode prog_3_method_5_code 1 = .ok (.invokevirtual 53, 3) := by decide +kernel
theorem d_cRd_readInside_4 : decode prog_3_method_5_code 4 = .ok (.aload_n 0, 1) := by decide +kernel
theorem d_cRd_readInside_5 : decode prog_3_method_5_code 5 = .ok (.getfield 27, 3) := by decide +kernel
theorem d_cRd_readInside_8 : decode prog_3_method_5_code 8 = .ok (.aload_n 0, 1) := by decide +kernel
theorem d_cRd_readInside_9 : decode prog_3_method_5_code 9 = .ok (.getfield 34, 3) := by decide +kernel
theorem d_cRd_readInside_12 : decode prog_3_method_5_code 12 = .ok (.invokevirtual 70, 3) := by decide +kernel
theorem d_cRd_readInside_15 : decode prog_3_method_5_code 15 = .ok (.aload_n 0, 1) := by decide +kernel
theorem d_cRd_readInside_16 : decode prog_3_method_5_code 16 = .ok (.getfield 40, 3) := by decide +kernel
theorem d_cRd_readInside_19 : decode prog_3_method_5_code 19 = .ok (.getfield 77, 3) := by decide +kernel
theorem d_cRd_readInside_22 : decode prog_3_method_5_code 22 = .ok (.bipush 6, 2) := by decide +kernel
theorem d_cRd_readInside_24 : decode prog_3_method_5_code 24 = .ok (.if_icmp .ne 8, 3) := by decide +kernel
theorem d_cRd_readInside_32 : decode prog_3_method_5_code 32 = .ok (.bipush 93, 2) := by decide +kernel
theorem d_cRd_readInside_34 : decode prog_3_method_5_code 34 = .ok (.if_icmp .ne 36, 3) := by decide +kernel
theorem d_cRd_readInside_70 : decode prog_3_method_5_code 70 = .ok (.aload_n 0, 1) := by decide +kernel
theorem d_cRd_readInside_71 : decode prog_3_method_5_code 71 = .ok (.getfield 40, 3) := by decide +kernel
theorem d_cRd_readInside_74 : decode prog_3_method_5_code 74 = .ok (.getfield 83, 3) := by decide +kernel
theorem d_cRd_readInside_77 : decode prog_3_method_5_code 77 = .ok (.ifCond .eq 35, 3) := by decide +kernel
theorem d_cRd_readInside_112 : decode prog_3_method_5_code 112 = .ok (.aload_n 0, 1) := by decide +kernel
theorem d_cRd_readInside_113 : decode prog_3_method_5_code 113 = .ok (.getfield 40, 3) := by decide +kernel
theorem d_cRd_readInside_116 : decode prog_3_method_5_code 116 = .ok (.iconst 1, 1) := by decide +kernel
theorem d_cRd_readInside_117 : decode prog_3_method_5_code 117 = .ok (.putfield 83, 3) := by decide +kernel
theorem d_cRd_readInside_120 : decode prog_3_method_5_code 120 = .ok (.aload_n 0, 1) := by decide +kernel
theorem d_cRd_readInside_121 : decode prog_3_method_5_code 121 = .ok (.iconst 1, 1) := by decide +kernel
theorem d_cRd_readInside_122 : decode prog_3_method_5_code 122 = .ok (.putfield 63, 3) := by decide +kernel
theorem d_cRd_readInside_125 : decode prog_3_method_5_code 125 = .ok (.aload_n 0, 1) := by decide +kernel
theorem d_cRd_readInside_126 : decode prog_3_method_5_code 126 = .ok (.getfield 40, 3) := by decide +kernel
theorem d_cRd_readInside_129 : decode prog_3_method_5_code 129 = .ok (.getfield 77, 3) := by decide +kernel
theorem d_cRd_readInside_132 : decode prog_3_method_5_code 132 = .ok (.bipush 6, 2) := by decide +kernel
theorem d_cRd_readInside_134 : decode prog_3_method_5_code 134 = .ok (.if_icmp .ne 10, 3) := by decide +kernel
theorem d_cRd_readInside_144 : decode prog_3_method_5_code 144 = .ok (.iconst 1, 1) := by decide +kernel
theorem d_cRd_readInside_145 : decode prog_3_method_5_code 145 = .ok (.goto 4, 3) := by decide +kernel
theorem d_cRd_readInside_149 : decode prog_3_method_5_code 149 = .ok (.ireturn, 1) := by decide +kernel
set_option maxHeartbeats 4000000 in
set_option maxRecDepth 100000 in
theorem w_cRd_readInside_J149 {p : Program} {l : Launch} {e : Env} {s : State} {m : MethodId} {args : Array Value} {below : List Frame} {meth : Method} {c : Code} {A : Nat → Prop} {D : va_G} {ad : Nat → Nat → Nat} {cc : Nat → ClassId} {sad sav : Nat → Nat} {Q : State → Prop} (hC : MCc sad sav "JoinedTrees$JsonReader" prog_3_method_5_code 1 (some .boolean) p s m args meth c A D cc) {N : Nat → Nat} {x0 : Nat} {S : CS} {t0 : Int32} {o : CS × Int32} (Heq : m_cRd_readInside_J149 N x0 S t0 = some o) (Kr : ∀ r : CS × Int32, o = r → ∀ (pc : Nat) (H : Heap) (locs : List Loc) (ls : Array Slot), decode prog_3_method_5_code pc = .ok (.ireturn, 1) → (r.2 = 0 ∨ r.2 = 1) → va_P D cls (cw ad cc N r.1) H → va_D A (cw ad cc N r.1) → va_S A s.heap H locs → W p l e ({ frames := 4, cells := 0, slots := 0, locals := 93 }) s m args below meth c H locs 0 0 Q (F0 m pc ls [.int r.2])) : ∀ (H : Heap) (locs : List Loc) (ls : Array Slot), va_P D cls (cw ad cc N S) H → va_D A (cw ad cc N S) → va_S A s.heap H locs → lv_has ls 1 [(0, .ref (ad 1 x0))] → W p l e ({ frames := 4, cells := 0, slots := 0, locals := 93 }) s m args below meth c H locs 0 0 Q (F0 m 149 ls [.int t0]) := by
  intro H locs ls hP hD hS hl
  obtain ⟨hx, hb, hr, hml, hown, hts, hK, hA, hev, hE, hN, hNS⟩ := id hC
  unfold m_cRd_readInside_J149 at Heq
  by_cases hz_1 : t0 = 0 ∨ t0 = 1
  case neg => rw [if_neg hz_1] at Heq; cases Heq
  replace Heq := (if_pos hz_1).symm.trans Heq
  exact Kr _ (Option.some.inj Heq).symm 149 _ _ _ d_cRd_readInside_149 hz_1 hP hD hS
def m_cRd_readInside_J144 (N : Nat → Nat) (x0 : Nat) (S : CS) : Option (CS × Int32) := m_cRd_readInside_J149 N x0 S 1
set_option maxHeartbeats 4000000 in
set_option maxRecDepth 100000 in
theorem w_cRd_readInside_J144 {p : Program} {l : Launch} {e : Env} {s : State} {m : MethodId} {args : Array Value} {below : List Frame} {meth : Method} {c : Code} {A : Nat → Prop} {D : va_G} {ad : Nat → Nat → Nat} {cc : Nat → ClassId} {sad sav : Nat → Nat} {Q : State → Prop} (hC : MCc sad sav "JoinedTrees$JsonReader" prog_3_method_5_code 1 (some .boolean) p s m args meth c A D cc) {N : Nat → Nat} {x0 : Nat} {S : CS} {o : CS × Int32} (Heq : m_cRd_readInside_J144 N x0 S = some o) (Kr : ∀ r : CS × Int32, o = r → ∀ (pc : Nat) (H : Heap) (locs : List Loc) (ls : Array Slot), decode prog_3_method_5_code pc = .ok (.ireturn, 1) → (r.2 = 0 ∨ r.2 = 1) → va_P D cls (cw ad cc N r.1) H → va_D A (cw ad cc N r.1) → va_S A s.heap H locs → W p l e ({ frames := 4, cells := 0, slots := 0, locals := 93 }) s m args below meth c H locs 0 0 Q (F0 m pc ls [.int r.2])) : ∀ (H : Heap) (locs : List Loc) (ls : Array Slot), va_P D cls (cw ad cc N S) H → va_D A (cw ad cc N S) → va_S A s.heap H locs → lv_has ls 1 [(0, .ref (ad 1 x0))] → W p l e ({ frames := 4, cells := 0, slots := 0, locals := 93 }) s m args below meth c H locs 0 0 Q (F0 m 144 ls []) := by
  intro H locs ls hP hD hS hl
  obtain ⟨hx, hb, hr, hml, hown, hts, hK, hA, hev, hE, hN, hNS⟩ := id hC
  unfold m_cRd_readInside_J144 at Heq
  refine lv_iconst (v := 1) hx hb d_cRd_readInside_144 (by decide) ?_
  refine lv_goto (tgt := 149) hx hb d_cRd_readInside_145 (by decide) ?_
  exact w_cRd_readInside_J149 hC Heq Kr _ _ _ hP hD hS (lv_sub hl [0] rfl)
def m_cRd_readInside_J112 (N : Nat → Nat) (x0 : Nat) (S : CS) : Option (CS × Int32) := gl x0 (N 1) (gn (S.r 1 6 x0) (N 9) (fun j_1 => (if S.i 9 0 j_1 = 6 then ob (m_cRd_readKey N x0 ((S.setI 9 7 j_1 1).setI 1 7 x0 1)) (fun o_5 => (if o_5.2 = 0 then m_cRd_readInside_J149 N x0 o_5.1 0 else m_cRd_readInside_J144 N x0 o_5.1)) else m_cRd_readInside_J144 N x0 ((S.setI 9 7 j_1 1).setI 1 7 x0 1))))
theorem d_cRd_readInside_137 : decode prog_3_method_5_code 137 = .ok (.aload_n 0, 1) := by decide +kernel
theorem d_cRd_readInside_138 : decode prog_3_method_5_code 138 = .ok (.invokevirtual 86, 3) := by decide +kernel
theorem d_cRd_readInside_141 : decode prog_3_method_5_code 141 = .ok (.ifCond .eq 7, 3) := by decide +kernel
theorem d_cRd_readInside_148 : decode prog_3_method_5_code 148 = .ok (.iconst 0, 1) := by decide +kernel
set_option maxHeartbeats 4000000 in
set_option maxRecDepth 100000 in
theorem w_cRd_readInside_J112 {p : Program} {l : Launch} {e : Env} {s : State} {m : MethodId} {args : Array Value} {below : List Frame} {meth : Method} {c : Code} {A : Nat → Prop} {D : va_G} {ad : Nat → Nat → Nat} {cc : Nat → ClassId} {sad sav : Nat → Nat} {Q : State → Prop} (hC : MCc sad sav "JoinedTrees$JsonReader" prog_3_method_5_code 1 (some .boolean) p s m args meth c A D cc) {N : Nat → Nat} {x0 : Nat} {S : CS} {o : CS × Int32} (Heq : m_cRd_readInside_J112 N x0 S = some o) (Kr : ∀ r : CS × Int32, o = r → ∀ (pc : Nat) (H : Heap) (locs : List Loc) (ls : Array Slot), decode prog_3_method_5_code pc = .ok (.ireturn, 1) → (r.2 = 0 ∨ r.2 = 1) → va_P D cls (cw ad cc N r.1) H → va_D A (cw ad cc N r.1) → va_S A s.heap H locs → W p l e ({ frames := 4, cells := 0, slots := 0, locals := 93 }) s m args below meth c H locs 0 0 Q (F0 m pc ls [.int r.2])) : ∀ (H : Heap) (locs : List Loc) (ls : Array Slot), va_P D cls (cw ad cc N S) H → va_D A (cw ad cc N S) → va_S A s.heap H locs → lv_has ls 1 [(0, .ref (ad 1 x0))] → W p l e ({ frames := 4, cells := 0, slots := 0, locals := 93 }) s m args below meth c H locs 0 0 Q (F0 m 112 ls []) := by
  intro H locs ls hP hD hS hl
  obtain ⟨hx, hb, hr, hml, hown, hts, hK, hA, hev, hE, hN, hNS⟩ := id hC
  unfold m_cRd_readInside_J112 at Heq
  refine lv_aload_n hx hb d_cRd_readInside_112 rfl (lv_at hl 0 rfl) ?_
  obtain ⟨hl_x0_1, Heq⟩ := gl_some Heq
  refine va_get (D := D) (ci := 1) (v := rv ad 9 (S.r 1 6 x0)) (C := R_Rd) (T := F_Rd) (N := 10) hx hb hts i_Rd hown hK hP (cPos N 1 x0) (cw_obj (k := 1) (by decide) hl_x0_1) rfl 6 (by decide) (hts _ kw_352) (fun _ h9 => h9) rfl d_cRd_readInside_113 ?_
  refine lv_iconst (v := 1) hx hb d_cRd_readInside_116 (by decide) ?_
  obtain ⟨j_1, hj_2, hl_3, Heq⟩ := gn_some Heq
  refine w_s (st' := [.int 1, .ref (ad 9 j_1)]) (congrArg (fun z9 : Option Nat => [.int 1, rv ad 9 z9]) hj_2) ?_
  refine va_put (D := D) (ci := 9) (v := .int 1) (ty := .boolean) (C := R_Va) (T := F_Va) (N := 10) hx hb hts i_Va t_Va t_Va_ok n_Va hown hK hP hD hS (cPos N 9 j_1) (cw_obj (k := 9) (by decide) hl_3) rfl 7 (by decide) (hts _ kw_316) (fun _ h9 => h9) rfl (by decide +kernel) (by decide) (by decide) (Nat.le_of_ble_eq_true rfl) d_cRd_readInside_117 (fun H locs hP hD hS => ?_)
  have hD := (congrArg (fun w9 => va_D A w9) (cw_setI (ad := ad) (cc := cc) (S := S) (k := 9) (f := 7) (v := 1) (by decide) rfl hl_3)).mp hD
  have hP := (congrArg (fun w9 => va_P D cls w9 H) (cw_setI (ad := ad) (cc := cc) (S := S) (k := 9) (f := 7) (v := 1) (by decide) rfl hl_3)).mp hP
  refine lv_aload_n hx hb d_cRd_readInside_120 rfl (lv_at hl 0 rfl) ?_
  refine lv_iconst (v := 1) hx hb d_cRd_readInside_121 (by decide) ?_
  refine va_put (D := D) (ci := 1) (v := .int 1) (ty := .boolean) (C := R_Rd) (T := F_Rd) (N := 10) hx hb hts i_Rd t_Rd t_Rd_ok n_Rd hown hK hP hD hS (cPos N 1 x0) (cw_obj (k := 1) (by decide) hl_x0_1) rfl 7 (by decide) (hts _ kw_353) (fun _ h9 => h9) rfl (by decide +kernel) (by decide) (by decide) (Nat.le_of_ble_eq_true rfl) d_cRd_readInside_122 (fun H locs hP hD hS => ?_)
  have hD := (congrArg (fun w9 => va_D A w9) (cw_setI (ad := ad) (cc := cc) (S := (S.setI 9 7 j_1 1)) (k := 1) (f := 7) (v := 1) (by decide) rfl hl_x0_1)).mp hD
  have hP := (congrArg (fun w9 => va_P D cls w9 H) (cw_setI (ad := ad) (cc := cc) (S := (S.setI 9 7 j_1 1)) (k := 1) (f := 7) (v := 1) (by decide) rfl hl_x0_1)).mp hP
  refine lv_aload_n hx hb d_cRd_readInside_125 rfl (lv_at hl 0 rfl) ?_
  refine va_get (D := D) (ci := 1) (v := rv ad 9 (((S.setI 9 7 j_1 1).setI 1 7 x0 1).r 1 6 x0)) (C := R_Rd) (T := F_Rd) (N := 10) hx hb hts i_Rd hown hK hP (cPos N 1 x0) (cw_obj (k := 1) (by decide) hl_x0_1) rfl 6 (by decide) (hts _ kw_352) (fun _ h9 => h9) rfl d_cRd_readInside_126 ?_
  refine w_v (y := rv ad 9 (S.r 1 6 x0)) (congrArg (rv ad 9) rfl) ?_
  refine w_s (st' := [.ref (ad 9 j_1)]) (congrArg (fun z9 : Option Nat => [rv ad 9 z9]) hj_2) ?_
  refine va_get (D := D) (ci := 9) (v := .int (((S.setI 9 7 j_1 1).setI 1 7 x0 1).i 9 0 j_1)) (C := R_Va) (T := F_Va) (N := 10) hx hb hts i_Va hown hK hP (cPos N 9 j_1) (cw_obj (k := 9) (by decide) hl_3) rfl 0 (by decide) (hts _ kw_295) (fun _ h9 => h9) rfl d_cRd_readInside_129 ?_
  refine w_i (y := S.i 9 0 j_1) rfl ?_
  refine lv_bipush (v := 6) hx hb d_cRd_readInside_132 (by decide) ?_
  refine lv_icmp_ne (tgt := 144) hx hb d_cRd_readInside_134 (by decide) (fun c_4 => ?_) (fun c_4 => ?_)
  · replace Heq := (if_neg c_4).symm.trans Heq
    exact w_cRd_readInside_J144 hC Heq Kr _ _ _ hP hD hS (lv_sub hl [0] rfl)
  · replace Heq := (if_pos c_4).symm.trans Heq
    refine lv_aload_n hx hb d_cRd_readInside_137 rfl (lv_at hl 0 rfl) ?_
    obtain ⟨o_5, h_6, Heq⟩ := ob_some Heq
    have hFc := fr_all hD hS hA
    refine va_calli (va_runV (As := []) (rest := []) ⟨hx, hb, hml, hown, hts⟩ (g_cRd_readKey l D H.size (ad := ad) (cc := cc) (sad := sad) (sav := sav) h_6) (cw_v 0 hts kw_974 kw_971 kw_972 kw_973 kw_7 rfl rfl (by decide +kernel) ⟨Nat.le_of_ble_eq_true rfl, Nat.le_of_ble_eq_true rfl⟩) ⟨c_blind, va_recv hK hP (ci := 1) (q0 := cPos N 1 x0) rfl (cw_obj (k := 1) (by decide) hl_x0_1), fun U hU hW => c_pre hU hW hP hK hD hev hE hN hNS hS hFc⟩ rfl rfl hl.1 rfl (lv_room (Nat.le_of_ble_eq_true rfl)) d_cRd_readInside_138 ⟨Nat.le_of_ble_eq_true rfl, Nat.le_of_ble_eq_true rfl⟩) hS (fun q _ h => hFc q h) hFc (fun rz u t H1 locs ht hvm hw hB hz1 hk1 hS => ?_)
    obtain ⟨hP, -, hD1⟩ := hB
    rw [ht] at hP
    have hD := hD1.weaken (fun _ q _ h => hFc q.1 h)
    generalize H1 = H at hP hS ⊢
    refine W.cs (cells' := 0) (slots' := 0) rfl rfl ?_
    subst hw
    refine lv_if_eq (tgt := 148) hx hb d_cRd_readInside_141 (by decide) (fun c_7 => ?_) (fun c_7 => ?_)
    · replace Heq := (if_pos c_7).symm.trans Heq
      refine lv_iconst (v := 0) hx hb d_cRd_readInside_148 (by decide) ?_
      exact w_cRd_readInside_J149 hC Heq Kr _ _ _ hP hD hS (lv_sub hl [0] rfl)
    · replace Heq := (if_neg c_7).symm.trans Heq
      exact w_cRd_readInside_J144 hC Heq Kr _ _ _ hP hD hS (lv_sub hl [0] rfl)
def m_cRd_readInside_J34 (N : Nat → Nat) (x0 : Nat) (S : CS) (t0 : Int32) (t1 : Int32) : Option (CS × Int32) := (if t1 = t0 then gl x0 (N 1) (gn (S.r 1 6 x0) (N 9) (fun j_14 => some ((((S.setI 1 4 x0 ((S.i 1 4 x0) + 1)).setI 1 5 x0 ((S.i 1 5 x0) - 1)).setR 1 6 x0 (S.r 9 2 j_14)), 1))) else gl x0 (N 1) (gn (S.r 1 6 x0) (N 9) (fun j_2 => (if S.i 9 7 j_2 = 0 then m_cRd_readInside_J112 N x0 S else gn (S.r 1 2 x0) (N 5) (fun j_6 => ob (m_cRw_at N j_6 S (S.i 1 4 x0)) (fun o_9 => (if o_9.2 = 44 then ob (m_cRd_skipBlanks N x0 (o_9.1.setI 1 4 x0 ((o_9.1.i 1 4 x0) + 1))) (fun o_12 => m_cRd_readInside_J112 N x0 o_12) else some (o_9.1, 0))))))))
theorem d_cRd_readInside_80 : decode prog_3_method_5_code 80 = .ok (.aload_n 0, 1) := by decide +kernel
theorem d_cRd_readInside_81 : decode prog_3_method_5_code 81 = .ok (.getfield 27, 3) := by decide +kernel
theorem d_cRd_readInside_84 : decode prog_3_method_5_code 84 = .ok (.aload_n 0, 1) := by decide +kernel
theorem d_cRd_readInside_85 : decode prog_3_method_5_code 85 = .ok (.getfield 34, 3) := by decide +kernel
theorem d_cRd_readInside_88 : decode prog_3_method_5_code 88 = .ok (.invokevirtual 70, 3) := by decide +kernel
theorem d_cRd_readInside_91 : decode prog_3_method_5_code 91 = .ok (.bipush 44, 2) := by decide +kernel
theorem d_cRd_readInside_93 : decode prog_3_method_5_code 93 = .ok (.if_icmp .eq 5, 3) := by decide +kernel
theorem d_cRd_readInside_98 : decode prog_3_method_5_code 98 = .ok (.aload_n 0, 1) := by decide +kernel
theorem d_cRd_readInside_99 : decode prog_3_method_5_code 99 = .ok (.dup, 1) := by decide +kernel
theorem d_cRd_readInside_100 : decode prog_3_method_5_code 100 = .ok (.getfield 34, 3) := by decide +kernel
theorem d_cRd_readInside_103 : decode prog_3_method_5_code 103 = .ok (.iconst 1, 1) := by decide +kernel
theorem d_cRd_readInside_104 : decode prog_3_method_5_code 104 = .ok (.iadd, 1) := by decide +kernel
theorem d_cRd_readInside_105 : decode prog_3_method_5_code 105 = .ok (.putfield 34, 3) := by decide +kernel
theorem d_cRd_readInside_108 : decode prog_3_method_5_code 108 = .ok (.aload_n 0, 1) := by decide +kernel
theorem d_cRd_readInside_109 : decode prog_3_method_5_code 109 = .ok (.invokevirtual 53, 3) := by decide +kernel
theorem d_cRd_readInside_96 : decode prog_3_method_5_code 96 = .ok (.iconst 0, 1) := by decide +kernel
theorem d_cRd_readInside_97 : decode prog_3_method_5_code 97 = .ok (.ireturn, 1) := by decide +kernel
theorem d_cRd_readInside_37 : decode prog_3_method_5_code 37 = .ok (.aload_n 0, 1) := by decide +kernel
theorem d_cRd_readInside_38 : decode prog_3_method_5_code 38 = .ok (.dup, 1) := by decide +kernel
theorem d_cRd_readInside_39 : decode prog_3_method_5_code 39 = .ok (.getfield 34, 3) := by decide +kernel
theorem d_cRd_readInside_42 : decode prog_3_method_5_code 42 = .ok (.iconst 1, 1) := by decide +kernel
theorem d_cRd_readInside_43 : decode prog_3_method_5_code 43 = .ok (.iadd, 1) := by decide +kernel
theorem d_cRd_readInside_44 : decode prog_3_method_5_code 44 = .ok (.putfield 34, 3) := by decide +kernel
theorem d_cRd_readInside_47 : decode prog_3_method_5_code 47 = .ok (.aload_n 0, 1) := by decide +kernel
theorem d_cRd_readInside_48 : decode prog_3_method_5_code 48 = .ok (.dup, 1) := by decide +kernel
theorem d_cRd_readInside_49 : decode prog_3_method_5_code 49 = .ok (.getfield 37, 3) := by decide +kernel
theorem d_cRd_readInside_52 : decode prog_3_method_5_code 52 = .ok (.iconst 1, 1) := by decide +kernel
theorem d_cRd_readInside_53 : decode prog_3_method_5_code 53 = .ok (.isub, 1) := by decide +kernel
theorem d_cRd_readInside_54 : decode prog_3_method_5_code 54 = .ok (.putfield 37, 3) := by decide +kernel
theorem d_cRd_readInside_57 : decode prog_3_method_5_code 57 = .ok (.aload_n 0, 1) := by decide +kernel
theorem d_cRd_readInside_58 : decode prog_3_method_5_code 58 = .ok (.aload_n 0, 1) := by decide +kernel
theorem d_cRd_readInside_59 : decode prog_3_method_5_code 59 = .ok (.getfield 40, 3) := by decide +kernel
theorem d_cRd_readInside_62 : decode prog_3_method_5_code 62 = .ok (.getfield 80, 3) := by decide +kernel
theorem d_cRd_readInside_65 : decode prog_3_method_5_code 65 = .ok (.putfield 40, 3) := by decide +kernel
theorem d_cRd_readInside_68 : decode prog_3_method_5_code 68 = .ok (.iconst 1, 1) := by decide +kernel
theorem d_cRd_readInside_69 : decode prog_3_method_5_code 69 = .ok (.ireturn, 1) := by decide +kernel
set_option maxHeartbeats 4000000 in
set_option maxRecDepth 100000 in
theorem w_cRd_readInside_J34 {p : Program} {l : Launch} {e : Env} {s : State} {m : MethodId} {args : Array Value} {below : List Frame} {meth : Method} {c : Code} {A : Nat → Prop} {D : va_G} {ad : Nat → Nat → Nat} {cc : Nat → ClassId} {sad sav : Nat → Nat} {Q : State → Prop} (hC : MCc sad sav "JoinedTrees$JsonReader" prog_3_method_5_code 1 (some .boolean) p s m args meth c A D cc) {N : Nat → Nat} {x0 : Nat} {S : CS} {t0 : Int32} {t1 : Int32} {o : CS × Int32} (Heq : m_cRd_readInside_J34 N x0 S t0 t1 = some o) (Kr : ∀ r : CS × Int32, o = r → ∀ (pc : Nat) (H : Heap) (locs : List Loc) (ls : Array Slot), decode prog_3_method_5_code pc = .ok (.ireturn, 1) → (r.2 = 0 ∨ r.2 = 1) → va_P D cls (cw ad cc N r.1) H → va_D A (cw ad cc N r.1) → va_S A s.heap H locs → W p l e ({ frames := 4, cells := 0, slots := 0, locals := 93 }) s m args below meth c H locs 0 0 Q (F0 m pc ls [.int r.2])) : ∀ (H : Heap) (locs : List Loc) (ls : Array Slot), va_P D cls (cw ad cc N S) H → va_D A (cw ad cc N S) → va_S A s.heap H locs → lv_has ls 1 [(0, .ref (ad 1 x0))] → W p l e ({ frames := 4, cells := 0, slots := 0, locals := 93 }) s m args below meth c H locs 0 0 Q (F0 m 34 ls [.int t0, .int t1]) := by
  intro H locs ls hP hD hS hl
  obtain ⟨hx, hb, hr, hml, hown, hts, hK, hA, hev, hE, hN, hNS⟩ := id hC
  unfold m_cRd_readInside_J34 at Heq
  refine lv_icmp_ne (tgt := 70) hx hb d_cRd_readInside_34 (by decide) (fun c_1 => ?_) (fun c_1 => ?_)
  · replace Heq := (if_neg c_1).symm.trans Heq
    refine lv_aload_n hx hb d_cRd_readInside_70 rfl (lv_at hl 0 rfl) ?_
    obtain ⟨hl_x0_1, Heq⟩ := gl_some Heq
    refine va_get (D := D) (ci := 1) (v := rv ad 9 (S.r 1 6 x0)) (C := R_Rd) (T := F_Rd) (N := 10) hx hb hts i_Rd hown hK hP (cPos N 1 x0) (cw_obj (k := 1) (by decide) hl_x0_1) rfl 6 (by decide) (hts _ kw_352) (fun _ h9 => h9) rfl d_cRd_readInside_71 ?_
    obtain ⟨j_2, hj_3, hl_4, Heq⟩ := gn_some Heq
    refine w_s (st' := [.ref (ad 9 j_2)]) (congrArg (fun z9 : Option Nat => [rv ad 9 z9]) hj_3) ?_
    refine va_get (D := D) (ci := 9) (v := .int (S.i 9 7 j_2)) (C := R_Va) (T := F_Va) (N := 10) hx hb hts i_Va hown hK hP (cPos N 9 j_2) (cw_obj (k := 9) (by decide) hl_4) rfl 7 (by decide) (hts _ kw_316) (fun _ h9 => h9) rfl d_cRd_readInside_74 ?_
    refine lv_if_eq (tgt := 112) hx hb d_cRd_readInside_77 (by decide) (fun c_5 => ?_) (fun c_5 => ?_)
    · replace Heq := (if_pos c_5).symm.trans Heq
      exact w_cRd_readInside_J112 hC Heq Kr _ _ _ hP hD hS (lv_sub hl [0] rfl)
    · replace Heq := (if_neg c_5).symm.trans Heq
      refine lv_aload_n hx hb d_cRd_readInside_80 rfl (lv_at hl 0 rfl) ?_
      refine va_get (D := D) (ci := 1) (v := rv ad 5 (S.r 1 2 x0)) (C := R_Rd) (T := F_Rd) (N := 10) hx hb hts i_Rd hown hK hP (cPos N 1 x0) (cw_obj (k := 1) (by decide) hl_x0_1) rfl 2 (by decide) (hts _ kw_346) (fun _ h9 => h9) rfl d_cRd_readInside_81 ?_
      refine lv_aload_n hx hb d_cRd_readInside_84 rfl (lv_at hl 0 rfl) ?_
      refine va_get (D := D) (ci := 1) (v := .int (S.i 1 4 x0)) (C := R_Rd) (T := F_Rd) (N := 10) hx hb hts i_Rd hown hK hP (cPos N 1 x0) (cw_obj (k := 1) (by decide) hl_x0_1) rfl 4 (by decide) (hts _ kw_349) (fun _ h9 => h9) rfl d_cRd_readInside_85 ?_
      obtain ⟨j_6, hj_7, hl_8, Heq⟩ := gn_some Heq
      refine w_s (st' := [.int (S.i 1 4 x0), .ref (ad 5 j_6)]) (congrArg (fun z9 : Option Nat => [.int (S.i 1 4 x0), rv ad 5 z9]) hj_7) ?_
      obtain ⟨o_9, h_10, Heq⟩ := ob_some Heq
      have hFc := fr_all hD hS hA
      refine va_calli (va_runV (As := [.int (S.i 1 4 x0)]) (rest := []) ⟨hx, hb, hml, hown, hts⟩ (g_cRw_at l D H.size (ad := ad) (cc := cc) (sad := sad) (sav := sav) h_10) (cw_v 1 hts kw_689 kw_871 kw_687 kw_688 kw_4 rfl rfl (by decide +kernel) ⟨Nat.le_of_ble_eq_true rfl, Nat.le_of_ble_eq_true rfl⟩) ⟨c_blind, va_recv hK hP (ci := 5) (q0 := cPos N 5 j_6) rfl (cw_obj (k := 5) (by decide) hl_8), fun U hU hW => c_pre hU hW hP hK hD hev hE hN hNS hS hFc⟩ rfl rfl hl.1 rfl (lv_room (Nat.le_of_ble_eq_true rfl)) d_cRd_readInside_88 ⟨Nat.le_of_ble_eq_true rfl, Nat.le_of_ble_eq_true rfl⟩) hS (fun q _ h => hFc q h) hFc (fun rz u t H1 locs ht hvm hw hB hz1 hk1 hS => ?_)
      obtain ⟨hP, -, hD1⟩ := hB
      rw [ht] at hP
      have hD := hD1.weaken (fun _ q _ h => hFc q.1 h)
      generalize H1 = H at hP hS ⊢
      refine W.cs (cells' := 0) (slots' := 0) rfl rfl ?_
      subst hw
      refine lv_bipush (v := 44) hx hb d_cRd_readInside_91 (by decide) ?_
      refine lv_icmp_eq (tgt := 98) hx hb d_cRd_readInside_93 (by decide) (fun c_11 => ?_) (fun c_11 => ?_)
      · replace Heq := (if_pos c_11).symm.trans Heq
        refine lv_aload_n hx hb d_cRd_readInside_98 rfl (lv_at hl 0 rfl) ?_
        refine lv_dup hx hb d_cRd_readInside_99 (by first | rfl | exact rv_cat) ?_
        refine va_get (D := D) (ci := 1) (v := .int (o_9.1.i 1 4 x0)) (C := R_Rd) (T := F_Rd) (N := 10) hx hb hts i_Rd hown hK hP (cPos N 1 x0) (cw_obj (k := 1) (by decide) hl_x0_1) rfl 4 (by decide) (hts _ kw_349) (fun _ h9 => h9) rfl d_cRd_readInside_100 ?_
        refine lv_iconst (v := 1) hx hb d_cRd_readInside_103 (by decide) ?_
        refine lv_iadd hx hb d_cRd_readInside_104 ?_
        refine w_i (y := (o_9.1.i 1 4 x0) + 1) rfl ?_
        refine va_put (D := D) (ci := 1) (v := .int ((o_9.1.i 1 4 x0) + 1)) (ty := .int) (C := R_Rd) (T := F_Rd) (N := 10) hx hb hts i_Rd t_Rd t_Rd_ok n_Rd hown hK hP hD hS (cPos N 1 x0) (cw_obj (k := 1) (by decide) hl_x0_1) rfl 4 (by decide) (hts _ kw_349) (fun _ h9 => h9) rfl (by decide +kernel) rfl rfl (Nat.le_of_ble_eq_true rfl) d_cRd_readInside_105 (fun H locs hP hD hS => ?_)
        have hD := (congrArg (fun w9 => va_D A w9) (cw_setI (ad := ad) (cc := cc) (S := o_9.1) (k := 1) (f := 4) (v := (o_9.1.i 1 4 x0) + 1) (by decide) rfl hl_x0_1)).mp hD
        have hP := (congrArg (fun w9 => va_P D cls w9 H) (cw_setI (ad := ad) (cc := cc) (S := o_9.1) (k := 1) (f := 4) (v := (o_9.1.i 1 4 x0) + 1) (by decide) rfl hl_x0_1)).mp hP
        refine lv_aload_n hx hb d_cRd_readInside_108 rfl (lv_at hl 0 rfl) ?_
        obtain ⟨o_12, h_13, Heq⟩ := ob_some Heq
        have hFc := fr_all hD hS hA
        refine va_callv (va_runV (As := []) (rest := []) ⟨hx, hb, hml, hown, hts⟩ (g_cRd_skipBlanks l D H.size (ad := ad) (cc := cc) (sad := sad) (sav := sav) h_13) (cw_v 0 hts kw_870 kw_867 kw_868 kw_869 kw_7 rfl rfl (by decide +kernel) ⟨Nat.le_of_ble_eq_true rfl, Nat.le_of_ble_eq_true rfl⟩) ⟨c_blind, va_recv hK hP (ci := 1) (q0 := cPos N 1 x0) rfl (cw_obj (k := 1) (by decide) hl_x0_1), fun U hU hW => c_pre hU hW hP hK hD hev hE hN hNS hS hFc⟩ rfl rfl hl.1 rfl (lv_room (Nat.le_of_ble_eq_true rfl)) d_cRd_readInside_109 ⟨Nat.le_of_ble_eq_true rfl, Nat.le_of_ble_eq_true rfl⟩) hS (fun q _ h => hFc q h) hFc (fun u t H1 locs ht hvm hw hB hz1 hk1 hS => ?_)
        obtain ⟨hP, -, hD1⟩ := hB
        rw [ht] at hP
        have hD := hD1.weaken (fun _ q _ h => hFc q.1 h)
        generalize H1 = H at hP hS ⊢
        refine W.cs (cells' := 0) (slots' := 0) rfl rfl ?_
        exact w_cRd_readInside_J112 hC Heq Kr _ _ _ hP hD hS (lv_sub hl [0] rfl)
      · replace Heq := (if_neg c_11).symm.trans Heq
        refine lv_iconst (v := 0) hx hb d_cRd_readInside_96 (by decide) ?_
        exact Kr _ (Option.some.inj Heq).symm 97 _ _ _ d_cRd_readInside_97 (Or.inl rfl) hP hD hS
  · replace Heq := (if_pos c_1).symm.trans Heq
    refine lv_aload_n hx hb d_cRd_readInside_37 rfl (lv_at hl 0 rfl) ?_
    refine lv_dup hx hb d_cRd_readInside_38 (by first | rfl | exact rv_cat) ?_
    obtain ⟨hl_x0_1, Heq⟩ := gl_some Heq
    refine va_get (D := D) (ci := 1) (v := .int (S.i 1 4 x0)) (C := R_Rd) (T := F_Rd) (N := 10) hx hb hts i_Rd hown hK hP (cPos N 1 x0) (cw_obj (k := 1) (by decide) hl_x0_1) rfl 4 (by decide) (hts _ kw_349) (fun _ h9 => h9) rfl d_cRd_readInside_39 ?_
    refine lv_iconst (v := 1) hx hb d_cRd_readInside_42 (by decide) ?_
    refine lv_iadd hx hb d_cRd_readInside_43 ?_
    refine w_i (y := (S.i 1 4 x0) + 1) rfl ?_
    refine va_put (D := D) (ci := 1) (v := .int ((S.i 1 4 x0) + 1)) (ty := .int) (C := R_Rd) (T := F_Rd) (N := 10) hx hb hts i_Rd t_Rd t_Rd_ok n_Rd hown hK hP hD hS (cPos N 1 x0) (cw_obj (k := 1) (by decide) hl_x0_1) rfl 4 (by decide) (hts _ kw_349) (fun _ h9 => h9) rfl (by decide +kernel) rfl rfl (Nat.le_of_ble_eq_true rfl) d_cRd_readInside_44 (fun H locs hP hD hS => ?_)
    have hD := (congrArg (fun w9 => va_D A w9) (cw_setI (ad := ad) (cc := cc) (S := S) (k := 1) (f := 4) (v := (S.i 1 4 x0) + 1) (by decide) rfl hl_x0_1)).mp hD
    have hP := (congrArg (fun w9 => va_P D cls w9 H) (cw_setI (ad := ad) (cc := cc) (S := S) (k := 1) (f := 4) (v := (S.i 1 4 x0) + 1) (by decide) rfl hl_x0_1)).mp hP
    refine lv_aload_n hx hb d_cRd_readInside_47 rfl (lv_at hl 0 rfl) ?_
    refine lv_dup hx hb d_cRd_readInside_48 (by first | rfl | exact rv_cat) ?_
    refine va_get (D := D) (ci := 1) (v := .int ((S.setI 1 4 x0 ((S.i 1 4 x0) + 1)).i 1 5 x0)) (C := R_Rd) (T := F_Rd) (N := 10) hx hb hts i_Rd hown hK hP (cPos N 1 x0) (cw_obj (k := 1) (by decide) hl_x0_1) rfl 5 (by decide) (hts _ kw_351) (fun _ h9 => h9) rfl d_cRd_readInside_49 ?_
    refine w_i (y := S.i 1 5 x0) rfl ?_
    refine lv_iconst (v := 1) hx hb d_cRd_readInside_52 (by decide) ?_
    refine lv_isub hx hb d_cRd_readInside_53 ?_
    refine w_i (y := (S.i 1 5 x0) - 1) rfl ?_
    refine va_put (D := D) (ci := 1) (v := .int ((S.i 1 5 x0) - 1)) (ty := .int) (C := R_Rd) (T := F_Rd) (N := 10) hx hb hts i_Rd t_Rd t_Rd_ok n_Rd hown hK hP hD hS (cPos N 1 x0) (cw_obj (k := 1) (by decide) hl_x0_1) rfl 5 (by decide) (hts _ kw_351) (fun _ h9 => h9) rfl (by decide +kernel) rfl rfl (Nat.le_of_ble_eq_true rfl) d_cRd_readInside_54 (fun H locs hP hD hS => ?_)
    have hD := (congrArg (fun w9 => va_D A w9) (cw_setI (ad := ad) (cc := cc) (S := (S.setI 1 4 x0 ((S.i 1 4 x0) + 1))) (k := 1) (f := 5) (v := (S.i 1 5 x0) - 1) (by decide) rfl hl_x0_1)).mp hD
    have hP := (congrArg (fun w9 => va_P D cls w9 H) (cw_setI (ad := ad) (cc := cc) (S := (S.setI 1 4 x0 ((S.i 1 4 x0) + 1))) (k := 1) (f := 5) (v := (S.i 1 5 x0) - 1) (by decide) rfl hl_x0_1)).mp hP
    refine lv_aload_n hx hb d_cRd_readInside_57 rfl (lv_at hl 0 rfl) ?_
    refine lv_aload_n hx hb d_cRd_readInside_58 rfl (lv_at hl 0 rfl) ?_
    refine va_get (D := D) (ci := 1) (v := rv ad 9 (((S.setI 1 4 x0 ((S.i 1 4 x0) + 1)).setI 1 5 x0 ((S.i 1 5 x0) - 1)).r 1 6 x0)) (C := R_Rd) (T := F_Rd) (N := 10) hx hb hts i_Rd hown hK hP (cPos N 1 x0) (cw_obj (k := 1) (by decide) hl_x0_1) rfl 6 (by decide) (hts _ kw_352) (fun _ h9 => h9) rfl d_cRd_readInside_59 ?_
    refine w_v (y := rv ad 9 (S.r 1 6 x0)) (congrArg (rv ad 9) rfl) ?_
    obtain ⟨j_14, hj_15, hl_16, Heq⟩ := gn_some Heq
    refine w_s (st' := [.ref (ad 9 j_14), .ref (ad 1 x0)]) (congrArg (fun z9 : Option Nat => [rv ad 9 z9, .ref (ad 1 x0)]) hj_15) ?_
    refine va_get (D := D) (ci := 9) (v := rv ad 9 (((S.setI 1 4 x0 ((S.i 1 4 x0) + 1)).setI 1 5 x0 ((S.i 1 5 x0) - 1)).r 9 2 j_14)) (C := R_Va) (T := F_Va) (N := 10) hx hb hts i_Va hown hK hP (cPos N 9 j_14) (cw_obj (k := 9) (by decide) hl_16) rfl 2 (by decide) (hts _ kw_301) (fun _ h9 => h9) rfl d_cRd_readInside_62 ?_
    refine w_v (y := rv ad 9 (S.r 9 2 j_14)) (congrArg (rv ad 9) rfl) ?_
    refine w_v (y := rv ad 9 (S.r 9 2 j_14)) rfl ?_
    refine va_put (D := D) (ci := 1) (v := rv ad 9 (S.r 9 2 j_14)) (ty := .object "JoinedTrees$Value") (C := R_Rd) (T := F_Rd) (N := 10) hx hb hts i_Rd t_Rd t_Rd_ok n_Rd hown hK hP hD hS (cPos N 1 x0) (cw_obj (k := 1) (by decide) hl_x0_1) rfl 6 (by decide) (hts _ kw_352) (fun _ h9 => h9) rfl (by decide +kernel) (rv_nar (Or.inl ⟨_, rfl⟩)) (rv_fit (Or.inl ⟨_, rfl⟩)) (Nat.le_of_ble_eq_true rfl) d_cRd_readInside_65 (fun H locs hP hD hS => ?_)
    have hD := (congrArg (fun w9 => va_D A w9) (cw_setR (ad := ad) (cc := cc) (S := ((S.setI 1 4 x0 ((S.i 1 4 x0) + 1)).setI 1 5 x0 ((S.i 1 5 x0) - 1))) (k := 1) (f := 6) (t := 9) (v := (S.r 9 2 j_14)) (by decide) rfl hl_x0_1)).mp hD
    have hP := (congrArg (fun w9 => va_P D cls w9 H) (cw_setR (ad := ad) (cc := cc) (S := ((S.setI 1 4 x0 ((S.i 1 4 x0) + 1)).setI 1 5 x0 ((S.i 1 5 x0) - 1))) (k := 1) (f := 6) (t := 9) (v := (S.r 9 2 j_14)) (by decide) rfl hl_x0_1)).mp hP
    refine lv_iconst (v := 1) hx hb d_cRd_readInside_68 (by decide) ?_
    exact Kr _ (Option.some.inj Heq).symm 69 _ _ _ d_cRd_readInside_69 (Or.inr rfl) hP hD hS
def m_cRd_readInside_J0 (N : Nat → Nat) (x0 : Nat) (S : CS) : Option (CS × Int32) := gl x0 (N 1) (ob (m_cRd_skipBlanks N x0 S) (fun o_1 => gn (o_1.r 1 2 x0) (N 5) (fun j_3 => ob (m_cRw_at N j_3 o_1 (o_1.i 1 4 x0)) (fun o_6 => gn (o_6.1.r 1 6 x0) (N 9) (fun j_8 => (if o_6.1.i 9 0 j_8 = 6 then m_cRd_readInside_J34 N x0 o_6.1 125 o_6.2 else m_cRd_readInside_J34 N x0 o_6.1 93 o_6.2))))))
theorem d_cRd_readInside_27 : decode prog_3_method_5_code 27 = .ok (.bipush 125, 2) := by decide +kernel
theorem d_cRd_readInside_29 : decode prog_3_method_5_code 29 = .ok (.goto 5, 3) := by decide +kernel
set_option maxHeartbeats 4000000 in
set_option maxRecDepth 100000 in
theorem w_cRd_readInside_J0 {p : Program} {l : Launch} {e : Env} {s : State} {m : MethodId} {args : Array Value} {below : List Frame} {meth : Method} {c : Code} {A : Nat → Prop} {D : va_G} {ad : Nat → Nat → Nat} {cc : Nat → ClassId} {sad sav : Nat → Nat} {Q : State → Prop} (hC : MCc sad sav "JoinedTrees$JsonReader" prog_3_method_5_code 1 (some .boolean) p s m args meth c A D cc) {N : Nat → Nat} {x0 : Nat} {S : CS} {o : CS × Int32} (Heq : m_cRd_readInside_J0 N x0 S = some o) (Kr : ∀ r : CS × Int32, o = r → ∀ (pc : Nat) (H : Heap) (locs : List Loc) (ls : Array Slot), decode prog_3_method_5_code pc = .ok (.ireturn, 1) → (r.2 = 0 ∨ r.2 = 1) → va_P D cls (cw ad cc N r.1) H → va_D A (cw ad cc N r.1) → va_S A s.heap H locs → W p l e ({ frames := 4, cells := 0, slots := 0, locals := 93 }) s m args below meth c H locs 0 0 Q (F0 m pc ls [.int r.2])) : ∀ (H : Heap) (locs : List Loc) (ls : Array Slot), va_P D cls (cw ad cc N S) H → va_D A (cw ad cc N S) → va_S A s.heap H locs → lv_has ls 1 [(0, .ref (ad 1 x0))] → W p l e ({ frames := 4, cells := 0, slots := 0, locals := 93 }) s m args below meth c H locs 0 0 Q (F0 m 0 ls []) := by
  intro H locs ls hP hD hS hl
  obtain ⟨hx, hb, hr, hml, hown, hts, hK, hA, hev, hE, hN, hNS⟩ := id hC
  unfold m_cRd_readInside_J0 at Heq
  refine lv_aload_n hx hb d_cRd_readInside_0 rfl (lv_at hl 0 rfl) ?_
  obtain ⟨hl_x0_1, Heq⟩ := gl_some Heq
  obtain ⟨o_1, h_2, Heq⟩ := ob_some Heq
  have hFc := fr_all hD hS hA
  refine va_callv (va_runV (As := []) (rest := []) ⟨hx, hb, hml, hown, hts⟩ (g_cRd_skipBlanks l D H.size (ad := ad) (cc := cc) (sad := sad) (sav := sav) h_2) (cw_v 0 hts kw_870 kw_867 kw_868 kw_869 kw_7 rfl rfl (by decide +kernel) ⟨Nat.le_of_ble_eq_true rfl, Nat.le_of_ble_eq_true rfl⟩) ⟨c_blind, va_recv hK hP (ci := 1) (q0 := cPos N 1 x0) rfl (cw_obj (k := 1) (by decide) hl_x0_1), fun U hU hW => c_pre hU hW hP hK hD hev hE hN hNS hS hFc⟩ rfl rfl hl.1 rfl (lv_room (Nat.le_of_ble_eq_true rfl)) d_cRd_readInside_1 ⟨Nat.le_of_ble_eq_true rfl, Nat.le_of_ble_eq_true rfl⟩) hS (fun q _ h => hFc q h) hFc (fun u t H1 locs ht hvm hw hB hz1 hk1 hS => ?_)
  obtain ⟨hP, -, hD1⟩ := hB
  rw [ht] at hP
  have hD := hD1.weaken (fun _ q _ h => hFc q.1 h)
  generalize H1 = H at hP hS ⊢
  refine W.cs (cells' := 0) (slots' := 0) rfl rfl ?_
  refine lv_aload_n hx hb d_cRd_readInside_4 rfl (lv_at hl 0 rfl) ?_
  refine va_get (D := D) (ci := 1) (v := rv ad 5 (o_1.r 1 2 x0)) (C := R_Rd) (T := F_Rd) (N := 10) hx hb hts i_Rd hown hK hP (cPos N 1 x0) (cw_obj (k := 1) (by decide) hl_x0_1) rfl 2 (by decide) (hts _ kw_346) (fun _ h9 => h9) rfl d_cRd_readInside_5 ?_
  refine lv_aload_n hx hb d_cRd_readInside_8 rfl (lv_at hl 0 rfl) ?_
  refine va_get (D := D) (ci := 1) (v := .int (o_1.i 1 4 x0)) (C := R_Rd) (T := F_Rd) (N := 10) hx hb hts i_Rd hown hK hP (cPos N 1 x0) (cw_obj (k := 1) (by decide) hl_x0_1) rfl 4 (by decide) (hts _ kw_349) (fun _ h9 => h9) rfl d_cRd_readInside_9 ?_
  obtain ⟨j_3, hj_4, hl_5, Heq⟩ := gn_some Heq
  refine w_s (st' := [.int (o_1.i 1 4 x0), .ref (ad 5 j_3)]) (congrArg (fun z9 : Option Nat => [.int (o_1.i 1 4 x0), rv ad 5 z9]) hj_4) ?_
  obtain ⟨o_6, h_7, Heq⟩ := ob_some Heq
  have hFc := fr_all hD hS hA
  refine va_calli (va_runV (As := [.int (o_1.i 1 4 x0)]) (rest := []) ⟨hx, hb, hml, hown, hts⟩ (g_cRw_at l D H.size (ad := ad) (cc := cc) (sad := sad) (sav := sav) h_7) (cw_v 1 hts kw_689 kw_871 kw_687 kw_688 kw_4 rfl rfl (by decide +kernel) ⟨Nat.le_of_ble_eq_true rfl, Nat.le_of_ble_eq_true rfl⟩) ⟨c_blind, va_recv hK hP (ci := 5) (q0 := cPos N 5 j_3) rfl (cw_obj (k := 5) (by decide) hl_5), fun U hU hW => c_pre hU hW hP hK hD hev hE hN hNS hS hFc⟩ rfl rfl hl.1 rfl (lv_room (Nat.le_of_ble_eq_true rfl)) d_cRd_readInside_12 ⟨Nat.le_of_ble_eq_true rfl, Nat.le_of_ble_eq_true rfl⟩) hS (fun q _ h => hFc q h) hFc (fun rz u t H1 locs ht hvm hw hB hz1 hk1 hS => ?_)
  obtain ⟨hP, -, hD1⟩ := hB
  rw [ht] at hP
  have hD := hD1.weaken (fun _ q _ h => hFc q.1 h)
  generalize H1 = H at hP hS ⊢
  refine W.cs (cells' := 0) (slots' := 0) rfl rfl ?_
  subst hw
  refine lv_aload_n hx hb d_cRd_readInside_15 rfl (lv_at hl 0 rfl) ?_
  refine va_get (D := D) (ci := 1) (v := rv ad 9 (o_6.1.r 1 6 x0)) (C := R_Rd) (T := F_Rd) (N := 10) hx hb hts i_Rd hown hK hP (cPos N 1 x0) (cw_obj (k := 1) (by decide) hl_x0_1) rfl 6 (by decide) (hts _ kw_352) (fun _ h9 => h9) rfl d_cRd_readInside_16 ?_
  obtain ⟨j_8, hj_9, hl_10, Heq⟩ := gn_some Heq
  refine w_s (st' := [.ref (ad 9 j_8), .int o_6.2]) (congrArg (fun z9 : Option Nat => [rv ad 9 z9, .int o_6.2]) hj_9) ?_
  refine va_get (D := D) (ci := 9) (v := .int (o_6.1.i 9 0 j_8)) (C := R_Va) (T := F_Va) (N := 10) hx hb hts i_Va hown hK hP (cPos N 9 j_8) (cw_obj (k := 9) (by decide) hl_10) rfl 0 (by decide) (hts _ kw_295) (fun _ h9 => h9) rfl d_cRd_readInside_19 ?_
  refine lv_bipush (v := 6) hx hb d_cRd_readInside_22 (by decide) ?_
  refine lv_icmp_ne (tgt := 32) hx hb d_cRd_readInside_24 (by decide) (fun c_11 => ?_) (fun c_11 => ?_)
  · replace Heq := (if_neg c_11).symm.trans Heq
    refine lv_bipush (v := 93) hx hb d_cRd_readInside_32 (by decide) ?_
    exact w_cRd_readInside_J34 hC Heq Kr _ _ _ hP hD hS (lv_sub hl [0] rfl)
  · replace Heq := (if_pos c_11).symm.trans Heq
    refine lv_bipush (v := 125) hx hb d_cRd_readInside_27 (by decide) ?_
    refine lv_goto (tgt := 34) hx hb d_cRd_readInside_29 (by decide) ?_
    exact w_cRd_readInside_J34 hC Heq Kr _ _ _ hP hD hS (lv_sub hl [0] rfl)
def m_cRd_readInside (N : Nat → Nat) (x0 : Nat) (S : CS) : Option (CS × Int32) := m_cRd_readInside_J0 N x0 S
set_option maxHeartbeats 4000000 in
theorem g_cRd_readInside (l : Launch) (D : va_G) (sz : Nat) {ad : Nat → Nat → Nat} {cc : Nat → ClassId} {sad sav : Nat → Nat} {N : Nat → Nat} {x0 : Nat} {S : CS} {o : CS × Int32} (Heq : m_cRd_readInside N x0 S = some o) : Met l ⟨"JoinedTrees$JsonReader", "readInside", "()Z"⟩ (Cond.code ⟨"JoinedTrees$JsonReader", "readInside", "()Z"⟩ prog_3_method_5_code 1 (some .boolean) :: gb) ({ frames := 4, cells := 0, slots := 0, locals := 93 }) (cPc sad sav D (cw ad cc N S) (cty cc) sz [.ref (ad 1 x0)]) (va_Qi (fun (r : Int32) (_ : Unit) => r = o.2) (fun _ t => gO D (cw ad cc N o.1) (cty cc) (va_A (cw ad cc N S) sz) t) (va_A (cw ad cc N S) sz)) 0 0 (va_A (cw ad cc N S) sz) := by
  refine Met.ofW (cc := prog_3_method_5_code) (maxL := 1) (ret := (some .boolean)) (by decide) rfl ?_
  intro p e s m args below meth c s₁ B hml hv
  obtain ⟨rfl, hsz, hP, hK, hD0, hev, hE, hN⟩ := hv
  have hx := B.exec
  have hb := B.bytes
  have hr := B.returns
  have hts : ∀ w9 ∈ gb, w9.before [.ref (ad 1 x0)].toArray s = true := fun w9 h => atoms_spec (ws := Cond.code ⟨"JoinedTrees$JsonReader", "readInside", "()Z"⟩ prog_3_method_5_code 1 (some .boolean) :: gb) B.pre w9 (List.mem_cons_of_mem _ h)
  have hown : s.vm.findClass "JoinedTrees$JsonReader" = some m.cls := findClass_of_methodNamed B.named
  have hlocks := B.notSynchronized
  have hNS := ns_of hP
  subst hsz
  have hD := hD0.self (sz := s.heap.size)
  generalize hAe : va_A (cw ad cc N S) s.heap.size = A at hD hev hE hNS ⊢
  have hA : ∀ q : Nat, s.heap.size ≤ q → A q := fun q h => by rw [← hAe]; exact Or.inr h
  have hS : va_S A s.heap s.heap [] := va_S.rf
  obtain ⟨ls, hl, hle⟩ : ∃ ls : Array Slot, lv_has ls 1 [(0, .ref (ad 1 x0))] ∧ entryFrame m ([.ref (ad 1 x0)] : List Value).toArray 1 = F0 m 0 ls [] := by
    exact ⟨_, lv_entry (n := 1) _ (Nat.le_of_ble_eq_true rfl), lg_entry_eq ..⟩
  rw [hle]
  refine w_cRd_readInside_J0 ⟨hx, hb, hr, hml, hown, hts, hK, hA, hev, hE, hN, hNS⟩ Heq (fun r h pc H locs ls hd hz hP hD hS => ?_) _ _ _ hP hD hS (lv_sub hl [0] rfl)
  subst h
  exact W.zret (ty := .boolean) hx hb hr (by rcases hz with hz | hz <;> rw [hz] <;> rfl) (fun t ht hW => ⟨⟨_, (), rfl, rfl, by rw [ht]; exact hP, va_K.moved hW.alike hK, hD⟩, hS.F ht⟩) hS.2.2 hd
