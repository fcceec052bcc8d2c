noncomputable def m_cSt_make_J0 (N : Nat → Nat) (x0 : Nat) (S : CS) (x1 : Nat) (x2 : Nat) (x3 : Int32) (x4 : Int64) : Option (((Nat → Nat) × CS × Option Nat) × Nat × Nat) := gl x1 (N 4) (gl x0 (N 8) (gl x2 (N 3) (nw 15 3 0 N ((((S.setI 4 8 x1 ((S.i 4 8 x1) + 1)).setI 4 7 x1 ((S.i 4 7 x1) + 1)).setI 4 9 x1 ((S.i 4 9 x1) + 1)).setI 8 5 x0 ((S.i 8 5 x0) + 1)) (fun N_1 S_2 j_3 => ob (m_cOp_init N_1 j_3 S_2 ((8 * (S_2.i 4 8 x1)) + (S_2.i 4 0 x1)) (some x2) x3 x4) (fun o_4 => gn (o_4.r 4 1 x1) (N_1 12) (fun j_6 => gd (o_4.i 4 0 x1) (o_4.z 12 j_6) (gn (o_4.r 8 2 x0) (N_1 5) (fun j_10 => gn (o_4.r 8 1 x0) (N_1 15) (fun j_13 => gd (o_4.i 3 0 j_3) (o_4.z 15 j_13) (some ((N_1, (((o_4.setI 3 4 j_3 ((o_4.a 12 j_6 ((o_4.i 4 0 x1).toNatClampNeg)) + 1)).setI 3 8 j_3 (o_4.i 5 1 j_10)).setQ 15 j_13 ((o_4.i 3 0 j_3).toNatClampNeg) (some j_3)), (some j_3)), 0, 0)))))))))))
theorem d_cSt_make_0 : decode prog_10_method_2_code 0 = .ok (.aload_n 1, 1) := by decide +kernel
theorem d_cSt_make_1 : decode prog_10_method_2_code 1 = .ok (.dup, 1) := by decide +kernel
theorem d_cSt_make_2 : decode prog_10_method_2_code 2 = .ok (.getfield 39, 3) := by decide +kernel
theorem d_cSt_make_5 : decode prog_10_method_2_code 5 = .ok (.iconst 1, 1) := by decide +kernel
theorem d_cSt_make_6 : decode prog_10_method_2_code 6 = .ok (.iadd, 1) := by decide +kernel
theorem d_cSt_make_7 : decode prog_10_method_2_code 7 = .ok (.putfield 39, 3) := by decide +kernel
theorem d_cSt_make_10 : decode prog_10_method_2_code 10 = .ok (.aload_n 1, 1) := by decide +kernel
theorem d_cSt_make_11 : decode prog_10_method_2_code 11 = .ok (.dup, 1) := by decide +kernel
theorem d_cSt_make_12 : decode prog_10_method_2_code 12 = .ok (.getfield 45, 3) := by decide +kernel
theorem d_cSt_make_15 : decode prog_10_method_2_code 15 = .ok (.iconst 1, 1) := by decide +kernel
theorem d_cSt_make_16 : decode prog_10_method_2_code 16 = .ok (.iadd, 1) := by decide +kernel
theorem d_cSt_make_17 : decode prog_10_method_2_code 17 = .ok (.putfield 45, 3) := by decide +kernel
theorem d_cSt_make_20 : decode prog_10_method_2_code 20 = .ok (.aload_n 1, 1) := by decide +kernel
theorem d_cSt_make_21 : decode prog_10_method_2_code 21 = .ok (.dup, 1) := by decide +kernel
theorem d_cSt_make_22 : decode prog_10_method_2_code 22 = .ok (.getfield 48, 3) := by decide +kernel
theorem d_cSt_make_25 : decode prog_10_method_2_code 25 = .ok (.iconst 1, 1) := by decide +kernel
theorem d_cSt_make_26 : decode prog_10_method_2_code 26 = .ok (.iadd, 1) := by decide +kernel
theorem d_cSt_make_27 : decode prog_10_method_2_code 27 = .ok (.putfield 48, 3) := by decide +kernel
theorem d_cSt_make_30 : decode prog_10_method_2_code 30 = .ok (.aload_n 0, 1) := by decide +kernel
theorem d_cSt_make_31 : decode prog_10_method_2_code 31 = .ok (.dup, 1) := by decide +kernel
theorem d_cSt_make_32 : decode prog_10_method_2_code 32 = .ok (.getfield 51, 3) := by decide +kernel
theorem d_cSt_make_35 : decode prog_10_method_2_code 35 = .ok (.iconst 1, 1) := by decide +kernel
theorem d_cSt_make_36 : decode prog_10_method_2_code 36 = .ok (.iadd, 1) := by decide +kernel
theorem d_cSt_make_37 : decode prog_10_method_2_code 37 = .ok (.putfield 51, 3) := by decide +kernel
theorem d_cSt_make_40 : decode prog_10_method_2_code 40 = .ok (.new 9, 3) := by decide +kernel
theorem d_cSt_make_43 : decode prog_10_method_2_code 43 = .ok (.dup, 1) := by decide +kernel
theorem d_cSt_make_44 : decode prog_10_method_2_code 44 = .ok (.bipush 8, 2) := by decide +kernel
theorem d_cSt_make_46 : decode prog_10_method_2_code 46 = .ok (.aload_n 1, 1) := by decide +kernel
theorem d_cSt_make_47 : decode prog_10_method_2_code 47 = .ok (.getfield 39, 3) := by decide +kernel
theorem d_cSt_make_50 : decode prog_10_method_2_code 50 = .ok (.imul, 1) := by decide +kernel
theorem d_cSt_make_51 : decode prog_10_method_2_code 51 = .ok (.aload_n 1, 1) := by decide +kernel
theorem d_cSt_make_52 : decode prog_10_method_2_code 52 = .ok (.getfield 54, 3) := by decide +kernel
theorem d_cSt_make_55 : decode prog_10_method_2_code 55 = .ok (.iadd, 1) := by decide +kernel
theorem d_cSt_make_56 : decode prog_10_method_2_code 56 = .ok (.aload_n 2, 1) := by decide +kernel
theorem d_cSt_make_57 : decode prog_10_method_2_code 57 = .ok (.iload_n 3, 1) := by decide +kernel
theorem d_cSt_make_58 : decode prog_10_method_2_code 58 = .ok (.lload 4, 2) := by decide +kernel
theorem d_cSt_make_60 : decode prog_10_method_2_code 60 = .ok (.invokespecial 11, 3) := by decide +kernel
theorem d_cSt_make_63 : decode prog_10_method_2_code 63 = .ok (.astore 6, 2) := by decide +kernel
theorem d_cSt_make_65 : decode prog_10_method_2_code 65 = .ok (.aload 6, 2) := by decide +kernel
theorem d_cSt_make_67 : decode prog_10_method_2_code 67 = .ok (.aload_n 1, 1) := by decide +kernel
theorem d_cSt_make_68 : decode prog_10_method_2_code 68 = .ok (.getfield 57, 3) := by decide +kernel
theorem d_cSt_make_71 : decode prog_10_method_2_code 71 = .ok (.aload_n 1, 1) := by decide +kernel
theorem d_cSt_make_72 : decode prog_10_method_2_code 72 = .ok (.getfield 54, 3) := by decide +kernel
theorem d_cSt_make_75 : decode prog_10_method_2_code 75 = .ok (.iaload, 1) := by decide +kernel
theorem d_cSt_make_76 : decode prog_10_method_2_code 76 = .ok (.iconst 1, 1) := by decide +kernel
theorem d_cSt_make_77 : decode prog_10_method_2_code 77 = .ok (.iadd, 1) := by decide +kernel
theorem d_cSt_make_78 : decode prog_10_method_2_code 78 = .ok (.putfield 61, 3) := by decide +kernel
theorem d_cSt_make_81 : decode prog_10_method_2_code 81 = .ok (.aload 6, 2) := by decide +kernel
theorem d_cSt_make_83 : decode prog_10_method_2_code 83 = .ok (.aload_n 0, 1) := by decide +kernel
theorem d_cSt_make_84 : decode prog_10_method_2_code 84 = .ok (.getfield 29, 3) := by decide +kernel
theorem d_cSt_make_87 : decode prog_10_method_2_code 87 = .ok (.getfield 64, 3) := by decide +kernel
theorem d_cSt_make_90 : decode prog_10_method_2_code 90 = .ok (.putfield 67, 3) := by decide +kernel
theorem d_cSt_make_93 : decode prog_10_method_2_code 93 = .ok (.aload_n 0, 1) := by decide +kernel
theorem d_cSt_make_94 : decode prog_10_method_2_code 94 = .ok (.getfield 20, 3) := by decide +kernel
theorem d_cSt_make_97 : decode prog_10_method_2_code 97 = .ok (.aload 6, 2) := by decide +kernel
theorem d_cSt_make_99 : decode prog_10_method_2_code 99 = .ok (.getfield 70, 3) := by decide +kernel
theorem d_cSt_make_102 : decode prog_10_method_2_code 102 = .ok (.aload 6, 2) := by decide +kernel
theorem d_cSt_make_104 : decode prog_10_method_2_code 104 = .ok (.aastore, 1) := by decide +kernel
theorem d_cSt_make_105 : decode prog_10_method_2_code 105 = .ok (.aload 6, 2) := by decide +kernel
theorem d_cSt_make_107 : decode prog_10_method_2_code 107 = .ok (.areturn, 1) := by decide +kernel
set_option maxHeartbeats 4000000 in
set_option maxRecDepth 100000 in
theorem w_cSt_make_J0 {p : Program} {l : Launch} {e : Env} {s : State} {m : MethodId} {args : Array Value} {below : List Frame} {meth : Method} {c : Code} {A : Nat → Prop} {D : va_G} {cc : Nat → ClassId} {sad sav : Nat → Nat} {Q : State → Prop} {ad0 : Nat → Nat → Nat} {N0 : Nat → Nat} {CT ST cR sR : Nat} (hC : MCc sad sav "JoinedTrees$Store" prog_10_method_2_code 7 (some (.object "JoinedTrees$Op")) p s m args meth c A D cc) (hCT : CT ≤ cR) (hST : ST ≤ sR) {N : Nat → Nat} {x0 : Nat} {S : CS} {x1 : Nat} {x2 : Nat} {x3 : Int32} {x4 : Int64} {o : (Nat → Nat) × CS × Option Nat} {oc os : Nat} (Heq : m_cSt_make_J0 N x0 S x1 x2 x3 x4 = some (o, oc, os)) (Kr : ∀ r : (Nat → Nat) × CS × Option Nat, o = r → ∀ (pc : Nat) (ad : Nat → Nat → Nat) (H : Heap) (locs : List Loc) (ls : Array Slot), decode prog_10_method_2_code pc = .ok (.areturn, 1) → Ext ad0 N0 ad (r.1) → va_P D cls (cw ad cc r.1 r.2.1) H → va_D A (cw ad cc r.1 r.2.1) → va_S A s.heap H locs → W p l e ({ frames := 2, cells := cR, slots := sR, locals := 49 }) s m args below meth c H locs CT ST Q (F0 m pc ls [rv ad 3 r.2.2])) : ∀ (ad : Nat → Nat → Nat) (H : Heap) (locs : List Loc) (ls : Array Slot) (cells slots : Nat), Ext ad0 N0 ad N → cells + oc = CT → slots + os = ST → va_P D cls (cw ad cc N S) H → va_D A (cw ad cc N S) → va_S A s.heap H locs → lv_has ls 7 [(0, .ref (ad 8 x0)), (1, .ref (ad 4 x1)), (2, .ref (ad 3 x2)), (3, .int x3), (4, .long x4)] → W p l e ({ frames := 2, cells := cR, slots := sR, locals := 49 }) s m args below meth c H locs cells slots Q (F0 m 0 ls []) := by
  intro ad H locs ls cells slots hX hcu hsu hP hD hS hl
  obtain ⟨hx, hb, hr, hml, hown, hts, hK, hA, hev, hE, hN, hNS⟩ := id hC
  unfold m_cSt_make_J0 at Heq
  refine lv_aload_n hx hb d_cSt_make_0 rfl (lv_at hl 1 rfl) ?_
  refine lv_dup hx hb d_cSt_make_1 (by first | rfl | exact rv_cat) ?_
  obtain ⟨hl_x1_4, Heq⟩ := gl_some Heq
  refine va_get (D := D) (ci := 4) (v := .int (S.i 4 8 x1)) (C := R_Rp) (T := F_Rp) (N := 10) hx hb hts i_Rp hown hK hP (cPos N 4 x1) (cw_obj (k := 4) (by decide) hl_x1_4) rfl 8 (by decide) (hts _ kw_226) (fun _ h9 => h9) rfl d_cSt_make_2 ?_
  refine lv_iconst (v := 1) hx hb d_cSt_make_5 (by decide) ?_
  refine lv_iadd hx hb d_cSt_make_6 ?_
  refine w_i (y := (S.i 4 8 x1) + 1) rfl ?_
  refine va_put (D := D) (ci := 4) (v := .int ((S.i 4 8 x1) + 1)) (ty := .int) (C := R_Rp) (T := F_Rp) (N := 10) hx hb hts i_Rp t_Rp t_Rp_ok n_Rp hown hK hP hD hS (cPos N 4 x1) (cw_obj (k := 4) (by decide) hl_x1_4) rfl 8 (by decide) (hts _ kw_226) (fun _ h9 => h9) rfl (by decide +kernel) rfl rfl (Nat.le_of_ble_eq_true rfl) d_cSt_make_7 (fun H locs hP hD hS => ?_)
  have hD := (congrArg (fun w9 => va_D A w9) (cw_setI (ad := ad) (cc := cc) (S := S) (k := 4) (f := 8) (v := (S.i 4 8 x1) + 1) (by decide) rfl hl_x1_4)).mp hD
  have hP := (congrArg (fun w9 => va_P D cls w9 H) (cw_setI (ad := ad) (cc := cc) (S := S) (k := 4) (f := 8) (v := (S.i 4 8 x1) + 1) (by decide) rfl hl_x1_4)).mp hP
  refine lv_aload_n hx hb d_cSt_make_10 rfl (lv_at hl 1 rfl) ?_
  refine lv_dup hx hb d_cSt_make_11 (by first | rfl | exact rv_cat) ?_
  refine va_get (D := D) (ci := 4) (v := .int ((S.setI 4 8 x1 ((S.i 4 8 x1) + 1)).i 4 7 x1)) (C := R_Rp) (T := F_Rp) (N := 10) hx hb hts i_Rp hown hK hP (cPos N 4 x1) (cw_obj (k := 4) (by decide) hl_x1_4) rfl 7 (by decide) (hts _ kw_223) (fun _ h9 => h9) rfl d_cSt_make_12 ?_
  refine w_i (y := S.i 4 7 x1) rfl ?_
  refine lv_iconst (v := 1) hx hb d_cSt_make_15 (by decide) ?_
  refine lv_iadd hx hb d_cSt_make_16 ?_
  refine w_i (y := (S.i 4 7 x1) + 1) rfl ?_
  refine va_put (D := D) (ci := 4) (v := .int ((S.i 4 7 x1) + 1)) (ty := .int) (C := R_Rp) (T := F_Rp) (N := 10) hx hb hts i_Rp t_Rp t_Rp_ok n_Rp hown hK hP hD hS (cPos N 4 x1) (cw_obj (k := 4) (by decide) hl_x1_4) rfl 7 (by decide) (hts _ kw_223) (fun _ h9 => h9) rfl (by decide +kernel) rfl rfl (Nat.le_of_ble_eq_true rfl) d_cSt_make_17 (fun H locs hP hD hS => ?_)
  have hD := (congrArg (fun w9 => va_D A w9) (cw_setI (ad := ad) (cc := cc) (S := (S.setI 4 8 x1 ((S.i 4 8 x1) + 1))) (k := 4) (f := 7) (v := (S.i 4 7 x1) + 1) (by decide) rfl hl_x1_4)).mp hD
  have hP := (congrArg (fun w9 => va_P D cls w9 H) (cw_setI (ad := ad) (cc := cc) (S := (S.setI 4 8 x1 ((S.i 4 8 x1) + 1))) (k := 4) (f := 7) (v := (S.i 4 7 x1) + 1) (by decide) rfl hl_x1_4)).mp hP
  refine lv_aload_n hx hb d_cSt_make_20 rfl (lv_at hl 1 rfl) ?_
  refine lv_dup hx hb d_cSt_make_21 (by first | rfl | exact rv_cat) ?_
  refine va_get (D := D) (ci := 4) (v := .int (((S.setI 4 8 x1 ((S.i 4 8 x1) + 1)).setI 4 7 x1 ((S.i 4 7 x1) + 1)).i 4 9 x1)) (C := R_Rp) (T := F_Rp) (N := 10) hx hb hts i_Rp hown hK hP (cPos N 4 x1) (cw_obj (k := 4) (by decide) hl_x1_4) rfl 9 (by decide) (hts _ kw_229) (fun _ h9 => h9) rfl d_cSt_make_22 ?_
  refine w_i (y := S.i 4 9 x1) rfl ?_
  refine lv_iconst (v := 1) hx hb d_cSt_make_25 (by decide) ?_
  refine lv_iadd hx hb d_cSt_make_26 ?_
  refine w_i (y := (S.i 4 9 x1) + 1) rfl ?_
  refine va_put (D := D) (ci := 4) (v := .int ((S.i 4 9 x1) + 1)) (ty := .int) (C := R_Rp) (T := F_Rp) (N := 10) hx hb hts i_Rp t_Rp t_Rp_ok n_Rp hown hK hP hD hS (cPos N 4 x1) (cw_obj (k := 4) (by decide) hl_x1_4) rfl 9 (by decide) (hts _ kw_229) (fun _ h9 => h9) rfl (by decide +kernel) rfl rfl (Nat.le_of_ble_eq_true rfl) d_cSt_make_27 (fun H locs hP hD hS => ?_)
  have hD := (congrArg (fun w9 => va_D A w9) (cw_setI (ad := ad) (cc := cc) (S := ((S.setI 4 8 x1 ((S.i 4 8 x1) + 1)).setI 4 7 x1 ((S.i 4 7 x1) + 1))) (k := 4) (f := 9) (v := (S.i 4 9 x1) + 1) (by decide) rfl hl_x1_4)).mp hD
  have hP := (congrArg (fun w9 => va_P D cls w9 H) (cw_setI (ad := ad) (cc := cc) (S := ((S.setI 4 8 x1 ((S.i 4 8 x1) + 1)).setI 4 7 x1 ((S.i 4 7 x1) + 1))) (k := 4) (f := 9) (v := (S.i 4 9 x1) + 1) (by decide) rfl hl_x1_4)).mp hP
  refine lv_aload_n hx hb d_cSt_make_30 rfl (lv_at hl 0 rfl) ?_
  refine lv_dup hx hb d_cSt_make_31 (by first | rfl | exact rv_cat) ?_
  obtain ⟨hl_x0_8, Heq⟩ := gl_some Heq
  refine va_get (D := D) (ci := 8) (v := .int ((((S.setI 4 8 x1 ((S.i 4 8 x1) + 1)).setI 4 7 x1 ((S.i 4 7 x1) + 1)).setI 4 9 x1 ((S.i 4 9 x1) + 1)).i 8 5 x0)) (C := R_St) (T := F_St) (N := 6) hx hb hts i_St hown hK hP (cPos N 8 x0) (cw_obj (k := 8) (by decide) hl_x0_8) rfl 5 (by decide) (hts _ kw_177) (fun _ h9 => h9) rfl d_cSt_make_32 ?_
  refine w_i (y := S.i 8 5 x0) rfl ?_
  refine lv_iconst (v := 1) hx hb d_cSt_make_35 (by decide) ?_
  refine lv_iadd hx hb d_cSt_make_36 ?_
  refine w_i (y := (S.i 8 5 x0) + 1) rfl ?_
  refine va_put (D := D) (ci := 8) (v := .int ((S.i 8 5 x0) + 1)) (ty := .int) (C := R_St) (T := F_St) (N := 6) hx hb hts i_St t_St t_St_ok n_St hown hK hP hD hS (cPos N 8 x0) (cw_obj (k := 8) (by decide) hl_x0_8) rfl 5 (by decide) (hts _ kw_177) (fun _ h9 => h9) rfl (by decide +kernel) rfl rfl (Nat.le_of_ble_eq_true rfl) d_cSt_make_37 (fun H locs hP hD hS => ?_)
  have hD := (congrArg (fun w9 => va_D A w9) (cw_setI (ad := ad) (cc := cc) (S := (((S.setI 4 8 x1 ((S.i 4 8 x1) + 1)).setI 4 7 x1 ((S.i 4 7 x1) + 1)).setI 4 9 x1 ((S.i 4 9 x1) + 1))) (k := 8) (f := 5) (v := (S.i 8 5 x0) + 1) (by decide) rfl hl_x0_8)).mp hD
  have hP := (congrArg (fun w9 => va_P D cls w9 H) (cw_setI (ad := ad) (cc := cc) (S := (((S.setI 4 8 x1 ((S.i 4 8 x1) + 1)).setI 4 7 x1 ((S.i 4 7 x1) + 1)).setI 4 9 x1 ((S.i 4 9 x1) + 1))) (k := 8) (f := 5) (v := (S.i 8 5 x0) + 1) (by decide) rfl hl_x0_8)).mp hP
  obtain ⟨hl_x2_3, Heq⟩ := gl_some Heq
  obtain ⟨N_1, S_2, j_3, a9, b9, Heq, e9a, e9b, hw9, eN9, eS9, ej9⟩ := nw_some Heq
  refine va_new (D := D) (ci := 3) (fs := [.int 0, .null, .int 0, .long 0, .int 0, .int 0, .null, .null, .int 0, .int 0, .int 0, .null, .null, .null, .int 0]) (C := R_Op) (T := F_Op) (N := 15) hx hb hts i_Op t_Op t_Op_ok hown (hts _ kw_42) (hts _ kw_43) (hts _ kw_3) hK hP hD hS hA rfl (by decide +kernel) (Nat.le_trans (m := CT) (by omega) hCT) (Nat.le_trans (m := ST) (by omega) hST) d_cSt_make_40 (fun q9 H hP hD hS => ?_)
  obtain ⟨ad, hX1, hq1, hne1, hl_j_3, hP, hD⟩ := cw_born2 hw9 eN9 eS9 ej9 (by decide) (cell_newO (by decide)) hP hD
  have hX := hX.tr hX1
  have hl : lv_has ls 7 [(0, .ref (ad 8 x0)), (1, .ref (ad 4 x1)), (2, .ref (ad 3 x2)), (3, .int x3), (4, .long x4)] := lv_cast hl (by first | rfl | simp only [hq1, hne1 8 x0 (by decide), hne1 4 x1 (by decide), hX1.2 3 x2 hl_x2_3])
  refine w_s (st' := [.ref (ad 3 j_3)]) (by first | rfl | simp only [hq1, hne1 8 x0 (by decide), hne1 4 x1 (by decide), hX1.2 3 x2 hl_x2_3]) ?_
  have hl_x1_4 := Nat.lt_of_lt_of_le hl_x1_4 (hX1.1 4)
  have hl_x0_8 := Nat.lt_of_lt_of_le hl_x0_8 (hX1.1 8)
  have hl_x2_3 := Nat.lt_of_lt_of_le hl_x2_3 (hX1.1 3)
  refine lv_dup hx hb d_cSt_make_43 (by first | rfl | exact rv_cat) ?_
  refine lv_bipush (v := 8) hx hb d_cSt_make_44 (by decide) ?_
  refine lv_aload_n hx hb d_cSt_make_46 rfl (lv_at hl 1 rfl) ?_
  refine va_get (D := D) (ci := 4) (v := .int (S_2.i 4 8 x1)) (C := R_Rp) (T := F_Rp) (N := 10) hx hb hts i_Rp hown hK hP (cPos N_1 4 x1) (cw_obj (k := 4) (by decide) hl_x1_4) rfl 8 (by decide) (hts _ kw_226) (fun _ h9 => h9) rfl d_cSt_make_47 ?_
  refine lv_imul hx hb d_cSt_make_50 ?_
  refine w_i (y := 8 * (S_2.i 4 8 x1)) rfl ?_
  refine lv_aload_n hx hb d_cSt_make_51 rfl (lv_at hl 1 rfl) ?_
  refine va_get (D := D) (ci := 4) (v := .int (S_2.i 4 0 x1)) (C := R_Rp) (T := F_Rp) (N := 10) hx hb hts i_Rp hown hK hP (cPos N_1 4 x1) (cw_obj (k := 4) (by decide) hl_x1_4) rfl 0 (by decide) (hts _ kw_203) (fun _ h9 => h9) rfl d_cSt_make_52 ?_
  refine lv_iadd hx hb d_cSt_make_55 ?_
  refine w_i (y := (8 * (S_2.i 4 8 x1)) + (S_2.i 4 0 x1)) rfl ?_
  refine lv_aload_n hx hb d_cSt_make_56 rfl (lv_at hl 2 rfl) ?_
  refine lv_iload_n hx hb d_cSt_make_57 rfl (lv_at hl 3 rfl) ?_
  refine lv_lload hx hb d_cSt_make_58 (lv_at hl 4 rfl) ?_
  obtain ⟨o_4, h_5, Heq⟩ := ob_some Heq
  refine w_s (st' := [.long x4, .int x3, rv ad 3 (some x2), .int ((8 * (S_2.i 4 8 x1)) + (S_2.i 4 0 x1)), .ref (ad 3 j_3), .ref (ad 3 j_3)]) rfl ?_
  have hFc := fr_all hD hS hA
  refine va_callv (va_runI (As := [.int ((8 * (S_2.i 4 8 x1)) + (S_2.i 4 0 x1)), rv ad 3 (some x2), .int x3, .long x4]) (rest := [.ref (ad 3 j_3)]) ⟨hx, hb, hml, hown, hts⟩ (g_cOp_init l D H.size (ad := ad) (cc := cc) (sad := sad) (sav := sav) h_5) (cw_i 4 hts kw_46 kw_44 kw_45 kw_3 rfl rfl rfl (by decide +kernel) ⟨Nat.le_of_ble_eq_true rfl, Nat.le_of_ble_eq_true rfl⟩) ⟨c_blind, fun U hU hW => c_pre hU hW hP hK hD hev hE hN hNS hS hFc⟩ rfl rfl hl.1 rfl (lv_room (Nat.le_of_ble_eq_true rfl)) d_cSt_make_60 ⟨(Nat.le_trans (m := CT) (by omega) hCT), (Nat.le_trans (m := ST) (by omega) hST)⟩) hS (fun q _ h => hFc q h) hFc (fun u t H1 locs ht hvm hw hB hz1 hk1 hS => ?_)
  obtain ⟨hP, -, hD1⟩ := hB
  rw [ht] at hP
  have hD := hD1.weaken (fun _ q _ h => hFc q.1 h)
  generalize H1 = H at hP hS ⊢
  refine lv_astore (lv' := [(6, .ref (ad 3 j_3)), (0, .ref (ad 8 x0)), (1, .ref (ad 4 x1)), (2, .ref (ad 3 x2)), (3, .int x3), (4, .long x4)]) hx hb d_cSt_make_63 hl (by decide) rfl (fun ls hl => ?_)
  refine lv_aload hx hb d_cSt_make_65 (lv_at hl 0 rfl) ?_
  refine lv_aload_n hx hb d_cSt_make_67 rfl (lv_at hl 2 rfl) ?_
  refine va_get (D := D) (ci := 4) (v := rv ad 12 (o_4.r 4 1 x1)) (C := R_Rp) (T := F_Rp) (N := 10) hx hb hts i_Rp hown hK hP (cPos N_1 4 x1) (cw_obj (k := 4) (by decide) hl_x1_4) rfl 1 (by decide) (hts _ kw_208) (fun _ h9 => h9) rfl d_cSt_make_68 ?_
  refine lv_aload_n hx hb d_cSt_make_71 rfl (lv_at hl 2 rfl) ?_
  refine va_get (D := D) (ci := 4) (v := .int (o_4.i 4 0 x1)) (C := R_Rp) (T := F_Rp) (N := 10) hx hb hts i_Rp hown hK hP (cPos N_1 4 x1) (cw_obj (k := 4) (by decide) hl_x1_4) rfl 0 (by decide) (hts _ kw_203) (fun _ h9 => h9) rfl d_cSt_make_72 ?_
  obtain ⟨j_6, hj_7, hl_8, Heq⟩ := gn_some Heq
  refine w_s (st' := [.int (o_4.i 4 0 x1), .ref (ad 12 j_6), .ref (ad 3 j_3)]) (congrArg (fun z9 : Option Nat => [.int (o_4.i 4 0 x1), rv ad 12 z9, .ref (ad 3 j_3)]) hj_7) ?_
  obtain ⟨hi_9, Heq⟩ := gd_some Heq
  refine va_iald hx hb hK hP (cPos N_1 12 j_6) 0 (cw_arr (k := 12) (by decide) hl_8) rfl (i := o_4.i 4 0 x1) hi_9 d_cSt_make_75 ?_
  refine w_i (y := o_4.a 12 j_6 ((o_4.i 4 0 x1).toNatClampNeg)) rfl ?_
  refine lv_iconst (v := 1) hx hb d_cSt_make_76 (by decide) ?_
  refine lv_iadd hx hb d_cSt_make_77 ?_
  refine w_i (y := (o_4.a 12 j_6 ((o_4.i 4 0 x1).toNatClampNeg)) + 1) rfl ?_
  refine va_put (D := D) (ci := 3) (v := .int ((o_4.a 12 j_6 ((o_4.i 4 0 x1).toNatClampNeg)) + 1)) (ty := .int) (C := R_Op) (T := F_Op) (N := 15) hx hb hts i_Op t_Op t_Op_ok n_Op hown hK hP hD hS (cPos N_1 3 j_3) (cw_obj (k := 3) (by decide) hl_j_3) rfl 4 (by decide) (hts _ kw_67) (fun _ h9 => h9) rfl (by decide +kernel) rfl rfl (Nat.le_of_ble_eq_true rfl) d_cSt_make_78 (fun H locs hP hD hS => ?_)
  have hD := (congrArg (fun w9 => va_D A w9) (cw_setI (ad := ad) (cc := cc) (S := o_4) (k := 3) (f := 4) (v := (o_4.a 12 j_6 ((o_4.i 4 0 x1).toNatClampNeg)) + 1) (by decide) rfl hl_j_3)).mp hD
  have hP := (congrArg (fun w9 => va_P D cls w9 H) (cw_setI (ad := ad) (cc := cc) (S := o_4) (k := 3) (f := 4) (v := (o_4.a 12 j_6 ((o_4.i 4 0 x1).toNatClampNeg)) + 1) (by decide) rfl hl_j_3)).mp hP
  refine lv_aload hx hb d_cSt_make_81 (lv_at hl 0 rfl) ?_
  refine lv_aload_n hx hb d_cSt_make_83 rfl (lv_at hl 1 rfl) ?_
  refine va_get (D := D) (ci := 8) (v := rv ad 5 ((o_4.setI 3 4 j_3 ((o_4.a 12 j_6 ((o_4.i 4 0 x1).toNatClampNeg)) + 1)).r 8 2 x0)) (C := R_St) (T := F_St) (N := 6) hx hb hts i_St hown hK hP (cPos N_1 8 x0) (cw_obj (k := 8) (by decide) hl_x0_8) rfl 2 (by decide) (hts _ kw_167) (fun _ h9 => h9) rfl d_cSt_make_84 ?_
  refine w_v (y := rv ad 5 (o_4.r 8 2 x0)) (congrArg (rv ad 5) rfl) ?_
  obtain ⟨j_10, hj_11, hl_12, Heq⟩ := gn_some Heq
  refine w_s (st' := [.ref (ad 5 j_10), .ref (ad 3 j_3)]) (congrArg (fun z9 : Option Nat => [rv ad 5 z9, .ref (ad 3 j_3)]) hj_11) ?_
  refine va_get (D := D) (ci := 5) (v := .int ((o_4.setI 3 4 j_3 ((o_4.a 12 j_6 ((o_4.i 4 0 x1).toNatClampNeg)) + 1)).i 5 1 j_10)) (C := R_Rw) (T := F_Rw) (N := 3) hx hb hts i_Rw hown hK hP (cPos N_1 5 j_10) (cw_obj (k := 5) (by decide) hl_12) rfl 1 (by decide) (hts _ kw_144) (fun _ h9 => h9) rfl d_cSt_make_87 ?_
  refine w_i (y := o_4.i 5 1 j_10) rfl ?_
  refine va_put (D := D) (ci := 3) (v := .int (o_4.i 5 1 j_10)) (ty := .int) (C := R_Op) (T := F_Op) (N := 15) hx hb hts i_Op t_Op t_Op_ok n_Op hown hK hP hD hS (cPos N_1 3 j_3) (cw_obj (k := 3) (by decide) hl_j_3) rfl 8 (by decide) (hts _ kw_78) (fun _ h9 => h9) rfl (by decide +kernel) rfl rfl (Nat.le_of_ble_eq_true rfl) d_cSt_make_90 (fun H locs hP hD hS => ?_)
  have hD := (congrArg (fun w9 => va_D A w9) (cw_setI (ad := ad) (cc := cc) (S := (o_4.setI 3 4 j_3 ((o_4.a 12 j_6 ((o_4.i 4 0 x1).toNatClampNeg)) + 1))) (k := 3) (f := 8) (v := o_4.i 5 1 j_10) (by decide) rfl hl_j_3)).mp hD
  have hP := (congrArg (fun w9 => va_P D cls w9 H) (cw_setI (ad := ad) (cc := cc) (S := (o_4.setI 3 4 j_3 ((o_4.a 12 j_6 ((o_4.i 4 0 x1).toNatClampNeg)) + 1))) (k := 3) (f := 8) (v := o_4.i 5 1 j_10) (by decide) rfl hl_j_3)).mp hP
  refine lv_aload_n hx hb d_cSt_make_93 rfl (lv_at hl 1 rfl) ?_
  refine va_get (D := D) (ci := 8) (v := rv ad 15 (((o_4.setI 3 4 j_3 ((o_4.a 12 j_6 ((o_4.i 4 0 x1).toNatClampNeg)) + 1)).setI 3 8 j_3 (o_4.i 5 1 j_10)).r 8 1 x0)) (C := R_St) (T := F_St) (N := 6) hx hb hts i_St hown hK hP (cPos N_1 8 x0) (cw_obj (k := 8) (by decide) hl_x0_8) rfl 1 (by decide) (hts _ kw_164) (fun _ h9 => h9) rfl d_cSt_make_94 ?_
  refine w_v (y := rv ad 15 (o_4.r 8 1 x0)) (congrArg (rv ad 15) rfl) ?_
  refine lv_aload hx hb d_cSt_make_97 (lv_at hl 0 rfl) ?_
  refine va_get (D := D) (ci := 3) (v := .int (((o_4.setI 3 4 j_3 ((o_4.a 12 j_6 ((o_4.i 4 0 x1).toNatClampNeg)) + 1)).setI 3 8 j_3 (o_4.i 5 1 j_10)).i 3 0 j_3)) (C := R_Op) (T := F_Op) (N := 15) hx hb hts i_Op hown hK hP (cPos N_1 3 j_3) (cw_obj (k := 3) (by decide) hl_j_3) rfl 0 (by decide) (hts _ kw_50) (fun _ h9 => h9) rfl d_cSt_make_99 ?_
  refine w_i (y := o_4.i 3 0 j_3) rfl ?_
  refine lv_aload hx hb d_cSt_make_102 (lv_at hl 0 rfl) ?_
  obtain ⟨j_13, hj_14, hl_15, Heq⟩ := gn_some Heq
  refine w_s (st' := [.ref (ad 3 j_3), .int (o_4.i 3 0 j_3), .ref (ad 15 j_13)]) (congrArg (fun z9 : Option Nat => [.ref (ad 3 j_3), .int (o_4.i 3 0 j_3), rv ad 15 z9]) hj_14) ?_
  obtain ⟨hi_16, Heq⟩ := gd_some Heq
  refine va_astq hx hb hK hP hD hS (cPos N_1 15 j_13) 3 (cPos N_1 3 j_3) 3 (cw_refs (k := 15) (by decide) hl_15) rfl (cw_obj (k := 3) (by decide) hl_j_3) rfl (i := o_4.i 3 0 j_3) hi_16 d_cSt_make_104 (fun H locs hP hD hS => ?_)
  have hD := (congrArg (fun w9 => va_D A w9) (cw_setQ (ad := ad) (cc := cc) (S := ((o_4.setI 3 4 j_3 ((o_4.a 12 j_6 ((o_4.i 4 0 x1).toNatClampNeg)) + 1)).setI 3 8 j_3 (o_4.i 5 1 j_10))) (k := 15) (i := (o_4.i 3 0 j_3).toNatClampNeg) (v := (some j_3)) (by decide) hl_15)).mp hD
  have hP := (congrArg (fun w9 => va_P D cls w9 H) (cw_setQ (ad := ad) (cc := cc) (S := ((o_4.setI 3 4 j_3 ((o_4.a 12 j_6 ((o_4.i 4 0 x1).toNatClampNeg)) + 1)).setI 3 8 j_3 (o_4.i 5 1 j_10))) (k := 15) (i := (o_4.i 3 0 j_3).toNatClampNeg) (v := (some j_3)) (by decide) hl_15)).mp hP
  refine lv_aload hx hb d_cSt_make_105 (lv_at hl 0 rfl) ?_
  obtain ⟨e9, e9a, e9b⟩ := tri Heq
  refine W.cs (cells' := CT) (slots' := ST) (by omega) (by omega) ?_
  exact Kr _ e9 107 _ _ _ _ d_cSt_make_107 hX hP hD hS
noncomputable def m_cSt_make (N : Nat → Nat) (x0 : Nat) (S : CS) (x1 : Nat) (x2 : Nat) (x3 : Int32) (x4 : Int64) : Option (((Nat → Nat) × CS × Option Nat) × Nat × Nat) := m_cSt_make_J0 N x0 S x1 x2 x3 x4
set_option maxHeartbeats 4000000 in
theorem g_cSt_make (l : Launch) (D : va_G) (sz : Nat) {ad : Nat → Nat → Nat} {cc : Nat → ClassId} {sad sav : Nat → Nat} {N : Nat → Nat} {x0 : Nat} {S : CS} {x1 : Nat} {x2 : Nat} {x3 : Int32} {x4 : Int64} {o : (Nat → Nat) × CS × Option Nat} {oc os : Nat} (Heq : m_cSt_make N x0 S x1 x2 x3 x4 = some (o, oc, os)) : Met l ⟨"JoinedTrees$Store", "make", "(LJoinedTrees$Replica;LJoinedTrees$Op;IJ)LJoinedTrees$Op;"⟩ (Cond.code ⟨"JoinedTrees$Store", "make", "(LJoinedTrees$Replica;LJoinedTrees$Op;IJ)LJoinedTrees$Op;"⟩ prog_10_method_2_code 7 (some (.object "JoinedTrees$Op")) :: gb) ({ frames := 2, cells := oc, slots := os, locals := 49 }) (cPc sad sav D (cw ad cc N S) (cty cc) sz [.ref (ad 8 x0), .ref (ad 4 x1), .ref (ad 3 x2), .int x3, .long x4]) (va_Qq (fun (r : Option Nat) (u : Nat → Nat → Nat) => r = o.2.2.map (u 3)) (fun (u : Nat → Nat → Nat) t => Ext ad N u o.1 ∧ gO D (cw u cc o.1 o.2.1) (cty cc) (va_A (cw ad cc N S) sz) t) (va_A (cw ad cc N S) sz)) oc os (va_A (cw ad cc N S) sz) := by
  refine Met.ofW (cc := prog_10_method_2_code) (maxL := 7) (ret := (some (.object "JoinedTrees$Op"))) (by decide) rfl ?_
  intro p e s m args below meth c s₁ B hml hv
  obtain ⟨rfl, hsz, hP, hK, hD0, hev, hE, hN⟩ := hv
  have hx := B.exec
  have hb := B.bytes
  have hr := B.returns
  have hts : ∀ w9 ∈ gb, w9.before [.ref (ad 8 x0), .ref (ad 4 x1), .ref (ad 3 x2), .int x3, .long x4].toArray s = true := fun w9 h => atoms_spec (ws := Cond.code ⟨"JoinedTrees$Store", "make", "(LJoinedTrees$Replica;LJoinedTrees$Op;IJ)LJoinedTrees$Op;"⟩ prog_10_method_2_code 7 (some (.object "JoinedTrees$Op")) :: gb) B.pre w9 (List.mem_cons_of_mem _ h)
  have hown : s.vm.findClass "JoinedTrees$Store" = some m.cls := findClass_of_methodNamed B.named
  have hlocks := B.notSynchronized
  have hNS := ns_of hP
  subst hsz
  have hD := hD0.self (sz := s.heap.size)
  generalize hAe : va_A (cw ad cc N S) s.heap.size = A at hD hev hE hNS ⊢
  have hA : ∀ q : Nat, s.heap.size ≤ q → A q := fun q h => by rw [← hAe]; exact Or.inr h
  have hS : va_S A s.heap s.heap [] := va_S.rf
  obtain ⟨ls, hl, hle⟩ : ∃ ls : Array Slot, lv_has ls 7 [(0, .ref (ad 8 x0)), (1, .ref (ad 4 x1)), (2, .ref (ad 3 x2)), (3, .int x3), (4, .long x4)] ∧ entryFrame m ([.ref (ad 8 x0), .ref (ad 4 x1), .ref (ad 3 x2), .int x3, .long x4] : List Value).toArray 7 = F0 m 0 ls [] := by
    exact ⟨_, lv_entry (n := 7) _ (Nat.le_of_ble_eq_true rfl), lg_entry_eq ..⟩
  rw [hle]
  refine w_cSt_make_J0 (ad0 := ad) (N0 := N) (CT := oc) (ST := os) (cR := oc) (sR := os) ⟨hx, hb, hr, hml, hown, hts, hK, hA, hev, hE, hN, hNS⟩ (Nat.le_refl _) (Nat.le_refl _) Heq (fun r h pc ad1 H locs ls hd hX hP hD hS => ?_) _ _ _ _ 0 0 Ext.rf (Nat.zero_add _) (Nat.zero_add _) hP hD hS (lv_sub hl [0, 1, 2, 3, 4] rfl)
  subst h
  exact W.aret hx hb hr (Or.inl ⟨_, rfl⟩) (va_rf_or _) (fun t ht hW => ⟨⟨_, ad1, rfl, rfl, hX, by rw [ht]; exact hP, va_K.moved hW.alike hK, hD⟩, hS.F ht⟩) hS.2.2 hd
noncomputable def m_cVw_rising_B19 (N : Nat → Nat) (x0 : Nat) (S : CS) (x1 : Option Nat) (x2 : Int32) : Option ((((Nat → Nat) × CS × Option Nat × Int32) ⊕ ((Nat → Nat) × CS × Option Nat)) × Nat × Nat) := gl x0 (N 10) ((if S.i 10 3 x0 ≤ x2 then some ((.inr (N, S, x1)), 0, 0) else gn (S.r 10 2 x0) (N 15) (fun j_2 => gd (((S.i 10 3 x0) - 1) - x2) (S.z 15 j_2) (gn x1 (N 15) (fun j_6 => gd x2 (S.z 15 j_6) (gn (S.q 15 j_2 ((((S.i 10 3 x0) - 1) - x2).toNatClampNeg)) (N 3) (fun j_10 => some ((.inl (N, (S.setQ 15 j_6 x2.toNatClampNeg (some j_10)), x1, (x2 + 1))), 0, 0))))))))
theorem d_cVw_rising_0 : decode prog_12_method_8_code 0 = .ok (.aload_n 0, 1) := by decide +kernel
theorem d_cVw_rising_1 : decode prog_12_method_8_code 1 = .ok (.getfield 66, 3) := by decide +kernel
theorem d_cVw_rising_4 : decode prog_12_method_8_code 4 = .ok (.ifCond .ne 5, 3) := by decide +kernel
theorem d_cVw_rising_9 : decode prog_12_method_8_code 9 = .ok (.aload_n 0, 1) := by decide +kernel
theorem d_cVw_rising_10 : decode prog_12_method_8_code 10 = .ok (.getfield 66, 3) := by decide +kernel
theorem d_cVw_rising_13 : decode prog_12_method_8_code 13 = .ok (.anewarray 15, 3) := by decide +kernel
theorem d_cVw_rising_16 : decode prog_12_method_8_code 16 = .ok (.astore_n 1, 1) := by decide +kernel
theorem d_cVw_rising_17 : decode prog_12_method_8_code 17 = .ok (.iconst 0, 1) := by decide +kernel
theorem d_cVw_rising_18 : decode prog_12_method_8_code 18 = .ok (.istore_n 2, 1) := by decide +kernel
theorem d_cVw_rising_19 : decode prog_12_method_8_code 19 = .ok (.iload_n 2, 1) := by decide +kernel
theorem d_cVw_rising_20 : decode prog_12_method_8_code 20 = .ok (.aload_n 0, 1) := by decide +kernel
theorem d_cVw_rising_21 : decode prog_12_method_8_code 21 = .ok (.getfield 66, 3) := by decide +kernel
theorem d_cVw_rising_24 : decode prog_12_method_8_code 24 = .ok (.if_icmp .ge 25, 3) := by decide +kernel
theorem d_cVw_rising_27 : decode prog_12_method_8_code 27 = .ok (.aload_n 1, 1) := by decide +kernel
theorem d_cVw_rising_28 : decode prog_12_method_8_code 28 = .ok (.iload_n 2, 1) := by decide +kernel
theorem d_cVw_rising_29 : decode prog_12_method_8_code 29 = .ok (.aload_n 0, 1) := by decide +kernel
theorem d_cVw_rising_30 : decode prog_12_method_8_code 30 = .ok (.getfield 17, 3) := by decide +kernel
theorem d_cVw_rising_33 : decode prog_12_method_8_code 33 = .ok (.aload_n 0, 1) := by decide +kernel
theorem d_cVw_rising_34 : decode prog_12_method_8_code 34 = .ok (.getfield 66, 3) := by decide +kernel
theorem d_cVw_rising_37 : decode prog_12_method_8_code 37 = .ok (.iconst 1, 1) := by decide +kernel
theorem d_cVw_rising_38 : decode prog_12_method_8_code 38 = .ok (.isub, 1) := by decide +kernel
theorem d_cVw_rising_39 : decode prog_12_method_8_code 39 = .ok (.iload_n 2, 1) := by decide +kernel
theorem d_cVw_rising_40 : decode prog_12_method_8_code 40 = .ok (.isub, 1) := by decide +kernel
theorem d_cVw_rising_41 : decode prog_12_method_8_code 41 = .ok (.aaload, 1) := by decide +kernel
theorem d_cVw_rising_42 : decode prog_12_method_8_code 42 = .ok (.aastore, 1) := by decide +kernel
theorem d_cVw_rising_43 : decode prog_12_method_8_code 43 = .ok (.iinc 2 1, 3) := by decide +kernel
theorem d_cVw_rising_46 : decode prog_12_method_8_code 46 = .ok (.goto (-27), 3) := by decide +kernel
set_option maxHeartbeats 4000000 in
set_option maxRecDepth 100000 in
theorem w_cVw_rising_B19 {p : Program} {l : Launch} {e : Env} {s : State} {m : MethodId} {args : Array Value} {below : List Frame} {meth : Method} {c : Code} {A : Nat → Prop} {D : va_G} {cc : Nat → ClassId} {sad sav : Nat → Nat} {Q : State → Prop} {ad0 : Nat → Nat → Nat} {N0 : Nat → Nat} {CT ST cR sR : Nat} (hC : MCc sad sav "JoinedTrees$View" prog_12_method_8_code 3 (some (.array (.object "JoinedTrees$Op"))) p s m args meth c A D cc) (hCT : CT ≤ cR) (hST : ST ≤ sR) {N : Nat → Nat} {x0 : Nat} {S : CS} {x1 : Option Nat} {x2 : Int32} {o : (((Nat → Nat) × CS × Option Nat × Int32) ⊕ ((Nat → Nat) × CS × Option Nat))} {oc os : Nat} (Heq : m_cVw_rising_B19 N x0 S x1 x2 = some (o, oc, os)) (Ka : ∀ (N : Nat → Nat) (b : CS × Option Nat × Int32), o = .inl (N, b) → ∀ (ad : Nat → Nat → Nat) (H : Heap) (locs : List Loc) (ls : Array Slot), Ext ad0 N0 ad N → va_P D cls (cw ad cc N b.1) H → va_D A (cw ad cc N b.1) → va_S A s.heap H locs → lv_has ls 3 [(0, .ref (ad 10 x0)), (1, rv ad 15 b.2.1), (2, .int b.2.2)] → W p l e ({ frames := 0, cells := cR, slots := sR, locals := 0 }) s m args below meth c H locs CT ST Q (F0 m 19 ls [])) (K0 : ∀ (N : Nat → Nat) (b : CS × Option Nat), o = .inr (N, b) → ∀ (ad : Nat → Nat → Nat) (H : Heap) (locs : List Loc) (ls : Array Slot), Ext ad0 N0 ad N → va_P D cls (cw ad cc N b.1) H → va_D A (cw ad cc N b.1) → va_S A s.heap H locs → lv_has ls 3 [(0, .ref (ad 10 x0)), (1, rv ad 15 b.2)] → W p l e ({ frames := 0, cells := cR, slots := sR, locals := 0 }) s m args below meth c H locs CT ST Q (F0 m 49 ls [])) : ∀ (ad : Nat → Nat → Nat) (H : Heap) (locs : List Loc) (ls : Array Slot) (cells slots : Nat), Ext ad0 N0 ad N → cells + oc = CT → slots + os = ST → va_P D cls (cw ad cc N S) H → va_D A (cw ad cc N S) → va_S A s.heap H locs → lv_has ls 3 [(0, .ref (ad 10 x0)), (1, rv ad 15 x1), (2, .int x2)] → W p l e ({ frames := 0, cells := cR, slots := sR, locals := 0 }) s m args below meth c H locs cells slots Q (F0 m 19 ls []) := by
  intro ad H locs ls cells slots hX hcu hsu hP hD hS hl
  obtain ⟨hx, hb, hr, hml, hown, hts, hK, hA, hev, hE, hN, hNS⟩ := id hC
  unfold m_cVw_rising_B19 at Heq
  refine lv_iload_n hx hb d_cVw_rising_19 rfl (lv_at hl 2 rfl) ?_
  refine lv_aload_n hx hb d_cVw_rising_20 rfl (lv_at hl 0 rfl) ?_
  obtain ⟨hl_x0_10, Heq⟩ := gl_some Heq
  refine va_get (D := D) (ci := 10) (v := .int (S.i 10 3 x0)) (C := R_Vw) (T := F_Vw) (N := 5) hx hb hts i_Vw hown hK hP (cPos N 10 x0) (cw_obj (k := 10) (by decide) hl_x0_10) rfl 3 (by decide) (hts _ kw_266) (fun _ h9 => h9) rfl d_cVw_rising_21 ?_
  refine lv_icmp_ge (tgt := 49) hx hb d_cVw_rising_24 (by decide) (fun c_1 => ?_) (fun c_1 => ?_)
  · replace Heq := (if_pos c_1).symm.trans Heq
    obtain ⟨e9, e9a, e9b⟩ := tri Heq
    refine W.cs (cells' := CT) (slots' := ST) (by omega) (by omega) ?_
    exact K0 _ _ e9 _ _ _ _ hX hP hD hS (lv_sub hl [0, 1] rfl)
  · replace Heq := (if_neg c_1).symm.trans Heq
    refine tx_aload_n (x := x1.map (ad 15)) hx hb d_cVw_rising_27 rfl (lv_at hl 1 rfl) ?_
    refine w_v (y := rv ad 15 x1) rfl ?_
    refine lv_iload_n hx hb d_cVw_rising_28 rfl (lv_at hl 2 rfl) ?_
    refine lv_aload_n hx hb d_cVw_rising_29 rfl (lv_at hl 0 rfl) ?_
    refine va_get (D := D) (ci := 10) (v := rv ad 15 (S.r 10 2 x0)) (C := R_Vw) (T := F_Vw) (N := 5) hx hb hts i_Vw hown hK hP (cPos N 10 x0) (cw_obj (k := 10) (by decide) hl_x0_10) rfl 2 (by decide) (hts _ kw_264) (fun _ h9 => h9) rfl d_cVw_rising_30 ?_
    refine lv_aload_n hx hb d_cVw_rising_33 rfl (lv_at hl 0 rfl) ?_
    refine va_get (D := D) (ci := 10) (v := .int (S.i 10 3 x0)) (C := R_Vw) (T := F_Vw) (N := 5) hx hb hts i_Vw hown hK hP (cPos N 10 x0) (cw_obj (k := 10) (by decide) hl_x0_10) rfl 3 (by decide) (hts _ kw_266) (fun _ h9 => h9) rfl d_cVw_rising_34 ?_
    refine lv_iconst (v := 1) hx hb d_cVw_rising_37 (by decide) ?_
    refine lv_isub hx hb d_cVw_rising_38 ?_
    refine w_i (y := (S.i 10 3 x0) - 1) rfl ?_
    refine lv_iload_n hx hb d_cVw_rising_39 rfl (lv_at hl 2 rfl) ?_
    refine lv_isub hx hb d_cVw_rising_40 ?_
    refine w_i (y := ((S.i 10 3 x0) - 1) - x2) rfl ?_
    obtain ⟨j_2, hj_3, hl_4, Heq⟩ := gn_some Heq
    refine w_s (st' := [.int (((S.i 10 3 x0) - 1) - x2), .ref (ad 15 j_2), .int x2, rv ad 15 x1]) (congrArg (fun z9 : Option Nat => [.int (((S.i 10 3 x0) - 1) - x2), rv ad 15 z9, .int x2, rv ad 15 x1]) hj_3) ?_
    obtain ⟨hi_5, Heq⟩ := gd_some Heq
    refine va_aldq hx hb hK hP (cPos N 15 j_2) 3 (cw_refs (k := 15) (by decide) hl_4) rfl (i := ((S.i 10 3 x0) - 1) - x2) hi_5 d_cVw_rising_41 ?_
    refine w_v (y := rv ad 3 (S.q 15 j_2 ((((S.i 10 3 x0) - 1) - x2).toNatClampNeg))) (congrArg (rv ad 3) rfl) ?_
    obtain ⟨j_6, hj_7, hl_8, Heq⟩ := gn_some Heq
    refine w_s (st' := [rv ad 3 (S.q 15 j_2 ((((S.i 10 3 x0) - 1) - x2).toNatClampNeg)), .int x2, .ref (ad 15 j_6)]) (congrArg (fun z9 : Option Nat => [rv ad 3 (S.q 15 j_2 ((((S.i 10 3 x0) - 1) - x2).toNatClampNeg)), .int x2, rv ad 15 z9]) hj_7) ?_
    obtain ⟨hi_9, Heq⟩ := gd_some Heq
    obtain ⟨j_10, hj_11, hl_12, Heq⟩ := gn_some Heq
    refine w_s (st' := [.ref (ad 3 j_10), .int x2, .ref (ad 15 j_6)]) (congrArg (fun z9 : Option Nat => [rv ad 3 z9, .int x2, .ref (ad 15 j_6)]) hj_11) ?_
    refine va_astq hx hb hK hP hD hS (cPos N 15 j_6) 3 (cPos N 3 j_10) 3 (cw_refs (k := 15) (by decide) hl_8) rfl (cw_obj (k := 3) (by decide) hl_12) rfl (i := x2) hi_9 d_cVw_rising_42 (fun H locs hP hD hS => ?_)
    have hD := (congrArg (fun w9 => va_D A w9) (cw_setQ (ad := ad) (cc := cc) (S := S) (k := 15) (i := x2.toNatClampNeg) (v := (some j_10)) (by decide) hl_8)).mp hD
    have hP := (congrArg (fun w9 => va_P D cls w9 H) (cw_setQ (ad := ad) (cc := cc) (S := S) (k := 15) (i := x2.toNatClampNeg) (v := (some j_10)) (by decide) hl_8)).mp hP
    refine lv_iinc (v := x2 + 1) (lv' := [(2, .int (x2 + 1)), (0, .ref (ad 10 x0)), (1, rv ad 15 x1)]) hx hb d_cVw_rising_43 hl (k := 2) rfl rfl (by decide) (by simp [rv, rf_cat]) (fun ls hl => ?_)
    refine lv_goto (tgt := 19) hx hb d_cVw_rising_46 (by decide) ?_
    obtain ⟨e9, e9a, e9b⟩ := tri Heq
    refine W.cs (cells' := CT) (slots' := ST) (by omega) (by omega) ?_
    exact Ka _ _ e9 _ _ _ _ hX hP hD hS (lv_sub hl [1, 2, 0] rfl)
noncomputable def m_cVw_rising_L19 (N : Nat → Nat) (x0 : Nat) (S : CS) (x1 : Option Nat) (x2 : Int32) : Option (((Nat → Nat) × CS × Option Nat) × Nat × Nat) := lpA (fun a : (Nat → Nat) × CS × Option Nat × Int32 => m_cVw_rising_B19 a.1 x0 a.2.1 a.2.2.1 a.2.2.2) FU (N, S, x1, x2)
set_option maxHeartbeats 4000000 in
theorem w_cVw_rising_L19 {p : Program} {l : Launch} {e : Env} {s : State} {m : MethodId} {args : Array Value} {below : List Frame} {meth : Method} {c : Code} {A : Nat → Prop} {D : va_G} {cc : Nat → ClassId} {sad sav : Nat → Nat} {Q : State → Prop} {ad0 : Nat → Nat → Nat} {N0 : Nat → Nat} {CT ST cR sR : Nat} (hC : MCc sad sav "JoinedTrees$View" prog_12_method_8_code 3 (some (.array (.object "JoinedTrees$Op"))) p s m args meth c A D cc) (hCT : CT ≤ cR) (hST : ST ≤ sR) {N : Nat → Nat} {x0 : Nat} {S : CS} {x1 : Option Nat} {x2 : Int32} {o : (Nat → Nat) × CS × Option Nat} {oc os : Nat} (Heq : m_cVw_rising_L19 N x0 S x1 x2 = some (o, oc, os)) (K0 : ∀ (N : Nat → Nat) (b : CS × Option Nat), o = (N, b) → ∀ (ad : Nat → Nat → Nat) (H : Heap) (locs : List Loc) (ls : Array Slot), Ext ad0 N0 ad N → va_P D cls (cw ad cc N b.1) H → va_D A (cw ad cc N b.1) → va_S A s.heap H locs → lv_has ls 3 [(0, .ref (ad 10 x0)), (1, rv ad 15 b.2)] → W p l e ({ frames := 0, cells := cR, slots := sR, locals := 0 }) s m args below meth c H locs CT ST Q (F0 m 49 ls [])) : ∀ (ad : Nat → Nat → Nat) (H : Heap) (locs : List Loc) (ls : Array Slot) (cells slots : Nat), Ext ad0 N0 ad N → cells + oc = CT → slots + os = ST → va_P D cls (cw ad cc N S) H → va_D A (cw ad cc N S) → va_S A s.heap H locs → lv_has ls 3 [(0, .ref (ad 10 x0)), (1, rv ad 15 x1), (2, .int x2)] → W p l e ({ frames := 0, cells := cR, slots := sR, locals := 0 }) s m args below meth c H locs cells slots Q (F0 m 19 ls []) := by
  refine lpA_w2 (e := o) (G := fun (a : (Nat → Nat) × CS × Option Nat × Int32) u9 v9 => ∀ (ad : Nat → Nat → Nat) (H : Heap) (locs : List Loc) (ls : Array Slot) (cells slots : Nat), Ext ad0 N0 ad a.1 → cells + u9 = CT → slots + v9 = ST → va_P D cls (cw ad cc a.1 a.2.1) H → va_D A (cw ad cc a.1 a.2.1) → va_S A s.heap H locs → lv_has ls 3 [(0, .ref (ad 10 x0)), (1, rv ad 15 a.2.2.1), (2, .int a.2.2.2)] → W p l e ({ frames := 0, cells := cR, slots := sR, locals := 0 }) s m args below meth c H locs cells slots Q (F0 m 19 ls [])) ?_ FU (N, S, x1, x2) oc os Heq
  intro a o1 c9 s9 u9 v9 ho hc9 hs9 Ka Ke ad H locs ls cells slots hX hcu hsu hP hD hS hl
  refine w_cVw_rising_B19 (CT := cells + c9) (ST := slots + s9) hC (Nat.le_trans (m := CT) (by omega) hCT) (Nat.le_trans (m := ST) (by omega) hST) ho (fun N b h => ?_) (fun N b h => ?_) _ _ _ _ _ _ hX rfl rfl hP hD hS hl
  · obtain ⟨u1, v1, h1, h2, h3⟩ := Ka _ h
    intro ad H locs ls hX hP hD hS hl
    exact h3 ad H locs ls _ _ hX (by omega) (by omega) hP hD hS hl
  · obtain ⟨h1, h2, h3⟩ := Ke _ h
    intro ad H locs ls hX hP hD hS hl
    refine W.cs (cells' := CT) (slots' := ST) (by omega) (by omega) ?_
    exact K0 N b h1.symm ad H locs ls hX hP hD hS hl
noncomputable def m_cVw_rising_J0 (N : Nat → Nat) (x0 : Nat) (S : CS) : Option (((Nat → Nat) × CS × Option Nat) × Nat × Nat) := gl x0 (N 10) ((if S.i 10 3 x0 = 0 then some ((N, S, none), 0, 0) else gA (S.i 10 3 x0) (nw ((S.i 10 3 x0).toNatClampNeg) 15 ((S.i 10 3 x0).toNatClampNeg) N S (fun N_3 S_4 j_5 => ov (m_cVw_rising_L19 N_3 x0 S_4 (some j_5) 0) (fun N_6 b_7 => some ((N_6, b_7.1, b_7.2), 0, 0))))))
theorem d_cVw_rising_49 : decode prog_12_method_8_code 49 = .ok (.aload_n 1, 1) := by decide +kernel
theorem d_cVw_rising_50 : decode prog_12_method_8_code 50 = .ok (.areturn, 1) := by decide +kernel
theorem d_cVw_rising_7 : decode prog_12_method_8_code 7 = .ok (.aconst_null, 1) := by decide +kernel
theorem d_cVw_rising_8 : decode prog_12_method_8_code 8 = .ok (.areturn, 1) := by decide +kernel
set_option maxHeartbeats 4000000 in
set_option maxRecDepth 100000 in
theorem w_cVw_rising_J0 {p : Program} {l : Launch} {e : Env} {s : State} {m : MethodId} {args : Array Value} {below : List Frame} {meth : Method} {c : Code} {A : Nat → Prop} {D : va_G} {cc : Nat → ClassId} {sad sav : Nat → Nat} {Q : State → Prop} {ad0 : Nat → Nat → Nat} {N0 : Nat → Nat} {CT ST cR sR : Nat} (hC : MCc sad sav "JoinedTrees$View" prog_12_method_8_code 3 (some (.array (.object "JoinedTrees$Op"))) p s m args meth c A D cc) (hCT : CT ≤ cR) (hST : ST ≤ sR) {N : Nat → Nat} {x0 : Nat} {S : CS} {o : (Nat → Nat) × CS × Option Nat} {oc os : Nat} (Heq : m_cVw_rising_J0 N x0 S = some (o, oc, os)) (Kr : ∀ r : (Nat → Nat) × CS × Option Nat, o = r → ∀ (pc : Nat) (ad : Nat → Nat → Nat) (H : Heap) (locs : List Loc) (ls : Array Slot), decode prog_12_method_8_code pc = .ok (.areturn, 1) → Ext ad0 N0 ad (r.1) → va_P D cls (cw ad cc r.1 r.2.1) H → va_D A (cw ad cc r.1 r.2.1) → va_S A s.heap H locs → W p l e ({ frames := 0, cells := cR, slots := sR, locals := 0 }) s m args below meth c H locs CT ST Q (F0 m pc ls [rv ad 15 r.2.2])) : ∀ (ad : Nat → Nat → Nat) (H : Heap) (locs : List Loc) (ls : Array Slot) (cells slots : Nat), Ext ad0 N0 ad N → cells + oc = CT → slots + os = ST → va_P D cls (cw ad cc N S) H → va_D A (cw ad cc N S) → va_S A s.heap H locs → lv_has ls 3 [(0, .ref (ad 10 x0))] → W p l e ({ frames := 0, cells := cR, slots := sR, locals := 0 }) s m args below meth c H locs cells slots Q (F0 m 0 ls []) := by
  intro ad H locs ls cells slots hX hcu hsu hP hD hS hl
  obtain ⟨hx, hb, hr, hml, hown, hts, hK, hA, hev, hE, hN, hNS⟩ := id hC
  unfold m_cVw_rising_J0 at Heq
  refine lv_aload_n hx hb d_cVw_rising_0 rfl (lv_at hl 0 rfl) ?_
  obtain ⟨hl_x0_10, Heq⟩ := gl_some Heq
  refine va_get (D := D) (ci := 10) (v := .int (S.i 10 3 x0)) (C := R_Vw) (T := F_Vw) (N := 5) hx hb hts i_Vw hown hK hP (cPos N 10 x0) (cw_obj (k := 10) (by decide) hl_x0_10) rfl 3 (by decide) (hts _ kw_266) (fun _ h9 => h9) rfl d_cVw_rising_1 ?_
  refine lv_if_ne (tgt := 9) hx hb d_cVw_rising_4 (by decide) (fun c_1 => ?_) (fun c_1 => ?_)
  · replace Heq := (if_neg c_1).symm.trans Heq
    refine lv_aload_n hx hb d_cVw_rising_9 rfl (lv_at hl 0 rfl) ?_
    refine va_get (D := D) (ci := 10) (v := .int (S.i 10 3 x0)) (C := R_Vw) (T := F_Vw) (N := 5) hx hb hts i_Vw hown hK hP (cPos N 10 x0) (cw_obj (k := 10) (by decide) hl_x0_10) rfl 3 (by decide) (hts _ kw_266) (fun _ h9 => h9) rfl d_cVw_rising_10 ?_
    obtain ⟨hn_2a, hn_2b, Heq⟩ := gA_some Heq
    obtain ⟨N_3, S_4, j_5, a9, b9, Heq, e9a, e9b, hw9, eN9, eS9, ej9⟩ := nw_some Heq
    refine va_newq (C := "JoinedTrees$Op") (N' := ((S.i 10 3 x0).toNatClampNeg)) hx hb hown (hts _ kw_260) hev.2.2.2.2.1.1 hK hP hD hS hA hn_2a rfl (by show ((S.i 10 3 x0).toNatClampNeg) * 4 ≤ 536870912; omega) (Nat.le_trans (m := CT) (by omega) hCT) (Nat.le_trans (m := ST) (by omega) hST) d_cVw_rising_13 (fun q9 cA9 H hK9 hP hD hS => ?_)
    obtain rfl := cA_eq hK9 3 rfl
    obtain ⟨ad, hX1, hq1, hne1, hl_j_5, hP, hD⟩ := cw_born2 hw9 eN9 eS9 ej9 (by decide) (cell_newQ (by decide)) hP hD
    have hX := hX.tr hX1
    have hl : lv_has ls 3 [(0, .ref (ad 10 x0))] := lv_cast hl (by first | rfl | simp only [hq1, hne1 10 x0 (by decide)])
    refine w_s (st' := [.ref (ad 15 j_5)]) (by first | rfl | simp only [hq1, hne1 10 x0 (by decide)]) ?_
    have hl_x0_10 := Nat.lt_of_lt_of_le hl_x0_10 (hX1.1 10)
    refine lv_astore_n (lv' := [(1, .ref (ad 15 j_5)), (0, .ref (ad 10 x0))]) hx hb d_cVw_rising_16 rfl hl (by decide) rfl (fun ls hl => ?_)
    refine lv_iconst (v := 0) hx hb d_cVw_rising_17 (by decide) ?_
    refine lv_istore_n (lv' := [(2, .int 0), (1, .ref (ad 15 j_5)), (0, .ref (ad 10 x0))]) hx hb d_cVw_rising_18 rfl hl (by decide) rfl (fun ls hl => ?_)
    obtain ⟨N_6, b_7, a9, b9, a8, b8, h_8, Heq, e9a, e9b⟩ := ov_some Heq
    refine w_cVw_rising_L19 hC (Nat.le_trans (m := CT) (by omega) hCT) (Nat.le_trans (m := ST) (by omega) hST) h_8 (fun N9 b9 h9 => ?_) _ _ _ _ _ _ hX rfl rfl hP hD hS (lv_sub hl [2, 1, 0] rfl)
    cases h9
    intro ad H locs ls hX hP hD hS hl
    refine tx_aload_n (x := b_7.2.map (ad 15)) hx hb d_cVw_rising_49 rfl (lv_at hl 1 rfl) ?_
    refine w_v (y := rv ad 15 b_7.2) rfl ?_
    obtain ⟨e9, e9a, e9b⟩ := tri Heq
    refine W.cs (cells' := CT) (slots' := ST) (by omega) (by omega) ?_
    exact Kr _ e9 50 _ _ _ _ d_cVw_rising_50 hX hP hD hS
  · replace Heq := (if_pos c_1).symm.trans Heq
    refine lv_null hx hb d_cVw_rising_7 ?_
    obtain ⟨e9, e9a, e9b⟩ := tri Heq
    refine W.cs (cells' := CT) (slots' := ST) (by omega) (by omega) ?_
    exact Kr _ e9 8 _ _ _ _ d_cVw_rising_8 hX hP hD hS
noncomputable def m_cVw_rising (N : Nat → Nat) (x0 : Nat) (S : CS) : Option (((Nat → Nat) × CS × Option Nat) × Nat × Nat) := m_cVw_rising_J0 N x0 S
set_option maxHeartbeats 4000000 in
theorem g_cVw_rising (l : Launch) (D : va_G) (sz : Nat) {ad : Nat → Nat → Nat} {cc : Nat → ClassId} {sad sav : Nat → Nat} {N : Nat → Nat} {x0 : Nat} {S : CS} {o : (Nat → Nat) × CS × Option Nat} {oc os : Nat} (Heq : m_cVw_rising N x0 S = some (o, oc, os)) : Met l ⟨"JoinedTrees$View", "rising", "()[LJoinedTrees$Op;"⟩ (Cond.code ⟨"JoinedTrees$View", "rising", "()[LJoinedTrees$Op;"⟩ prog_12_method_8_code 3 (some (.array (.object "JoinedTrees$Op"))) :: gb) ({ frames := 0, cells := oc, slots := os, locals := 0 }) (cPc sad sav D (cw ad cc N S) (cty cc) sz [.ref (ad 10 x0)]) (va_Qq (fun (r : Option Nat) (u : Nat → Nat → Nat) => r = o.2.2.map (u 15)) (fun (u : Nat → Nat → Nat) t => Ext ad N u o.1 ∧ gO D (cw u cc o.1 o.2.1) (cty cc) (va_A (cw ad cc N S) sz) t) (va_A (cw ad cc N S) sz)) oc os (va_A (cw ad cc N S) sz) := by
  refine Met.ofW (cc := prog_12_method_8_code) (maxL := 3) (ret := (some (.array (.object "JoinedTrees$Op")))) (by decide) rfl ?_
  intro p e s m args below meth c s₁ B hml hv
  obtain ⟨rfl, hsz, hP, hK, hD0, hev, hE, hN⟩ := hv
  have hx := B.exec
  have hb := B.bytes
  have hr := B.returns
  have hts : ∀ w9 ∈ gb, w9.before [.ref (ad 10 x0)].toArray s = true := fun w9 h => atoms_spec (ws := Cond.code ⟨"JoinedTrees$View", "rising", "()[LJoinedTrees$Op;"⟩ prog_12_method_8_code 3 (some (.array (.object "JoinedTrees$Op"))) :: gb) B.pre w9 (List.mem_cons_of_mem _ h)
  have hown : s.vm.findClass "JoinedTrees$View" = some m.cls := findClass_of_methodNamed B.named
  have hlocks := B.notSynchronized
  have hNS := ns_of hP
  subst hsz
  have hD := hD0.self (sz := s.heap.size)
  generalize hAe : va_A (cw ad cc N S) s.heap.size = A at hD hev hE hNS ⊢
  have hA : ∀ q : Nat, s.heap.size ≤ q → A q := fun q h => by rw [← hAe]; exact Or.inr h
  have hS : va_S A s.heap s.heap [] := va_S.rf
  obtain ⟨ls, hl, hle⟩ : ∃ ls : Array Slot, lv_has ls 3 [(0, .ref (ad 10 x0))] ∧ entryFrame m ([.ref (ad 10 x0)] : List Value).toArray 3 = F0 m 0 ls [] := by
    exact ⟨_, lv_entry (n := 3) _ (Nat.le_of_ble_eq_true rfl), lg_entry_eq ..⟩
  rw [hle]
  refine w_cVw_rising_J0 (ad0 := ad) (N0 := N) (CT := oc) (ST := os) (cR := oc) (sR := os) ⟨hx, hb, hr, hml, hown, hts, hK, hA, hev, hE, hN, hNS⟩ (Nat.le_refl _) (Nat.le_refl _) Heq (fun r h pc ad1 H locs ls hd hX hP hD hS => ?_) _ _ _ _ 0 0 Ext.rf (Nat.zero_add _) (Nat.zero_add _) hP hD hS (lv_sub hl [0] rfl)
  subst h
  exact W.aret hx hb hr (Or.inr ⟨_, rfl⟩) (va_rf_or _) (fun t ht hW => ⟨⟨_, ad1, rfl, rfl, hX, by rw [ht]; exact hP, va_K.moved hW.alike hK, hD⟩, hS.F ht⟩) hS.2.2 hd
noncomputable def m_cJT_writeOn_J96 (N : Nat → Nat) (x0 : Nat) (S : CS) (x2 : Option Nat) (x7 : Option Nat) : Option (((Nat → Nat) × CS × Option Nat) × Nat × Nat) := gn x7 (N 3) (fun j_1 => gn x2 (N 7) (fun j_4 => ob (m_cSp_link N j_4 S j_1) (fun o_7 => some ((N, o_7, x7), 0, 0))))
theorem d_cJT_writeOn_0 : decode prog_1_method_47_code 0 = .ok (.aload_n 2, 1) := by decide +kernel
theorem d_cJT_writeOn_1 : decode prog_1_method_47_code 1 = .ok (.getfield 278, 3) := by decide +kernel
theorem d_cJT_writeOn_4 : decode prog_1_method_47_code 4 = .ok (.astore 6, 2) := by decide +kernel
theorem d_cJT_writeOn_6 : decode prog_1_method_47_code 6 = .ok (.aload_n 0, 1) := by decide +kernel
theorem d_cJT_writeOn_7 : decode prog_1_method_47_code 7 = .ok (.getfield 30, 3) := by decide +kernel
theorem d_cJT_writeOn_10 : decode prog_1_method_47_code 10 = .ok (.aload_n 2, 1) := by decide +kernel
theorem d_cJT_writeOn_11 : decode prog_1_method_47_code 11 = .ok (.invokevirtual 196, 3) := by decide +kernel
theorem d_cJT_writeOn_14 : decode prog_1_method_47_code 14 = .ok (.iload_n 3, 1) := by decide +kernel
theorem d_cJT_writeOn_15 : decode prog_1_method_47_code 15 = .ok (.bipush 10, 2) := by decide +kernel
theorem d_cJT_writeOn_17 : decode prog_1_method_47_code 17 = .ok (.if_icmp .ne 10, 3) := by decide +kernel
theorem d_cJT_writeOn_27 : decode prog_1_method_47_code 27 = .ok (.aload_n 0, 1) := by decide +kernel
theorem d_cJT_writeOn_28 : decode prog_1_method_47_code 28 = .ok (.getfield 12, 3) := by decide +kernel
theorem d_cJT_writeOn_31 : decode prog_1_method_47_code 31 = .ok (.aload_n 1, 1) := by decide +kernel
theorem d_cJT_writeOn_32 : decode prog_1_method_47_code 32 = .ok (.aload 6, 2) := by decide +kernel
theorem d_cJT_writeOn_34 : decode prog_1_method_47_code 34 = .ok (.getfield 313, 3) := by decide +kernel
theorem d_cJT_writeOn_37 : decode prog_1_method_47_code 37 = .ok (.iload_n 3, 1) := by decide +kernel
theorem d_cJT_writeOn_38 : decode prog_1_method_47_code 38 = .ok (.lload 4, 2) := by decide +kernel
theorem d_cJT_writeOn_40 : decode prog_1_method_47_code 40 = .ok (.invokevirtual 411, 3) := by decide +kernel
theorem d_cJT_writeOn_43 : decode prog_1_method_47_code 43 = .ok (.astore 7, 2) := by decide +kernel
theorem d_cJT_writeOn_45 : decode prog_1_method_47_code 45 = .ok (.aload 7, 2) := by decide +kernel
theorem d_cJT_writeOn_47 : decode prog_1_method_47_code 47 = .ok (.aload_n 0, 1) := by decide +kernel
theorem d_cJT_writeOn_48 : decode prog_1_method_47_code 48 = .ok (.getfield 30, 3) := by decide +kernel
theorem d_cJT_writeOn_51 : decode prog_1_method_47_code 51 = .ok (.invokevirtual 423, 3) := by decide +kernel
theorem d_cJT_writeOn_54 : decode prog_1_method_47_code 54 = .ok (.putfield 427, 3) := by decide +kernel
theorem d_cJT_writeOn_57 : decode prog_1_method_47_code 57 = .ok (.aload 6, 2) := by decide +kernel
theorem d_cJT_writeOn_59 : decode prog_1_method_47_code 59 = .ok (.getfield 313, 3) := by decide +kernel
theorem d_cJT_writeOn_62 : decode prog_1_method_47_code 62 = .ok (.getfield 171, 3) := by decide +kernel
theorem d_cJT_writeOn_65 : decode prog_1_method_47_code 65 = .ok (.bipush 6, 2) := by decide +kernel
theorem d_cJT_writeOn_67 : decode prog_1_method_47_code 67 = .ok (.if_icmp .ne 29, 3) := by decide +kernel
theorem d_cJT_writeOn_96 : decode prog_1_method_47_code 96 = .ok (.aload_n 2, 1) := by decide +kernel
theorem d_cJT_writeOn_97 : decode prog_1_method_47_code 97 = .ok (.aload 7, 2) := by decide +kernel
theorem d_cJT_writeOn_99 : decode prog_1_method_47_code 99 = .ok (.invokevirtual 430, 3) := by decide +kernel
theorem d_cJT_writeOn_102 : decode prog_1_method_47_code 102 = .ok (.aload 7, 2) := by decide +kernel
theorem d_cJT_writeOn_104 : decode prog_1_method_47_code 104 = .ok (.areturn, 1) := by decide +kernel
set_option maxHeartbeats 4000000 in
set_option maxRecDepth 100000 in
theorem w_cJT_writeOn_J96 {p : Program} {l : Launch} {e : Env} {s : State} {m : MethodId} {args : Array Value} {below : List Frame} {meth : Method} {c : Code} {A : Nat → Prop} {D : va_G} {cc : Nat → ClassId} {sad sav : Nat → Nat} {Q : State → Prop} {ad0 : Nat → Nat → Nat} {N0 : Nat → Nat} {CT ST cR sR : Nat} (hC : MCc sad sav "JoinedTrees" prog_1_method_47_code 8 (some (.object "JoinedTrees$Op")) p s m args meth c A D cc) (hCT : CT ≤ cR) (hST : ST ≤ sR) {N : Nat → Nat} {x0 : Nat} {S : CS} {x2 : Option Nat} {x7 : Option Nat} {o : (Nat → Nat) × CS × Option Nat} {oc os : Nat} (Heq : m_cJT_writeOn_J96 N x0 S x2 x7 = some (o, oc, os)) (Kr : ∀ r : (Nat → Nat) × CS × Option Nat, o = r → ∀ (pc : Nat) (ad : Nat → Nat → Nat) (H : Heap) (locs : List Loc) (ls : Array Slot), decode prog_1_method_47_code pc = .ok (.areturn, 1) → Ext ad0 N0 ad (r.1) → va_P D cls (cw ad cc r.1 r.2.1) H → va_D A (cw ad cc r.1 r.2.1) → va_S A s.heap H locs → W p l e ({ frames := 3, cells := cR, slots := sR, locals := 75 }) s m args below meth c H locs CT ST Q (F0 m pc ls [rv ad 3 r.2.2])) : ∀ (ad : Nat → Nat → Nat) (H : Heap) (locs : List Loc) (ls : Array Slot) (cells slots : Nat), Ext ad0 N0 ad N → cells + oc = CT → slots + os = ST → va_P D cls (cw ad cc N S) H → va_D A (cw ad cc N S) → va_S A s.heap H locs → lv_has ls 8 [(0, .ref (ad 11 x0)), (2, rv ad 7 x2), (7, rv ad 3 x7)] → W p l e ({ frames := 3, cells := cR, slots := sR, locals := 75 }) s m args below meth c H locs cells slots Q (F0 m 96 ls []) := by
  intro ad H locs ls cells slots hX hcu hsu hP hD hS hl
  obtain ⟨hx, hb, hr, hml, hown, hts, hK, hA, hev, hE, hN, hNS⟩ := id hC
  unfold m_cJT_writeOn_J96 at Heq
  refine tx_aload_n (x := x2.map (ad 7)) hx hb d_cJT_writeOn_96 rfl (lv_at hl 1 rfl) ?_
  refine w_v (y := rv ad 7 x2) rfl ?_
  refine tx_aload (x := x7.map (ad 3)) hx hb d_cJT_writeOn_97 (lv_at hl 2 rfl) ?_
  refine w_v (y := rv ad 3 x7) rfl ?_
  obtain ⟨j_1, hj_2, hl_3, Heq⟩ := gn_some Heq
  refine w_s (st' := [.ref (ad 3 j_1), rv ad 7 x2]) (congrArg (fun z9 : Option Nat => [rv ad 3 z9, rv ad 7 x2]) hj_2) ?_
  obtain ⟨j_4, hj_5, hl_6, Heq⟩ := gn_some Heq
  refine w_s (st' := [.ref (ad 3 j_1), .ref (ad 7 j_4)]) (congrArg (fun z9 : Option Nat => [.ref (ad 3 j_1), rv ad 7 z9]) hj_5) ?_
  obtain ⟨o_7, h_8, Heq⟩ := ob_some Heq
  have hFc := fr_all hD hS hA
  refine va_callv (va_runV (As := [.ref (ad 3 j_1)]) (rest := []) ⟨hx, hb, hml, hown, hts⟩ (g_cSp_link l D H.size (ad := ad) (cc := cc) (sad := sad) (sav := sav) h_8) (cw_v 1 hts kw_725 kw_722 kw_723 kw_724 kw_20 rfl rfl (by decide +kernel) ⟨Nat.le_of_ble_eq_true rfl, Nat.le_of_ble_eq_true rfl⟩) ⟨c_blind, va_recv hK hP (ci := 7) (q0 := cPos N 7 j_4) rfl (cw_obj (k := 7) (by decide) hl_6), fun U hU hW => c_pre hU hW hP hK hD hev hE hN hNS hS hFc⟩ rfl rfl hl.1 rfl (lv_room (Nat.le_of_ble_eq_true rfl)) d_cJT_writeOn_99 ⟨(Nat.le_trans (m := CT) (by omega) hCT), (Nat.le_trans (m := ST) (by omega) hST)⟩) hS (fun q _ h => hFc q h) hFc (fun u t H1 locs ht hvm hw hB hz1 hk1 hS => ?_)
  obtain ⟨hP, -, hD1⟩ := hB
  rw [ht] at hP
  have hD := hD1.weaken (fun _ q _ h => hFc q.1 h)
  generalize H1 = H at hP hS ⊢
  refine tx_aload (x := x7.map (ad 3)) hx hb d_cJT_writeOn_102 (lv_at hl 2 rfl) ?_
  refine w_v (y := rv ad 3 x7) rfl ?_
  obtain ⟨e9, e9a, e9b⟩ := tri Heq
  refine W.cs (cells' := CT) (slots' := ST) (by omega) (by omega) ?_
  exact Kr _ e9 104 _ _ _ _ d_cJT_writeOn_104 hX hP hD hS
noncomputable def m_cJT_writeOn_J27 (N : Nat → Nat) (x0 : Nat) (S : CS) (x1 : Option Nat) (x2 : Option Nat) (x3 : Int32) (x4 : Int64) (x6 : Option Nat) : Option (((Nat → Nat) × CS × Option Nat) × Nat × Nat) := gl x0 (N 11) (gn x6 (N 3) (fun j_1 => gn (S.r 3 1 j_1) (N 3) (fun j_4 => gn x1 (N 4) (fun j_7 => gn (S.r 11 0 x0) (N 8) (fun j_10 => gv x2 (N 7) (oq (m_cSt_make N j_10 S j_7 j_4 x3 x4) (fun N_16 S_17 v_18 => gn (S_17.r 11 2 x0) (N_16 10) (fun j_19 => gv v_18 (N_16 3) (oq (m_cVw_rising N_16 j_19 S_17) (fun N_25 S_26 v_27 => gn v_18 (N_25 3) (fun j_28 => gn (S_26.r 3 1 j_1) (N_25 3) (fun j_31 => (if S_26.i 3 2 j_31 = 6 then gn (S_26.r 11 0 x0) (N_25 8) (fun j_35 => gn (S_26.r 8 2 j_35) (N_25 5) (fun j_38 => ob (m_cSt_keepKey N_25 j_35 (S_26.setR 3 7 j_28 v_27) j_28 j_38 (S_26.i 3 8 j_1) (S_26.i 3 9 j_1)) (fun o_41 => m_cJT_writeOn_J96 N_25 x0 o_41 x2 v_18))) else m_cJT_writeOn_J96 N_25 x0 (S_26.setR 3 7 j_28 v_27) x2 v_18)))))))))))))
theorem d_cJT_writeOn_70 : decode prog_1_method_47_code 70 = .ok (.aload_n 0, 1) := by decide +kernel
theorem d_cJT_writeOn_71 : decode prog_1_method_47_code 71 = .ok (.getfield 12, 3) := by decide +kernel
theorem d_cJT_writeOn_74 : decode prog_1_method_47_code 74 = .ok (.aload 7, 2) := by decide +kernel
theorem d_cJT_writeOn_76 : decode prog_1_method_47_code 76 = .ok (.aload_n 0, 1) := by decide +kernel
theorem d_cJT_writeOn_77 : decode prog_1_method_47_code 77 = .ok (.getfield 12, 3) := by decide +kernel
theorem d_cJT_writeOn_80 : decode prog_1_method_47_code 80 = .ok (.getfield 287, 3) := by decide +kernel
theorem d_cJT_writeOn_83 : decode prog_1_method_47_code 83 = .ok (.aload 6, 2) := by decide +kernel
theorem d_cJT_writeOn_85 : decode prog_1_method_47_code 85 = .ok (.getfield 290, 3) := by decide +kernel
theorem d_cJT_writeOn_88 : decode prog_1_method_47_code 88 = .ok (.aload 6, 2) := by decide +kernel
theorem d_cJT_writeOn_90 : decode prog_1_method_47_code 90 = .ok (.getfield 284, 3) := by decide +kernel
theorem d_cJT_writeOn_93 : decode prog_1_method_47_code 93 = .ok (.invokevirtual 415, 3) := by decide +kernel
set_option maxHeartbeats 4000000 in
set_option maxRecDepth 100000 in
theorem w_cJT_writeOn_J27 {p : Program} {l : Launch} {e : Env} {s : State} {m : MethodId} {args : Array Value} {below : List Frame} {meth : Method} {c : Code} {A : Nat → Prop} {D : va_G} {cc : Nat → ClassId} {sad sav : Nat → Nat} {Q : State → Prop} {ad0 : Nat → Nat → Nat} {N0 : Nat → Nat} {CT ST cR sR : Nat} (hC : MCc sad sav "JoinedTrees" prog_1_method_47_code 8 (some (.object "JoinedTrees$Op")) p s m args meth c A D cc) (hCT : CT ≤ cR) (hST : ST ≤ sR) {N : Nat → Nat} {x0 : Nat} {S : CS} {x1 : Option Nat} {x2 : Option Nat} {x3 : Int32} {x4 : Int64} {x6 : Option Nat} {o : (Nat → Nat) × CS × Option Nat} {oc os : Nat} (Heq : m_cJT_writeOn_J27 N x0 S x1 x2 x3 x4 x6 = some (o, oc, os)) (Kr : ∀ r : (Nat → Nat) × CS × Option Nat, o = r → ∀ (pc : Nat) (ad : Nat → Nat → Nat) (H : Heap) (locs : List Loc) (ls : Array Slot), decode prog_1_method_47_code pc = .ok (.areturn, 1) → Ext ad0 N0 ad (r.1) → va_P D cls (cw ad cc r.1 r.2.1) H → va_D A (cw ad cc r.1 r.2.1) → va_S A s.heap H locs → W p l e ({ frames := 3, cells := cR, slots := sR, locals := 75 }) s m args below meth c H locs CT ST Q (F0 m pc ls [rv ad 3 r.2.2])) : ∀ (ad : Nat → Nat → Nat) (H : Heap) (locs : List Loc) (ls : Array Slot) (cells slots : Nat), Ext ad0 N0 ad N → cells + oc = CT → slots + os = ST → va_P D cls (cw ad cc N S) H → va_D A (cw ad cc N S) → va_S A s.heap H locs → lv_has ls 8 [(0, .ref (ad 11 x0)), (1, rv ad 4 x1), (2, rv ad 7 x2), (3, .int x3), (4, .long x4), (6, rv ad 3 x6)] → W p l e ({ frames := 3, cells := cR, slots := sR, locals := 75 }) s m args below meth c H locs cells slots Q (F0 m 27 ls []) := by
  intro ad H locs ls cells slots hX hcu hsu hP hD hS hl
  obtain ⟨hx, hb, hr, hml, hown, hts, hK, hA, hev, hE, hN, hNS⟩ := id hC
  unfold m_cJT_writeOn_J27 at Heq
  refine lv_aload_n hx hb d_cJT_writeOn_27 rfl (lv_at hl 0 rfl) ?_
  obtain ⟨hl_x0_11, Heq⟩ := gl_some Heq
  refine va_get (D := D) (ci := 11) (v := rv ad 8 (S.r 11 0 x0)) (C := R_JT) (T := F_JT) (N := 13) hx hb hts i_JT hown hK hP (cPos N 11 x0) (cw_obj (k := 11) (by decide) hl_x0_11) rfl 0 (by decide) (hts _ kw_421) (fun _ h9 => h9) rfl d_cJT_writeOn_28 ?_
  refine tx_aload_n (x := x1.map (ad 4)) hx hb d_cJT_writeOn_31 rfl (lv_at hl 1 rfl) ?_
  refine w_v (y := rv ad 4 x1) rfl ?_
  refine tx_aload (x := x6.map (ad 3)) hx hb d_cJT_writeOn_32 (lv_at hl 5 rfl) ?_
  refine w_v (y := rv ad 3 x6) rfl ?_
  obtain ⟨j_1, hj_2, hl_3, Heq⟩ := gn_some Heq
  refine w_s (st' := [.ref (ad 3 j_1), rv ad 4 x1, rv ad 8 (S.r 11 0 x0)]) (congrArg (fun z9 : Option Nat => [rv ad 3 z9, rv ad 4 x1, rv ad 8 (S.r 11 0 x0)]) hj_2) ?_
  refine va_get (D := D) (ci := 3) (v := rv ad 3 (S.r 3 1 j_1)) (C := R_Op) (T := F_Op) (N := 15) hx hb hts i_Op hown hK hP (cPos N 3 j_1) (cw_obj (k := 3) (by decide) hl_3) rfl 1 (by decide) (hts _ kw_58) (fun _ h9 => h9) rfl d_cJT_writeOn_34 ?_
  refine lv_iload_n hx hb d_cJT_writeOn_37 rfl (lv_at hl 3 rfl) ?_
  refine lv_lload hx hb d_cJT_writeOn_38 (lv_at hl 4 rfl) ?_
  obtain ⟨j_4, hj_5, hl_6, Heq⟩ := gn_some Heq
  refine w_s (st' := [.long x4, .int x3, .ref (ad 3 j_4), rv ad 4 x1, rv ad 8 (S.r 11 0 x0)]) (congrArg (fun z9 : Option Nat => [.long x4, .int x3, rv ad 3 z9, rv ad 4 x1, rv ad 8 (S.r 11 0 x0)]) hj_5) ?_
  obtain ⟨j_7, hj_8, hl_9, Heq⟩ := gn_some Heq
  refine w_s (st' := [.long x4, .int x3, .ref (ad 3 j_4), .ref (ad 4 j_7), rv ad 8 (S.r 11 0 x0)]) (congrArg (fun z9 : Option Nat => [.long x4, .int x3, .ref (ad 3 j_4), rv ad 4 z9, rv ad 8 (S.r 11 0 x0)]) hj_8) ?_
  obtain ⟨j_10, hj_11, hl_12, Heq⟩ := gn_some Heq
  refine w_s (st' := [.long x4, .int x3, .ref (ad 3 j_4), .ref (ad 4 j_7), .ref (ad 8 j_10)]) (congrArg (fun z9 : Option Nat => [.long x4, .int x3, .ref (ad 3 j_4), .ref (ad 4 j_7), rv ad 8 z9]) hj_11) ?_
  have hl : lv_has ls 8 [(0, .ref (ad 11 x0)), (2, rv ad 7 x2), (6, rv ad 3 x6)] := lv_sub hl [0, 2, 5] rfl
  obtain ⟨hv_13, Heq⟩ := gv_some Heq
  obtain ⟨N_16, S_17, v_18, a9, b9, a8, b8, h_15, Heq, e9a, e9b⟩ := oq_some Heq
  have hFc := fr_all hD hS hA
  refine va_callq (va_runV (As := [.ref (ad 4 j_7), .ref (ad 3 j_4), .int x3, .long x4]) (rest := []) ⟨hx, hb, hml, hown, hts⟩ (g_cSt_make l D H.size (ad := ad) (cc := cc) (sad := sad) (sav := sav) h_15) (cw_v 4 hts kw_709 kw_706 kw_707 kw_708 kw_2 rfl rfl (by decide +kernel) ⟨Nat.le_of_ble_eq_true rfl, Nat.le_of_ble_eq_true rfl⟩) ⟨c_blind, va_recv hK hP (ci := 8) (q0 := cPos N 8 j_10) rfl (cw_obj (k := 8) (by decide) hl_12), fun U hU hW => c_pre hU hW hP hK hD hev hE hN hNS hS hFc⟩ rfl rfl hl.1 rfl (lv_room (Nat.le_of_ble_eq_true rfl)) d_cJT_writeOn_40 ⟨(Nat.le_trans (m := CT) (by omega) hCT), (Nat.le_trans (m := ST) (by omega) hST)⟩) hS (fun q _ h => hFc q h) hFc (fun rz ad t H1 locs ht hvm hw hB hz1 hk1 hS => ?_)
  obtain ⟨hX1, hP, -, hD1⟩ := hB
  rw [ht] at hP
  have hD := hD1.weaken (fun _ q _ h => hFc q.1 h)
  generalize H1 = H at hP hS ⊢
  subst hw
  refine w_v (y := rv ad 3 v_18) rfl ?_
  have hX := hX.tr hX1
  have hl : lv_has ls 8 [(0, .ref (ad 11 x0)), (2, rv ad 7 x2), (6, rv ad 3 x6)] := lv_cast hl (by first | rfl | simp only [hX1.2 11 x0 hl_x0_11, hX1.rv (k := 7) (x := x2) hv_13, hX1.rv (k := 3) (x := x6) (fun _ q9 => by rw [hj_2] at q9; cases q9; exact hl_3)])
  refine w_s (st' := [rv ad 3 v_18]) (by first | rfl | simp only [hX1.2 11 x0 hl_x0_11, hX1.rv (k := 7) (x := x2) hv_13, hX1.rv (k := 3) (x := x6) (fun _ q9 => by rw [hj_2] at q9; cases q9; exact hl_3)]) ?_
  have hl_x0_11 := Nat.lt_of_lt_of_le hl_x0_11 (hX1.1 11)
  have hl_3 := Nat.lt_of_lt_of_le hl_3 (hX1.1 3)
  have hl_6 := Nat.lt_of_lt_of_le hl_6 (hX1.1 3)
  have hl_9 := Nat.lt_of_lt_of_le hl_9 (hX1.1 4)
  have hl_12 := Nat.lt_of_lt_of_le hl_12 (hX1.1 8)
  have hv_13 := fun j9 q9 => Nat.lt_of_lt_of_le (hv_13 j9 q9) (hX1.1 7)
  refine tx_astore (x := v_18.map (ad 3)) (lv' := [(7, rv ad 3 v_18), (0, .ref (ad 11 x0)), (2, rv ad 7 x2), (6, rv ad 3 x6)]) hx hb d_cJT_writeOn_43 hl (by decide) (by simp [rv, rf_cat]) (fun ls hl => ?_)
  refine tx_aload (x := v_18.map (ad 3)) hx hb d_cJT_writeOn_45 (lv_at hl 0 rfl) ?_
  refine w_v (y := rv ad 3 v_18) rfl ?_
  refine lv_aload_n hx hb d_cJT_writeOn_47 rfl (lv_at hl 1 rfl) ?_
  refine va_get (D := D) (ci := 11) (v := rv ad 10 (S_17.r 11 2 x0)) (C := R_JT) (T := F_JT) (N := 13) hx hb hts i_JT hown hK hP (cPos N_16 11 x0) (cw_obj (k := 11) (by decide) hl_x0_11) rfl 2 (by decide) (hts _ kw_423) (fun _ h9 => h9) rfl d_cJT_writeOn_48 ?_
  obtain ⟨j_19, hj_20, hl_21, Heq⟩ := gn_some Heq
  refine w_s (st' := [.ref (ad 10 j_19), rv ad 3 v_18]) (congrArg (fun z9 : Option Nat => [rv ad 10 z9, rv ad 3 v_18]) hj_20) ?_
  obtain ⟨hv_22, Heq⟩ := gv_some Heq
  obtain ⟨N_25, S_26, v_27, a9, b9, a8, b8, h_24, Heq, e9a, e9b⟩ := oq_some Heq
  have hFc := fr_all hD hS hA
  refine va_callq (va_runV (As := []) (rest := [rv ad 3 v_18]) ⟨hx, hb, hml, hown, hts⟩ (g_cVw_rising l D H.size (ad := ad) (cc := cc) (sad := sad) (sav := sav) h_24) (cw_v 0 hts kw_713 kw_710 kw_711 kw_712 kw_6 rfl rfl (by decide +kernel) ⟨Nat.le_of_ble_eq_true rfl, Nat.le_of_ble_eq_true rfl⟩) ⟨c_blind, va_recv hK hP (ci := 10) (q0 := cPos N_16 10 j_19) rfl (cw_obj (k := 10) (by decide) hl_21), fun U hU hW => c_pre hU hW hP hK hD hev hE hN hNS hS hFc⟩ rfl rfl hl.1 rfl (lv_room (by simp only [List.map_cons, List.map_nil, List.sum_cons, List.sum_nil, rv_cat]; exact Nat.le_of_ble_eq_true rfl)) d_cJT_writeOn_51 ⟨(Nat.le_trans (m := CT) (by omega) hCT), (Nat.le_trans (m := ST) (by omega) hST)⟩) hS (fun q _ h => hFc q h) hFc (fun rz ad t H1 locs ht hvm hw hB hz1 hk1 hS => ?_)
  obtain ⟨hX1, hP, -, hD1⟩ := hB
  rw [ht] at hP
  have hD := hD1.weaken (fun _ q _ h => hFc q.1 h)
  generalize H1 = H at hP hS ⊢
  subst hw
  refine w_v (y := rv ad 15 v_27) rfl ?_
  have hX := hX.tr hX1
  have hl : lv_has ls 8 [(7, rv ad 3 v_18), (0, .ref (ad 11 x0)), (2, rv ad 7 x2), (6, rv ad 3 x6)] := lv_cast hl (by first | rfl | simp only [hX1.rv (k := 3) (x := v_18) hv_22, hX1.2 11 x0 hl_x0_11, hX1.rv (k := 7) (x := x2) hv_13, hX1.rv (k := 3) (x := x6) (fun _ q9 => by rw [hj_2] at q9; cases q9; exact hl_3)])
  refine w_s (st' := [rv ad 15 v_27, rv ad 3 v_18]) (by first | rfl | simp only [hX1.rv (k := 3) (x := v_18) hv_22, hX1.2 11 x0 hl_x0_11, hX1.rv (k := 7) (x := x2) hv_13, hX1.rv (k := 3) (x := x6) (fun _ q9 => by rw [hj_2] at q9; cases q9; exact hl_3)]) ?_
  have hl_x0_11 := Nat.lt_of_lt_of_le hl_x0_11 (hX1.1 11)
  have hl_3 := Nat.lt_of_lt_of_le hl_3 (hX1.1 3)
  have hl_6 := Nat.lt_of_lt_of_le hl_6 (hX1.1 3)
  have hl_9 := Nat.lt_of_lt_of_le hl_9 (hX1.1 4)
  have hl_12 := Nat.lt_of_lt_of_le hl_12 (hX1.1 8)
  have hl_21 := Nat.lt_of_lt_of_le hl_21 (hX1.1 10)
  have hv_13 := fun j9 q9 => Nat.lt_of_lt_of_le (hv_13 j9 q9) (hX1.1 7)
  have hv_22 := fun j9 q9 => Nat.lt_of_lt_of_le (hv_22 j9 q9) (hX1.1 3)
  obtain ⟨j_28, hj_29, hl_30, Heq⟩ := gn_some Heq
  refine w_s (st' := [rv ad 15 v_27, .ref (ad 3 j_28)]) (congrArg (fun z9 : Option Nat => [rv ad 15 v_27, rv ad 3 z9]) hj_29) ?_
  refine w_v (y := rv ad 15 v_27) rfl ?_
  refine va_put (D := D) (ci := 3) (v := rv ad 15 v_27) (ty := .array (.object "JoinedTrees$Op")) (C := R_Op) (T := F_Op) (N := 15) hx hb hts i_Op t_Op t_Op_ok n_Op hown hK hP hD hS (cPos N_25 3 j_28) (cw_obj (k := 3) (by decide) hl_30) rfl 7 (by decide) (hts _ kw_77) (fun _ h9 => h9) rfl (by decide +kernel) (rv_nar (Or.inr ⟨_, rfl⟩)) (rv_fit (Or.inr ⟨_, rfl⟩)) (Nat.le_of_ble_eq_true rfl) d_cJT_writeOn_54 (fun H locs hP hD hS => ?_)
  have hD := (congrArg (fun w9 => va_D A w9) (cw_setR (ad := ad) (cc := cc) (S := S_26) (k := 3) (f := 7) (t := 15) (v := v_27) (by decide) rfl hl_30)).mp hD
  have hP := (congrArg (fun w9 => va_P D cls w9 H) (cw_setR (ad := ad) (cc := cc) (S := S_26) (k := 3) (f := 7) (t := 15) (v := v_27) (by decide) rfl hl_30)).mp hP
  refine tx_aload (x := x6.map (ad 3)) hx hb d_cJT_writeOn_57 (lv_at hl 3 rfl) ?_
  refine w_v (y := rv ad 3 x6) rfl ?_
  refine w_s (st' := [.ref (ad 3 j_1)]) (congrArg (fun z9 : Option Nat => [rv ad 3 z9]) hj_2) ?_
  refine va_get (D := D) (ci := 3) (v := rv ad 3 ((S_26.setR 3 7 j_28 v_27).r 3 1 j_1)) (C := R_Op) (T := F_Op) (N := 15) hx hb hts i_Op hown hK hP (cPos N_25 3 j_1) (cw_obj (k := 3) (by decide) hl_3) rfl 1 (by decide) (hts _ kw_58) (fun _ h9 => h9) rfl d_cJT_writeOn_59 ?_
  refine w_v (y := rv ad 3 (S_26.r 3 1 j_1)) (congrArg (rv ad 3) rfl) ?_
  obtain ⟨j_31, hj_32, hl_33, Heq⟩ := gn_some Heq
  refine w_s (st' := [.ref (ad 3 j_31)]) (congrArg (fun z9 : Option Nat => [rv ad 3 z9]) hj_32) ?_
  refine va_get (D := D) (ci := 3) (v := .int ((S_26.setR 3 7 j_28 v_27).i 3 2 j_31)) (C := R_Op) (T := F_Op) (N := 15) hx hb hts i_Op hown hK hP (cPos N_25 3 j_31) (cw_obj (k := 3) (by decide) hl_33) rfl 2 (by decide) (hts _ kw_62) (fun _ h9 => h9) rfl d_cJT_writeOn_62 ?_
  refine w_i (y := S_26.i 3 2 j_31) rfl ?_
  refine lv_bipush (v := 6) hx hb d_cJT_writeOn_65 (by decide) ?_
  refine lv_icmp_ne (tgt := 96) hx hb d_cJT_writeOn_67 (by decide) (fun c_34 => ?_) (fun c_34 => ?_)
  · replace Heq := (if_neg c_34).symm.trans Heq
    exact w_cJT_writeOn_J96 hC hCT hST Heq Kr _ _ _ _ _ _ hX (by omega) (by omega) hP hD hS (lv_sub hl [1, 2, 0] rfl)
  · replace Heq := (if_pos c_34).symm.trans Heq
    refine lv_aload_n hx hb d_cJT_writeOn_70 rfl (lv_at hl 1 rfl) ?_
    refine va_get (D := D) (ci := 11) (v := rv ad 8 ((S_26.setR 3 7 j_28 v_27).r 11 0 x0)) (C := R_JT) (T := F_JT) (N := 13) hx hb hts i_JT hown hK hP (cPos N_25 11 x0) (cw_obj (k := 11) (by decide) hl_x0_11) rfl 0 (by decide) (hts _ kw_421) (fun _ h9 => h9) rfl d_cJT_writeOn_71 ?_
    refine w_v (y := rv ad 8 (S_26.r 11 0 x0)) (congrArg (rv ad 8) rfl) ?_
    refine tx_aload (x := v_18.map (ad 3)) hx hb d_cJT_writeOn_74 (lv_at hl 0 rfl) ?_
    refine w_v (y := rv ad 3 v_18) rfl ?_
    refine lv_aload_n hx hb d_cJT_writeOn_76 rfl (lv_at hl 1 rfl) ?_
    refine va_get (D := D) (ci := 11) (v := rv ad 8 ((S_26.setR 3 7 j_28 v_27).r 11 0 x0)) (C := R_JT) (T := F_JT) (N := 13) hx hb hts i_JT hown hK hP (cPos N_25 11 x0) (cw_obj (k := 11) (by decide) hl_x0_11) rfl 0 (by decide) (hts _ kw_421) (fun _ h9 => h9) rfl d_cJT_writeOn_77 ?_
    refine w_v (y := rv ad 8 (S_26.r 11 0 x0)) (congrArg (rv ad 8) rfl) ?_
    obtain ⟨j_35, hj_36, hl_37, Heq⟩ := gn_some Heq
    refine w_s (st' := [.ref (ad 8 j_35), rv ad 3 v_18, rv ad 8 (S_26.r 11 0 x0)]) (congrArg (fun z9 : Option Nat => [rv ad 8 z9, rv ad 3 v_18, rv ad 8 (S_26.r 11 0 x0)]) hj_36) ?_
    refine va_get (D := D) (ci := 8) (v := rv ad 5 ((S_26.setR 3 7 j_28 v_27).r 8 2 j_35)) (C := R_St) (T := F_St) (N := 6) hx hb hts i_St hown hK hP (cPos N_25 8 j_35) (cw_obj (k := 8) (by decide) hl_37) rfl 2 (by decide) (hts _ kw_170) (fun _ h9 => h9) rfl d_cJT_writeOn_80 ?_
    refine w_v (y := rv ad 5 (S_26.r 8 2 j_35)) (congrArg (rv ad 5) rfl) ?_
    refine tx_aload (x := x6.map (ad 3)) hx hb d_cJT_writeOn_83 (lv_at hl 3 rfl) ?_
    refine w_v (y := rv ad 3 x6) rfl ?_
    refine w_s (st' := [.ref (ad 3 j_1), rv ad 5 (S_26.r 8 2 j_35), rv ad 3 v_18, rv ad 8 (S_26.r 11 0 x0)]) (congrArg (fun z9 : Option Nat => [rv ad 3 z9, rv ad 5 (S_26.r 8 2 j_35), rv ad 3 v_18, rv ad 8 (S_26.r 11 0 x0)]) hj_2) ?_
    refine va_get (D := D) (ci := 3) (v := .int ((S_26.setR 3 7 j_28 v_27).i 3 8 j_1)) (C := R_Op) (T := F_Op) (N := 15) hx hb hts i_Op hown hK hP (cPos N_25 3 j_1) (cw_obj (k := 3) (by decide) hl_3) rfl 8 (by decide) (hts _ kw_81) (fun _ h9 => h9) rfl d_cJT_writeOn_85 ?_
    refine w_i (y := S_26.i 3 8 j_1) rfl ?_
    refine tx_aload (x := x6.map (ad 3)) hx hb d_cJT_writeOn_88 (lv_at hl 3 rfl) ?_
    refine w_v (y := rv ad 3 x6) rfl ?_
    refine w_s (st' := [.ref (ad 3 j_1), .int (S_26.i 3 8 j_1), rv ad 5 (S_26.r 8 2 j_35), rv ad 3 v_18, rv ad 8 (S_26.r 11 0 x0)]) (congrArg (fun z9 : Option Nat => [rv ad 3 z9, .int (S_26.i 3 8 j_1), rv ad 5 (S_26.r 8 2 j_35), rv ad 3 v_18, rv ad 8 (S_26.r 11 0 x0)]) hj_2) ?_
    refine va_get (D := D) (ci := 3) (v := .int ((S_26.setR 3 7 j_28 v_27).i 3 9 j_1)) (C := R_Op) (T := F_Op) (N := 15) hx hb hts i_Op hown hK hP (cPos N_25 3 j_1) (cw_obj (k := 3) (by decide) hl_3) rfl 9 (by decide) (hts _ kw_85) (fun _ h9 => h9) rfl d_cJT_writeOn_90 ?_
    refine w_i (y := S_26.i 3 9 j_1) rfl ?_
    obtain ⟨j_38, hj_39, hl_40, Heq⟩ := gn_some Heq
    refine w_s (st' := [.int (S_26.i 3 9 j_1), .int (S_26.i 3 8 j_1), .ref (ad 5 j_38), rv ad 3 v_18, rv ad 8 (S_26.r 11 0 x0)]) (congrArg (fun z9 : Option Nat => [.int (S_26.i 3 9 j_1), .int (S_26.i 3 8 j_1), rv ad 5 z9, rv ad 3 v_18, rv ad 8 (S_26.r 11 0 x0)]) hj_39) ?_
    refine w_s (st' := [.int (S_26.i 3 9 j_1), .int (S_26.i 3 8 j_1), .ref (ad 5 j_38), .ref (ad 3 j_28), rv ad 8 (S_26.r 11 0 x0)]) (congrArg (fun z9 : Option Nat => [.int (S_26.i 3 9 j_1), .int (S_26.i 3 8 j_1), .ref (ad 5 j_38), rv ad 3 z9, rv ad 8 (S_26.r 11 0 x0)]) hj_29) ?_
    refine w_s (st' := [.int (S_26.i 3 9 j_1), .int (S_26.i 3 8 j_1), .ref (ad 5 j_38), .ref (ad 3 j_28), .ref (ad 8 j_35)]) (congrArg (fun z9 : Option Nat => [.int (S_26.i 3 9 j_1), .int (S_26.i 3 8 j_1), .ref (ad 5 j_38), .ref (ad 3 j_28), rv ad 8 z9]) hj_36) ?_
    obtain ⟨o_41, h_42, Heq⟩ := ob_some Heq
    have hFc := fr_all hD hS hA
    refine va_callv (va_runV (As := [.ref (ad 3 j_28), .ref (ad 5 j_38), .int (S_26.i 3 8 j_1), .int (S_26.i 3 9 j_1)]) (rest := []) ⟨hx, hb, hml, hown, hts⟩ (g_cSt_keepKey l D H.size (ad := ad) (cc := cc) (sad := sad) (sav := sav) h_42) (cw_v 4 hts kw_717 kw_714 kw_715 kw_716 kw_2 rfl rfl (by decide +kernel) ⟨Nat.le_of_ble_eq_true rfl, Nat.le_of_ble_eq_true rfl⟩) ⟨c_blind, va_recv hK hP (ci := 8) (q0 := cPos N_25 8 j_35) rfl (cw_obj (k := 8) (by decide) hl_37), fun U hU hW => c_pre hU hW hP hK hD hev hE hN hNS hS hFc⟩ rfl rfl hl.1 rfl (lv_room (Nat.le_of_ble_eq_true rfl)) d_cJT_writeOn_93 ⟨(Nat.le_trans (m := CT) (by omega) hCT), (Nat.le_trans (m := ST) (by omega) hST)⟩) hS (fun q _ h => hFc q h) hFc (fun u t H1 locs ht hvm hw hB hz1 hk1 hS => ?_)
    obtain ⟨hP, -, hD1⟩ := hB
    rw [ht] at hP
    have hD := hD1.weaken (fun _ q _ h => hFc q.1 h)
    generalize H1 = H at hP hS ⊢
    exact w_cJT_writeOn_J96 hC hCT hST Heq Kr _ _ _ _ _ _ hX (by omega) (by omega) hP hD hS (lv_sub hl [1, 2, 0] rfl)
noncomputable def m_cJT_writeOn_J0 (N : Nat → Nat) (x0 : Nat) (S : CS) (x1 : Nat) (x2 : Nat) (x3 : Int32) (x4 : Int64) : Option (((Nat → Nat) × CS × Option Nat) × Nat × Nat) := gl x2 (N 7) (gl x0 (N 11) (gn (S.r 11 2 x0) (N 10) (fun j_1 => ob (m_cVw_gather N j_1 S x2) (fun o_4 => (if x3 = 10 then gn (o_4.r 11 2 x0) (N 10) (fun j_7 => ob (m_cVw_keepCounters N j_7 o_4) (fun o_10 => m_cJT_writeOn_J27 N x0 o_10 (some x1) (some x2) x3 x4 (S.r 7 0 x2))) else m_cJT_writeOn_J27 N x0 o_4 (some x1) (some x2) x3 x4 (S.r 7 0 x2))))))
theorem d_cJT_writeOn_20 : decode prog_1_method_47_code 20 = .ok (.aload_n 0, 1) := by decide +kernel
theorem d_cJT_writeOn_21 : decode prog_1_method_47_code 21 = .ok (.getfield 30, 3) := by decide +kernel
theorem d_cJT_writeOn_24 : decode prog_1_method_47_code 24 = .ok (.invokevirtual 199, 3) := by decide +kernel
set_option maxHeartbeats 4000000 in
set_option maxRecDepth 100000 in
theorem w_cJT_writeOn_J0 {p : Program} {l : Launch} {e : Env} {s : State} {m : MethodId} {args : Array Value} {below : List Frame} {meth : Method} {c : Code} {A : Nat → Prop} {D : va_G} {cc : Nat → ClassId} {sad sav : Nat → Nat} {Q : State → Prop} {ad0 : Nat → Nat → Nat} {N0 : Nat → Nat} {CT ST cR sR : Nat} (hC : MCc sad sav "JoinedTrees" prog_1_method_47_code 8 (some (.object "JoinedTrees$Op")) p s m args meth c A D cc) (hCT : CT ≤ cR) (hST : ST ≤ sR) {N : Nat → Nat} {x0 : Nat} {S : CS} {x1 : Nat} {x2 : Nat} {x3 : Int32} {x4 : Int64} {o : (Nat → Nat) × CS × Option Nat} {oc os : Nat} (Heq : m_cJT_writeOn_J0 N x0 S x1 x2 x3 x4 = some (o, oc, os)) (Kr : ∀ r : (Nat → Nat) × CS × Option Nat, o = r → ∀ (pc : Nat) (ad : Nat → Nat → Nat) (H : Heap) (locs : List Loc) (ls : Array Slot), decode prog_1_method_47_code pc = .ok (.areturn, 1) → Ext ad0 N0 ad (r.1) → va_P D cls (cw ad cc r.1 r.2.1) H → va_D A (cw ad cc r.1 r.2.1) → va_S A s.heap H locs → W p l e ({ frames := 3, cells := cR, slots := sR, locals := 75 }) s m args below meth c H locs CT ST Q (F0 m pc ls [rv ad 3 r.2.2])) : ∀ (ad : Nat → Nat → Nat) (H : Heap) (locs : List Loc) (ls : Array Slot) (cells slots : Nat), Ext ad0 N0 ad N → cells + oc = CT → slots + os = ST → va_P D cls (cw ad cc N S) H → va_D A (cw ad cc N S) → va_S A s.heap H locs → lv_has ls 8 [(0, .ref (ad 11 x0)), (1, .ref (ad 4 x1)), (2, .ref (ad 7 x2)), (3, .int x3), (4, .long x4)] → W p l e ({ frames := 3, cells := cR, slots := sR, locals := 75 }) s m args below meth c H locs cells slots Q (F0 m 0 ls []) := by
  intro ad H locs ls cells slots hX hcu hsu hP hD hS hl
  obtain ⟨hx, hb, hr, hml, hown, hts, hK, hA, hev, hE, hN, hNS⟩ := id hC
  unfold m_cJT_writeOn_J0 at Heq
  refine lv_aload_n hx hb d_cJT_writeOn_0 rfl (lv_at hl 2 rfl) ?_
  obtain ⟨hl_x2_7, Heq⟩ := gl_some Heq
  refine va_get (D := D) (ci := 7) (v := rv ad 3 (S.r 7 0 x2)) (C := R_Sp) (T := F_Sp) (N := 3) hx hb hts i_Sp hown hK hP (cPos N 7 x2) (cw_obj (k := 7) (by decide) hl_x2_7) rfl 0 (by decide) (hts _ kw_743) (fun _ h9 => h9) rfl d_cJT_writeOn_1 ?_
  refine tx_astore (x := (S.r 7 0 x2).map (ad 3)) (lv' := [(6, rv ad 3 (S.r 7 0 x2)), (0, .ref (ad 11 x0)), (1, .ref (ad 4 x1)), (2, .ref (ad 7 x2)), (3, .int x3), (4, .long x4)]) hx hb d_cJT_writeOn_4 hl (by decide) rfl (fun ls hl => ?_)
  refine lv_aload_n hx hb d_cJT_writeOn_6 rfl (lv_at hl 1 rfl) ?_
  obtain ⟨hl_x0_11, Heq⟩ := gl_some Heq
  refine va_get (D := D) (ci := 11) (v := rv ad 10 (S.r 11 2 x0)) (C := R_JT) (T := F_JT) (N := 13) hx hb hts i_JT hown hK hP (cPos N 11 x0) (cw_obj (k := 11) (by decide) hl_x0_11) rfl 2 (by decide) (hts _ kw_423) (fun _ h9 => h9) rfl d_cJT_writeOn_7 ?_
  refine lv_aload_n hx hb d_cJT_writeOn_10 rfl (lv_at hl 3 rfl) ?_
  obtain ⟨j_1, hj_2, hl_3, Heq⟩ := gn_some Heq
  refine w_s (st' := [.ref (ad 7 x2), .ref (ad 10 j_1)]) (congrArg (fun z9 : Option Nat => [.ref (ad 7 x2), rv ad 10 z9]) hj_2) ?_
  obtain ⟨o_4, h_5, Heq⟩ := ob_some Heq
  have hFc := fr_all hD hS hA
  refine va_callv (va_runV (As := [.ref (ad 7 x2)]) (rest := []) ⟨hx, hb, hml, hown, hts⟩ (g_cVw_gather l D H.size (ad := ad) (cc := cc) (sad := sad) (sav := sav) h_5) (cw_v 1 hts kw_697 kw_694 kw_695 kw_696 kw_6 rfl rfl (by decide +kernel) ⟨Nat.le_of_ble_eq_true rfl, Nat.le_of_ble_eq_true rfl⟩) ⟨c_blind, va_recv hK hP (ci := 10) (q0 := cPos N 10 j_1) rfl (cw_obj (k := 10) (by decide) hl_3), fun U hU hW => c_pre hU hW hP hK hD hev hE hN hNS hS hFc⟩ rfl rfl hl.1 rfl (lv_room (Nat.le_of_ble_eq_true rfl)) d_cJT_writeOn_11 ⟨(Nat.le_trans (m := CT) (by omega) hCT), (Nat.le_trans (m := ST) (by omega) hST)⟩) hS (fun q _ h => hFc q h) hFc (fun u t H1 locs ht hvm hw hB hz1 hk1 hS => ?_)
  obtain ⟨hP, -, hD1⟩ := hB
  rw [ht] at hP
  have hD := hD1.weaken (fun _ q _ h => hFc q.1 h)
  generalize H1 = H at hP hS ⊢
  refine lv_iload_n hx hb d_cJT_writeOn_14 rfl (lv_at hl 4 rfl) ?_
  refine lv_bipush (v := 10) hx hb d_cJT_writeOn_15 (by decide) ?_
  refine lv_icmp_ne (tgt := 27) hx hb d_cJT_writeOn_17 (by decide) (fun c_6 => ?_) (fun c_6 => ?_)
  · replace Heq := (if_neg c_6).symm.trans Heq
    exact w_cJT_writeOn_J27 hC hCT hST Heq Kr _ _ _ _ _ _ hX (by omega) (by omega) hP hD hS (lv_sub hl [1, 2, 3, 4, 5, 0] rfl)
  · replace Heq := (if_pos c_6).symm.trans Heq
    refine lv_aload_n hx hb d_cJT_writeOn_20 rfl (lv_at hl 1 rfl) ?_
    refine va_get (D := D) (ci := 11) (v := rv ad 10 (o_4.r 11 2 x0)) (C := R_JT) (T := F_JT) (N := 13) hx hb hts i_JT hown hK hP (cPos N 11 x0) (cw_obj (k := 11) (by decide) hl_x0_11) rfl 2 (by decide) (hts _ kw_423) (fun _ h9 => h9) rfl d_cJT_writeOn_21 ?_
    obtain ⟨j_7, hj_8, hl_9, Heq⟩ := gn_some Heq
    refine w_s (st' := [.ref (ad 10 j_7)]) (congrArg (fun z9 : Option Nat => [rv ad 10 z9]) hj_8) ?_
    obtain ⟨o_10, h_11, Heq⟩ := ob_some Heq
    have hFc := fr_all hD hS hA
    refine va_callv (va_runV (As := []) (rest := []) ⟨hx, hb, hml, hown, hts⟩ (g_cVw_keepCounters l D H.size (ad := ad) (cc := cc) (sad := sad) (sav := sav) h_11) (cw_v 0 hts kw_705 kw_702 kw_703 kw_704 kw_6 rfl rfl (by decide +kernel) ⟨Nat.le_of_ble_eq_true rfl, Nat.le_of_ble_eq_true rfl⟩) ⟨c_blind, va_recv hK hP (ci := 10) (q0 := cPos N 10 j_7) rfl (cw_obj (k := 10) (by decide) hl_9), fun U hU hW => c_pre hU hW hP hK hD hev hE hN hNS hS hFc⟩ rfl rfl hl.1 rfl (lv_room (Nat.le_of_ble_eq_true rfl)) d_cJT_writeOn_24 ⟨(Nat.le_trans (m := CT) (by omega) hCT), (Nat.le_trans (m := ST) (by omega) hST)⟩) hS (fun q _ h => hFc q h) hFc (fun u t H1 locs ht hvm hw hB hz1 hk1 hS => ?_)
    obtain ⟨hP, -, hD1⟩ := hB
    rw [ht] at hP
    have hD := hD1.weaken (fun _ q _ h => hFc q.1 h)
    generalize H1 = H at hP hS ⊢
    exact w_cJT_writeOn_J27 hC hCT hST Heq Kr _ _ _ _ _ _ hX (by omega) (by omega) hP hD hS (lv_sub hl [1, 2, 3, 4, 5, 0] rfl)
noncomputable def m_cJT_writeOn (N : Nat → Nat) (x0 : Nat) (S : CS) (x1 : Nat) (x2 : Nat) (x3 : Int32) (x4 : Int64) : Option (((Nat → Nat) × CS × Option Nat) × Nat × Nat) := m_cJT_writeOn_J0 N x0 S x1 x2 x3 x4
set_option maxHeartbeats 4000000 in
theorem g_cJT_writeOn (l : Launch) (D : va_G) (sz : Nat) {ad : Nat → Nat → Nat} {cc : Nat → ClassId} {sad sav : Nat → Nat} {N : Nat → Nat} {x0 : Nat} {S : CS} {x1 : Nat} {x2 : Nat} {x3 : Int32} {x4 : Int64} {o : (Nat → Nat) × CS × Option Nat} {oc os : Nat} (Heq : m_cJT_writeOn N x0 S x1 x2 x3 x4 = some (o, oc, os)) : Met l ⟨"JoinedTrees", "writeOn", "(LJoinedTrees$Replica;LJoinedTrees$Spot;IJ)LJoinedTrees$Op;"⟩ (Cond.code ⟨"JoinedTrees", "writeOn", "(LJoinedTrees$Replica;LJoinedTrees$Spot;IJ)LJoinedTrees$Op;"⟩ prog_1_method_47_code 8 (some (.object "JoinedTrees$Op")) :: gb) ({ frames := 3, cells := oc, slots := os, locals := 75 }) (cPc sad sav D (cw ad cc N S) (cty cc) sz [.ref (ad 11 x0), .ref (ad 4 x1), .ref (ad 7 x2), .int x3, .long x4]) (va_Qq (fun (r : Option Nat) (u : Nat → Nat → Nat) => r = o.2.2.map (u 3)) (fun (u : Nat → Nat → Nat) t => Ext ad N u o.1 ∧ gO D (cw u cc o.1 o.2.1) (cty cc) (va_A (cw ad cc N S) sz) t) (va_A (cw ad cc N S) sz)) oc os (va_A (cw ad cc N S) sz) := by
  refine Met.ofW (cc := prog_1_method_47_code) (maxL := 8) (ret := (some (.object "JoinedTrees$Op"))) (by decide) rfl ?_
  intro p e s m args below meth c s₁ B hml hv
  obtain ⟨rfl, hsz, hP, hK, hD0, hev, hE, hN⟩ := hv
  have hx := B.exec
  have hb := B.bytes
  have hr := B.returns
  have hts : ∀ w9 ∈ gb, w9.before [.ref (ad 11 x0), .ref (ad 4 x1), .ref (ad 7 x2), .int x3, .long x4].toArray s = true := fun w9 h => atoms_spec (ws := Cond.code ⟨"JoinedTrees", "writeOn", "(LJoinedTrees$Replica;LJoinedTrees$Spot;IJ)LJoinedTrees$Op;"⟩ prog_1_method_47_code 8 (some (.object "JoinedTrees$Op")) :: gb) B.pre w9 (List.mem_cons_of_mem _ h)
  have hown : s.vm.findClass "JoinedTrees" = some m.cls := findClass_of_methodNamed B.named
  have hlocks := B.notSynchronized
  have hNS := ns_of hP
  subst hsz
  have hD := hD0.self (sz := s.heap.size)
  generalize hAe : va_A (cw ad cc N S) s.heap.size = A at hD hev hE hNS ⊢
  have hA : ∀ q : Nat, s.heap.size ≤ q → A q := fun q h => by rw [← hAe]; exact Or.inr h
  have hS : va_S A s.heap s.heap [] := va_S.rf
  obtain ⟨ls, hl, hle⟩ : ∃ ls : Array Slot, lv_has ls 8 [(0, .ref (ad 11 x0)), (1, .ref (ad 4 x1)), (2, .ref (ad 7 x2)), (3, .int x3), (4, .long x4)] ∧ entryFrame m ([.ref (ad 11 x0), .ref (ad 4 x1), .ref (ad 7 x2), .int x3, .long x4] : List Value).toArray 8 = F0 m 0 ls [] := by
    exact ⟨_, lv_entry (n := 8) _ (Nat.le_of_ble_eq_true rfl), lg_entry_eq ..⟩
  rw [hle]
  refine w_cJT_writeOn_J0 (ad0 := ad) (N0 := N) (CT := oc) (ST := os) (cR := oc) (sR := os) ⟨hx, hb, hr, hml, hown, hts, hK, hA, hev, hE, hN, hNS⟩ (Nat.le_refl _) (Nat.le_refl _) Heq (fun r h pc ad1 H locs ls hd hX hP hD hS => ?_) _ _ _ _ 0 0 Ext.rf (Nat.zero_add _) (Nat.zero_add _) hP hD hS (lv_sub hl [0, 1, 2, 3, 4] rfl)
  subst h
  exact W.aret hx hb hr (Or.inl ⟨_, rfl⟩) (va_rf_or _) (fun t ht hW => ⟨⟨_, ad1, rfl, rfl, hX, by rw [ht]; exact hP, va_K.moved hW.alike hK, hD⟩, hS.F ht⟩) hS.2.2 hd
noncomputable def m_cSt_openBetween_J38 (N : Nat → Nat) (x0 : Nat) (S : CS) (x1 : Option Nat) (x4 : Option Nat) : Option (((Nat → Nat) × CS) × Nat × Nat) := gn x1 (N 3) (fun j_1 => gn x4 (N 7) (fun j_4 => ob (m_cSp_link N j_4 S j_1) (fun o_7 => some ((N, o_7), 0, 0))))
theorem d_cSt_openBetween_0 : decode prog_10_method_10_code 0 = .ok (.new 84, 3) := by decide +kernel
theorem d_cSt_openBetween_3 : decode prog_10_method_10_code 3 = .ok (.dup, 1) := by decide +kernel
theorem d_cSt_openBetween_4 : decode prog_10_method_10_code 4 = .ok (.aload_n 1, 1) := by decide +kernel
theorem d_cSt_openBetween_5 : decode prog_10_method_10_code 5 = .ok (.invokespecial 120, 3) := by decide +kernel
theorem d_cSt_openBetween_8 : decode prog_10_method_10_code 8 = .ok (.astore 4, 2) := by decide +kernel
theorem d_cSt_openBetween_10 : decode prog_10_method_10_code 10 = .ok (.aload 4, 2) := by decide +kernel
theorem d_cSt_openBetween_12 : decode prog_10_method_10_code 12 = .ok (.aload_n 3, 1) := by decide +kernel
theorem d_cSt_openBetween_13 : decode prog_10_method_10_code 13 = .ok (.putfield 100, 3) := by decide +kernel
theorem d_cSt_openBetween_16 : decode prog_10_method_10_code 16 = .ok (.aload_n 2, 1) := by decide +kernel
theorem d_cSt_openBetween_17 : decode prog_10_method_10_code 17 = .ok (.ifnonnull 15, 3) := by decide +kernel
theorem d_cSt_openBetween_20 : decode prog_10_method_10_code 20 = .ok (.aload_n 1, 1) := by decide +kernel
theorem d_cSt_openBetween_21 : decode prog_10_method_10_code 21 = .ok (.getfield 103, 3) := by decide +kernel
theorem d_cSt_openBetween_24 : decode prog_10_method_10_code 24 = .ok (.aload 4, 2) := by decide +kernel
theorem d_cSt_openBetween_26 : decode prog_10_method_10_code 26 = .ok (.putfield 92, 3) := by decide +kernel
theorem d_cSt_openBetween_29 : decode prog_10_method_10_code 29 = .ok (.goto 9, 3) := by decide +kernel
theorem d_cSt_openBetween_38 : decode prog_10_method_10_code 38 = .ok (.aload 4, 2) := by decide +kernel
theorem d_cSt_openBetween_40 : decode prog_10_method_10_code 40 = .ok (.aload_n 1, 1) := by decide +kernel
theorem d_cSt_openBetween_41 : decode prog_10_method_10_code 41 = .ok (.invokevirtual 123, 3) := by decide +kernel
theorem d_cSt_openBetween_44 : decode prog_10_method_10_code 44 = .ok (.return_, 1) := by decide +kernel
set_option maxHeartbeats 4000000 in
set_option maxRecDepth 100000 in
theorem w_cSt_openBetween_J38 {p : Program} {l : Launch} {e : Env} {s : State} {m : MethodId} {args : Array Value} {below : List Frame} {meth : Method} {c : Code} {A : Nat → Prop} {D : va_G} {cc : Nat → ClassId} {sad sav : Nat → Nat} {Q : State → Prop} {ad0 : Nat → Nat → Nat} {N0 : Nat → Nat} {CT ST cR sR : Nat} (hC : MCc sad sav "JoinedTrees$Store" prog_10_method_10_code 5 none p s m args meth c A D cc) (hCT : CT ≤ cR) (hST : ST ≤ sR) {N : Nat → Nat} {x0 : Nat} {S : CS} {x1 : Option Nat} {x4 : Option Nat} {o : (Nat → Nat) × CS} {oc os : Nat} (Heq : m_cSt_openBetween_J38 N x0 S x1 x4 = some (o, oc, os)) (Kr : ∀ r : (Nat → Nat) × CS, o = r → ∀ (pc : Nat) (ad : Nat → Nat → Nat) (H : Heap) (locs : List Loc) (ls : Array Slot), decode prog_10_method_10_code pc = .ok (.return_, 1) → Ext ad0 N0 ad (r.1) → va_P D cls (cw ad cc r.1 r.2) H → va_D A (cw ad cc r.1 r.2) → va_S A s.heap H locs → W p l e ({ frames := 2, cells := cR, slots := sR, locals := 45 }) s m args below meth c H locs CT ST Q (F0 m pc ls [])) : ∀ (ad : Nat → Nat → Nat) (H : Heap) (locs : List Loc) (ls : Array Slot) (cells slots : Nat), Ext ad0 N0 ad N → cells + oc = CT → slots + os = ST → va_P D cls (cw ad cc N S) H → va_D A (cw ad cc N S) → va_S A s.heap H locs → lv_has ls 5 [(0, .ref (ad 8 x0)), (1, rv ad 3 x1), (4, rv ad 7 x4)] → W p l e ({ frames := 2, cells := cR, slots := sR, locals := 45 }) s m args below meth c H locs cells slots Q (F0 m 38 ls []) := by
  intro ad H locs ls cells slots hX hcu hsu hP hD hS hl
  obtain ⟨hx, hb, hr, hml, hown, hts, hK, hA, hev, hE, hN, hNS⟩ := id hC
  unfold m_cSt_openBetween_J38 at Heq
  refine tx_aload (x := x4.map (ad 7)) hx hb d_cSt_openBetween_38 (lv_at hl 2 rfl) ?_
  refine w_v (y := rv ad 7 x4) rfl ?_
  refine tx_aload_n (x := x1.map (ad 3)) hx hb d_cSt_openBetween_40 rfl (lv_at hl 1 rfl) ?_
  refine w_v (y := rv ad 3 x1) rfl ?_
  obtain ⟨j_1, hj_2, hl_3, Heq⟩ := gn_some Heq
  refine w_s (st' := [.ref (ad 3 j_1), rv ad 7 x4]) (congrArg (fun z9 : Option Nat => [rv ad 3 z9, rv ad 7 x4]) hj_2) ?_
  obtain ⟨j_4, hj_5, hl_6, Heq⟩ := gn_some Heq
  refine w_s (st' := [.ref (ad 3 j_1), .ref (ad 7 j_4)]) (congrArg (fun z9 : Option Nat => [.ref (ad 3 j_1), rv ad 7 z9]) hj_5) ?_
  obtain ⟨o_7, h_8, Heq⟩ := ob_some Heq
  have hFc := fr_all hD hS hA
  refine va_callv (va_runV (As := [.ref (ad 3 j_1)]) (rest := []) ⟨hx, hb, hml, hown, hts⟩ (g_cSp_link l D H.size (ad := ad) (cc := cc) (sad := sad) (sav := sav) h_8) (cw_v 1 hts kw_725 kw_757 kw_723 kw_724 kw_20 rfl rfl (by decide +kernel) ⟨Nat.le_of_ble_eq_true rfl, Nat.le_of_ble_eq_true rfl⟩) ⟨c_blind, va_recv hK hP (ci := 7) (q0 := cPos N 7 j_4) rfl (cw_obj (k := 7) (by decide) hl_6), fun U hU hW => c_pre hU hW hP hK hD hev hE hN hNS hS hFc⟩ rfl rfl hl.1 rfl (lv_room (Nat.le_of_ble_eq_true rfl)) d_cSt_openBetween_41 ⟨(Nat.le_trans (m := CT) (by omega) hCT), (Nat.le_trans (m := ST) (by omega) hST)⟩) hS (fun q _ h => hFc q h) hFc (fun u t H1 locs ht hvm hw hB hz1 hk1 hS => ?_)
  obtain ⟨hP, -, hD1⟩ := hB
  rw [ht] at hP
  have hD := hD1.weaken (fun _ q _ h => hFc q.1 h)
  generalize H1 = H at hP hS ⊢
  obtain ⟨e9, e9a, e9b⟩ := tri Heq
  refine W.cs (cells' := CT) (slots' := ST) (by omega) (by omega) ?_
  exact Kr _ e9 44 _ _ _ _ d_cSt_openBetween_44 hX hP hD hS
noncomputable def m_cSt_openBetween_J0 (N : Nat → Nat) (x0 : Nat) (S : CS) (x1 : Nat) (x2 : Option Nat) (x3 : Option Nat) : Option (((Nat → Nat) × CS) × Nat × Nat) := gv x2 (N 7) (gv x3 (N 7) (nw 3 7 0 N S (fun N_3 S_4 j_5 => gl x1 (N_3 3) (ob (m_cSp_init N_3 j_5 S_4 x1) (fun o_6 => on x2 (gn (o_6.r 3 1 x1) (N_3 3) (fun j_10 => m_cSt_openBetween_J38 N_3 x0 ((o_6.setR 7 2 j_5 x3).setR 3 13 j_10 (some j_5)) (some x1) (some j_5))) (fun j_8 => gl j_8 (N_3 7) (m_cSt_openBetween_J38 N_3 x0 ((o_6.setR 7 2 j_5 x3).setR 7 2 j_8 (some j_5)) (some x1) (some j_5))))))))
theorem d_cSt_openBetween_32 : decode prog_10_method_10_code 32 = .ok (.aload_n 2, 1) := by decide +kernel
theorem d_cSt_openBetween_33 : decode prog_10_method_10_code 33 = .ok (.aload 4, 2) := by decide +kernel
theorem d_cSt_openBetween_35 : decode prog_10_method_10_code 35 = .ok (.putfield 100, 3) := by decide +kernel
set_option maxHeartbeats 4000000 in
set_option maxRecDepth 100000 in
theorem w_cSt_openBetween_J0 {p : Program} {l : Launch} {e : Env} {s : State} {m : MethodId} {args : Array Value} {below : List Frame} {meth : Method} {c : Code} {A : Nat → Prop} {D : va_G} {cc : Nat → ClassId} {sad sav : Nat → Nat} {Q : State → Prop} {ad0 : Nat → Nat → Nat} {N0 : Nat → Nat} {CT ST cR sR : Nat} (hC : MCc sad sav "JoinedTrees$Store" prog_10_method_10_code 5 none p s m args meth c A D cc) (hCT : CT ≤ cR) (hST : ST ≤ sR) {N : Nat → Nat} {x0 : Nat} {S : CS} {x1 : Nat} {x2 : Option Nat} {x3 : Option Nat} {o : (Nat → Nat) × CS} {oc os : Nat} (Heq : m_cSt_openBetween_J0 N x0 S x1 x2 x3 = some (o, oc, os)) (Kr : ∀ r : (Nat → Nat) × CS, o = r → ∀ (pc : Nat) (ad : Nat → Nat → Nat) (H : Heap) (locs : List Loc) (ls : Array Slot), decode prog_10_method_10_code pc = .ok (.return_, 1) → Ext ad0 N0 ad (r.1) → va_P D cls (cw ad cc r.1 r.2) H → va_D A (cw ad cc r.1 r.2) → va_S A s.heap H locs → W p l e ({ frames := 2, cells := cR, slots := sR, locals := 45 }) s m args below meth c H locs CT ST Q (F0 m pc ls [])) : ∀ (ad : Nat → Nat → Nat) (H : Heap) (locs : List Loc) (ls : Array Slot) (cells slots : Nat), Ext ad0 N0 ad N → cells + oc = CT → slots + os = ST → va_P D cls (cw ad cc N S) H → va_D A (cw ad cc N S) → va_S A s.heap H locs → lv_has ls 5 [(0, .ref (ad 8 x0)), (1, .ref (ad 3 x1)), (2, rv ad 7 x2), (3, rv ad 7 x3)] → W p l e ({ frames := 2, cells := cR, slots := sR, locals := 45 }) s m args below meth c H locs cells slots Q (F0 m 0 ls []) := by
  intro ad H locs ls cells slots hX hcu hsu hP hD hS hl
  obtain ⟨hx, hb, hr, hml, hown, hts, hK, hA, hev, hE, hN, hNS⟩ := id hC
  unfold m_cSt_openBetween_J0 at Heq
  obtain ⟨hv_1, Heq⟩ := gv_some Heq
  obtain ⟨hv_2, Heq⟩ := gv_some Heq
  obtain ⟨N_3, S_4, j_5, a9, b9, Heq, e9a, e9b, hw9, eN9, eS9, ej9⟩ := nw_some Heq
  refine va_new (D := D) (ci := 7) (fs := [.null, .null, .null]) (C := R_Sp) (T := F_Sp) (N := 3) hx hb hts i_Sp t_Sp t_Sp_ok hown (hts _ kw_734) (hts _ kw_735) (hts _ kw_20) hK hP hD hS hA rfl (by decide +kernel) (Nat.le_trans (m := CT) (by omega) hCT) (Nat.le_trans (m := ST) (by omega) hST) d_cSt_openBetween_0 (fun q9 H hP hD hS => ?_)
  obtain ⟨ad, hX1, hq1, hne1, hl_j_5, hP, hD⟩ := cw_born2 hw9 eN9 eS9 ej9 (by decide) (cell_newO (by decide)) hP hD
  have hX := hX.tr hX1
  have hl : lv_has ls 5 [(0, .ref (ad 8 x0)), (1, .ref (ad 3 x1)), (2, rv ad 7 x2), (3, rv ad 7 x3)] := lv_cast hl (by first | rfl | simp only [hq1, hne1 8 x0 (by decide), hne1 3 x1 (by decide), hX1.rv (k := 7) (x := x2) hv_1, hX1.rv (k := 7) (x := x3) hv_2])
  refine w_s (st' := [.ref (ad 7 j_5)]) (by first | rfl | simp only [hq1, hne1 8 x0 (by decide), hne1 3 x1 (by decide), hX1.rv (k := 7) (x := x2) hv_1, hX1.rv (k := 7) (x := x3) hv_2]) ?_
  have hv_1 := fun j9 q9 => Nat.lt_of_lt_of_le (hv_1 j9 q9) (hX1.1 7)
  have hv_2 := fun j9 q9 => Nat.lt_of_lt_of_le (hv_2 j9 q9) (hX1.1 7)
  refine lv_dup hx hb d_cSt_openBetween_3 (by first | rfl | exact rv_cat) ?_
  refine lv_aload_n hx hb d_cSt_openBetween_4 rfl (lv_at hl 1 rfl) ?_
  obtain ⟨hl_x1_3, Heq⟩ := gl_some Heq
  obtain ⟨o_6, h_7, Heq⟩ := ob_some Heq
  have hFc := fr_all hD hS hA
  refine va_callv (va_runI (As := [.ref (ad 3 x1)]) (rest := [.ref (ad 7 j_5)]) ⟨hx, hb, hml, hown, hts⟩ (g_cSp_init l D H.size (ad := ad) (cc := cc) (sad := sad) (sav := sav) h_7) (cw_i 1 hts kw_738 kw_736 kw_737 kw_20 rfl rfl rfl (by decide +kernel) ⟨Nat.le_of_ble_eq_true rfl, Nat.le_of_ble_eq_true rfl⟩) ⟨c_blind, fun U hU hW => c_pre hU hW hP hK hD hev hE hN hNS hS hFc⟩ rfl rfl hl.1 rfl (lv_room (Nat.le_of_ble_eq_true rfl)) d_cSt_openBetween_5 ⟨(Nat.le_trans (m := CT) (by omega) hCT), (Nat.le_trans (m := ST) (by omega) hST)⟩) hS (fun q _ h => hFc q h) hFc (fun u t H1 locs ht hvm hw hB hz1 hk1 hS => ?_)
  obtain ⟨hP, -, hD1⟩ := hB
  rw [ht] at hP
  have hD := hD1.weaken (fun _ q _ h => hFc q.1 h)
  generalize H1 = H at hP hS ⊢
  refine lv_astore (lv' := [(4, .ref (ad 7 j_5)), (0, .ref (ad 8 x0)), (1, .ref (ad 3 x1)), (2, rv ad 7 x2), (3, rv ad 7 x3)]) hx hb d_cSt_openBetween_8 hl (by decide) (by simp [rv, rf_cat]) (fun ls hl => ?_)
  refine lv_aload hx hb d_cSt_openBetween_10 (lv_at hl 0 rfl) ?_
  refine tx_aload_n (x := x3.map (ad 7)) hx hb d_cSt_openBetween_12 rfl (lv_at hl 4 rfl) ?_
  refine w_v (y := rv ad 7 x3) rfl ?_
  refine w_v (y := rv ad 7 x3) rfl ?_
  refine va_put (D := D) (ci := 7) (v := rv ad 7 x3) (ty := .object "JoinedTrees$Spot") (C := R_Sp) (T := F_Sp) (N := 3) hx hb hts i_Sp t_Sp t_Sp_ok n_Sp hown hK hP hD hS (cPos N_3 7 j_5) (cw_obj (k := 7) (by decide) hl_j_5) rfl 2 (by decide) (hts _ kw_747) (fun _ h9 => h9) rfl (by decide +kernel) (rv_nar (Or.inl ⟨_, rfl⟩)) (rv_fit (Or.inl ⟨_, rfl⟩)) (Nat.le_of_ble_eq_true rfl) d_cSt_openBetween_13 (fun H locs hP hD hS => ?_)
  have hD := (congrArg (fun w9 => va_D A w9) (cw_setR (ad := ad) (cc := cc) (S := o_6) (k := 7) (f := 2) (t := 7) (v := x3) (by decide) rfl hl_j_5)).mp hD
  have hP := (congrArg (fun w9 => va_P D cls w9 H) (cw_setR (ad := ad) (cc := cc) (S := o_6) (k := 7) (f := 2) (t := 7) (v := x3) (by decide) rfl hl_j_5)).mp hP
  refine tx_aload_n (x := x2.map (ad 7)) hx hb d_cSt_openBetween_16 rfl (lv_at hl 3 rfl) ?_
  refine w_v (y := rv ad 7 x2) rfl ?_
  rcases on_some Heq with ⟨hj_9, Heq⟩ | ⟨j_8, hj_9, Heq⟩
  · refine w_s (st' := [.null]) (congrArg (fun z9 : Option Nat => [rv ad 7 z9]) hj_9) ?_
    refine lv_ifnonnullN hx hb d_cSt_openBetween_17 ?_
    refine lv_aload_n hx hb d_cSt_openBetween_20 rfl (lv_at hl 2 rfl) ?_
    refine va_get (D := D) (ci := 3) (v := rv ad 3 ((o_6.setR 7 2 j_5 x3).r 3 1 x1)) (C := R_Op) (T := F_Op) (N := 15) hx hb hts i_Op hown hK hP (cPos N_3 3 x1) (cw_obj (k := 3) (by decide) hl_x1_3) rfl 1 (by decide) (hts _ kw_56) (fun _ h9 => h9) rfl d_cSt_openBetween_21 ?_
    refine w_v (y := rv ad 3 (o_6.r 3 1 x1)) (congrArg (rv ad 3) rfl) ?_
    refine lv_aload hx hb d_cSt_openBetween_24 (lv_at hl 0 rfl) ?_
    obtain ⟨j_10, hj_11, hl_12, Heq⟩ := gn_some Heq
    refine w_s (st' := [.ref (ad 7 j_5), .ref (ad 3 j_10)]) (congrArg (fun z9 : Option Nat => [.ref (ad 7 j_5), rv ad 3 z9]) hj_11) ?_
    refine w_v (y := rv ad 7 (some j_5)) rfl ?_
    refine va_put (D := D) (ci := 3) (v := rv ad 7 (some j_5)) (ty := .object "JoinedTrees$Spot") (C := R_Op) (T := F_Op) (N := 15) hx hb hts i_Op t_Op t_Op_ok n_Op hown hK hP hD hS (cPos N_3 3 j_10) (cw_obj (k := 3) (by decide) hl_12) rfl 13 (by decide) (hts _ kw_99) (fun _ h9 => h9) rfl (by decide +kernel) (rv_nar (Or.inl ⟨_, rfl⟩)) (rv_fit (Or.inl ⟨_, rfl⟩)) (Nat.le_of_ble_eq_true rfl) d_cSt_openBetween_26 (fun H locs hP hD hS => ?_)
    have hD := (congrArg (fun w9 => va_D A w9) (cw_setR (ad := ad) (cc := cc) (S := (o_6.setR 7 2 j_5 x3)) (k := 3) (f := 13) (t := 7) (v := (some j_5)) (by decide) rfl hl_12)).mp hD
    have hP := (congrArg (fun w9 => va_P D cls w9 H) (cw_setR (ad := ad) (cc := cc) (S := (o_6.setR 7 2 j_5 x3)) (k := 3) (f := 13) (t := 7) (v := (some j_5)) (by decide) rfl hl_12)).mp hP
    refine lv_goto (tgt := 38) hx hb d_cSt_openBetween_29 (by decide) ?_
    exact w_cSt_openBetween_J38 hC hCT hST Heq Kr _ _ _ _ _ _ hX (by omega) (by omega) hP hD hS (lv_sub hl [1, 2, 0] rfl)
  · refine w_s (st' := [.ref (ad 7 j_8)]) (congrArg (fun z9 : Option Nat => [rv ad 7 z9]) hj_9) ?_
    refine lv_ifnonnull (tgt := 32) hx hb d_cSt_openBetween_17 (by decide) ?_
    refine tx_aload_n (x := x2.map (ad 7)) hx hb d_cSt_openBetween_32 rfl (lv_at hl 3 rfl) ?_
    refine w_v (y := rv ad 7 x2) rfl ?_
    refine lv_aload hx hb d_cSt_openBetween_33 (lv_at hl 0 rfl) ?_
    refine w_s (st' := [.ref (ad 7 j_5), .ref (ad 7 j_8)]) (congrArg (fun z9 : Option Nat => [.ref (ad 7 j_5), rv ad 7 z9]) hj_9) ?_
    obtain ⟨hl_j_8_7, Heq⟩ := gl_some Heq
    refine w_v (y := rv ad 7 (some j_5)) rfl ?_
    refine va_put (D := D) (ci := 7) (v := rv ad 7 (some j_5)) (ty := .object "JoinedTrees$Spot") (C := R_Sp) (T := F_Sp) (N := 3) hx hb hts i_Sp t_Sp t_Sp_ok n_Sp hown hK hP hD hS (cPos N_3 7 j_8) (cw_obj (k := 7) (by decide) hl_j_8_7) rfl 2 (by decide) (hts _ kw_747) (fun _ h9 => h9) rfl (by decide +kernel) (rv_nar (Or.inl ⟨_, rfl⟩)) (rv_fit (Or.inl ⟨_, rfl⟩)) (Nat.le_of_ble_eq_true rfl) d_cSt_openBetween_35 (fun H locs hP hD hS => ?_)
    have hD := (congrArg (fun w9 => va_D A w9) (cw_setR (ad := ad) (cc := cc) (S := (o_6.setR 7 2 j_5 x3)) (k := 7) (f := 2) (t := 7) (v := (some j_5)) (by decide) rfl hl_j_8_7)).mp hD
    have hP := (congrArg (fun w9 => va_P D cls w9 H) (cw_setR (ad := ad) (cc := cc) (S := (o_6.setR 7 2 j_5 x3)) (k := 7) (f := 2) (t := 7) (v := (some j_5)) (by decide) rfl hl_j_8_7)).mp hP
    exact w_cSt_openBetween_J38 hC hCT hST Heq Kr _ _ _ _ _ _ hX (by omega) (by omega) hP hD hS (lv_sub hl [1, 2, 0] rfl)
noncomputable def m_cSt_openBetween (N : Nat → Nat) (x0 : Nat) (S : CS) (x1 : Nat) (x2 : Option Nat) (x3 : Option Nat) : Option (((Nat → Nat) × CS) × Nat × Nat) := m_cSt_openBetween_J0 N x0 S x1 x2 x3
set_option maxHeartbeats 4000000 in
theorem g_cSt_openBetween (l : Launch) (D : va_G) (sz : Nat) {ad : Nat → Nat → Nat} {cc : Nat → ClassId} {sad sav : Nat → Nat} {N : Nat → Nat} {x0 : Nat} {S : CS} {x1 : Nat} {x2 : Option Nat} {x3 : Option Nat} {o : (Nat → Nat) × CS} {oc os : Nat} (Heq : m_cSt_openBetween N x0 S x1 x2 x3 = some (o, oc, os)) : Met l ⟨"JoinedTrees$Store", "openBetween", "(LJoinedTrees$Op;LJoinedTrees$Spot;LJoinedTrees$Spot;)V"⟩ (Cond.code ⟨"JoinedTrees$Store", "openBetween", "(LJoinedTrees$Op;LJoinedTrees$Spot;LJoinedTrees$Spot;)V"⟩ prog_10_method_10_code 5 none :: gb) ({ frames := 2, cells := oc, slots := os, locals := 45 }) (cPc sad sav D (cw ad cc N S) (cty cc) sz [.ref (ad 8 x0), .ref (ad 3 x1), rv ad 7 x2, rv ad 7 x3]) (va_Qv (fun _ : Nat → Nat → Nat => True) (fun (u : Nat → Nat → Nat) t => Ext ad N u o.1 ∧ gO D (cw u cc o.1 o.2) (cty cc) (va_A (cw ad cc N S) sz) t) (va_A (cw ad cc N S) sz)) oc os (va_A (cw ad cc N S) sz) := by
  refine Met.ofW (cc := prog_10_method_10_code) (maxL := 5) (ret := none) (by decide) rfl ?_
  intro p e s m args below meth c s₁ B hml hv
  obtain ⟨rfl, hsz, hP, hK, hD0, hev, hE, hN⟩ := hv
  have hx := B.exec
  have hb := B.bytes
  have hr := B.returns
  have hts : ∀ w9 ∈ gb, w9.before [.ref (ad 8 x0), .ref (ad 3 x1), rv ad 7 x2, rv ad 7 x3].toArray s = true := fun w9 h => atoms_spec (ws := Cond.code ⟨"JoinedTrees$Store", "openBetween", "(LJoinedTrees$Op;LJoinedTrees$Spot;LJoinedTrees$Spot;)V"⟩ prog_10_method_10_code 5 none :: gb) B.pre w9 (List.mem_cons_of_mem _ h)
  have hown : s.vm.findClass "JoinedTrees$Store" = some m.cls := findClass_of_methodNamed B.named
  have hlocks := B.notSynchronized
  have hNS := ns_of hP
  subst hsz
  have hD := hD0.self (sz := s.heap.size)
  generalize hAe : va_A (cw ad cc N S) s.heap.size = A at hD hev hE hNS ⊢
  have hA : ∀ q : Nat, s.heap.size ≤ q → A q := fun q h => by rw [← hAe]; exact Or.inr h
  have hS : va_S A s.heap s.heap [] := va_S.rf
  obtain ⟨ls, hl, hle⟩ : ∃ ls : Array Slot, lv_has ls 5 [(0, .ref (ad 8 x0)), (1, .ref (ad 3 x1)), (2, rv ad 7 x2), (3, rv ad 7 x3)] ∧ entryFrame m ([.ref (ad 8 x0), .ref (ad 3 x1), rv ad 7 x2, rv ad 7 x3] : List Value).toArray 5 = F0 m 0 ls [] := by
    rcases x2 with _ | x2 <;> rcases x3 with _ | x3
    all_goals exact ⟨_, lv_entry (n := 5) _ (Nat.le_of_ble_eq_true rfl), lg_entry_eq ..⟩
  rw [hle]
  refine w_cSt_openBetween_J0 (ad0 := ad) (N0 := N) (CT := oc) (ST := os) (cR := oc) (sR := os) ⟨hx, hb, hr, hml, hown, hts, hK, hA, hev, hE, hN, hNS⟩ (Nat.le_refl _) (Nat.le_refl _) Heq (fun r h pc ad1 H locs ls hd hX hP hD hS => ?_) _ _ _ _ 0 0 Ext.rf (Nat.zero_add _) (Nat.zero_add _) hP hD hS (lv_sub hl [0, 1, 2, 3] rfl)
  subst h
  exact W.vret hx hb hr (fun t ht hW => ⟨⟨ad1, rfl, trivial, hX, by rw [ht]; exact hP, va_K.moved hW.alike hK, hD⟩, hS.F ht⟩) hS.2.2 hd
