def m_cJT_told_J113 (N : Nat → Nat) (x0 : Nat) (S : CS) (t0 : Int32) : Option (CS × Int32) := some (S, t0)
theorem d_cJT_told_0 : decode prog_1_method_29_code 0 = .ok (.iload_n 1, 1) := by decide +kernel
theorem d_cJT_told_1 : decode prog_1_method_29_code 1 = .ok (.tableswitch 113 0 7 #[47, 55, 60, 68, 76, 87, 92, 100], 47) := by decide +kernel
theorem d_cJT_told_48 : decode prog_1_method_29_code 48 = .ok (.aload_n 0, 1) := by decide +kernel
theorem d_cJT_told_49 : decode prog_1_method_29_code 49 = .ok (.getfield 67, 3) := by decide +kernel
theorem d_cJT_told_52 : decode prog_1_method_29_code 52 = .ok (.getfield 80, 3) := by decide +kernel
theorem d_cJT_told_55 : decode prog_1_method_29_code 55 = .ok (.ireturn, 1) := by decide +kernel
theorem d_cJT_told_56 : decode prog_1_method_29_code 56 = .ok (.aload_n 0, 1) := by decide +kernel
theorem d_cJT_told_57 : decode prog_1_method_29_code 57 = .ok (.getfield 96, 3) := by decide +kernel
theorem d_cJT_told_60 : decode prog_1_method_29_code 60 = .ok (.ireturn, 1) := by decide +kernel
theorem d_cJT_told_61 : decode prog_1_method_29_code 61 = .ok (.aload_n 0, 1) := by decide +kernel
theorem d_cJT_told_62 : decode prog_1_method_29_code 62 = .ok (.getfield 12, 3) := by decide +kernel
theorem d_cJT_told_65 : decode prog_1_method_29_code 65 = .ok (.getfield 395, 3) := by decide +kernel
theorem d_cJT_told_68 : decode prog_1_method_29_code 68 = .ok (.ireturn, 1) := by decide +kernel
theorem d_cJT_told_69 : decode prog_1_method_29_code 69 = .ok (.aload_n 0, 1) := by decide +kernel
theorem d_cJT_told_70 : decode prog_1_method_29_code 70 = .ok (.getfield 12, 3) := by decide +kernel
theorem d_cJT_told_73 : decode prog_1_method_29_code 73 = .ok (.getfield 226, 3) := by decide +kernel
theorem d_cJT_told_76 : decode prog_1_method_29_code 76 = .ok (.ireturn, 1) := by decide +kernel
theorem d_cJT_told_77 : decode prog_1_method_29_code 77 = .ok (.aload_n 0, 1) := by decide +kernel
theorem d_cJT_told_78 : decode prog_1_method_29_code 78 = .ok (.getfield 12, 3) := by decide +kernel
theorem d_cJT_told_81 : decode prog_1_method_29_code 81 = .ok (.getfield 287, 3) := by decide +kernel
theorem d_cJT_told_84 : decode prog_1_method_29_code 84 = .ok (.getfield 80, 3) := by decide +kernel
theorem d_cJT_told_87 : decode prog_1_method_29_code 87 = .ok (.ireturn, 1) := by decide +kernel
theorem d_cJT_told_88 : decode prog_1_method_29_code 88 = .ok (.aload_n 0, 1) := by decide +kernel
theorem d_cJT_told_89 : decode prog_1_method_29_code 89 = .ok (.getfield 76, 3) := by decide +kernel
theorem d_cJT_told_92 : decode prog_1_method_29_code 92 = .ok (.ireturn, 1) := by decide +kernel
theorem d_cJT_told_93 : decode prog_1_method_29_code 93 = .ok (.aload_n 0, 1) := by decide +kernel
theorem d_cJT_told_94 : decode prog_1_method_29_code 94 = .ok (.getfield 54, 3) := by decide +kernel
theorem d_cJT_told_97 : decode prog_1_method_29_code 97 = .ok (.getfield 80, 3) := by decide +kernel
theorem d_cJT_told_100 : decode prog_1_method_29_code 100 = .ok (.ireturn, 1) := by decide +kernel
theorem d_cJT_told_101 : decode prog_1_method_29_code 101 = .ok (.aload_n 0, 1) := by decide +kernel
theorem d_cJT_told_102 : decode prog_1_method_29_code 102 = .ok (.getfield 352, 3) := by decide +kernel
theorem d_cJT_told_105 : decode prog_1_method_29_code 105 = .ok (.ifCond .eq 7, 3) := by decide +kernel
theorem d_cJT_told_112 : decode prog_1_method_29_code 112 = .ok (.iconst 0, 1) := by decide +kernel
theorem d_cJT_told_113 : decode prog_1_method_29_code 113 = .ok (.ireturn, 1) := by decide +kernel
set_option maxHeartbeats 4000000 in
set_option maxRecDepth 100000 in
theorem w_cJT_told_J113 {p : Program} {l : Launch} {e : Env} {s : State} {m : MethodId} {args : Array Value} {below : List Frame} {meth : Method} {c : Code} {A : Nat → Prop} {D : va_G} {ad : Nat → Nat → Nat} {cc : Nat → ClassId} {sad sav : Nat → Nat} {Q : State → Prop} (hC : MCc sad sav "JoinedTrees" prog_1_method_29_code 2 (some .int) p s m args meth c A D cc) {N : Nat → Nat} {x0 : Nat} {S : CS} {t0 : Int32} {o : CS × Int32} (Heq : m_cJT_told_J113 N x0 S t0 = some o) (Kr : ∀ r : CS × Int32, o = r → ∀ (pc : Nat) (H : Heap) (locs : List Loc) (ls : Array Slot), decode prog_1_method_29_code pc = .ok (.ireturn, 1) → va_P D cls (cw ad cc N r.1) H → va_D A (cw ad cc N r.1) → va_S A s.heap H locs → W p l e ({ frames := 0, cells := 0, slots := 0, locals := 0 }) s m args below meth c H locs 0 0 Q (F0 m pc ls [.int r.2])) : ∀ (H : Heap) (locs : List Loc) (ls : Array Slot), va_P D cls (cw ad cc N S) H → va_D A (cw ad cc N S) → va_S A s.heap H locs → lv_has ls 2 [(0, .ref (ad 11 x0))] → W p l e ({ frames := 0, cells := 0, slots := 0, locals := 0 }) s m args below meth c H locs 0 0 Q (F0 m 113 ls [.int t0]) := by
  intro H locs ls hP hD hS hl
  obtain ⟨hx, hb, hr, hml, hown, hts, hK, hA, hev, hE, hN, hNS⟩ := id hC
  unfold m_cJT_told_J113 at Heq
  exact Kr _ (Option.some.inj Heq).symm 113 _ _ _ d_cJT_told_113 hP hD hS
def m_cJT_told_J0 (N : Nat → Nat) (x0 : Nat) (S : CS) (x1 : Int32) : Option (CS × Int32) := (if x1 = 0 then gl x0 (N 11) (gn (S.r 11 8 x0) (N 5) (fun j_2 => some (S, S.i 5 1 j_2))) else (if x1 = 1 then gl x0 (N 11) (some (S, S.i 11 11 x0)) else (if x1 = 2 then gl x0 (N 11) (gn (S.r 11 0 x0) (N 8) (fun j_7 => some (S, S.i 8 5 j_7))) else (if x1 = 3 then gl x0 (N 11) (gn (S.r 11 0 x0) (N 8) (fun j_11 => some (S, S.i 8 4 j_11))) else (if x1 = 4 then gl x0 (N 11) (gn (S.r 11 0 x0) (N 8) (fun j_15 => gn (S.r 8 2 j_15) (N 5) (fun j_18 => some (S, S.i 5 1 j_18)))) else (if x1 = 5 then gl x0 (N 11) (some (S, S.i 11 12 x0)) else (if x1 = 6 then gl x0 (N 11) (gn (S.r 11 6 x0) (N 5) (fun j_23 => some (S, S.i 5 1 j_23))) else (if x1 = 7 then gl x0 (N 11) ((if S.i 11 7 x0 = 0 then m_cJT_told_J113 N x0 S 0 else m_cJT_told_J113 N x0 S 1)) else some (S, (-1))))))))))
theorem d_cJT_told_108 : decode prog_1_method_29_code 108 = .ok (.iconst 1, 1) := by decide +kernel
theorem d_cJT_told_109 : decode prog_1_method_29_code 109 = .ok (.goto 4, 3) := by decide +kernel
theorem d_cJT_told_114 : decode prog_1_method_29_code 114 = .ok (.iconst (-1), 1) := by decide +kernel
theorem d_cJT_told_115 : decode prog_1_method_29_code 115 = .ok (.ireturn, 1) := by decide +kernel
set_option maxHeartbeats 4000000 in
set_option maxRecDepth 100000 in
theorem w_cJT_told_J0 {p : Program} {l : Launch} {e : Env} {s : State} {m : MethodId} {args : Array Value} {below : List Frame} {meth : Method} {c : Code} {A : Nat → Prop} {D : va_G} {ad : Nat → Nat → Nat} {cc : Nat → ClassId} {sad sav : Nat → Nat} {Q : State → Prop} (hC : MCc sad sav "JoinedTrees" prog_1_method_29_code 2 (some .int) p s m args meth c A D cc) {N : Nat → Nat} {x0 : Nat} {S : CS} {x1 : Int32} {o : CS × Int32} (Heq : m_cJT_told_J0 N x0 S x1 = some o) (Kr : ∀ r : CS × Int32, o = r → ∀ (pc : Nat) (H : Heap) (locs : List Loc) (ls : Array Slot), decode prog_1_method_29_code pc = .ok (.ireturn, 1) → va_P D cls (cw ad cc N r.1) H → va_D A (cw ad cc N r.1) → va_S A s.heap H locs → W p l e ({ frames := 0, cells := 0, slots := 0, locals := 0 }) s m args below meth c H locs 0 0 Q (F0 m pc ls [.int r.2])) : ∀ (H : Heap) (locs : List Loc) (ls : Array Slot), va_P D cls (cw ad cc N S) H → va_D A (cw ad cc N S) → va_S A s.heap H locs → lv_has ls 2 [(0, .ref (ad 11 x0)), (1, .int x1)] → W p l e ({ frames := 0, cells := 0, slots := 0, locals := 0 }) s m args below meth c H locs 0 0 Q (F0 m 0 ls []) := by
  intro H locs ls hP hD hS hl
  obtain ⟨hx, hb, hr, hml, hown, hts, hK, hA, hev, hE, hN, hNS⟩ := id hC
  unfold m_cJT_told_J0 at Heq
  refine lv_iload_n hx hb d_cJT_told_0 rfl (lv_at hl 1 rfl) ?_
  obtain ⟨xs1, hxs1⟩ : ∃ z, x1 = z := ⟨_, rfl⟩
  by_cases c_1 : x1 = 0
  · replace Heq := (if_pos c_1).symm.trans Heq
    refine w_i (y := 0) c_1 ?_
    refine lv_tableIn (tgt := 48) hx hb d_cJT_told_1 (by decide) (by decide) rfl (by decide) ?_
    refine lv_aload_n hx hb d_cJT_told_48 rfl (lv_at hl 0 rfl) ?_
    obtain ⟨hl_x0_11, Heq⟩ := gl_some Heq
    refine va_get (D := D) (ci := 11) (v := rv ad 5 (S.r 11 8 x0)) (C := R_JT) (T := F_JT) (N := 13) hx hb hts i_JT hown hK hP (cPos N 11 x0) (cw_obj (k := 11) (by decide) hl_x0_11) rfl 8 (by decide) (hts _ kw_429) (fun _ h9 => h9) rfl d_cJT_told_49 ?_
    obtain ⟨j_2, hj_3, hl_4, Heq⟩ := gn_some Heq
    refine w_s (st' := [.ref (ad 5 j_2)]) (congrArg (fun z9 : Option Nat => [rv ad 5 z9]) hj_3) ?_
    refine va_get (D := D) (ci := 5) (v := .int (S.i 5 1 j_2)) (C := R_Rw) (T := F_Rw) (N := 3) hx hb hts i_Rw hown hK hP (cPos N 5 j_2) (cw_obj (k := 5) (by decide) hl_4) rfl 1 (by decide) (hts _ kw_143) (fun _ h9 => h9) rfl d_cJT_told_52 ?_
    exact Kr _ (Option.some.inj Heq).symm 55 _ _ _ d_cJT_told_55 hP hD hS
  replace Heq := (if_neg c_1).symm.trans Heq
  by_cases c_5 : x1 = 1
  · replace Heq := (if_pos c_5).symm.trans Heq
    refine w_i (y := 1) c_5 ?_
    refine lv_tableIn (tgt := 56) hx hb d_cJT_told_1 (by decide) (by decide) rfl (by decide) ?_
    refine lv_aload_n hx hb d_cJT_told_56 rfl (lv_at hl 0 rfl) ?_
    obtain ⟨hl_x0_11, Heq⟩ := gl_some Heq
    refine va_get (D := D) (ci := 11) (v := .int (S.i 11 11 x0)) (C := R_JT) (T := F_JT) (N := 13) hx hb hts i_JT hown hK hP (cPos N 11 x0) (cw_obj (k := 11) (by decide) hl_x0_11) rfl 11 (by decide) (hts _ kw_432) (fun _ h9 => h9) rfl d_cJT_told_57 ?_
    exact Kr _ (Option.some.inj Heq).symm 60 _ _ _ d_cJT_told_60 hP hD hS
  replace Heq := (if_neg c_5).symm.trans Heq
  by_cases c_6 : x1 = 2
  · replace Heq := (if_pos c_6).symm.trans Heq
    refine w_i (y := 2) c_6 ?_
    refine lv_tableIn (tgt := 61) hx hb d_cJT_told_1 (by decide) (by decide) rfl (by decide) ?_
    refine lv_aload_n hx hb d_cJT_told_61 rfl (lv_at hl 0 rfl) ?_
    obtain ⟨hl_x0_11, Heq⟩ := gl_some Heq
    refine va_get (D := D) (ci := 11) (v := rv ad 8 (S.r 11 0 x0)) (C := R_JT) (T := F_JT) (N := 13) hx hb hts i_JT hown hK hP (cPos N 11 x0) (cw_obj (k := 11) (by decide) hl_x0_11) rfl 0 (by decide) (hts _ kw_421) (fun _ h9 => h9) rfl d_cJT_told_62 ?_
    obtain ⟨j_7, hj_8, hl_9, Heq⟩ := gn_some Heq
    refine w_s (st' := [.ref (ad 8 j_7)]) (congrArg (fun z9 : Option Nat => [rv ad 8 z9]) hj_8) ?_
    refine va_get (D := D) (ci := 8) (v := .int (S.i 8 5 j_7)) (C := R_St) (T := F_St) (N := 6) hx hb hts i_St hown hK hP (cPos N 8 j_7) (cw_obj (k := 8) (by decide) hl_9) rfl 5 (by decide) (hts _ kw_178) (fun _ h9 => h9) rfl d_cJT_told_65 ?_
    exact Kr _ (Option.some.inj Heq).symm 68 _ _ _ d_cJT_told_68 hP hD hS
  replace Heq := (if_neg c_6).symm.trans Heq
  by_cases c_10 : x1 = 3
  · replace Heq := (if_pos c_10).symm.trans Heq
    refine w_i (y := 3) c_10 ?_
    refine lv_tableIn (tgt := 69) hx hb d_cJT_told_1 (by decide) (by decide) rfl (by decide) ?_
    refine lv_aload_n hx hb d_cJT_told_69 rfl (lv_at hl 0 rfl) ?_
    obtain ⟨hl_x0_11, Heq⟩ := gl_some Heq
    refine va_get (D := D) (ci := 11) (v := rv ad 8 (S.r 11 0 x0)) (C := R_JT) (T := F_JT) (N := 13) hx hb hts i_JT hown hK hP (cPos N 11 x0) (cw_obj (k := 11) (by decide) hl_x0_11) rfl 0 (by decide) (hts _ kw_421) (fun _ h9 => h9) rfl d_cJT_told_70 ?_
    obtain ⟨j_11, hj_12, hl_13, Heq⟩ := gn_some Heq
    refine w_s (st' := [.ref (ad 8 j_11)]) (congrArg (fun z9 : Option Nat => [rv ad 8 z9]) hj_12) ?_
    refine va_get (D := D) (ci := 8) (v := .int (S.i 8 4 j_11)) (C := R_St) (T := F_St) (N := 6) hx hb hts i_St hown hK hP (cPos N 8 j_11) (cw_obj (k := 8) (by decide) hl_13) rfl 4 (by decide) (hts _ kw_176) (fun _ h9 => h9) rfl d_cJT_told_73 ?_
    exact Kr _ (Option.some.inj Heq).symm 76 _ _ _ d_cJT_told_76 hP hD hS
  replace Heq := (if_neg c_10).symm.trans Heq
  by_cases c_14 : x1 = 4
  · replace Heq := (if_pos c_14).symm.trans Heq
    refine w_i (y := 4) c_14 ?_
    refine lv_tableIn (tgt := 77) hx hb d_cJT_told_1 (by decide) (by decide) rfl (by decide) ?_
    refine lv_aload_n hx hb d_cJT_told_77 rfl (lv_at hl 0 rfl) ?_
    obtain ⟨hl_x0_11, Heq⟩ := gl_some Heq
    refine va_get (D := D) (ci := 11) (v := rv ad 8 (S.r 11 0 x0)) (C := R_JT) (T := F_JT) (N := 13) hx hb hts i_JT hown hK hP (cPos N 11 x0) (cw_obj (k := 11) (by decide) hl_x0_11) rfl 0 (by decide) (hts _ kw_421) (fun _ h9 => h9) rfl d_cJT_told_78 ?_
    obtain ⟨j_15, hj_16, hl_17, Heq⟩ := gn_some Heq
    refine w_s (st' := [.ref (ad 8 j_15)]) (congrArg (fun z9 : Option Nat => [rv ad 8 z9]) hj_16) ?_
    refine va_get (D := D) (ci := 8) (v := rv ad 5 (S.r 8 2 j_15)) (C := R_St) (T := F_St) (N := 6) hx hb hts i_St hown hK hP (cPos N 8 j_15) (cw_obj (k := 8) (by decide) hl_17) rfl 2 (by decide) (hts _ kw_170) (fun _ h9 => h9) rfl d_cJT_told_81 ?_
    obtain ⟨j_18, hj_19, hl_20, Heq⟩ := gn_some Heq
    refine w_s (st' := [.ref (ad 5 j_18)]) (congrArg (fun z9 : Option Nat => [rv ad 5 z9]) hj_19) ?_
    refine va_get (D := D) (ci := 5) (v := .int (S.i 5 1 j_18)) (C := R_Rw) (T := F_Rw) (N := 3) hx hb hts i_Rw hown hK hP (cPos N 5 j_18) (cw_obj (k := 5) (by decide) hl_20) rfl 1 (by decide) (hts _ kw_143) (fun _ h9 => h9) rfl d_cJT_told_84 ?_
    exact Kr _ (Option.some.inj Heq).symm 87 _ _ _ d_cJT_told_87 hP hD hS
  replace Heq := (if_neg c_14).symm.trans Heq
  by_cases c_21 : x1 = 5
  · replace Heq := (if_pos c_21).symm.trans Heq
    refine w_i (y := 5) c_21 ?_
    refine lv_tableIn (tgt := 88) hx hb d_cJT_told_1 (by decide) (by decide) rfl (by decide) ?_
    refine lv_aload_n hx hb d_cJT_told_88 rfl (lv_at hl 0 rfl) ?_
    obtain ⟨hl_x0_11, Heq⟩ := gl_some Heq
    refine va_get (D := D) (ci := 11) (v := .int (S.i 11 12 x0)) (C := R_JT) (T := F_JT) (N := 13) hx hb hts i_JT hown hK hP (cPos N 11 x0) (cw_obj (k := 11) (by decide) hl_x0_11) rfl 12 (by decide) (hts _ kw_433) (fun _ h9 => h9) rfl d_cJT_told_89 ?_
    exact Kr _ (Option.some.inj Heq).symm 92 _ _ _ d_cJT_told_92 hP hD hS
  replace Heq := (if_neg c_21).symm.trans Heq
  by_cases c_22 : x1 = 6
  · replace Heq := (if_pos c_22).symm.trans Heq
    refine w_i (y := 6) c_22 ?_
    refine lv_tableIn (tgt := 93) hx hb d_cJT_told_1 (by decide) (by decide) rfl (by decide) ?_
    refine lv_aload_n hx hb d_cJT_told_93 rfl (lv_at hl 0 rfl) ?_
    obtain ⟨hl_x0_11, Heq⟩ := gl_some Heq
    refine va_get (D := D) (ci := 11) (v := rv ad 5 (S.r 11 6 x0)) (C := R_JT) (T := F_JT) (N := 13) hx hb hts i_JT hown hK hP (cPos N 11 x0) (cw_obj (k := 11) (by decide) hl_x0_11) rfl 6 (by decide) (hts _ kw_427) (fun _ h9 => h9) rfl d_cJT_told_94 ?_
    obtain ⟨j_23, hj_24, hl_25, Heq⟩ := gn_some Heq
    refine w_s (st' := [.ref (ad 5 j_23)]) (congrArg (fun z9 : Option Nat => [rv ad 5 z9]) hj_24) ?_
    refine va_get (D := D) (ci := 5) (v := .int (S.i 5 1 j_23)) (C := R_Rw) (T := F_Rw) (N := 3) hx hb hts i_Rw hown hK hP (cPos N 5 j_23) (cw_obj (k := 5) (by decide) hl_25) rfl 1 (by decide) (hts _ kw_143) (fun _ h9 => h9) rfl d_cJT_told_97 ?_
    exact Kr _ (Option.some.inj Heq).symm 100 _ _ _ d_cJT_told_100 hP hD hS
  replace Heq := (if_neg c_22).symm.trans Heq
  by_cases c_26 : x1 = 7
  · replace Heq := (if_pos c_26).symm.trans Heq
    refine w_i (y := 7) c_26 ?_
    refine lv_tableIn (tgt := 101) hx hb d_cJT_told_1 (by decide) (by decide) rfl (by decide) ?_
    refine lv_aload_n hx hb d_cJT_told_101 rfl (lv_at hl 0 rfl) ?_
    obtain ⟨hl_x0_11, Heq⟩ := gl_some Heq
    refine va_get (D := D) (ci := 11) (v := .int (S.i 11 7 x0)) (C := R_JT) (T := F_JT) (N := 13) hx hb hts i_JT hown hK hP (cPos N 11 x0) (cw_obj (k := 11) (by decide) hl_x0_11) rfl 7 (by decide) (hts _ kw_428) (fun _ h9 => h9) rfl d_cJT_told_102 ?_
    refine lv_if_eq (tgt := 112) hx hb d_cJT_told_105 (by decide) (fun c_27 => ?_) (fun c_27 => ?_)
    · replace Heq := (if_pos c_27).symm.trans Heq
      refine lv_iconst (v := 0) hx hb d_cJT_told_112 (by decide) ?_
      exact w_cJT_told_J113 hC Heq Kr _ _ _ hP hD hS (lv_sub hl [0] rfl)
    · replace Heq := (if_neg c_27).symm.trans Heq
      refine lv_iconst (v := 1) hx hb d_cJT_told_108 (by decide) ?_
      refine lv_goto (tgt := 113) hx hb d_cJT_told_109 (by decide) ?_
      exact w_cJT_told_J113 hC Heq Kr _ _ _ hP hD hS (lv_sub hl [0] rfl)
  replace Heq := (if_neg c_26).symm.trans Heq
  refine lv_tableOut (tgt := 114) hx hb d_cJT_told_1 (by have q0 : (x1).toInt ≠ 0 := fun h => c_1 (Int32.toInt_inj.mp (h.trans (by decide))); have q1 : (x1).toInt ≠ 1 := fun h => c_5 (Int32.toInt_inj.mp (h.trans (by decide))); have q2 : (x1).toInt ≠ 2 := fun h => c_6 (Int32.toInt_inj.mp (h.trans (by decide))); have q3 : (x1).toInt ≠ 3 := fun h => c_10 (Int32.toInt_inj.mp (h.trans (by decide))); have q4 : (x1).toInt ≠ 4 := fun h => c_14 (Int32.toInt_inj.mp (h.trans (by decide))); have q5 : (x1).toInt ≠ 5 := fun h => c_21 (Int32.toInt_inj.mp (h.trans (by decide))); have q6 : (x1).toInt ≠ 6 := fun h => c_22 (Int32.toInt_inj.mp (h.trans (by decide))); have q7 : (x1).toInt ≠ 7 := fun h => c_26 (Int32.toInt_inj.mp (h.trans (by decide))); omega) (by decide) ?_
  refine lv_iconst (v := (-1)) hx hb d_cJT_told_114 (by decide) ?_
  exact Kr _ (Option.some.inj Heq).symm 115 _ _ _ d_cJT_told_115 hP hD hS
def m_cJT_told (N : Nat → Nat) (x0 : Nat) (S : CS) (x1 : Int32) : Option (CS × Int32) := m_cJT_told_J0 N x0 S x1
set_option maxHeartbeats 4000000 in
theorem g_cJT_told (l : Launch) (D : va_G) (sz : Nat) {ad : Nat → Nat → Nat} {cc : Nat → ClassId} {sad sav : Nat → Nat} {N : Nat → Nat} {x0 : Nat} {S : CS} {x1 : Int32} {o : CS × Int32} (Heq : m_cJT_told N x0 S x1 = some o) : Met l ⟨"JoinedTrees", "told", "(I)I"⟩ (Cond.code ⟨"JoinedTrees", "told", "(I)I"⟩ prog_1_method_29_code 2 (some .int) :: gb) ({ frames := 0, cells := 0, slots := 0, locals := 0 }) (cPc sad sav D (cw ad cc N S) (cty cc) sz [.ref (ad 11 x0), .int x1]) (va_Qi (fun (r : Int32) (_ : Unit) => r = o.2) (fun _ t => gO D (cw ad cc N o.1) (cty cc) (va_A (cw ad cc N S) sz) t) (va_A (cw ad cc N S) sz)) 0 0 (va_A (cw ad cc N S) sz) := by
  refine Met.ofW (cc := prog_1_method_29_code) (maxL := 2) (ret := (some .int)) (by decide) rfl ?_
  intro p e s m args below meth c s₁ B hml hv
  obtain ⟨rfl, hsz, hP, hK, hD0, hev, hE, hN⟩ := hv
  have hx := B.exec
  have hb := B.bytes
  have hr := B.returns
  have hts : ∀ w9 ∈ gb, w9.before [.ref (ad 11 x0), .int x1].toArray s = true := fun w9 h => atoms_spec (ws := Cond.code ⟨"JoinedTrees", "told", "(I)I"⟩ prog_1_method_29_code 2 (some .int) :: gb) B.pre w9 (List.mem_cons_of_mem _ h)
  have hown : s.vm.findClass "JoinedTrees" = some m.cls := findClass_of_methodNamed B.named
  have hlocks := B.notSynchronized
  have hNS := ns_of hP
  subst hsz
  have hD := hD0.self (sz := s.heap.size)
  generalize hAe : va_A (cw ad cc N S) s.heap.size = A at hD hev hE hNS ⊢
  have hA : ∀ q : Nat, s.heap.size ≤ q → A q := fun q h => by rw [← hAe]; exact Or.inr h
  have hS : va_S A s.heap s.heap [] := va_S.rf
  obtain ⟨ls, hl, hle⟩ : ∃ ls : Array Slot, lv_has ls 2 [(0, .ref (ad 11 x0)), (1, .int x1)] ∧ entryFrame m ([.ref (ad 11 x0), .int x1] : List Value).toArray 2 = F0 m 0 ls [] := by
    exact ⟨_, lv_entry (n := 2) _ (Nat.le_of_ble_eq_true rfl), lg_entry_eq ..⟩
  rw [hle]
  refine w_cJT_told_J0 ⟨hx, hb, hr, hml, hown, hts, hK, hA, hev, hE, hN, hNS⟩ Heq (fun r h pc H locs ls hd hP hD hS => ?_) _ _ _ hP hD hS (lv_sub hl [0, 1] rfl)
  subst h
  exact W.iret hx hb hr (fun t ht hW => ⟨⟨_, (), rfl, rfl, by rw [ht]; exact hP, va_K.moved hW.alike hK, hD⟩, hS.F ht⟩) hS.2.2 hd
