def m_cJT_join_J72 (N : Nat → Nat) (x0 : Nat) (S : CS) (x3 : Option Nat) (x4 : Option Nat) (x5 : Int32) : Option ((CS × Option Nat × Option Nat × Int32) ⊕ (CS × Option Nat)) := some (.inl (S, x3, x4, (x5 + 1)))
theorem d_cJT_join_0 : decode prog_1_method_14_code 0 = .ok (.aload_n 0, 1) := by decide +kernel
theorem d_cJT_join_1 : decode prog_1_method_14_code 1 = .ok (.iload_n 1, 1) := by decide +kernel
theorem d_cJT_join_2 : decode prog_1_method_14_code 2 = .ok (.invokevirtual 105, 3) := by decide +kernel
theorem d_cJT_join_5 : decode prog_1_method_14_code 5 = .ok (.astore_n 3, 1) := by decide +kernel
theorem d_cJT_join_6 : decode prog_1_method_14_code 6 = .ok (.aload_n 0, 1) := by decide +kernel
theorem d_cJT_join_7 : decode prog_1_method_14_code 7 = .ok (.iload_n 2, 1) := by decide +kernel
theorem d_cJT_join_8 : decode prog_1_method_14_code 8 = .ok (.invokevirtual 105, 3) := by decide +kernel
theorem d_cJT_join_11 : decode prog_1_method_14_code 11 = .ok (.astore 4, 2) := by decide +kernel
theorem d_cJT_join_13 : decode prog_1_method_14_code 13 = .ok (.aload_n 0, 1) := by decide +kernel
theorem d_cJT_join_14 : decode prog_1_method_14_code 14 = .ok (.aload 4, 2) := by decide +kernel
theorem d_cJT_join_16 : decode prog_1_method_14_code 16 = .ok (.invokevirtual 253, 3) := by decide +kernel
theorem d_cJT_join_19 : decode prog_1_method_14_code 19 = .ok (.iconst 0, 1) := by decide +kernel
theorem d_cJT_join_20 : decode prog_1_method_14_code 20 = .ok (.istore 5, 2) := by decide +kernel
theorem d_cJT_join_22 : decode prog_1_method_14_code 22 = .ok (.iload 5, 2) := by decide +kernel
theorem d_cJT_join_24 : decode prog_1_method_14_code 24 = .ok (.aload_n 0, 1) := by decide +kernel
theorem d_cJT_join_25 : decode prog_1_method_14_code 25 = .ok (.getfield 12, 3) := by decide +kernel
theorem d_cJT_join_28 : decode prog_1_method_14_code 28 = .ok (.getfield 226, 3) := by decide +kernel
theorem d_cJT_join_31 : decode prog_1_method_14_code 31 = .ok (.if_icmp .ge 47, 3) := by decide +kernel
theorem d_cJT_join_34 : decode prog_1_method_14_code 34 = .ok (.aload_n 0, 1) := by decide +kernel
theorem d_cJT_join_35 : decode prog_1_method_14_code 35 = .ok (.getfield 12, 3) := by decide +kernel
theorem d_cJT_join_38 : decode prog_1_method_14_code 38 = .ok (.getfield 263, 3) := by decide +kernel
theorem d_cJT_join_41 : decode prog_1_method_14_code 41 = .ok (.iload 5, 2) := by decide +kernel
theorem d_cJT_join_43 : decode prog_1_method_14_code 43 = .ok (.aaload, 1) := by decide +kernel
theorem d_cJT_join_44 : decode prog_1_method_14_code 44 = .ok (.astore 6, 2) := by decide +kernel
theorem d_cJT_join_46 : decode prog_1_method_14_code 46 = .ok (.aload_n 3, 1) := by decide +kernel
theorem d_cJT_join_47 : decode prog_1_method_14_code 47 = .ok (.aload 6, 2) := by decide +kernel
theorem d_cJT_join_49 : decode prog_1_method_14_code 49 = .ok (.invokevirtual 249, 3) := by decide +kernel
theorem d_cJT_join_52 : decode prog_1_method_14_code 52 = .ok (.ifCond .ne 13, 3) := by decide +kernel
theorem d_cJT_join_65 : decode prog_1_method_14_code 65 = .ok (.aload 4, 2) := by decide +kernel
theorem d_cJT_join_67 : decode prog_1_method_14_code 67 = .ok (.aload 6, 2) := by decide +kernel
theorem d_cJT_join_69 : decode prog_1_method_14_code 69 = .ok (.invokevirtual 256, 3) := by decide +kernel
theorem d_cJT_join_72 : decode prog_1_method_14_code 72 = .ok (.iinc 5 1, 3) := by decide +kernel
theorem d_cJT_join_75 : decode prog_1_method_14_code 75 = .ok (.goto (-53), 3) := by decide +kernel
set_option maxHeartbeats 4000000 in
set_option maxRecDepth 100000 in
theorem w_cJT_join_J72 {p : Program} {l : Launch} {e : Env} {s : State} {m : MethodId} {args : Array Value} {below : List Frame} {meth : Method} {c : Code} {A : Nat → Prop} {D : va_G} {ad : Nat → Nat → Nat} {cc : Nat → ClassId} {sad sav : Nat → Nat} {Q : State → Prop} {cR sR : Nat} (hfl : l.flags = flags0) (hC : MCc sad sav "JoinedTrees" prog_1_method_14_code 7 (some .int) p s m args meth c A D cc) {N : Nat → Nat} {x0 : Nat} {S : CS} {x3 : Option Nat} {x4 : Option Nat} {x5 : Int32} {o : ((CS × Option Nat × Option Nat × Int32) ⊕ (CS × Option Nat))} (Heq : m_cJT_join_J72 N x0 S x3 x4 x5 = some o) (Ka : ∀ b : CS × Option Nat × Option Nat × Int32, o = .inl b → ∀ (H : Heap) (locs : List Loc) (ls : Array Slot), va_P D cls (cw ad cc N b.1) H → va_D A (cw ad cc N b.1) → va_S A s.heap H locs → lv_has ls 7 [(0, .ref (ad 11 x0)), (3, rv ad 4 b.2.1), (4, rv ad 4 b.2.2.1), (5, .int b.2.2.2)] → W p l e ({ frames := 7, cells := cR, slots := sR, locals := 117 }) s m args below meth c H locs 0 0 Q (F0 m 22 ls [])) (K0 : ∀ b : CS × Option Nat, o = .inr b → ∀ (H : Heap) (locs : List Loc) (ls : Array Slot), va_P D cls (cw ad cc N b.1) H → va_D A (cw ad cc N b.1) → va_S A s.heap H locs → lv_has ls 7 [(0, .ref (ad 11 x0)), (4, rv ad 4 b.2)] → W p l e ({ frames := 7, cells := cR, slots := sR, locals := 117 }) s m args below meth c H locs 0 0 Q (F0 m 78 ls [])) : ∀ (H : Heap) (locs : List Loc) (ls : Array Slot), va_P D cls (cw ad cc N S) H → va_D A (cw ad cc N S) → va_S A s.heap H locs → lv_has ls 7 [(0, .ref (ad 11 x0)), (3, rv ad 4 x3), (4, rv ad 4 x4), (5, .int x5)] → W p l e ({ frames := 7, cells := cR, slots := sR, locals := 117 }) s m args below meth c H locs 0 0 Q (F0 m 72 ls []) := by
  intro H locs ls hP hD hS hl
  obtain ⟨hx, hb, hr, hml, hown, hts, hK, hA, hev, hE, hN, hNS⟩ := id hC
  unfold m_cJT_join_J72 at Heq
  refine lv_iinc (v := x5 + 1) (lv' := [(5, .int (x5 + 1)), (0, .ref (ad 11 x0)), (3, rv ad 4 x3), (4, rv ad 4 x4)]) hx hb d_cJT_join_72 hl (k := 3) rfl rfl (by decide) (by simp [rv, rf_cat]) (fun ls hl => ?_)
  refine lv_goto (tgt := 22) hx hb d_cJT_join_75 (by decide) ?_
  exact Ka _ (Option.some.inj Heq).symm _ _ _ hP hD hS (lv_sub hl [1, 2, 3, 0] rfl)
def m_cJT_join_J65 (N : Nat → Nat) (x0 : Nat) (S : CS) (x3 : Option Nat) (x4 : Option Nat) (x5 : Int32) (x6 : Option Nat) : Option ((CS × Option Nat × Option Nat × Int32) ⊕ (CS × Option Nat)) := gn x6 (N 0) (fun j_1 => gn x4 (N 4) (fun j_4 => ob (m_cRp_expect N j_4 S j_1) (fun o_7 => m_cJT_join_J72 N x0 o_7 x3 x4 x5)))
set_option maxHeartbeats 4000000 in
set_option maxRecDepth 100000 in
theorem w_cJT_join_J65 {p : Program} {l : Launch} {e : Env} {s : State} {m : MethodId} {args : Array Value} {below : List Frame} {meth : Method} {c : Code} {A : Nat → Prop} {D : va_G} {ad : Nat → Nat → Nat} {cc : Nat → ClassId} {sad sav : Nat → Nat} {Q : State → Prop} {cR sR : Nat} (hfl : l.flags = flags0) (hC : MCc sad sav "JoinedTrees" prog_1_method_14_code 7 (some .int) p s m args meth c A D cc) {N : Nat → Nat} {x0 : Nat} {S : CS} {x3 : Option Nat} {x4 : Option Nat} {x5 : Int32} {x6 : Option Nat} {o : ((CS × Option Nat × Option Nat × Int32) ⊕ (CS × Option Nat))} (Heq : m_cJT_join_J65 N x0 S x3 x4 x5 x6 = some o) (Ka : ∀ b : CS × Option Nat × Option Nat × Int32, o = .inl b → ∀ (H : Heap) (locs : List Loc) (ls : Array Slot), va_P D cls (cw ad cc N b.1) H → va_D A (cw ad cc N b.1) → va_S A s.heap H locs → lv_has ls 7 [(0, .ref (ad 11 x0)), (3, rv ad 4 b.2.1), (4, rv ad 4 b.2.2.1), (5, .int b.2.2.2)] → W p l e ({ frames := 7, cells := cR, slots := sR, locals := 117 }) s m args below meth c H locs 0 0 Q (F0 m 22 ls [])) (K0 : ∀ b : CS × Option Nat, o = .inr b → ∀ (H : Heap) (locs : List Loc) (ls : Array Slot), va_P D cls (cw ad cc N b.1) H → va_D A (cw ad cc N b.1) → va_S A s.heap H locs → lv_has ls 7 [(0, .ref (ad 11 x0)), (4, rv ad 4 b.2)] → W p l e ({ frames := 7, cells := cR, slots := sR, locals := 117 }) s m args below meth c H locs 0 0 Q (F0 m 78 ls [])) : ∀ (H : Heap) (locs : List Loc) (ls : Array Slot), va_P D cls (cw ad cc N S) H → va_D A (cw ad cc N S) → va_S A s.heap H locs → lv_has ls 7 [(0, .ref (ad 11 x0)), (3, rv ad 4 x3), (4, rv ad 4 x4), (5, .int x5), (6, rv ad 0 x6)] → W p l e ({ frames := 7, cells := cR, slots := sR, locals := 117 }) s m args below meth c H locs 0 0 Q (F0 m 65 ls []) := by
  intro H locs ls hP hD hS hl
  obtain ⟨hx, hb, hr, hml, hown, hts, hK, hA, hev, hE, hN, hNS⟩ := id hC
  unfold m_cJT_join_J65 at Heq
  refine tx_aload (x := x4.map (ad 4)) hx hb d_cJT_join_65 (lv_at hl 2 rfl) ?_
  refine w_v (y := rv ad 4 x4) rfl ?_
  refine tx_aload (x := x6.map (ad 0)) hx hb d_cJT_join_67 (lv_at hl 4 rfl) ?_
  refine w_v (y := rv ad 0 x6) rfl ?_
  obtain ⟨j_1, hj_2, hl_3, Heq⟩ := gn_some Heq
  refine w_s (st' := [.ref (ad 0 j_1), rv ad 4 x4]) (congrArg (fun z9 : Option Nat => [rv ad 0 z9, rv ad 4 x4]) hj_2) ?_
  obtain ⟨j_4, hj_5, hl_6, Heq⟩ := gn_some Heq
  refine w_s (st' := [.ref (ad 0 j_1), .ref (ad 4 j_4)]) (congrArg (fun z9 : Option Nat => [.ref (ad 0 j_1), rv ad 4 z9]) hj_5) ?_
  obtain ⟨o_7, h_8, Heq⟩ := ob_some Heq
  have hFc := fr_all hD hS hA
  refine va_callv (va_runV (As := [.ref (ad 0 j_1)]) (rest := []) ⟨hx, hb, hml, hown, hts⟩ (g_cRp_expect l D H.size (ad := ad) (cc := cc) (sad := sad) (sav := sav) h_8) (cw_v 1 hts kw_1091 kw_1088 kw_1089 kw_1090 kw_5 rfl rfl (by decide +kernel) ⟨Nat.le_of_ble_eq_true rfl, Nat.le_of_ble_eq_true rfl⟩) ⟨c_blind, va_recv hK hP (ci := 4) (q0 := cPos N 4 j_4) rfl (cw_obj (k := 4) (by decide) hl_6), fun U hU hW => c_pre hU hW hP hK hD hev hE hN hNS hS hFc⟩ rfl rfl hl.1 rfl (lv_room (Nat.le_of_ble_eq_true rfl)) d_cJT_join_69 ⟨Nat.zero_le _, Nat.zero_le _⟩) hS (fun q _ h => hFc q h) hFc (fun u t H1 locs ht hvm hw hB hz1 hk1 hS => ?_)
  obtain ⟨hP, -, hD1⟩ := hB
  rw [ht] at hP
  have hD := hD1.weaken (fun _ q _ h => hFc q.1 h)
  generalize H1 = H at hP hS ⊢
  refine W.cs (cells' := 0) (slots' := 0) rfl rfl ?_
  exact w_cJT_join_J72 hfl hC Heq Ka K0 _ _ _ hP hD hS (lv_sub hl [0, 1, 2, 3] rfl)
def m_cJT_join_B22 (N : Nat → Nat) (x0 : Nat) (S : CS) (x3 : Option Nat) (x4 : Option Nat) (x5 : Int32) : Option ((CS × Option Nat × Option Nat × Int32) ⊕ (CS × Option Nat)) := gl x0 (N 11) (gn (S.r 11 0 x0) (N 8) (fun j_1 => (if S.i 8 4 j_1 ≤ x5 then some (.inr (S, x4)) else gn (S.r 8 3 j_1) (N 16) (fun j_5 => gd x5 (S.z 16 j_5) (gn (S.q 16 j_5 x5.toNatClampNeg) (N 0) (fun j_9 => gn x3 (N 4) (fun j_12 => ob (m_cRp_holds N j_12 S j_9) (fun o_15 => (if o_15.2 = 0 then gn (o_15.1.r 4 2 j_12) (N 14) (fun j_18 => gd x5 (o_15.1.z 14 j_18) ((if o_15.1.a 14 j_18 x5.toNatClampNeg = 0 then m_cJT_join_J72 N x0 o_15.1 x3 x4 x5 else m_cJT_join_J65 N x0 o_15.1 x3 x4 x5 (S.q 16 j_5 x5.toNatClampNeg)))) else m_cJT_join_J65 N x0 o_15.1 x3 x4 x5 (S.q 16 j_5 x5.toNatClampNeg))))))))))
theorem d_cJT_join_55 : decode prog_1_method_14_code 55 = .ok (.aload_n 3, 1) := by decide +kernel
theorem d_cJT_join_56 : decode prog_1_method_14_code 56 = .ok (.getfield 267, 3) := by decide +kernel
theorem d_cJT_join_59 : decode prog_1_method_14_code 59 = .ok (.iload 5, 2) := by decide +kernel
theorem d_cJT_join_61 : decode prog_1_method_14_code 61 = .ok (.baload, 1) := by decide +kernel
theorem d_cJT_join_62 : decode prog_1_method_14_code 62 = .ok (.ifCond .eq 10, 3) := by decide +kernel
set_option maxHeartbeats 4000000 in
set_option maxRecDepth 100000 in
theorem w_cJT_join_B22 {p : Program} {l : Launch} {e : Env} {s : State} {m : MethodId} {args : Array Value} {below : List Frame} {meth : Method} {c : Code} {A : Nat → Prop} {D : va_G} {ad : Nat → Nat → Nat} {cc : Nat → ClassId} {sad sav : Nat → Nat} {Q : State → Prop} {cR sR : Nat} (hfl : l.flags = flags0) (hC : MCc sad sav "JoinedTrees" prog_1_method_14_code 7 (some .int) p s m args meth c A D cc) {N : Nat → Nat} {x0 : Nat} {S : CS} {x3 : Option Nat} {x4 : Option Nat} {x5 : Int32} {o : ((CS × Option Nat × Option Nat × Int32) ⊕ (CS × Option Nat))} (Heq : m_cJT_join_B22 N x0 S x3 x4 x5 = some o) (Ka : ∀ b : CS × Option Nat × Option Nat × Int32, o = .inl b → ∀ (H : Heap) (locs : List Loc) (ls : Array Slot), va_P D cls (cw ad cc N b.1) H → va_D A (cw ad cc N b.1) → va_S A s.heap H locs → lv_has ls 7 [(0, .ref (ad 11 x0)), (3, rv ad 4 b.2.1), (4, rv ad 4 b.2.2.1), (5, .int b.2.2.2)] → W p l e ({ frames := 7, cells := cR, slots := sR, locals := 117 }) s m args below meth c H locs 0 0 Q (F0 m 22 ls [])) (K0 : ∀ b : CS × Option Nat, o = .inr b → ∀ (H : Heap) (locs : List Loc) (ls : Array Slot), va_P D cls (cw ad cc N b.1) H → va_D A (cw ad cc N b.1) → va_S A s.heap H locs → lv_has ls 7 [(0, .ref (ad 11 x0)), (4, rv ad 4 b.2)] → W p l e ({ frames := 7, cells := cR, slots := sR, locals := 117 }) s m args below meth c H locs 0 0 Q (F0 m 78 ls [])) : ∀ (H : Heap) (locs : List Loc) (ls : Array Slot), va_P D cls (cw ad cc N S) H → va_D A (cw ad cc N S) → va_S A s.heap H locs → lv_has ls 7 [(0, .ref (ad 11 x0)), (3, rv ad 4 x3), (4, rv ad 4 x4), (5, .int x5)] → W p l e ({ frames := 7, cells := cR, slots := sR, locals := 117 }) s m args below meth c H locs 0 0 Q (F0 m 22 ls []) := by
  intro H locs ls hP hD hS hl
  obtain ⟨hx, hb, hr, hml, hown, hts, hK, hA, hev, hE, hN, hNS⟩ := id hC
  unfold m_cJT_join_B22 at Heq
  refine lv_iload hx hb d_cJT_join_22 (lv_at hl 3 rfl) ?_
  refine lv_aload_n hx hb d_cJT_join_24 rfl (lv_at hl 0 rfl) ?_
  obtain ⟨hl_x0_11, Heq⟩ := gl_some Heq
  refine va_get (D := D) (ci := 11) (v := rv ad 8 (S.r 11 0 x0)) (C := R_JT) (T := F_JT) (N := 13) hx hb hts i_JT hown hK hP (cPos N 11 x0) (cw_obj (k := 11) (by decide) hl_x0_11) rfl 0 (by decide) (hts _ kw_421) (fun _ h9 => h9) rfl d_cJT_join_25 ?_
  obtain ⟨j_1, hj_2, hl_3, Heq⟩ := gn_some Heq
  refine w_s (st' := [.ref (ad 8 j_1), .int x5]) (congrArg (fun z9 : Option Nat => [rv ad 8 z9, .int x5]) hj_2) ?_
  refine va_get (D := D) (ci := 8) (v := .int (S.i 8 4 j_1)) (C := R_St) (T := F_St) (N := 6) hx hb hts i_St hown hK hP (cPos N 8 j_1) (cw_obj (k := 8) (by decide) hl_3) rfl 4 (by decide) (hts _ kw_176) (fun _ h9 => h9) rfl d_cJT_join_28 ?_
  refine lv_icmp_ge (tgt := 78) hx hb d_cJT_join_31 (by decide) (fun c_4 => ?_) (fun c_4 => ?_)
  · replace Heq := (if_pos c_4).symm.trans Heq
    exact K0 _ (Option.some.inj Heq).symm _ _ _ hP hD hS (lv_sub hl [0, 2] rfl)
  · replace Heq := (if_neg c_4).symm.trans Heq
    refine lv_aload_n hx hb d_cJT_join_34 rfl (lv_at hl 0 rfl) ?_
    refine va_get (D := D) (ci := 11) (v := rv ad 8 (S.r 11 0 x0)) (C := R_JT) (T := F_JT) (N := 13) hx hb hts i_JT hown hK hP (cPos N 11 x0) (cw_obj (k := 11) (by decide) hl_x0_11) rfl 0 (by decide) (hts _ kw_421) (fun _ h9 => h9) rfl d_cJT_join_35 ?_
    refine w_s (st' := [.ref (ad 8 j_1)]) (congrArg (fun z9 : Option Nat => [rv ad 8 z9]) hj_2) ?_
    refine va_get (D := D) (ci := 8) (v := rv ad 16 (S.r 8 3 j_1)) (C := R_St) (T := F_St) (N := 6) hx hb hts i_St hown hK hP (cPos N 8 j_1) (cw_obj (k := 8) (by decide) hl_3) rfl 3 (by decide) (hts _ kw_173) (fun _ h9 => h9) rfl d_cJT_join_38 ?_
    refine lv_iload hx hb d_cJT_join_41 (lv_at hl 3 rfl) ?_
    obtain ⟨j_5, hj_6, hl_7, Heq⟩ := gn_some Heq
    refine w_s (st' := [.int x5, .ref (ad 16 j_5)]) (congrArg (fun z9 : Option Nat => [.int x5, rv ad 16 z9]) hj_6) ?_
    obtain ⟨hi_8, Heq⟩ := gd_some Heq
    refine va_aldq hx hb hK hP (cPos N 16 j_5) 4 (cw_refs (k := 16) (by decide) hl_7) rfl (i := x5) hi_8 d_cJT_join_43 ?_
    refine w_v (y := rv ad 0 (S.q 16 j_5 x5.toNatClampNeg)) (congrArg (rv ad 0) rfl) ?_
    refine tx_astore (x := (S.q 16 j_5 x5.toNatClampNeg).map (ad 0)) (lv' := [(6, rv ad 0 (S.q 16 j_5 x5.toNatClampNeg)), (0, .ref (ad 11 x0)), (3, rv ad 4 x3), (4, rv ad 4 x4), (5, .int x5)]) hx hb d_cJT_join_44 hl (by decide) rfl (fun ls hl => ?_)
    refine tx_aload_n (x := x3.map (ad 4)) hx hb d_cJT_join_46 rfl (lv_at hl 2 rfl) ?_
    refine w_v (y := rv ad 4 x3) rfl ?_
    refine tx_aload (x := (S.q 16 j_5 x5.toNatClampNeg).map (ad 0)) hx hb d_cJT_join_47 (lv_at hl 0 rfl) ?_
    refine w_v (y := rv ad 0 (S.q 16 j_5 x5.toNatClampNeg)) rfl ?_
    obtain ⟨j_9, hj_10, hl_11, Heq⟩ := gn_some Heq
    refine w_s (st' := [.ref (ad 0 j_9), rv ad 4 x3]) (congrArg (fun z9 : Option Nat => [rv ad 0 z9, rv ad 4 x3]) hj_10) ?_
    obtain ⟨j_12, hj_13, hl_14, Heq⟩ := gn_some Heq
    refine w_s (st' := [.ref (ad 0 j_9), .ref (ad 4 j_12)]) (congrArg (fun z9 : Option Nat => [.ref (ad 0 j_9), rv ad 4 z9]) hj_13) ?_
    obtain ⟨o_15, h_16, Heq⟩ := ob_some Heq
    have hFc := fr_all hD hS hA
    refine va_calli (va_runV (As := [.ref (ad 0 j_9)]) (rest := []) ⟨hx, hb, hml, hown, hts⟩ (g_cRp_holds l D H.size (ad := ad) (cc := cc) (sad := sad) (sav := sav) h_16) (cw_v 1 hts kw_1083 kw_1080 kw_1081 kw_1082 kw_5 rfl rfl (by decide +kernel) ⟨Nat.le_of_ble_eq_true rfl, Nat.le_of_ble_eq_true rfl⟩) ⟨c_blind, va_recv hK hP (ci := 4) (q0 := cPos N 4 j_12) rfl (cw_obj (k := 4) (by decide) hl_14), fun U hU hW => c_pre hU hW hP hK hD hev hE hN hNS hS hFc⟩ rfl rfl hl.1 rfl (lv_room (Nat.le_of_ble_eq_true rfl)) d_cJT_join_49 ⟨Nat.zero_le _, Nat.zero_le _⟩) hS (fun q _ h => hFc q h) hFc (fun rz u t H1 locs ht hvm hw hB hz1 hk1 hS => ?_)
    obtain ⟨hP, -, hD1⟩ := hB
    rw [ht] at hP
    have hD := hD1.weaken (fun _ q _ h => hFc q.1 h)
    generalize H1 = H at hP hS ⊢
    refine W.cs (cells' := 0) (slots' := 0) rfl rfl ?_
    subst hw
    refine lv_if_ne (tgt := 65) hx hb d_cJT_join_52 (by decide) (fun c_17 => ?_) (fun c_17 => ?_)
    · replace Heq := (if_neg c_17).symm.trans Heq
      exact w_cJT_join_J65 hfl hC Heq Ka K0 _ _ _ hP hD hS (lv_sub hl [1, 2, 3, 4, 0] rfl)
    · replace Heq := (if_pos c_17).symm.trans Heq
      refine tx_aload_n (x := x3.map (ad 4)) hx hb d_cJT_join_55 rfl (lv_at hl 2 rfl) ?_
      refine w_v (y := rv ad 4 x3) rfl ?_
      refine w_s (st' := [.ref (ad 4 j_12)]) (congrArg (fun z9 : Option Nat => [rv ad 4 z9]) hj_13) ?_
      refine va_get (D := D) (ci := 4) (v := rv ad 14 (o_15.1.r 4 2 j_12)) (C := R_Rp) (T := F_Rp) (N := 10) hx hb hts i_Rp hown hK hP (cPos N 4 j_12) (cw_obj (k := 4) (by decide) hl_14) rfl 2 (by decide) (hts _ kw_212) (fun _ h9 => h9) rfl d_cJT_join_56 ?_
      refine lv_iload hx hb d_cJT_join_59 (lv_at hl 4 rfl) ?_
      obtain ⟨j_18, hj_19, hl_20, Heq⟩ := gn_some Heq
      refine w_s (st' := [.int x5, .ref (ad 14 j_18)]) (congrArg (fun z9 : Option Nat => [.int x5, rv ad 14 z9]) hj_19) ?_
      obtain ⟨hi_21, Heq⟩ := gd_some Heq
      refine va_zald hx hb hK hP (cPos N 14 j_18) 2 (cw_arr (k := 14) (by decide) hl_20) rfl (i := x5) hi_21 d_cJT_join_61 ?_
      refine w_i (y := o_15.1.a 14 j_18 x5.toNatClampNeg) rfl ?_
      refine lv_if_eq (tgt := 72) hx hb d_cJT_join_62 (by decide) (fun c_22 => ?_) (fun c_22 => ?_)
      · replace Heq := (if_pos c_22).symm.trans Heq
        exact w_cJT_join_J72 hfl hC Heq Ka K0 _ _ _ hP hD hS (lv_sub hl [1, 2, 3, 4] rfl)
      · replace Heq := (if_neg c_22).symm.trans Heq
        exact w_cJT_join_J65 hfl hC Heq Ka K0 _ _ _ hP hD hS (lv_sub hl [1, 2, 3, 4, 0] rfl)
def m_cJT_join_L22 (N : Nat → Nat) (x0 : Nat) (S : CS) (x3 : Option Nat) (x4 : Option Nat) (x5 : Int32) : Option (CS × Option Nat) := lp (fun a : CS × Option Nat × Option Nat × Int32 => m_cJT_join_B22 N x0 a.1 a.2.1 a.2.2.1 a.2.2.2) FU (S, x3, x4, x5)
theorem w_cJT_join_L22 {p : Program} {l : Launch} {e : Env} {s : State} {m : MethodId} {args : Array Value} {below : List Frame} {meth : Method} {c : Code} {A : Nat → Prop} {D : va_G} {ad : Nat → Nat → Nat} {cc : Nat → ClassId} {sad sav : Nat → Nat} {Q : State → Prop} {cR sR : Nat} (hfl : l.flags = flags0) (hC : MCc sad sav "JoinedTrees" prog_1_method_14_code 7 (some .int) p s m args meth c A D cc) {N : Nat → Nat} {x0 : Nat} {S : CS} {x3 : Option Nat} {x4 : Option Nat} {x5 : Int32} {o : CS × Option Nat} (Heq : m_cJT_join_L22 N x0 S x3 x4 x5 = some o) (K0 : ∀ b : CS × Option Nat, o = b → ∀ (H : Heap) (locs : List Loc) (ls : Array Slot), va_P D cls (cw ad cc N b.1) H → va_D A (cw ad cc N b.1) → va_S A s.heap H locs → lv_has ls 7 [(0, .ref (ad 11 x0)), (4, rv ad 4 b.2)] → W p l e ({ frames := 7, cells := cR, slots := sR, locals := 117 }) s m args below meth c H locs 0 0 Q (F0 m 78 ls [])) : ∀ (H : Heap) (locs : List Loc) (ls : Array Slot), va_P D cls (cw ad cc N S) H → va_D A (cw ad cc N S) → va_S A s.heap H locs → lv_has ls 7 [(0, .ref (ad 11 x0)), (3, rv ad 4 x3), (4, rv ad 4 x4), (5, .int x5)] → W p l e ({ frames := 7, cells := cR, slots := sR, locals := 117 }) s m args below meth c H locs 0 0 Q (F0 m 22 ls []) := by
  refine lp_w (G := fun a : CS × Option Nat × Option Nat × Int32 => ∀ (H : Heap) (locs : List Loc) (ls : Array Slot), va_P D cls (cw ad cc N a.1) H → va_D A (cw ad cc N a.1) → va_S A s.heap H locs → lv_has ls 7 [(0, .ref (ad 11 x0)), (3, rv ad 4 a.2.1), (4, rv ad 4 a.2.2.1), (5, .int a.2.2.2)] → W p l e ({ frames := 7, cells := cR, slots := sR, locals := 117 }) s m args below meth c H locs 0 0 Q (F0 m 22 ls [])) ?_ FU (S, x3, x4, x5) Heq
  intro a o1 ho Ka Ke
  exact w_cJT_join_B22 hfl hC ho (fun b h => Ka b h) (fun b h => K0 b (Ke _ h).symm)
def m_cJT_join_J0 (N : Nat → Nat) (x0 : Nat) (S : CS) (x1 : Int32) (x2 : Int32) : Option ((CS × Int32) ⊕ (CS × Nat)) := gl x0 (N 11) (oe (m_cJT_shown N x0 S x1) (fun o_1 => oe (m_cJT_shown N x0 o_1.1 x2) (fun o_4 => gn o_4.2 (N 4) (fun j_7 => oe (m_cJT_needNoneOpen N x0 o_4.1 j_7) (fun o_10 => ob (m_cJT_join_L22 N x0 o_10 o_1.2 o_4.2 0) (fun b_13 => gn b_13.2 (N 4) (fun j_15 => gn (b_13.1.r 11 0 x0) (N 8) (fun j_18 => ob (m_cSt_settle N j_18 b_13.1 j_15) (fun o_21 => some (.inl (o_21.1, o_21.2))))))) (fun t_12 => some (.inr t_12)))) (fun t_6 => some (.inr t_6))) (fun t_3 => some (.inr t_3)))
theorem d_cJT_join_78 : decode prog_1_method_14_code 78 = .ok (.aload_n 0, 1) := by decide +kernel
theorem d_cJT_join_79 : decode prog_1_method_14_code 79 = .ok (.getfield 12, 3) := by decide +kernel
theorem d_cJT_join_82 : decode prog_1_method_14_code 82 = .ok (.aload 4, 2) := by decide +kernel
theorem d_cJT_join_84 : decode prog_1_method_14_code 84 = .ok (.invokevirtual 260, 3) := by decide +kernel
theorem d_cJT_join_87 : decode prog_1_method_14_code 87 = .ok (.ireturn, 1) := by decide +kernel
set_option maxHeartbeats 4000000 in
set_option maxRecDepth 100000 in
theorem w_cJT_join_J0 {p : Program} {l : Launch} {e : Env} {s : State} {m : MethodId} {args : Array Value} {below : List Frame} {meth : Method} {c : Code} {A : Nat → Prop} {D : va_G} {ad : Nat → Nat → Nat} {cc : Nat → ClassId} {sad sav : Nat → Nat} {Q : State → Prop} {cR sR : Nat} (hfl : l.flags = flags0) (hC : MCc sad sav "JoinedTrees" prog_1_method_14_code 7 (some .int) p s m args meth c A D cc) {N : Nat → Nat} {x0 : Nat} {S : CS} {x1 : Int32} {x2 : Int32} {o : ((CS × Int32) ⊕ (CS × Nat))} (Heq : m_cJT_join_J0 N x0 S x1 x2 = some o) (Kr : ∀ r : ((CS × Int32) ⊕ (CS × Nat)), o = r → (∀ v9 : CS × Int32, r = .inl v9 → ∀ (pc : Nat) (H : Heap) (locs : List Loc) (ls : Array Slot), decode prog_1_method_14_code pc = .ok (.ireturn, 1) → va_P D cls (cw ad cc N v9.1) H → va_D A (cw ad cc N v9.1) → va_S A s.heap H locs → W p l e ({ frames := 7, cells := cR, slots := sR, locals := 117 }) s m args below meth c H locs 0 0 Q (F0 m pc ls [.int v9.2])) ∧ (∀ t9 : CS × Nat, r = .inr t9 → (1 ≤ cR ∧ 6 ≤ sR) ∧ (∀ (pc : Nat) (H : Heap) (locs : List Loc) (ls : Array Slot), thD prog_1_method_14_code t9.2 pc → ls.size = 7 → va_P D cls (cw ad cc N t9.1) H → va_D A (cw ad cc N t9.1) → va_S A s.heap H locs → W p l e ({ frames := 7, cells := cR, slots := sR, locals := 117 }) s m args below meth c H locs 0 0 Q (F0 m pc ls [])) ∧ (∀ (pc : Nat) (H : Heap) (locs : List Loc) (ls : Array Slot) (st0 rest9 : List Value) (A9 : Nat → Prop), tx_Thr p l e ({ frames := 7, cells := cR, slots := sR, locals := 117 }) s m args below meth c H locs 0 0 1 6 (F0 m pc ls st0) rest9 (exN t9.2) A9 (fun H1 => va_P D cls (cw ad cc N t9.1) H1) → (∀ q, A9 q → A q) → va_S A s.heap H locs → W p l e ({ frames := 7, cells := cR, slots := sR, locals := 117 }) s m args below meth c H locs 0 0 Q (F0 m pc ls st0)))) : ∀ (H : Heap) (locs : List Loc) (ls : Array Slot), va_P D cls (cw ad cc N S) H → va_D A (cw ad cc N S) → va_S A s.heap H locs → lv_has ls 7 [(0, .ref (ad 11 x0)), (1, .int x1), (2, .int x2)] → W p l e ({ frames := 7, cells := cR, slots := sR, locals := 117 }) s m args below meth c H locs 0 0 Q (F0 m 0 ls []) := by
  intro H locs ls hP hD hS hl
  obtain ⟨hx, hb, hr, hml, hown, hts, hK, hA, hev, hE, hN, hNS⟩ := id hC
  unfold m_cJT_join_J0 at Heq
  refine lv_aload_n hx hb d_cJT_join_0 rfl (lv_at hl 0 rfl) ?_
  refine lv_iload_n hx hb d_cJT_join_1 rfl (lv_at hl 1 rfl) ?_
  obtain ⟨hl_x0_11, Heq⟩ := gl_some Heq
  have hFc := fr_all hD hS hA
  rcases oe_some Heq with ⟨o_1, h_2, Heq⟩ | ⟨t_3, h_2, Heq⟩
  case inr => exact ((Kr _ (Option.some.inj Heq).symm).2 _ rfl).2.2 2 _ _ _ _ _ _ (tx_runV (As := [.int x1]) (rest := []) ⟨hx, hb, hml, hown, hts⟩ (g_cJT_shown_t l hfl D H.size (ad := ad) (cc := cc) (sad := sad) (sav := sav) h_2) (cw_v 1 hts kw_593 kw_590 kw_592 kp_3 kw_1 rfl rfl (by decide +kernel) ⟨Nat.le_of_ble_eq_true rfl, Nat.le_of_ble_eq_true rfl⟩) ⟨c_blind, va_recv hK hP (ci := 11) (q0 := cPos N 11 x0) rfl (cw_obj (k := 11) (by decide) hl_x0_11), fun U hU hW => c_pre hU hW hP hK hD hev hE hN hNS hS hFc⟩ rfl rfl hl.1 rfl (lv_room (Nat.le_of_ble_eq_true rfl)) d_cJT_join_2 ((Kr _ (Option.some.inj Heq).symm).2 _ rfl).1) hFc hS
  refine va_callq (va_runV (As := [.int x1]) (rest := []) ⟨hx, hb, hml, hown, hts⟩ (g_cJT_shown l hfl D H.size (ad := ad) (cc := cc) (sad := sad) (sav := sav) h_2) (cw_v 1 hts kw_593 kw_590 kw_592 kp_3 kw_1 rfl rfl (by decide +kernel) ⟨Nat.le_of_ble_eq_true rfl, Nat.le_of_ble_eq_true rfl⟩) ⟨c_blind, va_recv hK hP (ci := 11) (q0 := cPos N 11 x0) rfl (cw_obj (k := 11) (by decide) hl_x0_11), fun U hU hW => c_pre hU hW hP hK hD hev hE hN hNS hS hFc⟩ rfl rfl hl.1 rfl (lv_room (Nat.le_of_ble_eq_true rfl)) d_cJT_join_2 ⟨Nat.zero_le _, Nat.zero_le _⟩) hS (fun q _ h => hFc q h) hFc (fun rz u t H1 locs ht hvm hw hB hz1 hk1 hS => ?_)
  obtain ⟨hP, -, hD1⟩ := hB
  rw [ht] at hP
  have hD := hD1.weaken (fun _ q _ h => hFc q.1 h)
  generalize H1 = H at hP hS ⊢
  refine W.cs (cells' := 0) (slots' := 0) rfl rfl ?_
  subst hw
  refine w_v (y := rv ad 4 o_1.2) rfl ?_
  refine tx_astore_n (x := o_1.2.map (ad 4)) (lv' := [(3, rv ad 4 o_1.2), (0, .ref (ad 11 x0)), (1, .int x1), (2, .int x2)]) hx hb d_cJT_join_5 rfl hl (by decide) rfl (fun ls hl => ?_)
  refine lv_aload_n hx hb d_cJT_join_6 rfl (lv_at hl 1 rfl) ?_
  refine lv_iload_n hx hb d_cJT_join_7 rfl (lv_at hl 3 rfl) ?_
  have hFc := fr_all hD hS hA
  rcases oe_some Heq with ⟨o_4, h_5, Heq⟩ | ⟨t_6, h_5, Heq⟩
  case inr => exact ((Kr _ (Option.some.inj Heq).symm).2 _ rfl).2.2 8 _ _ _ _ _ _ (tx_runV (As := [.int x2]) (rest := []) ⟨hx, hb, hml, hown, hts⟩ (g_cJT_shown_t l hfl D H.size (ad := ad) (cc := cc) (sad := sad) (sav := sav) h_5) (cw_v 1 hts kw_593 kw_590 kw_592 kp_3 kw_1 rfl rfl (by decide +kernel) ⟨Nat.le_of_ble_eq_true rfl, Nat.le_of_ble_eq_true rfl⟩) ⟨c_blind, va_recv hK hP (ci := 11) (q0 := cPos N 11 x0) rfl (cw_obj (k := 11) (by decide) hl_x0_11), fun U hU hW => c_pre hU hW hP hK hD hev hE hN hNS hS hFc⟩ rfl rfl hl.1 rfl (lv_room (Nat.le_of_ble_eq_true rfl)) d_cJT_join_8 ((Kr _ (Option.some.inj Heq).symm).2 _ rfl).1) hFc hS
  refine va_callq (va_runV (As := [.int x2]) (rest := []) ⟨hx, hb, hml, hown, hts⟩ (g_cJT_shown l hfl D H.size (ad := ad) (cc := cc) (sad := sad) (sav := sav) h_5) (cw_v 1 hts kw_593 kw_590 kw_592 kp_3 kw_1 rfl rfl (by decide +kernel) ⟨Nat.le_of_ble_eq_true rfl, Nat.le_of_ble_eq_true rfl⟩) ⟨c_blind, va_recv hK hP (ci := 11) (q0 := cPos N 11 x0) rfl (cw_obj (k := 11) (by decide) hl_x0_11), fun U hU hW => c_pre hU hW hP hK hD hev hE hN hNS hS hFc⟩ rfl rfl hl.1 rfl (lv_room (Nat.le_of_ble_eq_true rfl)) d_cJT_join_8 ⟨Nat.zero_le _, Nat.zero_le _⟩) hS (fun q _ h => hFc q h) hFc (fun rz u t H1 locs ht hvm hw hB hz1 hk1 hS => ?_)
  obtain ⟨hP, -, hD1⟩ := hB
  rw [ht] at hP
  have hD := hD1.weaken (fun _ q _ h => hFc q.1 h)
  generalize H1 = H at hP hS ⊢
  refine W.cs (cells' := 0) (slots' := 0) rfl rfl ?_
  subst hw
  refine w_v (y := rv ad 4 o_4.2) rfl ?_
  refine tx_astore (x := o_4.2.map (ad 4)) (lv' := [(4, rv ad 4 o_4.2), (3, rv ad 4 o_1.2), (0, .ref (ad 11 x0)), (1, .int x1), (2, .int x2)]) hx hb d_cJT_join_11 hl (by decide) (by simp [rv, rf_cat]) (fun ls hl => ?_)
  refine lv_aload_n hx hb d_cJT_join_13 rfl (lv_at hl 2 rfl) ?_
  refine tx_aload (x := o_4.2.map (ad 4)) hx hb d_cJT_join_14 (lv_at hl 0 rfl) ?_
  refine w_v (y := rv ad 4 o_4.2) rfl ?_
  obtain ⟨j_7, hj_8, hl_9, Heq⟩ := gn_some Heq
  refine w_s (st' := [.ref (ad 4 j_7), .ref (ad 11 x0)]) (congrArg (fun z9 : Option Nat => [rv ad 4 z9, .ref (ad 11 x0)]) hj_8) ?_
  have hFc := fr_all hD hS hA
  rcases oe_some Heq with ⟨o_10, h_11, Heq⟩ | ⟨t_12, h_11, Heq⟩
  case inr => exact ((Kr _ (Option.some.inj Heq).symm).2 _ rfl).2.2 16 _ _ _ _ _ _ (tx_runV (As := [.ref (ad 4 j_7)]) (rest := []) ⟨hx, hb, hml, hown, hts⟩ (g_cJT_needNoneOpen_t l hfl D H.size (ad := ad) (cc := cc) (sad := sad) (sav := sav) h_11) (cw_v 1 hts kw_1087 kw_1084 kw_1086 kp_22 kw_1 rfl rfl (by decide +kernel) ⟨Nat.le_of_ble_eq_true rfl, Nat.le_of_ble_eq_true rfl⟩) ⟨c_blind, va_recv hK hP (ci := 11) (q0 := cPos N 11 x0) rfl (cw_obj (k := 11) (by decide) hl_x0_11), fun U hU hW => c_pre hU hW hP hK hD hev hE hN hNS hS hFc⟩ rfl rfl hl.1 rfl (lv_room (Nat.le_of_ble_eq_true rfl)) d_cJT_join_16 ((Kr _ (Option.some.inj Heq).symm).2 _ rfl).1) hFc hS
  refine va_callv (va_runV (As := [.ref (ad 4 j_7)]) (rest := []) ⟨hx, hb, hml, hown, hts⟩ (g_cJT_needNoneOpen l hfl D H.size (ad := ad) (cc := cc) (sad := sad) (sav := sav) h_11) (cw_v 1 hts kw_1087 kw_1084 kw_1086 kp_22 kw_1 rfl rfl (by decide +kernel) ⟨Nat.le_of_ble_eq_true rfl, Nat.le_of_ble_eq_true rfl⟩) ⟨c_blind, va_recv hK hP (ci := 11) (q0 := cPos N 11 x0) rfl (cw_obj (k := 11) (by decide) hl_x0_11), fun U hU hW => c_pre hU hW hP hK hD hev hE hN hNS hS hFc⟩ rfl rfl hl.1 rfl (lv_room (Nat.le_of_ble_eq_true rfl)) d_cJT_join_16 ⟨Nat.zero_le _, Nat.zero_le _⟩) hS (fun q _ h => hFc q h) hFc (fun u t H1 locs ht hvm hw hB hz1 hk1 hS => ?_)
  obtain ⟨hP, -, hD1⟩ := hB
  rw [ht] at hP
  have hD := hD1.weaken (fun _ q _ h => hFc q.1 h)
  generalize H1 = H at hP hS ⊢
  refine W.cs (cells' := 0) (slots' := 0) rfl rfl ?_
  refine lv_iconst (v := 0) hx hb d_cJT_join_19 (by decide) ?_
  refine lv_istore (lv' := [(5, .int 0), (4, rv ad 4 o_4.2), (3, rv ad 4 o_1.2), (0, .ref (ad 11 x0)), (1, .int x1), (2, .int x2)]) hx hb d_cJT_join_20 hl (by decide) (by simp [rv, rf_cat]) (fun ls hl => ?_)
  obtain ⟨b_13, h_14, Heq⟩ := ob_some Heq
  refine w_cJT_join_L22 hfl hC h_14 (fun b h => ?_) _ _ _ hP hD hS (lv_sub hl [3, 2, 1, 0] rfl)
  subst h
  intro H locs ls hP hD hS hl
  refine lv_aload_n hx hb d_cJT_join_78 rfl (lv_at hl 0 rfl) ?_
  refine va_get (D := D) (ci := 11) (v := rv ad 8 (b_13.1.r 11 0 x0)) (C := R_JT) (T := F_JT) (N := 13) hx hb hts i_JT hown hK hP (cPos N 11 x0) (cw_obj (k := 11) (by decide) hl_x0_11) rfl 0 (by decide) (hts _ kw_421) (fun _ h9 => h9) rfl d_cJT_join_79 ?_
  refine tx_aload (x := b_13.2.map (ad 4)) hx hb d_cJT_join_82 (lv_at hl 1 rfl) ?_
  refine w_v (y := rv ad 4 b_13.2) rfl ?_
  obtain ⟨j_15, hj_16, hl_17, Heq⟩ := gn_some Heq
  refine w_s (st' := [.ref (ad 4 j_15), rv ad 8 (b_13.1.r 11 0 x0)]) (congrArg (fun z9 : Option Nat => [rv ad 4 z9, rv ad 8 (b_13.1.r 11 0 x0)]) hj_16) ?_
  obtain ⟨j_18, hj_19, hl_20, Heq⟩ := gn_some Heq
  refine w_s (st' := [.ref (ad 4 j_15), .ref (ad 8 j_18)]) (congrArg (fun z9 : Option Nat => [.ref (ad 4 j_15), rv ad 8 z9]) hj_19) ?_
  obtain ⟨o_21, h_22, Heq⟩ := ob_some Heq
  have hFc := fr_all hD hS hA
  refine va_calli (va_runV (As := [.ref (ad 4 j_15)]) (rest := []) ⟨hx, hb, hml, hown, hts⟩ (g_cSt_settle l D H.size (ad := ad) (cc := cc) (sad := sad) (sav := sav) h_22) (cw_v 1 hts kw_1096 kw_1093 kw_1094 kw_1095 kw_2 rfl rfl (by decide +kernel) ⟨Nat.le_of_ble_eq_true rfl, Nat.le_of_ble_eq_true rfl⟩) ⟨c_blind, va_recv hK hP (ci := 8) (q0 := cPos N 8 j_18) rfl (cw_obj (k := 8) (by decide) hl_20), fun U hU hW => c_pre hU hW hP hK hD hev hE hN hNS hS hFc⟩ rfl rfl hl.1 rfl (lv_room (Nat.le_of_ble_eq_true rfl)) d_cJT_join_84 ⟨Nat.zero_le _, Nat.zero_le _⟩) hS (fun q _ h => hFc q h) hFc (fun rz u t H1 locs ht hvm hw hB hz1 hk1 hS => ?_)
  obtain ⟨hP, -, hD1⟩ := hB
  rw [ht] at hP
  have hD := hD1.weaken (fun _ q _ h => hFc q.1 h)
  generalize H1 = H at hP hS ⊢
  refine W.cs (cells' := 0) (slots' := 0) rfl rfl ?_
  subst hw
  exact (Kr _ (Option.some.inj Heq).symm).1 _ rfl 87 _ _ _ d_cJT_join_87 hP hD hS
def m_cJT_join (N : Nat → Nat) (x0 : Nat) (S : CS) (x1 : Int32) (x2 : Int32) : Option ((CS × Int32) ⊕ (CS × Nat)) := m_cJT_join_J0 N x0 S x1 x2
set_option maxHeartbeats 4000000 in
theorem g_cJT_join (l : Launch) (hfl : l.flags = flags0) (D : va_G) (sz : Nat) {ad : Nat → Nat → Nat} {cc : Nat → ClassId} {sad sav : Nat → Nat} {N : Nat → Nat} {x0 : Nat} {S : CS} {x1 : Int32} {x2 : Int32} {o : CS × Int32} (Heq : m_cJT_join N x0 S x1 x2 = some (.inl o)) : Met l ⟨"JoinedTrees", "join", "(II)I"⟩ (Cond.code ⟨"JoinedTrees", "join", "(II)I"⟩ prog_1_method_14_code 7 (some .int) :: gb) ({ frames := 7, cells := 0, slots := 0, locals := 117 }) (cPc sad sav D (cw ad cc N S) (cty cc) sz [.ref (ad 11 x0), .int x1, .int x2]) (va_Qi (fun (r : Int32) (_ : Unit) => r = o.2) (fun _ t => gO D (cw ad cc N o.1) (cty cc) (va_A (cw ad cc N S) sz) t) (va_A (cw ad cc N S) sz)) 0 0 (va_A (cw ad cc N S) sz) := by
  refine Met.ofW (cc := prog_1_method_14_code) (maxL := 7) (ret := (some .int)) (by decide) rfl ?_
  intro p e s m args below meth c s₁ B hml hv
  obtain ⟨rfl, hsz, hP, hK, hD0, hev, hE, hN⟩ := hv
  have hx := B.exec
  have hb := B.bytes
  have hr := B.returns
  have hts : ∀ w9 ∈ gb, w9.before [.ref (ad 11 x0), .int x1, .int x2].toArray s = true := fun w9 h => atoms_spec (ws := Cond.code ⟨"JoinedTrees", "join", "(II)I"⟩ prog_1_method_14_code 7 (some .int) :: gb) B.pre w9 (List.mem_cons_of_mem _ h)
  have hown : s.vm.findClass "JoinedTrees" = some m.cls := findClass_of_methodNamed B.named
  have hlocks := B.notSynchronized
  have hNS := ns_of hP
  subst hsz
  have hD := hD0.self (sz := s.heap.size)
  generalize hAe : va_A (cw ad cc N S) s.heap.size = A at hD hev hE hNS ⊢
  have hA : ∀ q : Nat, s.heap.size ≤ q → A q := fun q h => by rw [← hAe]; exact Or.inr h
  have hS : va_S A s.heap s.heap [] := va_S.rf
  obtain ⟨ls, hl, hle⟩ : ∃ ls : Array Slot, lv_has ls 7 [(0, .ref (ad 11 x0)), (1, .int x1), (2, .int x2)] ∧ entryFrame m ([.ref (ad 11 x0), .int x1, .int x2] : List Value).toArray 7 = F0 m 0 ls [] := by
    exact ⟨_, lv_entry (n := 7) _ (Nat.le_of_ble_eq_true rfl), lg_entry_eq ..⟩
  rw [hle]
  refine w_cJT_join_J0 (cR := 0) (sR := 0) hfl ⟨hx, hb, hr, hml, hown, hts, hK, hA, hev, hE, hN, hNS⟩ Heq (fun r h => ⟨fun v9 hv9 pc H locs ls hd hP hD hS => ?_, fun t9 ht9 => (by subst h; cases ht9)⟩) _ _ _ hP hD hS (lv_sub hl [0, 1, 2] rfl)
  subst h
  cases hv9
  exact W.iret hx hb hr (fun t ht hW => ⟨⟨_, (), rfl, rfl, by rw [ht]; exact hP, va_K.moved hW.alike hK, hD⟩, hS.F ht⟩) hS.2.2 hd
set_option maxHeartbeats 4000000 in
theorem g_cJT_join_t (l : Launch) (hfl : l.flags = flags0) (D : va_G) (sz : Nat) {ad : Nat → Nat → Nat} {cc : Nat → ClassId} {sad sav : Nat → Nat} {N : Nat → Nat} {x0 : Nat} {S : CS} {x1 : Int32} {x2 : Int32} {o : CS × Nat} (Heq : m_cJT_join N x0 S x1 x2 = some (.inr o)) : MeT l ⟨"JoinedTrees", "join", "(II)I"⟩ (Cond.code ⟨"JoinedTrees", "join", "(II)I"⟩ prog_1_method_14_code 7 (some .int) :: gb) ({ frames := 7, cells := 1, slots := 6, locals := 117 }) (cPc sad sav D (cw ad cc N S) (cty cc) sz [.ref (ad 11 x0), .int x1, .int x2]) (exN o.2) (va_A (cw ad cc N S) sz) (fun H1 => va_P D cls (cw ad cc N o.1) H1) 1 6 := by
  refine MeT.ofW (cc := prog_1_method_14_code) (maxL := 7) (ret := (some .int)) (by decide) rfl ?_
  intro p e s m args below meth c s₁ B hml hno hv
  obtain ⟨rfl, hsz, hP, hK, hD0, hev, hE, hN⟩ := hv
  have hx := B.exec
  have hb := B.bytes
  have hr := B.returns
  have hts : ∀ w9 ∈ gb, w9.before [.ref (ad 11 x0), .int x1, .int x2].toArray s = true := fun w9 h => atoms_spec (ws := Cond.code ⟨"JoinedTrees", "join", "(II)I"⟩ prog_1_method_14_code 7 (some .int) :: gb) B.pre w9 (List.mem_cons_of_mem _ h)
  have hown : s.vm.findClass "JoinedTrees" = some m.cls := findClass_of_methodNamed B.named
  have hlocks := B.notSynchronized
  have hNS := ns_of hP
  subst hsz
  have hD := hD0.self (sz := s.heap.size)
  generalize hAe : va_A (cw ad cc N S) s.heap.size = A at hD hev hE hNS ⊢
  have hA : ∀ q : Nat, s.heap.size ≤ q → A q := fun q h => by rw [← hAe]; exact Or.inr h
  have hS : va_S A s.heap s.heap [] := va_S.rf
  obtain ⟨ls, hl, hle⟩ : ∃ ls : Array Slot, lv_has ls 7 [(0, .ref (ad 11 x0)), (1, .int x1), (2, .int x2)] ∧ entryFrame m ([.ref (ad 11 x0), .int x1, .int x2] : List Value).toArray 7 = F0 m 0 ls [] := by
    exact ⟨_, lv_entry (n := 7) _ (Nat.le_of_ble_eq_true rfl), lg_entry_eq ..⟩
  rw [hle]
  refine w_cJT_join_J0 (cR := 1) (sR := 6) hfl ⟨hx, hb, hr, hml, hown, hts, hK, hA, hev, hE, hN, hNS⟩ Heq (fun r h => ⟨fun v9 hv9 => (by subst h; cases hv9), fun t9 ht9 => ⟨⟨Nat.le_refl _, Nat.le_refl _⟩, fun pc H locs ls hd hsz hP hD hS => ?_, fun pc H locs ls st0 rest9 A9 hr9 hF9 hS => ?_⟩⟩) _ _ _ hP hD hS (lv_sub hl [0, 1, 2] rfl)
  · subst h; cases ht9; exact tx_thr hfl hx hb hno hlocks hown hts hev hN hNS hd (hsz.trans hml.symm) hP hS hA (Nat.le_refl _) (Nat.le_refl _) (Nat.le_of_ble_eq_true rfl) (Nat.le_of_ble_eq_true rfl)
  · subst h; cases ht9; exact tx_on hr9 hno hlocks hS hF9
def m_cJT_look_J18 (N : Nat → Nat) (x0 : Nat) (S : CS) : Option ((CS × Int32) ⊕ (CS × Nat)) := some (.inr (S, 1))
theorem d_cJT_look_0 : decode prog_1_method_15_code 0 = .ok (.aload_n 0, 1) := by decide +kernel
theorem d_cJT_look_1 : decode prog_1_method_15_code 1 = .ok (.iload_n 1, 1) := by decide +kernel
theorem d_cJT_look_2 : decode prog_1_method_15_code 2 = .ok (.invokevirtual 105, 3) := by decide +kernel
theorem d_cJT_look_5 : decode prog_1_method_15_code 5 = .ok (.astore 4, 2) := by decide +kernel
theorem d_cJT_look_7 : decode prog_1_method_15_code 7 = .ok (.iload_n 2, 1) := by decide +kernel
theorem d_cJT_look_8 : decode prog_1_method_15_code 8 = .ok (.iconst (-1), 1) := by decide +kernel
theorem d_cJT_look_9 : decode prog_1_method_15_code 9 = .ok (.if_icmp .lt 9, 3) := by decide +kernel
theorem d_cJT_look_18 : decode prog_1_method_15_code 18 = .ok (.new 93, 3) := by decide +kernel
theorem d_cJT_look_21 : decode prog_1_method_15_code 21 = .ok (.dup, 1) := by decide +kernel
theorem d_cJT_look_22 : decode prog_1_method_15_code 22 = .ok (.invokespecial 95, 3) := by decide +kernel
theorem d_cJT_look_25 : decode prog_1_method_15_code 25 = .ok (.athrow, 1) := by decide +kernel
set_option maxHeartbeats 4000000 in
set_option maxRecDepth 100000 in
theorem w_cJT_look_J18 {p : Program} {l : Launch} {e : Env} {s : State} {m : MethodId} {args : Array Value} {below : List Frame} {meth : Method} {c : Code} {A : Nat → Prop} {D : va_G} {ad : Nat → Nat → Nat} {cc : Nat → ClassId} {sad sav : Nat → Nat} {Q : State → Prop} {cR sR : Nat} (hfl : l.flags = flags0) (hC : MCc sad sav "JoinedTrees" prog_1_method_15_code 6 (some .int) p s m args meth c A D cc) {N : Nat → Nat} {x0 : Nat} {S : CS} {o : ((CS × Int32) ⊕ (CS × Nat))} (Heq : m_cJT_look_J18 N x0 S = some o) (Kr : ∀ r : ((CS × Int32) ⊕ (CS × Nat)), o = r → (∀ v9 : CS × Int32, r = .inl v9 → ∀ (pc : Nat) (H : Heap) (locs : List Loc) (ls : Array Slot), decode prog_1_method_15_code pc = .ok (.ireturn, 1) → va_P D cls (cw ad cc N v9.1) H → va_D A (cw ad cc N v9.1) → va_S A s.heap H locs → W p l e ({ frames := 7, cells := cR, slots := sR, locals := 117 }) s m args below meth c H locs 0 0 Q (F0 m pc ls [.int v9.2])) ∧ (∀ t9 : CS × Nat, r = .inr t9 → (1 ≤ cR ∧ 6 ≤ sR) ∧ (∀ (pc : Nat) (H : Heap) (locs : List Loc) (ls : Array Slot), thD prog_1_method_15_code t9.2 pc → ls.size = 6 → va_P D cls (cw ad cc N t9.1) H → va_D A (cw ad cc N t9.1) → va_S A s.heap H locs → W p l e ({ frames := 7, cells := cR, slots := sR, locals := 117 }) s m args below meth c H locs 0 0 Q (F0 m pc ls [])) ∧ (∀ (pc : Nat) (H : Heap) (locs : List Loc) (ls : Array Slot) (st0 rest9 : List Value) (A9 : Nat → Prop), tx_Thr p l e ({ frames := 7, cells := cR, slots := sR, locals := 117 }) s m args below meth c H locs 0 0 1 6 (F0 m pc ls st0) rest9 (exN t9.2) A9 (fun H1 => va_P D cls (cw ad cc N t9.1) H1) → (∀ q, A9 q → A q) → va_S A s.heap H locs → W p l e ({ frames := 7, cells := cR, slots := sR, locals := 117 }) s m args below meth c H locs 0 0 Q (F0 m pc ls st0)))) : ∀ (H : Heap) (locs : List Loc) (ls : Array Slot), va_P D cls (cw ad cc N S) H → va_D A (cw ad cc N S) → va_S A s.heap H locs → lv_has ls 6 [(0, .ref (ad 11 x0))] → W p l e ({ frames := 7, cells := cR, slots := sR, locals := 117 }) s m args below meth c H locs 0 0 Q (F0 m 18 ls []) := by
  intro H locs ls hP hD hS hl
  obtain ⟨hx, hb, hr, hml, hown, hts, hK, hA, hev, hE, hN, hNS⟩ := id hC
  unfold m_cJT_look_J18 at Heq
  exact ((Kr _ (Option.some.inj Heq).symm).2 _ rfl).2.1 18 _ _ _ ⟨⟨show 1 ≤ 1 by decide, show 1 ≤ 5 by decide⟩, d_cJT_look_18, d_cJT_look_21, d_cJT_look_22, d_cJT_look_25⟩ hl.1 hP hD hS
def m_cJT_look_J67 (N : Nat → Nat) (x0 : Nat) (S : CS) (x4 : Option Nat) (x5 : Option Nat) : Option ((CS × Int32) ⊕ (CS × Nat)) := gn x4 (N 4) (fun j_1 => ob (m_cRp_changesInView N j_1 (S.setR 4 4 j_1 x5)) (fun o_4 => some (.inl (o_4.1, o_4.2))))
theorem d_cJT_look_12 : decode prog_1_method_15_code 12 = .ok (.iload_n 2, 1) := by decide +kernel
theorem d_cJT_look_13 : decode prog_1_method_15_code 13 = .ok (.bipush 8, 2) := by decide +kernel
theorem d_cJT_look_15 : decode prog_1_method_15_code 15 = .ok (.if_icmp .lt 11, 3) := by decide +kernel
theorem d_cJT_look_26 : decode prog_1_method_15_code 26 = .ok (.aconst_null, 1) := by decide +kernel
theorem d_cJT_look_27 : decode prog_1_method_15_code 27 = .ok (.astore 5, 2) := by decide +kernel
theorem d_cJT_look_29 : decode prog_1_method_15_code 29 = .ok (.iload_n 2, 1) := by decide +kernel
theorem d_cJT_look_30 : decode prog_1_method_15_code 30 = .ok (.ifCond .lt 37, 3) := by decide +kernel
theorem d_cJT_look_67 : decode prog_1_method_15_code 67 = .ok (.aload 4, 2) := by decide +kernel
theorem d_cJT_look_69 : decode prog_1_method_15_code 69 = .ok (.aload 5, 2) := by decide +kernel
theorem d_cJT_look_71 : decode prog_1_method_15_code 71 = .ok (.putfield 271, 3) := by decide +kernel
theorem d_cJT_look_74 : decode prog_1_method_15_code 74 = .ok (.aload 4, 2) := by decide +kernel
theorem d_cJT_look_76 : decode prog_1_method_15_code 76 = .ok (.invokevirtual 275, 3) := by decide +kernel
theorem d_cJT_look_79 : decode prog_1_method_15_code 79 = .ok (.ireturn, 1) := by decide +kernel
set_option maxHeartbeats 4000000 in
set_option maxRecDepth 100000 in
theorem w_cJT_look_J67 {p : Program} {l : Launch} {e : Env} {s : State} {m : MethodId} {args : Array Value} {below : List Frame} {meth : Method} {c : Code} {A : Nat → Prop} {D : va_G} {ad : Nat → Nat → Nat} {cc : Nat → ClassId} {sad sav : Nat → Nat} {Q : State → Prop} {cR sR : Nat} (hfl : l.flags = flags0) (hC : MCc sad sav "JoinedTrees" prog_1_method_15_code 6 (some .int) p s m args meth c A D cc) {N : Nat → Nat} {x0 : Nat} {S : CS} {x4 : Option Nat} {x5 : Option Nat} {o : ((CS × Int32) ⊕ (CS × Nat))} (Heq : m_cJT_look_J67 N x0 S x4 x5 = some o) (Kr : ∀ r : ((CS × Int32) ⊕ (CS × Nat)), o = r → (∀ v9 : CS × Int32, r = .inl v9 → ∀ (pc : Nat) (H : Heap) (locs : List Loc) (ls : Array Slot), decode prog_1_method_15_code pc = .ok (.ireturn, 1) → va_P D cls (cw ad cc N v9.1) H → va_D A (cw ad cc N v9.1) → va_S A s.heap H locs → W p l e ({ frames := 7, cells := cR, slots := sR, locals := 117 }) s m args below meth c H locs 0 0 Q (F0 m pc ls [.int v9.2])) ∧ (∀ t9 : CS × Nat, r = .inr t9 → (1 ≤ cR ∧ 6 ≤ sR) ∧ (∀ (pc : Nat) (H : Heap) (locs : List Loc) (ls : Array Slot), thD prog_1_method_15_code t9.2 pc → ls.size = 6 → va_P D cls (cw ad cc N t9.1) H → va_D A (cw ad cc N t9.1) → va_S A s.heap H locs → W p l e ({ frames := 7, cells := cR, slots := sR, locals := 117 }) s m args below meth c H locs 0 0 Q (F0 m pc ls [])) ∧ (∀ (pc : Nat) (H : Heap) (locs : List Loc) (ls : Array Slot) (st0 rest9 : List Value) (A9 : Nat → Prop), tx_Thr p l e ({ frames := 7, cells := cR, slots := sR, locals := 117 }) s m args below meth c H locs 0 0 1 6 (F0 m pc ls st0) rest9 (exN t9.2) A9 (fun H1 => va_P D cls (cw ad cc N t9.1) H1) → (∀ q, A9 q → A q) → va_S A s.heap H locs → W p l e ({ frames := 7, cells := cR, slots := sR, locals := 117 }) s m args below meth c H locs 0 0 Q (F0 m pc ls st0)))) : ∀ (H : Heap) (locs : List Loc) (ls : Array Slot), va_P D cls (cw ad cc N S) H → va_D A (cw ad cc N S) → va_S A s.heap H locs → lv_has ls 6 [(0, .ref (ad 11 x0)), (4, rv ad 4 x4), (5, rv ad 0 x5)] → W p l e ({ frames := 7, cells := cR, slots := sR, locals := 117 }) s m args below meth c H locs 0 0 Q (F0 m 67 ls []) := by
  intro H locs ls hP hD hS hl
  obtain ⟨hx, hb, hr, hml, hown, hts, hK, hA, hev, hE, hN, hNS⟩ := id hC
  unfold m_cJT_look_J67 at Heq
  refine tx_aload (x := x4.map (ad 4)) hx hb d_cJT_look_67 (lv_at hl 1 rfl) ?_
  refine w_v (y := rv ad 4 x4) rfl ?_
  refine tx_aload (x := x5.map (ad 0)) hx hb d_cJT_look_69 (lv_at hl 2 rfl) ?_
  refine w_v (y := rv ad 0 x5) rfl ?_
  obtain ⟨j_1, hj_2, hl_3, Heq⟩ := gn_some Heq
  refine w_s (st' := [rv ad 0 x5, .ref (ad 4 j_1)]) (congrArg (fun z9 : Option Nat => [rv ad 0 x5, rv ad 4 z9]) hj_2) ?_
  refine w_v (y := rv ad 0 x5) rfl ?_
  refine va_put (D := D) (ci := 4) (v := rv ad 0 x5) (ty := .object "JoinedTrees$Change") (C := R_Rp) (T := F_Rp) (N := 10) hx hb hts i_Rp t_Rp t_Rp_ok n_Rp hown hK hP hD hS (cPos N 4 j_1) (cw_obj (k := 4) (by decide) hl_3) rfl 4 (by decide) (hts _ kw_216) (fun _ h9 => h9) rfl (by decide +kernel) (rv_nar (Or.inl ⟨_, rfl⟩)) (rv_fit (Or.inl ⟨_, rfl⟩)) (Nat.le_of_ble_eq_true rfl) d_cJT_look_71 (fun H locs hP hD hS => ?_)
  have hD := (congrArg (fun w9 => va_D A w9) (cw_setR (ad := ad) (cc := cc) (S := S) (k := 4) (f := 4) (t := 0) (v := x5) (by decide) rfl hl_3)).mp hD
  have hP := (congrArg (fun w9 => va_P D cls w9 H) (cw_setR (ad := ad) (cc := cc) (S := S) (k := 4) (f := 4) (t := 0) (v := x5) (by decide) rfl hl_3)).mp hP
  refine tx_aload (x := x4.map (ad 4)) hx hb d_cJT_look_74 (lv_at hl 1 rfl) ?_
  refine w_v (y := rv ad 4 x4) rfl ?_
  refine w_s (st' := [.ref (ad 4 j_1)]) (congrArg (fun z9 : Option Nat => [rv ad 4 z9]) hj_2) ?_
  obtain ⟨o_4, h_5, Heq⟩ := ob_some Heq
  have hFc := fr_all hD hS hA
  refine va_calli (va_runV (As := []) (rest := []) ⟨hx, hb, hml, hown, hts⟩ (g_cRp_changesInView l D H.size (ad := ad) (cc := cc) (sad := sad) (sav := sav) h_5) (cw_v 0 hts kw_1121 kw_1118 kw_1119 kw_1120 kw_5 rfl rfl (by decide +kernel) ⟨Nat.le_of_ble_eq_true rfl, Nat.le_of_ble_eq_true rfl⟩) ⟨c_blind, va_recv hK hP (ci := 4) (q0 := cPos N 4 j_1) rfl (cw_obj (k := 4) (by decide) hl_3), fun U hU hW => c_pre hU hW hP hK hD hev hE hN hNS hS hFc⟩ rfl rfl hl.1 rfl (lv_room (Nat.le_of_ble_eq_true rfl)) d_cJT_look_76 ⟨Nat.zero_le _, Nat.zero_le _⟩) hS (fun q _ h => hFc q h) hFc (fun rz u t H1 locs ht hvm hw hB hz1 hk1 hS => ?_)
  obtain ⟨hP, -, hD1⟩ := hB
  rw [ht] at hP
  have hD := hD1.weaken (fun _ q _ h => hFc q.1 h)
  generalize H1 = H at hP hS ⊢
  refine W.cs (cells' := 0) (slots' := 0) rfl rfl ?_
  subst hw
  exact (Kr _ (Option.some.inj Heq).symm).1 _ rfl 79 _ _ _ d_cJT_look_79 hP hD hS
def m_cJT_look_J59 (N : Nat → Nat) (x0 : Nat) (S : CS) : Option ((CS × Int32) ⊕ (CS × Nat)) := some (.inr (S, 3))
theorem d_cJT_look_33 : decode prog_1_method_15_code 33 = .ok (.aload_n 0, 1) := by decide +kernel
theorem d_cJT_look_34 : decode prog_1_method_15_code 34 = .ok (.getfield 12, 3) := by decide +kernel
theorem d_cJT_look_37 : decode prog_1_method_15_code 37 = .ok (.iload_n 2, 1) := by decide +kernel
theorem d_cJT_look_38 : decode prog_1_method_15_code 38 = .ok (.iload_n 3, 1) := by decide +kernel
theorem d_cJT_look_39 : decode prog_1_method_15_code 39 = .ok (.invokevirtual 245, 3) := by decide +kernel
theorem d_cJT_look_42 : decode prog_1_method_15_code 42 = .ok (.astore 5, 2) := by decide +kernel
theorem d_cJT_look_44 : decode prog_1_method_15_code 44 = .ok (.aload 5, 2) := by decide +kernel
theorem d_cJT_look_46 : decode prog_1_method_15_code 46 = .ok (.ifnull 13, 3) := by decide +kernel
theorem d_cJT_look_59 : decode prog_1_method_15_code 59 = .ok (.new 178, 3) := by decide +kernel
theorem d_cJT_look_62 : decode prog_1_method_15_code 62 = .ok (.dup, 1) := by decide +kernel
theorem d_cJT_look_63 : decode prog_1_method_15_code 63 = .ok (.invokespecial 180, 3) := by decide +kernel
theorem d_cJT_look_66 : decode prog_1_method_15_code 66 = .ok (.athrow, 1) := by decide +kernel
set_option maxHeartbeats 4000000 in
set_option maxRecDepth 100000 in
theorem w_cJT_look_J59 {p : Program} {l : Launch} {e : Env} {s : State} {m : MethodId} {args : Array Value} {below : List Frame} {meth : Method} {c : Code} {A : Nat → Prop} {D : va_G} {ad : Nat → Nat → Nat} {cc : Nat → ClassId} {sad sav : Nat → Nat} {Q : State → Prop} {cR sR : Nat} (hfl : l.flags = flags0) (hC : MCc sad sav "JoinedTrees" prog_1_method_15_code 6 (some .int) p s m args meth c A D cc) {N : Nat → Nat} {x0 : Nat} {S : CS} {o : ((CS × Int32) ⊕ (CS × Nat))} (Heq : m_cJT_look_J59 N x0 S = some o) (Kr : ∀ r : ((CS × Int32) ⊕ (CS × Nat)), o = r → (∀ v9 : CS × Int32, r = .inl v9 → ∀ (pc : Nat) (H : Heap) (locs : List Loc) (ls : Array Slot), decode prog_1_method_15_code pc = .ok (.ireturn, 1) → va_P D cls (cw ad cc N v9.1) H → va_D A (cw ad cc N v9.1) → va_S A s.heap H locs → W p l e ({ frames := 7, cells := cR, slots := sR, locals := 117 }) s m args below meth c H locs 0 0 Q (F0 m pc ls [.int v9.2])) ∧ (∀ t9 : CS × Nat, r = .inr t9 → (1 ≤ cR ∧ 6 ≤ sR) ∧ (∀ (pc : Nat) (H : Heap) (locs : List Loc) (ls : Array Slot), thD prog_1_method_15_code t9.2 pc → ls.size = 6 → va_P D cls (cw ad cc N t9.1) H → va_D A (cw ad cc N t9.1) → va_S A s.heap H locs → W p l e ({ frames := 7, cells := cR, slots := sR, locals := 117 }) s m args below meth c H locs 0 0 Q (F0 m pc ls [])) ∧ (∀ (pc : Nat) (H : Heap) (locs : List Loc) (ls : Array Slot) (st0 rest9 : List Value) (A9 : Nat → Prop), tx_Thr p l e ({ frames := 7, cells := cR, slots := sR, locals := 117 }) s m args below meth c H locs 0 0 1 6 (F0 m pc ls st0) rest9 (exN t9.2) A9 (fun H1 => va_P D cls (cw ad cc N t9.1) H1) → (∀ q, A9 q → A q) → va_S A s.heap H locs → W p l e ({ frames := 7, cells := cR, slots := sR, locals := 117 }) s m args below meth c H locs 0 0 Q (F0 m pc ls st0)))) : ∀ (H : Heap) (locs : List Loc) (ls : Array Slot), va_P D cls (cw ad cc N S) H → va_D A (cw ad cc N S) → va_S A s.heap H locs → lv_has ls 6 [(0, .ref (ad 11 x0))] → W p l e ({ frames := 7, cells := cR, slots := sR, locals := 117 }) s m args below meth c H locs 0 0 Q (F0 m 59 ls []) := by
  intro H locs ls hP hD hS hl
  obtain ⟨hx, hb, hr, hml, hown, hts, hK, hA, hev, hE, hN, hNS⟩ := id hC
  unfold m_cJT_look_J59 at Heq
  exact ((Kr _ (Option.some.inj Heq).symm).2 _ rfl).2.1 59 _ _ _ ⟨⟨show 1 ≤ 3 by decide, show 3 ≤ 5 by decide⟩, d_cJT_look_59, d_cJT_look_62, d_cJT_look_63, d_cJT_look_66⟩ hl.1 hP hD hS
def m_cJT_look_J0 (N : Nat → Nat) (x0 : Nat) (S : CS) (x1 : Int32) (x2 : Int32) (x3 : Int32) : Option ((CS × Int32) ⊕ (CS × Nat)) := gl x0 (N 11) (oe (m_cJT_shown N x0 S x1) (fun o_1 => (if x2 < (-1) then m_cJT_look_J18 N x0 o_1.1 else (if x2 < 8 then (if x2 < 0 then m_cJT_look_J67 N x0 o_1.1 o_1.2 none else gn (o_1.1.r 11 0 x0) (N 8) (fun j_7 => ob (m_cSt_changeAt N j_7 o_1.1 x2 x3) (fun o_10 => on o_10.2 (m_cJT_look_J59 N x0 o_10.1) (fun j_12 => gl j_12 (N 0) (gn o_1.2 (N 4) (fun j_14 => ob (m_cRp_holds N j_14 o_10.1 j_12) (fun o_17 => (if o_17.2 = 0 then m_cJT_look_J59 N x0 o_17.1 else m_cJT_look_J67 N x0 o_17.1 o_1.2 o_10.2)))))))) else m_cJT_look_J18 N x0 o_1.1))) (fun t_3 => some (.inr t_3)))
theorem d_cJT_look_49 : decode prog_1_method_15_code 49 = .ok (.aload 4, 2) := by decide +kernel
theorem d_cJT_look_51 : decode prog_1_method_15_code 51 = .ok (.aload 5, 2) := by decide +kernel
theorem d_cJT_look_53 : decode prog_1_method_15_code 53 = .ok (.invokevirtual 249, 3) := by decide +kernel
theorem d_cJT_look_56 : decode prog_1_method_15_code 56 = .ok (.ifCond .ne 11, 3) := by decide +kernel
set_option maxHeartbeats 4000000 in
set_option maxRecDepth 100000 in
theorem w_cJT_look_J0 {p : Program} {l : Launch} {e : Env} {s : State} {m : MethodId} {args : Array Value} {below : List Frame} {meth : Method} {c : Code} {A : Nat → Prop} {D : va_G} {ad : Nat → Nat → Nat} {cc : Nat → ClassId} {sad sav : Nat → Nat} {Q : State → Prop} {cR sR : Nat} (hfl : l.flags = flags0) (hC : MCc sad sav "JoinedTrees" prog_1_method_15_code 6 (some .int) p s m args meth c A D cc) {N : Nat → Nat} {x0 : Nat} {S : CS} {x1 : Int32} {x2 : Int32} {x3 : Int32} {o : ((CS × Int32) ⊕ (CS × Nat))} (Heq : m_cJT_look_J0 N x0 S x1 x2 x3 = some o) (Kr : ∀ r : ((CS × Int32) ⊕ (CS × Nat)), o = r → (∀ v9 : CS × Int32, r = .inl v9 → ∀ (pc : Nat) (H : Heap) (locs : List Loc) (ls : Array Slot), decode prog_1_method_15_code pc = .ok (.ireturn, 1) → va_P D cls (cw ad cc N v9.1) H → va_D A (cw ad cc N v9.1) → va_S A s.heap H locs → W p l e ({ frames := 7, cells := cR, slots := sR, locals := 117 }) s m args below meth c H locs 0 0 Q (F0 m pc ls [.int v9.2])) ∧ (∀ t9 : CS × Nat, r = .inr t9 → (1 ≤ cR ∧ 6 ≤ sR) ∧ (∀ (pc : Nat) (H : Heap) (locs : List Loc) (ls : Array Slot), thD prog_1_method_15_code t9.2 pc → ls.size = 6 → va_P D cls (cw ad cc N t9.1) H → va_D A (cw ad cc N t9.1) → va_S A s.heap H locs → W p l e ({ frames := 7, cells := cR, slots := sR, locals := 117 }) s m args below meth c H locs 0 0 Q (F0 m pc ls [])) ∧ (∀ (pc : Nat) (H : Heap) (locs : List Loc) (ls : Array Slot) (st0 rest9 : List Value) (A9 : Nat → Prop), tx_Thr p l e ({ frames := 7, cells := cR, slots := sR, locals := 117 }) s m args below meth c H locs 0 0 1 6 (F0 m pc ls st0) rest9 (exN t9.2) A9 (fun H1 => va_P D cls (cw ad cc N t9.1) H1) → (∀ q, A9 q → A q) → va_S A s.heap H locs → W p l e ({ frames := 7, cells := cR, slots := sR, locals := 117 }) s m args below meth c H locs 0 0 Q (F0 m pc ls st0)))) : ∀ (H : Heap) (locs : List Loc) (ls : Array Slot), va_P D cls (cw ad cc N S) H → va_D A (cw ad cc N S) → va_S A s.heap H locs → lv_has ls 6 [(0, .ref (ad 11 x0)), (1, .int x1), (2, .int x2), (3, .int x3)] → W p l e ({ frames := 7, cells := cR, slots := sR, locals := 117 }) s m args below meth c H locs 0 0 Q (F0 m 0 ls []) := by
  intro H locs ls hP hD hS hl
  obtain ⟨hx, hb, hr, hml, hown, hts, hK, hA, hev, hE, hN, hNS⟩ := id hC
  unfold m_cJT_look_J0 at Heq
  refine lv_aload_n hx hb d_cJT_look_0 rfl (lv_at hl 0 rfl) ?_
  refine lv_iload_n hx hb d_cJT_look_1 rfl (lv_at hl 1 rfl) ?_
  obtain ⟨hl_x0_11, Heq⟩ := gl_some Heq
  have hFc := fr_all hD hS hA
  rcases oe_some Heq with ⟨o_1, h_2, Heq⟩ | ⟨t_3, h_2, Heq⟩
  case inr => exact ((Kr _ (Option.some.inj Heq).symm).2 _ rfl).2.2 2 _ _ _ _ _ _ (tx_runV (As := [.int x1]) (rest := []) ⟨hx, hb, hml, hown, hts⟩ (g_cJT_shown_t l hfl D H.size (ad := ad) (cc := cc) (sad := sad) (sav := sav) h_2) (cw_v 1 hts kw_593 kw_590 kw_592 kp_3 kw_1 rfl rfl (by decide +kernel) ⟨Nat.le_of_ble_eq_true rfl, Nat.le_of_ble_eq_true rfl⟩) ⟨c_blind, va_recv hK hP (ci := 11) (q0 := cPos N 11 x0) rfl (cw_obj (k := 11) (by decide) hl_x0_11), fun U hU hW => c_pre hU hW hP hK hD hev hE hN hNS hS hFc⟩ rfl rfl hl.1 rfl (lv_room (Nat.le_of_ble_eq_true rfl)) d_cJT_look_2 ((Kr _ (Option.some.inj Heq).symm).2 _ rfl).1) hFc hS
  refine va_callq (va_runV (As := [.int x1]) (rest := []) ⟨hx, hb, hml, hown, hts⟩ (g_cJT_shown l hfl D H.size (ad := ad) (cc := cc) (sad := sad) (sav := sav) h_2) (cw_v 1 hts kw_593 kw_590 kw_592 kp_3 kw_1 rfl rfl (by decide +kernel) ⟨Nat.le_of_ble_eq_true rfl, Nat.le_of_ble_eq_true rfl⟩) ⟨c_blind, va_recv hK hP (ci := 11) (q0 := cPos N 11 x0) rfl (cw_obj (k := 11) (by decide) hl_x0_11), fun U hU hW => c_pre hU hW hP hK hD hev hE hN hNS hS hFc⟩ rfl rfl hl.1 rfl (lv_room (Nat.le_of_ble_eq_true rfl)) d_cJT_look_2 ⟨Nat.zero_le _, Nat.zero_le _⟩) hS (fun q _ h => hFc q h) hFc (fun rz u t H1 locs ht hvm hw hB hz1 hk1 hS => ?_)
  obtain ⟨hP, -, hD1⟩ := hB
  rw [ht] at hP
  have hD := hD1.weaken (fun _ q _ h => hFc q.1 h)
  generalize H1 = H at hP hS ⊢
  refine W.cs (cells' := 0) (slots' := 0) rfl rfl ?_
  subst hw
  refine w_v (y := rv ad 4 o_1.2) rfl ?_
  refine tx_astore (x := o_1.2.map (ad 4)) (lv' := [(4, rv ad 4 o_1.2), (0, .ref (ad 11 x0)), (1, .int x1), (2, .int x2), (3, .int x3)]) hx hb d_cJT_look_5 hl (by decide) rfl (fun ls hl => ?_)
  refine lv_iload_n hx hb d_cJT_look_7 rfl (lv_at hl 3 rfl) ?_
  refine lv_iconst (v := (-1)) hx hb d_cJT_look_8 (by decide) ?_
  refine lv_icmp_lt (tgt := 18) hx hb d_cJT_look_9 (by decide) (fun c_4 => ?_) (fun c_4 => ?_)
  · replace Heq := (if_pos c_4).symm.trans Heq
    exact w_cJT_look_J18 hfl hC Heq Kr _ _ _ hP hD hS (lv_sub hl [1] rfl)
  · replace Heq := (if_neg c_4).symm.trans Heq
    refine lv_iload_n hx hb d_cJT_look_12 rfl (lv_at hl 3 rfl) ?_
    refine lv_bipush (v := 8) hx hb d_cJT_look_13 (by decide) ?_
    refine lv_icmp_lt (tgt := 26) hx hb d_cJT_look_15 (by decide) (fun c_5 => ?_) (fun c_5 => ?_)
    · replace Heq := (if_pos c_5).symm.trans Heq
      refine lv_null hx hb d_cJT_look_26 ?_
      refine lv_astoreN (lv' := [(5, .null), (4, rv ad 4 o_1.2), (0, .ref (ad 11 x0)), (1, .int x1), (2, .int x2), (3, .int x3)]) hx hb d_cJT_look_27 hl (by decide) (by simp [rv, rf_cat]) (fun ls hl => ?_)
      refine lv_iload_n hx hb d_cJT_look_29 rfl (lv_at hl 4 rfl) ?_
      refine lv_if_lt (tgt := 67) hx hb d_cJT_look_30 (by decide) (fun c_6 => ?_) (fun c_6 => ?_)
      · replace Heq := (if_pos c_6).symm.trans Heq
        exact w_cJT_look_J67 hfl hC Heq Kr _ _ _ hP hD hS (lv_sub hl [2, 1, 0] rfl)
      · replace Heq := (if_neg c_6).symm.trans Heq
        refine lv_aload_n hx hb d_cJT_look_33 rfl (lv_at hl 2 rfl) ?_
        refine va_get (D := D) (ci := 11) (v := rv ad 8 (o_1.1.r 11 0 x0)) (C := R_JT) (T := F_JT) (N := 13) hx hb hts i_JT hown hK hP (cPos N 11 x0) (cw_obj (k := 11) (by decide) hl_x0_11) rfl 0 (by decide) (hts _ kw_421) (fun _ h9 => h9) rfl d_cJT_look_34 ?_
        refine lv_iload_n hx hb d_cJT_look_37 rfl (lv_at hl 4 rfl) ?_
        refine lv_iload_n hx hb d_cJT_look_38 rfl (lv_at hl 5 rfl) ?_
        obtain ⟨j_7, hj_8, hl_9, Heq⟩ := gn_some Heq
        refine w_s (st' := [.int x3, .int x2, .ref (ad 8 j_7)]) (congrArg (fun z9 : Option Nat => [.int x3, .int x2, rv ad 8 z9]) hj_8) ?_
        obtain ⟨o_10, h_11, Heq⟩ := ob_some Heq
        have hFc := fr_all hD hS hA
        refine va_callq (va_runV (As := [.int x2, .int x3]) (rest := []) ⟨hx, hb, hml, hown, hts⟩ (g_cSt_changeAt l D H.size (ad := ad) (cc := cc) (sad := sad) (sav := sav) h_11) (cw_v 2 hts kw_1079 kw_1076 kw_1077 kw_1078 kw_2 rfl rfl (by decide +kernel) ⟨Nat.le_of_ble_eq_true rfl, Nat.le_of_ble_eq_true rfl⟩) ⟨c_blind, va_recv hK hP (ci := 8) (q0 := cPos N 8 j_7) rfl (cw_obj (k := 8) (by decide) hl_9), fun U hU hW => c_pre hU hW hP hK hD hev hE hN hNS hS hFc⟩ rfl rfl hl.1 rfl (lv_room (Nat.le_of_ble_eq_true rfl)) d_cJT_look_39 ⟨Nat.zero_le _, Nat.zero_le _⟩) hS (fun q _ h => hFc q h) hFc (fun rz u t H1 locs ht hvm hw hB hz1 hk1 hS => ?_)
        obtain ⟨hP, -, hD1⟩ := hB
        rw [ht] at hP
        have hD := hD1.weaken (fun _ q _ h => hFc q.1 h)
        generalize H1 = H at hP hS ⊢
        refine W.cs (cells' := 0) (slots' := 0) rfl rfl ?_
        subst hw
        refine w_v (y := rv ad 0 o_10.2) rfl ?_
        refine tx_astore (x := o_10.2.map (ad 0)) (lv' := [(5, rv ad 0 o_10.2), (4, rv ad 4 o_1.2), (0, .ref (ad 11 x0)), (1, .int x1), (2, .int x2), (3, .int x3)]) hx hb d_cJT_look_42 hl (by decide) (by simp [rv, rf_cat]) (fun ls hl => ?_)
        refine tx_aload (x := o_10.2.map (ad 0)) hx hb d_cJT_look_44 (lv_at hl 0 rfl) ?_
        refine w_v (y := rv ad 0 o_10.2) rfl ?_
        rcases on_some Heq with ⟨hj_13, Heq⟩ | ⟨j_12, hj_13, Heq⟩
        · refine w_s (st' := [.null]) (congrArg (fun z9 : Option Nat => [rv ad 0 z9]) hj_13) ?_
          refine lv_ifnullN (tgt := 59) hx hb d_cJT_look_46 (by decide) ?_
          exact w_cJT_look_J59 hfl hC Heq Kr _ _ _ hP hD hS (lv_sub hl [2] rfl)
        · refine w_s (st' := [.ref (ad 0 j_12)]) (congrArg (fun z9 : Option Nat => [rv ad 0 z9]) hj_13) ?_
          refine lv_ifnull hx hb d_cJT_look_46 ?_
          refine tx_aload (x := o_1.2.map (ad 4)) hx hb d_cJT_look_49 (lv_at hl 1 rfl) ?_
          refine w_v (y := rv ad 4 o_1.2) rfl ?_
          refine tx_aload (x := o_10.2.map (ad 0)) hx hb d_cJT_look_51 (lv_at hl 0 rfl) ?_
          refine w_v (y := rv ad 0 o_10.2) rfl ?_
          refine w_s (st' := [.ref (ad 0 j_12), rv ad 4 o_1.2]) (congrArg (fun z9 : Option Nat => [rv ad 0 z9, rv ad 4 o_1.2]) hj_13) ?_
          obtain ⟨hl_j_12_0, Heq⟩ := gl_some Heq
          obtain ⟨j_14, hj_15, hl_16, Heq⟩ := gn_some Heq
          refine w_s (st' := [.ref (ad 0 j_12), .ref (ad 4 j_14)]) (congrArg (fun z9 : Option Nat => [.ref (ad 0 j_12), rv ad 4 z9]) hj_15) ?_
          obtain ⟨o_17, h_18, Heq⟩ := ob_some Heq
          have hFc := fr_all hD hS hA
          refine va_calli (va_runV (As := [.ref (ad 0 j_12)]) (rest := []) ⟨hx, hb, hml, hown, hts⟩ (g_cRp_holds l D H.size (ad := ad) (cc := cc) (sad := sad) (sav := sav) h_18) (cw_v 1 hts kw_1083 kw_1080 kw_1081 kw_1082 kw_5 rfl rfl (by decide +kernel) ⟨Nat.le_of_ble_eq_true rfl, Nat.le_of_ble_eq_true rfl⟩) ⟨c_blind, va_recv hK hP (ci := 4) (q0 := cPos N 4 j_14) rfl (cw_obj (k := 4) (by decide) hl_16), fun U hU hW => c_pre hU hW hP hK hD hev hE hN hNS hS hFc⟩ rfl rfl hl.1 rfl (lv_room (Nat.le_of_ble_eq_true rfl)) d_cJT_look_53 ⟨Nat.zero_le _, Nat.zero_le _⟩) hS (fun q _ h => hFc q h) hFc (fun rz u t H1 locs ht hvm hw hB hz1 hk1 hS => ?_)
          obtain ⟨hP, -, hD1⟩ := hB
          rw [ht] at hP
          have hD := hD1.weaken (fun _ q _ h => hFc q.1 h)
          generalize H1 = H at hP hS ⊢
          refine W.cs (cells' := 0) (slots' := 0) rfl rfl ?_
          subst hw
          refine lv_if_ne (tgt := 67) hx hb d_cJT_look_56 (by decide) (fun c_19 => ?_) (fun c_19 => ?_)
          · replace Heq := (if_neg c_19).symm.trans Heq
            exact w_cJT_look_J67 hfl hC Heq Kr _ _ _ hP hD hS (lv_sub hl [2, 1, 0] rfl)
          · replace Heq := (if_pos c_19).symm.trans Heq
            exact w_cJT_look_J59 hfl hC Heq Kr _ _ _ hP hD hS (lv_sub hl [2] rfl)
    · replace Heq := (if_neg c_5).symm.trans Heq
      exact w_cJT_look_J18 hfl hC Heq Kr _ _ _ hP hD hS (lv_sub hl [1] rfl)
def m_cJT_look (N : Nat → Nat) (x0 : Nat) (S : CS) (x1 : Int32) (x2 : Int32) (x3 : Int32) : Option ((CS × Int32) ⊕ (CS × Nat)) := m_cJT_look_J0 N x0 S x1 x2 x3
set_option maxHeartbeats 4000000 in
theorem g_cJT_look (l : Launch) (hfl : l.flags = flags0) (D : va_G) (sz : Nat) {ad : Nat → Nat → Nat} {cc : Nat → ClassId} {sad sav : Nat → Nat} {N : Nat → Nat} {x0 : Nat} {S : CS} {x1 : Int32} {x2 : Int32} {x3 : Int32} {o : CS × Int32} (Heq : m_cJT_look N x0 S x1 x2 x3 = some (.inl o)) : Met l ⟨"JoinedTrees", "look", "(III)I"⟩ (Cond.code ⟨"JoinedTrees", "look", "(III)I"⟩ prog_1_method_15_code 6 (some .int) :: gb) ({ frames := 7, cells := 0, slots := 0, locals := 117 }) (cPc sad sav D (cw ad cc N S) (cty cc) sz [.ref (ad 11 x0), .int x1, .int x2, .int x3]) (va_Qi (fun (r : Int32) (_ : Unit) => r = o.2) (fun _ t => gO D (cw ad cc N o.1) (cty cc) (va_A (cw ad cc N S) sz) t) (va_A (cw ad cc N S) sz)) 0 0 (va_A (cw ad cc N S) sz) := by
  refine Met.ofW (cc := prog_1_method_15_code) (maxL := 6) (ret := (some .int)) (by decide) rfl ?_
  intro p e s m args below meth c s₁ B hml hv
  obtain ⟨rfl, hsz, hP, hK, hD0, hev, hE, hN⟩ := hv
  have hx := B.exec
  have hb := B.bytes
  have hr := B.returns
  have hts : ∀ w9 ∈ gb, w9.before [.ref (ad 11 x0), .int x1, .int x2, .int x3].toArray s = true := fun w9 h => atoms_spec (ws := Cond.code ⟨"JoinedTrees", "look", "(III)I"⟩ prog_1_method_15_code 6 (some .int) :: gb) B.pre w9 (List.mem_cons_of_mem _ h)
  have hown : s.vm.findClass "JoinedTrees" = some m.cls := findClass_of_methodNamed B.named
  have hlocks := B.notSynchronized
  have hNS := ns_of hP
  subst hsz
  have hD := hD0.self (sz := s.heap.size)
  generalize hAe : va_A (cw ad cc N S) s.heap.size = A at hD hev hE hNS ⊢
  have hA : ∀ q : Nat, s.heap.size ≤ q → A q := fun q h => by rw [← hAe]; exact Or.inr h
  have hS : va_S A s.heap s.heap [] := va_S.rf
  obtain ⟨ls, hl, hle⟩ : ∃ ls : Array Slot, lv_has ls 6 [(0, .ref (ad 11 x0)), (1, .int x1), (2, .int x2), (3, .int x3)] ∧ entryFrame m ([.ref (ad 11 x0), .int x1, .int x2, .int x3] : List Value).toArray 6 = F0 m 0 ls [] := by
    exact ⟨_, lv_entry (n := 6) _ (Nat.le_of_ble_eq_true rfl), lg_entry_eq ..⟩
  rw [hle]
  refine w_cJT_look_J0 (cR := 0) (sR := 0) hfl ⟨hx, hb, hr, hml, hown, hts, hK, hA, hev, hE, hN, hNS⟩ Heq (fun r h => ⟨fun v9 hv9 pc H locs ls hd hP hD hS => ?_, fun t9 ht9 => (by subst h; cases ht9)⟩) _ _ _ hP hD hS (lv_sub hl [0, 1, 2, 3] rfl)
  subst h
  cases hv9
  exact W.iret hx hb hr (fun t ht hW => ⟨⟨_, (), rfl, rfl, by rw [ht]; exact hP, va_K.moved hW.alike hK, hD⟩, hS.F ht⟩) hS.2.2 hd
set_option maxHeartbeats 4000000 in
theorem g_cJT_look_t (l : Launch) (hfl : l.flags = flags0) (D : va_G) (sz : Nat) {ad : Nat → Nat → Nat} {cc : Nat → ClassId} {sad sav : Nat → Nat} {N : Nat → Nat} {x0 : Nat} {S : CS} {x1 : Int32} {x2 : Int32} {x3 : Int32} {o : CS × Nat} (Heq : m_cJT_look N x0 S x1 x2 x3 = some (.inr o)) : MeT l ⟨"JoinedTrees", "look", "(III)I"⟩ (Cond.code ⟨"JoinedTrees", "look", "(III)I"⟩ prog_1_method_15_code 6 (some .int) :: gb) ({ frames := 7, cells := 1, slots := 6, locals := 117 }) (cPc sad sav D (cw ad cc N S) (cty cc) sz [.ref (ad 11 x0), .int x1, .int x2, .int x3]) (exN o.2) (va_A (cw ad cc N S) sz) (fun H1 => va_P D cls (cw ad cc N o.1) H1) 1 6 := by
  refine MeT.ofW (cc := prog_1_method_15_code) (maxL := 6) (ret := (some .int)) (by decide) rfl ?_
  intro p e s m args below meth c s₁ B hml hno hv
  obtain ⟨rfl, hsz, hP, hK, hD0, hev, hE, hN⟩ := hv
  have hx := B.exec
  have hb := B.bytes
  have hr := B.returns
  have hts : ∀ w9 ∈ gb, w9.before [.ref (ad 11 x0), .int x1, .int x2, .int x3].toArray s = true := fun w9 h => atoms_spec (ws := Cond.code ⟨"JoinedTrees", "look", "(III)I"⟩ prog_1_method_15_code 6 (some .int) :: gb) B.pre w9 (List.mem_cons_of_mem _ h)
  have hown : s.vm.findClass "JoinedTrees" = some m.cls := findClass_of_methodNamed B.named
  have hlocks := B.notSynchronized
  have hNS := ns_of hP
  subst hsz
  have hD := hD0.self (sz := s.heap.size)
  generalize hAe : va_A (cw ad cc N S) s.heap.size = A at hD hev hE hNS ⊢
  have hA : ∀ q : Nat, s.heap.size ≤ q → A q := fun q h => by rw [← hAe]; exact Or.inr h
  have hS : va_S A s.heap s.heap [] := va_S.rf
  obtain ⟨ls, hl, hle⟩ : ∃ ls : Array Slot, lv_has ls 6 [(0, .ref (ad 11 x0)), (1, .int x1), (2, .int x2), (3, .int x3)] ∧ entryFrame m ([.ref (ad 11 x0), .int x1, .int x2, .int x3] : List Value).toArray 6 = F0 m 0 ls [] := by
    exact ⟨_, lv_entry (n := 6) _ (Nat.le_of_ble_eq_true rfl), lg_entry_eq ..⟩
  rw [hle]
  refine w_cJT_look_J0 (cR := 1) (sR := 6) hfl ⟨hx, hb, hr, hml, hown, hts, hK, hA, hev, hE, hN, hNS⟩ Heq (fun r h => ⟨fun v9 hv9 => (by subst h; cases hv9), fun t9 ht9 => ⟨⟨Nat.le_refl _, Nat.le_refl _⟩, fun pc H locs ls hd hsz hP hD hS => ?_, fun pc H locs ls st0 rest9 A9 hr9 hF9 hS => ?_⟩⟩) _ _ _ hP hD hS (lv_sub hl [0, 1, 2, 3] rfl)
  · subst h; cases ht9; exact tx_thr hfl hx hb hno hlocks hown hts hev hN hNS hd (hsz.trans hml.symm) hP hS hA (Nat.le_refl _) (Nat.le_refl _) (Nat.le_of_ble_eq_true rfl) (Nat.le_of_ble_eq_true rfl)
  · subst h; cases ht9; exact tx_on hr9 hno hlocks hS hF9
def m_cJT_object_J15 (N : Nat → Nat) (x0 : Nat) (S : CS) : Option ((CS × Int32) ⊕ (CS × Nat)) := some (.inr (S, 1))
theorem d_cJT_object_0 : decode prog_1_method_16_code 0 = .ok (.aload_n 0, 1) := by decide +kernel
theorem d_cJT_object_1 : decode prog_1_method_16_code 1 = .ok (.iload_n 1, 1) := by decide +kernel
theorem d_cJT_object_2 : decode prog_1_method_16_code 2 = .ok (.invokevirtual 105, 3) := by decide +kernel
theorem d_cJT_object_5 : decode prog_1_method_16_code 5 = .ok (.pop, 1) := by decide +kernel
theorem d_cJT_object_6 : decode prog_1_method_16_code 6 = .ok (.iload_n 3, 1) := by decide +kernel
theorem d_cJT_object_7 : decode prog_1_method_16_code 7 = .ok (.ifCond .lt 8, 3) := by decide +kernel
theorem d_cJT_object_15 : decode prog_1_method_16_code 15 = .ok (.new 93, 3) := by decide +kernel
theorem d_cJT_object_18 : decode prog_1_method_16_code 18 = .ok (.dup, 1) := by decide +kernel
theorem d_cJT_object_19 : decode prog_1_method_16_code 19 = .ok (.invokespecial 95, 3) := by decide +kernel
theorem d_cJT_object_22 : decode prog_1_method_16_code 22 = .ok (.athrow, 1) := by decide +kernel
set_option maxHeartbeats 4000000 in
set_option maxRecDepth 100000 in
theorem w_cJT_object_J15 {p : Program} {l : Launch} {e : Env} {s : State} {m : MethodId} {args : Array Value} {below : List Frame} {meth : Method} {c : Code} {A : Nat → Prop} {D : va_G} {ad : Nat → Nat → Nat} {cc : Nat → ClassId} {sad sav : Nat → Nat} {Q : State → Prop} {cR sR : Nat} (hfl : l.flags = flags0) (hC : MCc sad sav "JoinedTrees" prog_1_method_16_code 5 (some .int) p s m args meth c A D cc) {N : Nat → Nat} {x0 : Nat} {S : CS} {o : ((CS × Int32) ⊕ (CS × Nat))} (Heq : m_cJT_object_J15 N x0 S = some o) (Kr : ∀ r : ((CS × Int32) ⊕ (CS × Nat)), o = r → (∀ v9 : CS × Int32, r = .inl v9 → ∀ (pc : Nat) (H : Heap) (locs : List Loc) (ls : Array Slot), decode prog_1_method_16_code pc = .ok (.ireturn, 1) → va_P D cls (cw ad cc N v9.1) H → va_D A (cw ad cc N v9.1) → va_S A s.heap H locs → W p l e ({ frames := 7, cells := cR, slots := sR, locals := 118 }) s m args below meth c H locs 0 0 Q (F0 m pc ls [.int v9.2])) ∧ (∀ t9 : CS × Nat, r = .inr t9 → (1 ≤ cR ∧ 6 ≤ sR) ∧ (∀ (pc : Nat) (H : Heap) (locs : List Loc) (ls : Array Slot), thD prog_1_method_16_code t9.2 pc → ls.size = 5 → va_P D cls (cw ad cc N t9.1) H → va_D A (cw ad cc N t9.1) → va_S A s.heap H locs → W p l e ({ frames := 7, cells := cR, slots := sR, locals := 118 }) s m args below meth c H locs 0 0 Q (F0 m pc ls [])) ∧ (∀ (pc : Nat) (H : Heap) (locs : List Loc) (ls : Array Slot) (st0 rest9 : List Value) (A9 : Nat → Prop), tx_Thr p l e ({ frames := 7, cells := cR, slots := sR, locals := 118 }) s m args below meth c H locs 0 0 1 6 (F0 m pc ls st0) rest9 (exN t9.2) A9 (fun H1 => va_P D cls (cw ad cc N t9.1) H1) → (∀ q, A9 q → A q) → va_S A s.heap H locs → W p l e ({ frames := 7, cells := cR, slots := sR, locals := 118 }) s m args below meth c H locs 0 0 Q (F0 m pc ls st0)))) : ∀ (H : Heap) (locs : List Loc) (ls : Array Slot), va_P D cls (cw ad cc N S) H → va_D A (cw ad cc N S) → va_S A s.heap H locs → lv_has ls 5 [(0, .ref (ad 11 x0))] → W p l e ({ frames := 7, cells := cR, slots := sR, locals := 118 }) s m args below meth c H locs 0 0 Q (F0 m 15 ls []) := by
  intro H locs ls hP hD hS hl
  obtain ⟨hx, hb, hr, hml, hown, hts, hK, hA, hev, hE, hN, hNS⟩ := id hC
  unfold m_cJT_object_J15 at Heq
  exact ((Kr _ (Option.some.inj Heq).symm).2 _ rfl).2.1 15 _ _ _ ⟨⟨show 1 ≤ 1 by decide, show 1 ≤ 5 by decide⟩, d_cJT_object_15, d_cJT_object_18, d_cJT_object_19, d_cJT_object_22⟩ hl.1 hP hD hS
def m_cJT_object_J51 (N : Nat → Nat) (x0 : Nat) (S : CS) (t0 : Int32) : Option ((CS × Int32) ⊕ (CS × Nat)) := some (.inl (S, t0))
theorem d_cJT_object_10 : decode prog_1_method_16_code 10 = .ok (.iload_n 3, 1) := by decide +kernel
theorem d_cJT_object_11 : decode prog_1_method_16_code 11 = .ok (.iconst 1, 1) := by decide +kernel
theorem d_cJT_object_12 : decode prog_1_method_16_code 12 = .ok (.if_icmp .le 11, 3) := by decide +kernel
theorem d_cJT_object_23 : decode prog_1_method_16_code 23 = .ok (.aload_n 0, 1) := by decide +kernel
theorem d_cJT_object_24 : decode prog_1_method_16_code 24 = .ok (.iload_n 2, 1) := by decide +kernel
theorem d_cJT_object_25 : decode prog_1_method_16_code 25 = .ok (.invokevirtual 168, 3) := by decide +kernel
theorem d_cJT_object_28 : decode prog_1_method_16_code 28 = .ok (.astore 4, 2) := by decide +kernel
theorem d_cJT_object_30 : decode prog_1_method_16_code 30 = .ok (.iload_n 3, 1) := by decide +kernel
theorem d_cJT_object_31 : decode prog_1_method_16_code 31 = .ok (.ifCond .ne 11, 3) := by decide +kernel
theorem d_cJT_object_42 : decode prog_1_method_16_code 42 = .ok (.aload_n 0, 1) := by decide +kernel
theorem d_cJT_object_43 : decode prog_1_method_16_code 43 = .ok (.getfield 30, 3) := by decide +kernel
theorem d_cJT_object_46 : decode prog_1_method_16_code 46 = .ok (.aload 4, 2) := by decide +kernel
theorem d_cJT_object_48 : decode prog_1_method_16_code 48 = .ok (.invokevirtual 174, 3) := by decide +kernel
theorem d_cJT_object_51 : decode prog_1_method_16_code 51 = .ok (.ireturn, 1) := by decide +kernel
set_option maxHeartbeats 4000000 in
set_option maxRecDepth 100000 in
theorem w_cJT_object_J51 {p : Program} {l : Launch} {e : Env} {s : State} {m : MethodId} {args : Array Value} {below : List Frame} {meth : Method} {c : Code} {A : Nat → Prop} {D : va_G} {ad : Nat → Nat → Nat} {cc : Nat → ClassId} {sad sav : Nat → Nat} {Q : State → Prop} {cR sR : Nat} (hfl : l.flags = flags0) (hC : MCc sad sav "JoinedTrees" prog_1_method_16_code 5 (some .int) p s m args meth c A D cc) {N : Nat → Nat} {x0 : Nat} {S : CS} {t0 : Int32} {o : ((CS × Int32) ⊕ (CS × Nat))} (Heq : m_cJT_object_J51 N x0 S t0 = some o) (Kr : ∀ r : ((CS × Int32) ⊕ (CS × Nat)), o = r → (∀ v9 : CS × Int32, r = .inl v9 → ∀ (pc : Nat) (H : Heap) (locs : List Loc) (ls : Array Slot), decode prog_1_method_16_code pc = .ok (.ireturn, 1) → va_P D cls (cw ad cc N v9.1) H → va_D A (cw ad cc N v9.1) → va_S A s.heap H locs → W p l e ({ frames := 7, cells := cR, slots := sR, locals := 118 }) s m args below meth c H locs 0 0 Q (F0 m pc ls [.int v9.2])) ∧ (∀ t9 : CS × Nat, r = .inr t9 → (1 ≤ cR ∧ 6 ≤ sR) ∧ (∀ (pc : Nat) (H : Heap) (locs : List Loc) (ls : Array Slot), thD prog_1_method_16_code t9.2 pc → ls.size = 5 → va_P D cls (cw ad cc N t9.1) H → va_D A (cw ad cc N t9.1) → va_S A s.heap H locs → W p l e ({ frames := 7, cells := cR, slots := sR, locals := 118 }) s m args below meth c H locs 0 0 Q (F0 m pc ls [])) ∧ (∀ (pc : Nat) (H : Heap) (locs : List Loc) (ls : Array Slot) (st0 rest9 : List Value) (A9 : Nat → Prop), tx_Thr p l e ({ frames := 7, cells := cR, slots := sR, locals := 118 }) s m args below meth c H locs 0 0 1 6 (F0 m pc ls st0) rest9 (exN t9.2) A9 (fun H1 => va_P D cls (cw ad cc N t9.1) H1) → (∀ q, A9 q → A q) → va_S A s.heap H locs → W p l e ({ frames := 7, cells := cR, slots := sR, locals := 118 }) s m args below meth c H locs 0 0 Q (F0 m pc ls st0)))) : ∀ (H : Heap) (locs : List Loc) (ls : Array Slot), va_P D cls (cw ad cc N S) H → va_D A (cw ad cc N S) → va_S A s.heap H locs → lv_has ls 5 [(0, .ref (ad 11 x0))] → W p l e ({ frames := 7, cells := cR, slots := sR, locals := 118 }) s m args below meth c H locs 0 0 Q (F0 m 51 ls [.int t0]) := by
  intro H locs ls hP hD hS hl
  obtain ⟨hx, hb, hr, hml, hown, hts, hK, hA, hev, hE, hN, hNS⟩ := id hC
  unfold m_cJT_object_J51 at Heq
  exact (Kr _ (Option.some.inj Heq).symm).1 _ rfl 51 _ _ _ d_cJT_object_51 hP hD hS
def m_cJT_object_J0 (N : Nat → Nat) (x0 : Nat) (S : CS) (x1 : Int32) (x2 : Int32) (x3 : Int32) : Option ((CS × Int32) ⊕ (CS × Nat)) := gl x0 (N 11) (oe (m_cJT_shown N x0 S x1) (fun o_1 => (if x3 < 0 then m_cJT_object_J15 N x0 o_1.1 else (if x3 ≤ 1 then oe (m_cJT_objectAt N x0 o_1.1 x2) (fun o_6 => (if x3 = 0 then gn o_6.2 (N 3) (fun j_18 => m_cJT_object_J51 N x0 o_6.1 (o_6.1.i 3 2 j_18)) else gn o_6.2 (N 3) (fun j_10 => gn (o_6.1.r 11 2 x0) (N 10) (fun j_13 => ob (m_cVw_filledIn N j_13 o_6.1 j_10) (fun o_16 => m_cJT_object_J51 N x0 o_16.1 o_16.2))))) (fun t_8 => some (.inr t_8)) else m_cJT_object_J15 N x0 o_1.1))) (fun t_3 => some (.inr t_3)))
theorem d_cJT_object_34 : decode prog_1_method_16_code 34 = .ok (.aload 4, 2) := by decide +kernel
theorem d_cJT_object_36 : decode prog_1_method_16_code 36 = .ok (.getfield 171, 3) := by decide +kernel
theorem d_cJT_object_39 : decode prog_1_method_16_code 39 = .ok (.goto 12, 3) := by decide +kernel
set_option maxHeartbeats 4000000 in
set_option maxRecDepth 100000 in
theorem w_cJT_object_J0 {p : Program} {l : Launch} {e : Env} {s : State} {m : MethodId} {args : Array Value} {below : List Frame} {meth : Method} {c : Code} {A : Nat → Prop} {D : va_G} {ad : Nat → Nat → Nat} {cc : Nat → ClassId} {sad sav : Nat → Nat} {Q : State → Prop} {cR sR : Nat} (hfl : l.flags = flags0) (hC : MCc sad sav "JoinedTrees" prog_1_method_16_code 5 (some .int) p s m args meth c A D cc) {N : Nat → Nat} {x0 : Nat} {S : CS} {x1 : Int32} {x2 : Int32} {x3 : Int32} {o : ((CS × Int32) ⊕ (CS × Nat))} (Heq : m_cJT_object_J0 N x0 S x1 x2 x3 = some o) (Kr : ∀ r : ((CS × Int32) ⊕ (CS × Nat)), o = r → (∀ v9 : CS × Int32, r = .inl v9 → ∀ (pc : Nat) (H : Heap) (locs : List Loc) (ls : Array Slot), decode prog_1_method_16_code pc = .ok (.ireturn, 1) → va_P D cls (cw ad cc N v9.1) H → va_D A (cw ad cc N v9.1) → va_S A s.heap H locs → W p l e ({ frames := 7, cells := cR, slots := sR, locals := 118 }) s m args below meth c H locs 0 0 Q (F0 m pc ls [.int v9.2])) ∧ (∀ t9 : CS × Nat, r = .inr t9 → (1 ≤ cR ∧ 6 ≤ sR) ∧ (∀ (pc : Nat) (H : Heap) (locs : List Loc) (ls : Array Slot), thD prog_1_method_16_code t9.2 pc → ls.size = 5 → va_P D cls (cw ad cc N t9.1) H → va_D A (cw ad cc N t9.1) → va_S A s.heap H locs → W p l e ({ frames := 7, cells := cR, slots := sR, locals := 118 }) s m args below meth c H locs 0 0 Q (F0 m pc ls [])) ∧ (∀ (pc : Nat) (H : Heap) (locs : List Loc) (ls : Array Slot) (st0 rest9 : List Value) (A9 : Nat → Prop), tx_Thr p l e ({ frames := 7, cells := cR, slots := sR, locals := 118 }) s m args below meth c H locs 0 0 1 6 (F0 m pc ls st0) rest9 (exN t9.2) A9 (fun H1 => va_P D cls (cw ad cc N t9.1) H1) → (∀ q, A9 q → A q) → va_S A s.heap H locs → W p l e ({ frames := 7, cells := cR, slots := sR, locals := 118 }) s m args below meth c H locs 0 0 Q (F0 m pc ls st0)))) : ∀ (H : Heap) (locs : List Loc) (ls : Array Slot), va_P D cls (cw ad cc N S) H → va_D A (cw ad cc N S) → va_S A s.heap H locs → lv_has ls 5 [(0, .ref (ad 11 x0)), (1, .int x1), (2, .int x2), (3, .int x3)] → W p l e ({ frames := 7, cells := cR, slots := sR, locals := 118 }) s m args below meth c H locs 0 0 Q (F0 m 0 ls []) := by
  intro H locs ls hP hD hS hl
  obtain ⟨hx, hb, hr, hml, hown, hts, hK, hA, hev, hE, hN, hNS⟩ := id hC
  unfold m_cJT_object_J0 at Heq
  refine lv_aload_n hx hb d_cJT_object_0 rfl (lv_at hl 0 rfl) ?_
  refine lv_iload_n hx hb d_cJT_object_1 rfl (lv_at hl 1 rfl) ?_
  obtain ⟨hl_x0_11, Heq⟩ := gl_some Heq
  have hFc := fr_all hD hS hA
  rcases oe_some Heq with ⟨o_1, h_2, Heq⟩ | ⟨t_3, h_2, Heq⟩
  case inr => exact ((Kr _ (Option.some.inj Heq).symm).2 _ rfl).2.2 2 _ _ _ _ _ _ (tx_runV (As := [.int x1]) (rest := []) ⟨hx, hb, hml, hown, hts⟩ (g_cJT_shown_t l hfl D H.size (ad := ad) (cc := cc) (sad := sad) (sav := sav) h_2) (cw_v 1 hts kw_593 kw_590 kw_592 kp_3 kw_1 rfl rfl (by decide +kernel) ⟨Nat.le_of_ble_eq_true rfl, Nat.le_of_ble_eq_true rfl⟩) ⟨c_blind, va_recv hK hP (ci := 11) (q0 := cPos N 11 x0) rfl (cw_obj (k := 11) (by decide) hl_x0_11), fun U hU hW => c_pre hU hW hP hK hD hev hE hN hNS hS hFc⟩ rfl rfl hl.1 rfl (lv_room (Nat.le_of_ble_eq_true rfl)) d_cJT_object_2 ((Kr _ (Option.some.inj Heq).symm).2 _ rfl).1) hFc hS
  refine va_callq (va_runV (As := [.int x1]) (rest := []) ⟨hx, hb, hml, hown, hts⟩ (g_cJT_shown l hfl D H.size (ad := ad) (cc := cc) (sad := sad) (sav := sav) h_2) (cw_v 1 hts kw_593 kw_590 kw_592 kp_3 kw_1 rfl rfl (by decide +kernel) ⟨Nat.le_of_ble_eq_true rfl, Nat.le_of_ble_eq_true rfl⟩) ⟨c_blind, va_recv hK hP (ci := 11) (q0 := cPos N 11 x0) rfl (cw_obj (k := 11) (by decide) hl_x0_11), fun U hU hW => c_pre hU hW hP hK hD hev hE hN hNS hS hFc⟩ rfl rfl hl.1 rfl (lv_room (Nat.le_of_ble_eq_true rfl)) d_cJT_object_2 ⟨Nat.zero_le _, Nat.zero_le _⟩) hS (fun q _ h => hFc q h) hFc (fun rz u t H1 locs ht hvm hw hB hz1 hk1 hS => ?_)
  obtain ⟨hP, -, hD1⟩ := hB
  rw [ht] at hP
  have hD := hD1.weaken (fun _ q _ h => hFc q.1 h)
  generalize H1 = H at hP hS ⊢
  refine W.cs (cells' := 0) (slots' := 0) rfl rfl ?_
  subst hw
  refine w_v (y := rv ad 4 o_1.2) rfl ?_
  refine lv_pop hx hb d_cJT_object_5 (by first | rfl | exact rv_cat) ?_
  refine lv_iload_n hx hb d_cJT_object_6 rfl (lv_at hl 3 rfl) ?_
  refine lv_if_lt (tgt := 15) hx hb d_cJT_object_7 (by decide) (fun c_4 => ?_) (fun c_4 => ?_)
  · replace Heq := (if_pos c_4).symm.trans Heq
    exact w_cJT_object_J15 hfl hC Heq Kr _ _ _ hP hD hS (lv_sub hl [0] rfl)
  · replace Heq := (if_neg c_4).symm.trans Heq
    refine lv_iload_n hx hb d_cJT_object_10 rfl (lv_at hl 3 rfl) ?_
    refine lv_iconst (v := 1) hx hb d_cJT_object_11 (by decide) ?_
    refine lv_icmp_le (tgt := 23) hx hb d_cJT_object_12 (by decide) (fun c_5 => ?_) (fun c_5 => ?_)
    · replace Heq := (if_pos c_5).symm.trans Heq
      refine lv_aload_n hx hb d_cJT_object_23 rfl (lv_at hl 0 rfl) ?_
      refine lv_iload_n hx hb d_cJT_object_24 rfl (lv_at hl 2 rfl) ?_
      have hFc := fr_all hD hS hA
      rcases oe_some Heq with ⟨o_6, h_7, Heq⟩ | ⟨t_8, h_7, Heq⟩
      case inr => exact ((Kr _ (Option.some.inj Heq).symm).2 _ rfl).2.2 25 _ _ _ _ _ _ (tx_runV (As := [.int x2]) (rest := []) ⟨hx, hb, hml, hown, hts⟩ (g_cJT_objectAt_t l hfl D H.size (ad := ad) (cc := cc) (sad := sad) (sav := sav) h_7) (cw_v 1 hts kw_616 kw_613 kw_615 kp_7 kw_1 rfl rfl (by decide +kernel) ⟨Nat.le_of_ble_eq_true rfl, Nat.le_of_ble_eq_true rfl⟩) ⟨c_blind, va_recv hK hP (ci := 11) (q0 := cPos N 11 x0) rfl (cw_obj (k := 11) (by decide) hl_x0_11), fun U hU hW => c_pre hU hW hP hK hD hev hE hN hNS hS hFc⟩ rfl rfl hl.1 rfl (lv_room (Nat.le_of_ble_eq_true rfl)) d_cJT_object_25 ((Kr _ (Option.some.inj Heq).symm).2 _ rfl).1) hFc hS
      refine va_callq (va_runV (As := [.int x2]) (rest := []) ⟨hx, hb, hml, hown, hts⟩ (g_cJT_objectAt l hfl D H.size (ad := ad) (cc := cc) (sad := sad) (sav := sav) h_7) (cw_v 1 hts kw_616 kw_613 kw_615 kp_7 kw_1 rfl rfl (by decide +kernel) ⟨Nat.le_of_ble_eq_true rfl, Nat.le_of_ble_eq_true rfl⟩) ⟨c_blind, va_recv hK hP (ci := 11) (q0 := cPos N 11 x0) rfl (cw_obj (k := 11) (by decide) hl_x0_11), fun U hU hW => c_pre hU hW hP hK hD hev hE hN hNS hS hFc⟩ rfl rfl hl.1 rfl (lv_room (Nat.le_of_ble_eq_true rfl)) d_cJT_object_25 ⟨Nat.zero_le _, Nat.zero_le _⟩) hS (fun q _ h => hFc q h) hFc (fun rz u t H1 locs ht hvm hw hB hz1 hk1 hS => ?_)
      obtain ⟨hP, -, hD1⟩ := hB
      rw [ht] at hP
      have hD := hD1.weaken (fun _ q _ h => hFc q.1 h)
      generalize H1 = H at hP hS ⊢
      refine W.cs (cells' := 0) (slots' := 0) rfl rfl ?_
      subst hw
      refine w_v (y := rv ad 3 o_6.2) rfl ?_
      refine tx_astore (x := o_6.2.map (ad 3)) (lv' := [(4, rv ad 3 o_6.2), (0, .ref (ad 11 x0)), (1, .int x1), (2, .int x2), (3, .int x3)]) hx hb d_cJT_object_28 hl (by decide) rfl (fun ls hl => ?_)
      refine lv_iload_n hx hb d_cJT_object_30 rfl (lv_at hl 4 rfl) ?_
      refine lv_if_ne (tgt := 42) hx hb d_cJT_object_31 (by decide) (fun c_9 => ?_) (fun c_9 => ?_)
      · replace Heq := (if_neg c_9).symm.trans Heq
        refine lv_aload_n hx hb d_cJT_object_42 rfl (lv_at hl 1 rfl) ?_
        refine va_get (D := D) (ci := 11) (v := rv ad 10 (o_6.1.r 11 2 x0)) (C := R_JT) (T := F_JT) (N := 13) hx hb hts i_JT hown hK hP (cPos N 11 x0) (cw_obj (k := 11) (by decide) hl_x0_11) rfl 2 (by decide) (hts _ kw_423) (fun _ h9 => h9) rfl d_cJT_object_43 ?_
        refine tx_aload (x := o_6.2.map (ad 3)) hx hb d_cJT_object_46 (lv_at hl 0 rfl) ?_
        refine w_v (y := rv ad 3 o_6.2) rfl ?_
        obtain ⟨j_10, hj_11, hl_12, Heq⟩ := gn_some Heq
        refine w_s (st' := [.ref (ad 3 j_10), rv ad 10 (o_6.1.r 11 2 x0)]) (congrArg (fun z9 : Option Nat => [rv ad 3 z9, rv ad 10 (o_6.1.r 11 2 x0)]) hj_11) ?_
        obtain ⟨j_13, hj_14, hl_15, Heq⟩ := gn_some Heq
        refine w_s (st' := [.ref (ad 3 j_10), .ref (ad 10 j_13)]) (congrArg (fun z9 : Option Nat => [.ref (ad 3 j_10), rv ad 10 z9]) hj_14) ?_
        obtain ⟨o_16, h_17, Heq⟩ := ob_some Heq
        have hFc := fr_all hD hS hA
        refine va_calli (va_runV (As := [.ref (ad 3 j_10)]) (rest := []) ⟨hx, hb, hml, hown, hts⟩ (g_cVw_filledIn l D H.size (ad := ad) (cc := cc) (sad := sad) (sav := sav) h_17) (cw_v 1 hts kw_819 kw_816 kw_817 kw_818 kw_6 rfl rfl (by decide +kernel) ⟨Nat.le_of_ble_eq_true rfl, Nat.le_of_ble_eq_true rfl⟩) ⟨c_blind, va_recv hK hP (ci := 10) (q0 := cPos N 10 j_13) rfl (cw_obj (k := 10) (by decide) hl_15), fun U hU hW => c_pre hU hW hP hK hD hev hE hN hNS hS hFc⟩ rfl rfl hl.1 rfl (lv_room (Nat.le_of_ble_eq_true rfl)) d_cJT_object_48 ⟨Nat.zero_le _, Nat.zero_le _⟩) hS (fun q _ h => hFc q h) hFc (fun rz u t H1 locs ht hvm hw hB hz1 hk1 hS => ?_)
        obtain ⟨hP, -, hD1⟩ := hB
        rw [ht] at hP
        have hD := hD1.weaken (fun _ q _ h => hFc q.1 h)
        generalize H1 = H at hP hS ⊢
        refine W.cs (cells' := 0) (slots' := 0) rfl rfl ?_
        subst hw
        exact w_cJT_object_J51 hfl hC Heq Kr _ _ _ hP hD hS (lv_sub hl [1] rfl)
      · replace Heq := (if_pos c_9).symm.trans Heq
        refine tx_aload (x := o_6.2.map (ad 3)) hx hb d_cJT_object_34 (lv_at hl 0 rfl) ?_
        refine w_v (y := rv ad 3 o_6.2) rfl ?_
        obtain ⟨j_18, hj_19, hl_20, Heq⟩ := gn_some Heq
        refine w_s (st' := [.ref (ad 3 j_18)]) (congrArg (fun z9 : Option Nat => [rv ad 3 z9]) hj_19) ?_
        refine va_get (D := D) (ci := 3) (v := .int (o_6.1.i 3 2 j_18)) (C := R_Op) (T := F_Op) (N := 15) hx hb hts i_Op hown hK hP (cPos N 3 j_18) (cw_obj (k := 3) (by decide) hl_20) rfl 2 (by decide) (hts _ kw_62) (fun _ h9 => h9) rfl d_cJT_object_36 ?_
        refine lv_goto (tgt := 51) hx hb d_cJT_object_39 (by decide) ?_
        exact w_cJT_object_J51 hfl hC Heq Kr _ _ _ hP hD hS (lv_sub hl [1] rfl)
    · replace Heq := (if_neg c_5).symm.trans Heq
      exact w_cJT_object_J15 hfl hC Heq Kr _ _ _ hP hD hS (lv_sub hl [0] rfl)
def m_cJT_object (N : Nat → Nat) (x0 : Nat) (S : CS) (x1 : Int32) (x2 : Int32) (x3 : Int32) : Option ((CS × Int32) ⊕ (CS × Nat)) := m_cJT_object_J0 N x0 S x1 x2 x3
set_option maxHeartbeats 4000000 in
theorem g_cJT_object (l : Launch) (hfl : l.flags = flags0) (D : va_G) (sz : Nat) {ad : Nat → Nat → Nat} {cc : Nat → ClassId} {sad sav : Nat → Nat} {N : Nat → Nat} {x0 : Nat} {S : CS} {x1 : Int32} {x2 : Int32} {x3 : Int32} {o : CS × Int32} (Heq : m_cJT_object N x0 S x1 x2 x3 = some (.inl o)) : Met l ⟨"JoinedTrees", "object", "(III)I"⟩ (Cond.code ⟨"JoinedTrees", "object", "(III)I"⟩ prog_1_method_16_code 5 (some .int) :: gb) ({ frames := 7, cells := 0, slots := 0, locals := 118 }) (cPc sad sav D (cw ad cc N S) (cty cc) sz [.ref (ad 11 x0), .int x1, .int x2, .int x3]) (va_Qi (fun (r : Int32) (_ : Unit) => r = o.2) (fun _ t => gO D (cw ad cc N o.1) (cty cc) (va_A (cw ad cc N S) sz) t) (va_A (cw ad cc N S) sz)) 0 0 (va_A (cw ad cc N S) sz) := by
  refine Met.ofW (cc := prog_1_method_16_code) (maxL := 5) (ret := (some .int)) (by decide) rfl ?_
  intro p e s m args below meth c s₁ B hml hv
  obtain ⟨rfl, hsz, hP, hK, hD0, hev, hE, hN⟩ := hv
  have hx := B.exec
  have hb := B.bytes
  have hr := B.returns
  have hts : ∀ w9 ∈ gb, w9.before [.ref (ad 11 x0), .int x1, .int x2, .int x3].toArray s = true := fun w9 h => atoms_spec (ws := Cond.code ⟨"JoinedTrees", "object", "(III)I"⟩ prog_1_method_16_code 5 (some .int) :: gb) B.pre w9 (List.mem_cons_of_mem _ h)
  have hown : s.vm.findClass "JoinedTrees" = some m.cls := findClass_of_methodNamed B.named
  have hlocks := B.notSynchronized
  have hNS := ns_of hP
  subst hsz
  have hD := hD0.self (sz := s.heap.size)
  generalize hAe : va_A (cw ad cc N S) s.heap.size = A at hD hev hE hNS ⊢
  have hA : ∀ q : Nat, s.heap.size ≤ q → A q := fun q h => by rw [← hAe]; exact Or.inr h
  have hS : va_S A s.heap s.heap [] := va_S.rf
  obtain ⟨ls, hl, hle⟩ : ∃ ls : Array Slot, lv_has ls 5 [(0, .ref (ad 11 x0)), (1, .int x1), (2, .int x2), (3, .int x3)] ∧ entryFrame m ([.ref (ad 11 x0), .int x1, .int x2, .int x3] : List Value).toArray 5 = F0 m 0 ls [] := by
    exact ⟨_, lv_entry (n := 5) _ (Nat.le_of_ble_eq_true rfl), lg_entry_eq ..⟩
  rw [hle]
  refine w_cJT_object_J0 (cR := 0) (sR := 0) hfl ⟨hx, hb, hr, hml, hown, hts, hK, hA, hev, hE, hN, hNS⟩ Heq (fun r h => ⟨fun v9 hv9 pc H locs ls hd hP hD hS => ?_, fun t9 ht9 => (by subst h; cases ht9)⟩) _ _ _ hP hD hS (lv_sub hl [0, 1, 2, 3] rfl)
  subst h
  cases hv9
  exact W.iret hx hb hr (fun t ht hW => ⟨⟨_, (), rfl, rfl, by rw [ht]; exact hP, va_K.moved hW.alike hK, hD⟩, hS.F ht⟩) hS.2.2 hd
set_option maxHeartbeats 4000000 in
theorem g_cJT_object_t (l : Launch) (hfl : l.flags = flags0) (D : va_G) (sz : Nat) {ad : Nat → Nat → Nat} {cc : Nat → ClassId} {sad sav : Nat → Nat} {N : Nat → Nat} {x0 : Nat} {S : CS} {x1 : Int32} {x2 : Int32} {x3 : Int32} {o : CS × Nat} (Heq : m_cJT_object N x0 S x1 x2 x3 = some (.inr o)) : MeT l ⟨"JoinedTrees", "object", "(III)I"⟩ (Cond.code ⟨"JoinedTrees", "object", "(III)I"⟩ prog_1_method_16_code 5 (some .int) :: gb) ({ frames := 7, cells := 1, slots := 6, locals := 118 }) (cPc sad sav D (cw ad cc N S) (cty cc) sz [.ref (ad 11 x0), .int x1, .int x2, .int x3]) (exN o.2) (va_A (cw ad cc N S) sz) (fun H1 => va_P D cls (cw ad cc N o.1) H1) 1 6 := by
  refine MeT.ofW (cc := prog_1_method_16_code) (maxL := 5) (ret := (some .int)) (by decide) rfl ?_
  intro p e s m args below meth c s₁ B hml hno hv
  obtain ⟨rfl, hsz, hP, hK, hD0, hev, hE, hN⟩ := hv
  have hx := B.exec
  have hb := B.bytes
  have hr := B.returns
  have hts : ∀ w9 ∈ gb, w9.before [.ref (ad 11 x0), .int x1, .int x2, .int x3].toArray s = true := fun w9 h => atoms_spec (ws := Cond.code ⟨"JoinedTrees", "object", "(III)I"⟩ prog_1_method_16_code 5 (some .int) :: gb) B.pre w9 (List.mem_cons_of_mem _ h)
  have hown : s.vm.findClass "JoinedTrees" = some m.cls := findClass_of_methodNamed B.named
  have hlocks := B.notSynchronized
  have hNS := ns_of hP
  subst hsz
  have hD := hD0.self (sz := s.heap.size)
  generalize hAe : va_A (cw ad cc N S) s.heap.size = A at hD hev hE hNS ⊢
  have hA : ∀ q : Nat, s.heap.size ≤ q → A q := fun q h => by rw [← hAe]; exact Or.inr h
  have hS : va_S A s.heap s.heap [] := va_S.rf
  obtain ⟨ls, hl, hle⟩ : ∃ ls : Array Slot, lv_has ls 5 [(0, .ref (ad 11 x0)), (1, .int x1), (2, .int x2), (3, .int x3)] ∧ entryFrame m ([.ref (ad 11 x0), .int x1, .int x2, .int x3] : List Value).toArray 5 = F0 m 0 ls [] := by
    exact ⟨_, lv_entry (n := 5) _ (Nat.le_of_ble_eq_true rfl), lg_entry_eq ..⟩
  rw [hle]
  refine w_cJT_object_J0 (cR := 1) (sR := 6) hfl ⟨hx, hb, hr, hml, hown, hts, hK, hA, hev, hE, hN, hNS⟩ Heq (fun r h => ⟨fun v9 hv9 => (by subst h; cases hv9), fun t9 ht9 => ⟨⟨Nat.le_refl _, Nat.le_refl _⟩, fun pc H locs ls hd hsz hP hD hS => ?_, fun pc H locs ls st0 rest9 A9 hr9 hF9 hS => ?_⟩⟩) _ _ _ hP hD hS (lv_sub hl [0, 1, 2, 3] rfl)
  · subst h; cases ht9; exact tx_thr hfl hx hb hno hlocks hown hts hev hN hNS hd (hsz.trans hml.symm) hP hS hA (Nat.le_refl _) (Nat.le_refl _) (Nat.le_of_ble_eq_true rfl) (Nat.le_of_ble_eq_true rfl)
  · subst h; cases ht9; exact tx_on hr9 hno hlocks hS hF9
def m_cJT_key_J61 (N : Nat → Nat) (x0 : Nat) (S : CS) : Option ((CS × Int32) ⊕ (CS × Nat)) := some (.inr (S, 3))
theorem d_cJT_key_0 : decode prog_1_method_17_code 0 = .ok (.aload_n 0, 1) := by decide +kernel
theorem d_cJT_key_1 : decode prog_1_method_17_code 1 = .ok (.iload_n 1, 1) := by decide +kernel
theorem d_cJT_key_2 : decode prog_1_method_17_code 2 = .ok (.invokevirtual 105, 3) := by decide +kernel
theorem d_cJT_key_5 : decode prog_1_method_17_code 5 = .ok (.pop, 1) := by decide +kernel
theorem d_cJT_key_6 : decode prog_1_method_17_code 6 = .ok (.aload_n 0, 1) := by decide +kernel
theorem d_cJT_key_7 : decode prog_1_method_17_code 7 = .ok (.getfield 30, 3) := by decide +kernel
theorem d_cJT_key_10 : decode prog_1_method_17_code 10 = .ok (.aload_n 0, 1) := by decide +kernel
theorem d_cJT_key_11 : decode prog_1_method_17_code 11 = .ok (.iload_n 2, 1) := by decide +kernel
theorem d_cJT_key_12 : decode prog_1_method_17_code 12 = .ok (.invokevirtual 116, 3) := by decide +kernel
theorem d_cJT_key_15 : decode prog_1_method_17_code 15 = .ok (.iload_n 3, 1) := by decide +kernel
theorem d_cJT_key_16 : decode prog_1_method_17_code 16 = .ok (.invokevirtual 148, 3) := by decide +kernel
theorem d_cJT_key_19 : decode prog_1_method_17_code 19 = .ok (.astore 5, 2) := by decide +kernel
theorem d_cJT_key_21 : decode prog_1_method_17_code 21 = .ok (.aload_n 0, 1) := by decide +kernel
theorem d_cJT_key_22 : decode prog_1_method_17_code 22 = .ok (.aload 5, 2) := by decide +kernel
theorem d_cJT_key_24 : decode prog_1_method_17_code 24 = .ok (.invokevirtual 152, 3) := by decide +kernel
theorem d_cJT_key_27 : decode prog_1_method_17_code 27 = .ok (.aload 5, 2) := by decide +kernel
theorem d_cJT_key_29 : decode prog_1_method_17_code 29 = .ok (.getfield 278, 3) := by decide +kernel
theorem d_cJT_key_32 : decode prog_1_method_17_code 32 = .ok (.astore 6, 2) := by decide +kernel
theorem d_cJT_key_34 : decode prog_1_method_17_code 34 = .ok (.iload 4, 2) := by decide +kernel
theorem d_cJT_key_36 : decode prog_1_method_17_code 36 = .ok (.iconst (-1), 1) := by decide +kernel
theorem d_cJT_key_37 : decode prog_1_method_17_code 37 = .ok (.if_icmp .ne 9, 3) := by decide +kernel
theorem d_cJT_key_46 : decode prog_1_method_17_code 46 = .ok (.iload 4, 2) := by decide +kernel
theorem d_cJT_key_48 : decode prog_1_method_17_code 48 = .ok (.ifCond .lt 13, 3) := by decide +kernel
theorem d_cJT_key_61 : decode prog_1_method_17_code 61 = .ok (.new 178, 3) := by decide +kernel
theorem d_cJT_key_64 : decode prog_1_method_17_code 64 = .ok (.dup, 1) := by decide +kernel
theorem d_cJT_key_65 : decode prog_1_method_17_code 65 = .ok (.invokespecial 180, 3) := by decide +kernel
theorem d_cJT_key_68 : decode prog_1_method_17_code 68 = .ok (.athrow, 1) := by decide +kernel
set_option maxHeartbeats 4000000 in
set_option maxRecDepth 100000 in
theorem w_cJT_key_J61 {p : Program} {l : Launch} {e : Env} {s : State} {m : MethodId} {args : Array Value} {below : List Frame} {meth : Method} {c : Code} {A : Nat → Prop} {D : va_G} {ad : Nat → Nat → Nat} {cc : Nat → ClassId} {sad sav : Nat → Nat} {Q : State → Prop} {cR sR : Nat} (hfl : l.flags = flags0) (hC : MCc sad sav "JoinedTrees" prog_1_method_17_code 7 (some .int) p s m args meth c A D cc) {N : Nat → Nat} {x0 : Nat} {S : CS} {o : ((CS × Int32) ⊕ (CS × Nat))} (Heq : m_cJT_key_J61 N x0 S = some o) (Kr : ∀ r : ((CS × Int32) ⊕ (CS × Nat)), o = r → (∀ v9 : CS × Int32, r = .inl v9 → ∀ (pc : Nat) (H : Heap) (locs : List Loc) (ls : Array Slot), decode prog_1_method_17_code pc = .ok (.ireturn, 1) → va_P D cls (cw ad cc N v9.1) H → va_D A (cw ad cc N v9.1) → va_S A s.heap H locs → W p l e ({ frames := 8, cells := cR, slots := sR, locals := 140 }) s m args below meth c H locs 0 0 Q (F0 m pc ls [.int v9.2])) ∧ (∀ t9 : CS × Nat, r = .inr t9 → (1 ≤ cR ∧ 6 ≤ sR) ∧ (∀ (pc : Nat) (H : Heap) (locs : List Loc) (ls : Array Slot), thD prog_1_method_17_code t9.2 pc → ls.size = 7 → va_P D cls (cw ad cc N t9.1) H → va_D A (cw ad cc N t9.1) → va_S A s.heap H locs → W p l e ({ frames := 8, cells := cR, slots := sR, locals := 140 }) s m args below meth c H locs 0 0 Q (F0 m pc ls [])) ∧ (∀ (pc : Nat) (H : Heap) (locs : List Loc) (ls : Array Slot) (st0 rest9 : List Value) (A9 : Nat → Prop), tx_Thr p l e ({ frames := 8, cells := cR, slots := sR, locals := 140 }) s m args below meth c H locs 0 0 1 6 (F0 m pc ls st0) rest9 (exN t9.2) A9 (fun H1 => va_P D cls (cw ad cc N t9.1) H1) → (∀ q, A9 q → A q) → va_S A s.heap H locs → W p l e ({ frames := 8, cells := cR, slots := sR, locals := 140 }) s m args below meth c H locs 0 0 Q (F0 m pc ls st0)))) : ∀ (H : Heap) (locs : List Loc) (ls : Array Slot), va_P D cls (cw ad cc N S) H → va_D A (cw ad cc N S) → va_S A s.heap H locs → lv_has ls 7 [(0, .ref (ad 11 x0))] → W p l e ({ frames := 8, cells := cR, slots := sR, locals := 140 }) s m args below meth c H locs 0 0 Q (F0 m 61 ls []) := by
  intro H locs ls hP hD hS hl
  obtain ⟨hx, hb, hr, hml, hown, hts, hK, hA, hev, hE, hN, hNS⟩ := id hC
  unfold m_cJT_key_J61 at Heq
  exact ((Kr _ (Option.some.inj Heq).symm).2 _ rfl).2.1 61 _ _ _ ⟨⟨show 1 ≤ 3 by decide, show 3 ≤ 5 by decide⟩, d_cJT_key_61, d_cJT_key_64, d_cJT_key_65, d_cJT_key_68⟩ hl.1 hP hD hS
def m_cJT_key_J0 (N : Nat → Nat) (x0 : Nat) (S : CS) (x1 : Int32) (x2 : Int32) (x3 : Int32) (x4 : Int32) : Option ((CS × Int32) ⊕ (CS × Nat)) := gl x0 (N 11) (oe (m_cJT_shown N x0 S x1) (fun o_1 => oe (m_cJT_mapAt N x0 o_1.1 x2) (fun o_4 => gn o_4.2 (N 3) (fun j_7 => gn (o_1.1.r 11 2 x0) (N 10) (fun j_10 => ob (m_cVw_spotAt N j_10 o_4.1 j_7 x3) (fun o_13 => oe (m_cJT_needSpot N x0 o_13.1 o_13.2) (fun o_15 => gn o_13.2 (N 7) (fun j_18 => (if x4 = (-1) then gn (o_15.r 7 0 j_18) (N 3) (fun j_35 => some (.inl (o_15, o_15.i 3 9 j_35))) else (if x4 < 0 then m_cJT_key_J61 N x0 o_15 else gn (o_15.r 7 0 j_18) (N 3) (fun j_23 => (if x4 < o_15.i 3 9 j_23 then gn (o_15.r 11 0 x0) (N 8) (fun j_27 => gn (o_15.r 8 2 j_27) (N 5) (fun j_30 => ob (m_cRw_at N j_30 o_15 ((o_15.i 3 8 j_23) + x4)) (fun o_33 => some (.inl (o_33.1, o_33.2))))) else m_cJT_key_J61 N x0 o_15)))))) (fun t_17 => some (.inr t_17)))))) (fun t_6 => some (.inr t_6))) (fun t_3 => some (.inr t_3)))
theorem d_cJT_key_51 : decode prog_1_method_17_code 51 = .ok (.iload 4, 2) := by decide +kernel
theorem d_cJT_key_53 : decode prog_1_method_17_code 53 = .ok (.aload 6, 2) := by decide +kernel
theorem d_cJT_key_55 : decode prog_1_method_17_code 55 = .ok (.getfield 284, 3) := by decide +kernel
theorem d_cJT_key_58 : decode prog_1_method_17_code 58 = .ok (.if_icmp .lt 11, 3) := by decide +kernel
theorem d_cJT_key_69 : decode prog_1_method_17_code 69 = .ok (.aload_n 0, 1) := by decide +kernel
theorem d_cJT_key_70 : decode prog_1_method_17_code 70 = .ok (.getfield 12, 3) := by decide +kernel
theorem d_cJT_key_73 : decode prog_1_method_17_code 73 = .ok (.getfield 287, 3) := by decide +kernel
theorem d_cJT_key_76 : decode prog_1_method_17_code 76 = .ok (.aload 6, 2) := by decide +kernel
theorem d_cJT_key_78 : decode prog_1_method_17_code 78 = .ok (.getfield 290, 3) := by decide +kernel
theorem d_cJT_key_81 : decode prog_1_method_17_code 81 = .ok (.iload 4, 2) := by decide +kernel
theorem d_cJT_key_83 : decode prog_1_method_17_code 83 = .ok (.iadd, 1) := by decide +kernel
theorem d_cJT_key_84 : decode prog_1_method_17_code 84 = .ok (.invokevirtual 293, 3) := by decide +kernel
theorem d_cJT_key_87 : decode prog_1_method_17_code 87 = .ok (.ireturn, 1) := by decide +kernel
theorem d_cJT_key_40 : decode prog_1_method_17_code 40 = .ok (.aload 6, 2) := by decide +kernel
theorem d_cJT_key_42 : decode prog_1_method_17_code 42 = .ok (.getfield 284, 3) := by decide +kernel
theorem d_cJT_key_45 : decode prog_1_method_17_code 45 = .ok (.ireturn, 1) := by decide +kernel
set_option maxHeartbeats 4000000 in
set_option maxRecDepth 100000 in
theorem w_cJT_key_J0 {p : Program} {l : Launch} {e : Env} {s : State} {m : MethodId} {args : Array Value} {below : List Frame} {meth : Method} {c : Code} {A : Nat → Prop} {D : va_G} {ad : Nat → Nat → Nat} {cc : Nat → ClassId} {sad sav : Nat → Nat} {Q : State → Prop} {cR sR : Nat} (hfl : l.flags = flags0) (hC : MCc sad sav "JoinedTrees" prog_1_method_17_code 7 (some .int) p s m args meth c A D cc) {N : Nat → Nat} {x0 : Nat} {S : CS} {x1 : Int32} {x2 : Int32} {x3 : Int32} {x4 : Int32} {o : ((CS × Int32) ⊕ (CS × Nat))} (Heq : m_cJT_key_J0 N x0 S x1 x2 x3 x4 = some o) (Kr : ∀ r : ((CS × Int32) ⊕ (CS × Nat)), o = r → (∀ v9 : CS × Int32, r = .inl v9 → ∀ (pc : Nat) (H : Heap) (locs : List Loc) (ls : Array Slot), decode prog_1_method_17_code pc = .ok (.ireturn, 1) → va_P D cls (cw ad cc N v9.1) H → va_D A (cw ad cc N v9.1) → va_S A s.heap H locs → W p l e ({ frames := 8, cells := cR, slots := sR, locals := 140 }) s m args below meth c H locs 0 0 Q (F0 m pc ls [.int v9.2])) ∧ (∀ t9 : CS × Nat, r = .inr t9 → (1 ≤ cR ∧ 6 ≤ sR) ∧ (∀ (pc : Nat) (H : Heap) (locs : List Loc) (ls : Array Slot), thD prog_1_method_17_code t9.2 pc → ls.size = 7 → va_P D cls (cw ad cc N t9.1) H → va_D A (cw ad cc N t9.1) → va_S A s.heap H locs → W p l e ({ frames := 8, cells := cR, slots := sR, locals := 140 }) s m args below meth c H locs 0 0 Q (F0 m pc ls [])) ∧ (∀ (pc : Nat) (H : Heap) (locs : List Loc) (ls : Array Slot) (st0 rest9 : List Value) (A9 : Nat → Prop), tx_Thr p l e ({ frames := 8, cells := cR, slots := sR, locals := 140 }) s m args below meth c H locs 0 0 1 6 (F0 m pc ls st0) rest9 (exN t9.2) A9 (fun H1 => va_P D cls (cw ad cc N t9.1) H1) → (∀ q, A9 q → A q) → va_S A s.heap H locs → W p l e ({ frames := 8, cells := cR, slots := sR, locals := 140 }) s m args below meth c H locs 0 0 Q (F0 m pc ls st0)))) : ∀ (H : Heap) (locs : List Loc) (ls : Array Slot), va_P D cls (cw ad cc N S) H → va_D A (cw ad cc N S) → va_S A s.heap H locs → lv_has ls 7 [(0, .ref (ad 11 x0)), (1, .int x1), (2, .int x2), (3, .int x3), (4, .int x4)] → W p l e ({ frames := 8, cells := cR, slots := sR, locals := 140 }) s m args below meth c H locs 0 0 Q (F0 m 0 ls []) := by
  intro H locs ls hP hD hS hl
  obtain ⟨hx, hb, hr, hml, hown, hts, hK, hA, hev, hE, hN, hNS⟩ := id hC
  unfold m_cJT_key_J0 at Heq
  refine lv_aload_n hx hb d_cJT_key_0 rfl (lv_at hl 0 rfl) ?_
  refine lv_iload_n hx hb d_cJT_key_1 rfl (lv_at hl 1 rfl) ?_
  obtain ⟨hl_x0_11, Heq⟩ := gl_some Heq
  have hFc := fr_all hD hS hA
  rcases oe_some Heq with ⟨o_1, h_2, Heq⟩ | ⟨t_3, h_2, Heq⟩
  case inr => exact ((Kr _ (Option.some.inj Heq).symm).2 _ rfl).2.2 2 _ _ _ _ _ _ (tx_runV (As := [.int x1]) (rest := []) ⟨hx, hb, hml, hown, hts⟩ (g_cJT_shown_t l hfl D H.size (ad := ad) (cc := cc) (sad := sad) (sav := sav) h_2) (cw_v 1 hts kw_593 kw_590 kw_592 kp_3 kw_1 rfl rfl (by decide +kernel) ⟨Nat.le_of_ble_eq_true rfl, Nat.le_of_ble_eq_true rfl⟩) ⟨c_blind, va_recv hK hP (ci := 11) (q0 := cPos N 11 x0) rfl (cw_obj (k := 11) (by decide) hl_x0_11), fun U hU hW => c_pre hU hW hP hK hD hev hE hN hNS hS hFc⟩ rfl rfl hl.1 rfl (lv_room (Nat.le_of_ble_eq_true rfl)) d_cJT_key_2 ((Kr _ (Option.some.inj Heq).symm).2 _ rfl).1) hFc hS
  refine va_callq (va_runV (As := [.int x1]) (rest := []) ⟨hx, hb, hml, hown, hts⟩ (g_cJT_shown l hfl D H.size (ad := ad) (cc := cc) (sad := sad) (sav := sav) h_2) (cw_v 1 hts kw_593 kw_590 kw_592 kp_3 kw_1 rfl rfl (by decide +kernel) ⟨Nat.le_of_ble_eq_true rfl, Nat.le_of_ble_eq_true rfl⟩) ⟨c_blind, va_recv hK hP (ci := 11) (q0 := cPos N 11 x0) rfl (cw_obj (k := 11) (by decide) hl_x0_11), fun U hU hW => c_pre hU hW hP hK hD hev hE hN hNS hS hFc⟩ rfl rfl hl.1 rfl (lv_room (Nat.le_of_ble_eq_true rfl)) d_cJT_key_2 ⟨Nat.zero_le _, Nat.zero_le _⟩) hS (fun q _ h => hFc q h) hFc (fun rz u t H1 locs ht hvm hw hB hz1 hk1 hS => ?_)
  obtain ⟨hP, -, hD1⟩ := hB
  rw [ht] at hP
  have hD := hD1.weaken (fun _ q _ h => hFc q.1 h)
  generalize H1 = H at hP hS ⊢
  refine W.cs (cells' := 0) (slots' := 0) rfl rfl ?_
  subst hw
  refine w_v (y := rv ad 4 o_1.2) rfl ?_
  refine lv_pop hx hb d_cJT_key_5 (by first | rfl | exact rv_cat) ?_
  refine lv_aload_n hx hb d_cJT_key_6 rfl (lv_at hl 0 rfl) ?_
  refine va_get (D := D) (ci := 11) (v := rv ad 10 (o_1.1.r 11 2 x0)) (C := R_JT) (T := F_JT) (N := 13) hx hb hts i_JT hown hK hP (cPos N 11 x0) (cw_obj (k := 11) (by decide) hl_x0_11) rfl 2 (by decide) (hts _ kw_423) (fun _ h9 => h9) rfl d_cJT_key_7 ?_
  refine lv_aload_n hx hb d_cJT_key_10 rfl (lv_at hl 0 rfl) ?_
  refine lv_iload_n hx hb d_cJT_key_11 rfl (lv_at hl 2 rfl) ?_
  have hFc := fr_all hD hS hA
  rcases oe_some Heq with ⟨o_4, h_5, Heq⟩ | ⟨t_6, h_5, Heq⟩
  case inr => exact ((Kr _ (Option.some.inj Heq).symm).2 _ rfl).2.2 12 _ _ _ _ _ _ (tx_runV (As := [.int x2]) (rest := [rv ad 10 (o_1.1.r 11 2 x0)]) ⟨hx, hb, hml, hown, hts⟩ (g_cJT_mapAt_t l hfl D H.size (ad := ad) (cc := cc) (sad := sad) (sav := sav) h_5) (cw_v 1 hts kw_612 kw_609 kw_611 kp_6 kw_1 rfl rfl (by decide +kernel) ⟨Nat.le_of_ble_eq_true rfl, Nat.le_of_ble_eq_true rfl⟩) ⟨c_blind, va_recv hK hP (ci := 11) (q0 := cPos N 11 x0) rfl (cw_obj (k := 11) (by decide) hl_x0_11), fun U hU hW => c_pre hU hW hP hK hD hev hE hN hNS hS hFc⟩ rfl rfl hl.1 rfl (lv_room (by simp only [List.map_cons, List.map_nil, List.sum_cons, List.sum_nil, rv_cat]; exact Nat.le_of_ble_eq_true rfl)) d_cJT_key_12 ((Kr _ (Option.some.inj Heq).symm).2 _ rfl).1) hFc hS
  refine va_callq (va_runV (As := [.int x2]) (rest := [rv ad 10 (o_1.1.r 11 2 x0)]) ⟨hx, hb, hml, hown, hts⟩ (g_cJT_mapAt l hfl D H.size (ad := ad) (cc := cc) (sad := sad) (sav := sav) h_5) (cw_v 1 hts kw_612 kw_609 kw_611 kp_6 kw_1 rfl rfl (by decide +kernel) ⟨Nat.le_of_ble_eq_true rfl, Nat.le_of_ble_eq_true rfl⟩) ⟨c_blind, va_recv hK hP (ci := 11) (q0 := cPos N 11 x0) rfl (cw_obj (k := 11) (by decide) hl_x0_11), fun U hU hW => c_pre hU hW hP hK hD hev hE hN hNS hS hFc⟩ rfl rfl hl.1 rfl (lv_room (by simp only [List.map_cons, List.map_nil, List.sum_cons, List.sum_nil, rv_cat]; exact Nat.le_of_ble_eq_true rfl)) d_cJT_key_12 ⟨Nat.zero_le _, Nat.zero_le _⟩) hS (fun q _ h => hFc q h) hFc (fun rz u t H1 locs ht hvm hw hB hz1 hk1 hS => ?_)
  obtain ⟨hP, -, hD1⟩ := hB
  rw [ht] at hP
  have hD := hD1.weaken (fun _ q _ h => hFc q.1 h)
  generalize H1 = H at hP hS ⊢
  refine W.cs (cells' := 0) (slots' := 0) rfl rfl ?_
  subst hw
  refine w_v (y := rv ad 3 o_4.2) rfl ?_
  refine lv_iload_n hx hb d_cJT_key_15 rfl (lv_at hl 3 rfl) ?_
  obtain ⟨j_7, hj_8, hl_9, Heq⟩ := gn_some Heq
  refine w_s (st' := [.int x3, .ref (ad 3 j_7), rv ad 10 (o_1.1.r 11 2 x0)]) (congrArg (fun z9 : Option Nat => [.int x3, rv ad 3 z9, rv ad 10 (o_1.1.r 11 2 x0)]) hj_8) ?_
  obtain ⟨j_10, hj_11, hl_12, Heq⟩ := gn_some Heq
  refine w_s (st' := [.int x3, .ref (ad 3 j_7), .ref (ad 10 j_10)]) (congrArg (fun z9 : Option Nat => [.int x3, .ref (ad 3 j_7), rv ad 10 z9]) hj_11) ?_
  obtain ⟨o_13, h_14, Heq⟩ := ob_some Heq
  have hFc := fr_all hD hS hA
  refine va_callq (va_runV (As := [.ref (ad 3 j_7), .int x3]) (rest := []) ⟨hx, hb, hml, hown, hts⟩ (g_cVw_spotAt l D H.size (ad := ad) (cc := cc) (sad := sad) (sav := sav) h_14) (cw_v 2 hts kw_780 kw_777 kw_778 kw_779 kw_6 rfl rfl (by decide +kernel) ⟨Nat.le_of_ble_eq_true rfl, Nat.le_of_ble_eq_true rfl⟩) ⟨c_blind, va_recv hK hP (ci := 10) (q0 := cPos N 10 j_10) rfl (cw_obj (k := 10) (by decide) hl_12), fun U hU hW => c_pre hU hW hP hK hD hev hE hN hNS hS hFc⟩ rfl rfl hl.1 rfl (lv_room (Nat.le_of_ble_eq_true rfl)) d_cJT_key_16 ⟨Nat.zero_le _, Nat.zero_le _⟩) hS (fun q _ h => hFc q h) hFc (fun rz u t H1 locs ht hvm hw hB hz1 hk1 hS => ?_)
  obtain ⟨hP, -, hD1⟩ := hB
  rw [ht] at hP
  have hD := hD1.weaken (fun _ q _ h => hFc q.1 h)
  generalize H1 = H at hP hS ⊢
  refine W.cs (cells' := 0) (slots' := 0) rfl rfl ?_
  subst hw
  refine w_v (y := rv ad 7 o_13.2) rfl ?_
  refine tx_astore (x := o_13.2.map (ad 7)) (lv' := [(5, rv ad 7 o_13.2), (0, .ref (ad 11 x0)), (1, .int x1), (2, .int x2), (3, .int x3), (4, .int x4)]) hx hb d_cJT_key_19 hl (by decide) rfl (fun ls hl => ?_)
  refine lv_aload_n hx hb d_cJT_key_21 rfl (lv_at hl 1 rfl) ?_
  refine tx_aload (x := o_13.2.map (ad 7)) hx hb d_cJT_key_22 (lv_at hl 0 rfl) ?_
  refine w_v (y := rv ad 7 o_13.2) rfl ?_
  refine w_s (st' := [rv ad 7 o_13.2, .ref (ad 11 x0)]) rfl ?_
  have hFc := fr_all hD hS hA
  rcases oe_some Heq with ⟨o_15, h_16, Heq⟩ | ⟨t_17, h_16, Heq⟩
  case inr => exact ((Kr _ (Option.some.inj Heq).symm).2 _ rfl).2.2 24 _ _ _ _ _ _ (tx_runV (As := [rv ad 7 o_13.2]) (rest := []) ⟨hx, hb, hml, hown, hts⟩ (g_cJT_needSpot_t l hfl D H.size (ad := ad) (cc := cc) (sad := sad) (sav := sav) h_16) (cw_v 1 hts kw_789 kw_786 kw_788 kp_14 kw_1 rfl rfl (by decide +kernel) ⟨Nat.le_of_ble_eq_true rfl, Nat.le_of_ble_eq_true rfl⟩) ⟨c_blind, va_recv hK hP (ci := 11) (q0 := cPos N 11 x0) rfl (cw_obj (k := 11) (by decide) hl_x0_11), fun U hU hW => c_pre hU hW hP hK hD hev hE hN hNS hS hFc⟩ rfl rfl hl.1 rfl (lv_room (Nat.le_of_ble_eq_true rfl)) d_cJT_key_24 ((Kr _ (Option.some.inj Heq).symm).2 _ rfl).1) hFc hS
  refine va_callv (va_runV (As := [rv ad 7 o_13.2]) (rest := []) ⟨hx, hb, hml, hown, hts⟩ (g_cJT_needSpot l hfl D H.size (ad := ad) (cc := cc) (sad := sad) (sav := sav) h_16) (cw_v 1 hts kw_789 kw_786 kw_788 kp_14 kw_1 rfl rfl (by decide +kernel) ⟨Nat.le_of_ble_eq_true rfl, Nat.le_of_ble_eq_true rfl⟩) ⟨c_blind, va_recv hK hP (ci := 11) (q0 := cPos N 11 x0) rfl (cw_obj (k := 11) (by decide) hl_x0_11), fun U hU hW => c_pre hU hW hP hK hD hev hE hN hNS hS hFc⟩ rfl rfl hl.1 rfl (lv_room (Nat.le_of_ble_eq_true rfl)) d_cJT_key_24 ⟨Nat.zero_le _, Nat.zero_le _⟩) hS (fun q _ h => hFc q h) hFc (fun u t H1 locs ht hvm hw hB hz1 hk1 hS => ?_)
  obtain ⟨hP, -, hD1⟩ := hB
  rw [ht] at hP
  have hD := hD1.weaken (fun _ q _ h => hFc q.1 h)
  generalize H1 = H at hP hS ⊢
  refine W.cs (cells' := 0) (slots' := 0) rfl rfl ?_
  refine tx_aload (x := o_13.2.map (ad 7)) hx hb d_cJT_key_27 (lv_at hl 0 rfl) ?_
  refine w_v (y := rv ad 7 o_13.2) rfl ?_
  obtain ⟨j_18, hj_19, hl_20, Heq⟩ := gn_some Heq
  refine w_s (st' := [.ref (ad 7 j_18)]) (congrArg (fun z9 : Option Nat => [rv ad 7 z9]) hj_19) ?_
  refine va_get (D := D) (ci := 7) (v := rv ad 3 (o_15.r 7 0 j_18)) (C := R_Sp) (T := F_Sp) (N := 3) hx hb hts i_Sp hown hK hP (cPos N 7 j_18) (cw_obj (k := 7) (by decide) hl_20) rfl 0 (by decide) (hts _ kw_743) (fun _ h9 => h9) rfl d_cJT_key_29 ?_
  refine tx_astore (x := (o_15.r 7 0 j_18).map (ad 3)) (lv' := [(6, rv ad 3 (o_15.r 7 0 j_18)), (5, rv ad 7 o_13.2), (0, .ref (ad 11 x0)), (1, .int x1), (2, .int x2), (3, .int x3), (4, .int x4)]) hx hb d_cJT_key_32 hl (by decide) (by simp [rv, rf_cat]) (fun ls hl => ?_)
  refine lv_iload hx hb d_cJT_key_34 (lv_at hl 6 rfl) ?_
  refine lv_iconst (v := (-1)) hx hb d_cJT_key_36 (by decide) ?_
  refine lv_icmp_ne (tgt := 46) hx hb d_cJT_key_37 (by decide) (fun c_21 => ?_) (fun c_21 => ?_)
  · replace Heq := (if_neg c_21).symm.trans Heq
    refine lv_iload hx hb d_cJT_key_46 (lv_at hl 6 rfl) ?_
    refine lv_if_lt (tgt := 61) hx hb d_cJT_key_48 (by decide) (fun c_22 => ?_) (fun c_22 => ?_)
    · replace Heq := (if_pos c_22).symm.trans Heq
      exact w_cJT_key_J61 hfl hC Heq Kr _ _ _ hP hD hS (lv_sub hl [2] rfl)
    · replace Heq := (if_neg c_22).symm.trans Heq
      refine lv_iload hx hb d_cJT_key_51 (lv_at hl 6 rfl) ?_
      refine tx_aload (x := (o_15.r 7 0 j_18).map (ad 3)) hx hb d_cJT_key_53 (lv_at hl 0 rfl) ?_
      refine w_v (y := rv ad 3 (o_15.r 7 0 j_18)) rfl ?_
      obtain ⟨j_23, hj_24, hl_25, Heq⟩ := gn_some Heq
      refine w_s (st' := [.ref (ad 3 j_23), .int x4]) (congrArg (fun z9 : Option Nat => [rv ad 3 z9, .int x4]) hj_24) ?_
      refine va_get (D := D) (ci := 3) (v := .int (o_15.i 3 9 j_23)) (C := R_Op) (T := F_Op) (N := 15) hx hb hts i_Op hown hK hP (cPos N 3 j_23) (cw_obj (k := 3) (by decide) hl_25) rfl 9 (by decide) (hts _ kw_85) (fun _ h9 => h9) rfl d_cJT_key_55 ?_
      refine lv_icmp_lt (tgt := 69) hx hb d_cJT_key_58 (by decide) (fun c_26 => ?_) (fun c_26 => ?_)
      · replace Heq := (if_pos c_26).symm.trans Heq
        refine lv_aload_n hx hb d_cJT_key_69 rfl (lv_at hl 2 rfl) ?_
        refine va_get (D := D) (ci := 11) (v := rv ad 8 (o_15.r 11 0 x0)) (C := R_JT) (T := F_JT) (N := 13) hx hb hts i_JT hown hK hP (cPos N 11 x0) (cw_obj (k := 11) (by decide) hl_x0_11) rfl 0 (by decide) (hts _ kw_421) (fun _ h9 => h9) rfl d_cJT_key_70 ?_
        obtain ⟨j_27, hj_28, hl_29, Heq⟩ := gn_some Heq
        refine w_s (st' := [.ref (ad 8 j_27)]) (congrArg (fun z9 : Option Nat => [rv ad 8 z9]) hj_28) ?_
        refine va_get (D := D) (ci := 8) (v := rv ad 5 (o_15.r 8 2 j_27)) (C := R_St) (T := F_St) (N := 6) hx hb hts i_St hown hK hP (cPos N 8 j_27) (cw_obj (k := 8) (by decide) hl_29) rfl 2 (by decide) (hts _ kw_170) (fun _ h9 => h9) rfl d_cJT_key_73 ?_
        refine tx_aload (x := (o_15.r 7 0 j_18).map (ad 3)) hx hb d_cJT_key_76 (lv_at hl 0 rfl) ?_
        refine w_v (y := rv ad 3 (o_15.r 7 0 j_18)) rfl ?_
        refine w_s (st' := [.ref (ad 3 j_23), rv ad 5 (o_15.r 8 2 j_27)]) (congrArg (fun z9 : Option Nat => [rv ad 3 z9, rv ad 5 (o_15.r 8 2 j_27)]) hj_24) ?_
        refine va_get (D := D) (ci := 3) (v := .int (o_15.i 3 8 j_23)) (C := R_Op) (T := F_Op) (N := 15) hx hb hts i_Op hown hK hP (cPos N 3 j_23) (cw_obj (k := 3) (by decide) hl_25) rfl 8 (by decide) (hts _ kw_81) (fun _ h9 => h9) rfl d_cJT_key_78 ?_
        refine lv_iload hx hb d_cJT_key_81 (lv_at hl 6 rfl) ?_
        refine lv_iadd hx hb d_cJT_key_83 ?_
        refine w_i (y := (o_15.i 3 8 j_23) + x4) rfl ?_
        obtain ⟨j_30, hj_31, hl_32, Heq⟩ := gn_some Heq
        refine w_s (st' := [.int ((o_15.i 3 8 j_23) + x4), .ref (ad 5 j_30)]) (congrArg (fun z9 : Option Nat => [.int ((o_15.i 3 8 j_23) + x4), rv ad 5 z9]) hj_31) ?_
        obtain ⟨o_33, h_34, Heq⟩ := ob_some Heq
        have hFc := fr_all hD hS hA
        refine va_calli (va_runV (As := [.int ((o_15.i 3 8 j_23) + x4)]) (rest := []) ⟨hx, hb, hml, hown, hts⟩ (g_cRw_at l D H.size (ad := ad) (cc := cc) (sad := sad) (sav := sav) h_34) (cw_v 1 hts kw_689 kw_1136 kw_687 kw_688 kw_4 rfl rfl (by decide +kernel) ⟨Nat.le_of_ble_eq_true rfl, Nat.le_of_ble_eq_true rfl⟩) ⟨c_blind, va_recv hK hP (ci := 5) (q0 := cPos N 5 j_30) rfl (cw_obj (k := 5) (by decide) hl_32), fun U hU hW => c_pre hU hW hP hK hD hev hE hN hNS hS hFc⟩ rfl rfl hl.1 rfl (lv_room (Nat.le_of_ble_eq_true rfl)) d_cJT_key_84 ⟨Nat.zero_le _, Nat.zero_le _⟩) hS (fun q _ h => hFc q h) hFc (fun rz u t H1 locs ht hvm hw hB hz1 hk1 hS => ?_)
        obtain ⟨hP, -, hD1⟩ := hB
        rw [ht] at hP
        have hD := hD1.weaken (fun _ q _ h => hFc q.1 h)
        generalize H1 = H at hP hS ⊢
        refine W.cs (cells' := 0) (slots' := 0) rfl rfl ?_
        subst hw
        exact (Kr _ (Option.some.inj Heq).symm).1 _ rfl 87 _ _ _ d_cJT_key_87 hP hD hS
      · replace Heq := (if_neg c_26).symm.trans Heq
        exact w_cJT_key_J61 hfl hC Heq Kr _ _ _ hP hD hS (lv_sub hl [2] rfl)
  · replace Heq := (if_pos c_21).symm.trans Heq
    refine tx_aload (x := (o_15.r 7 0 j_18).map (ad 3)) hx hb d_cJT_key_40 (lv_at hl 0 rfl) ?_
    refine w_v (y := rv ad 3 (o_15.r 7 0 j_18)) rfl ?_
    obtain ⟨j_35, hj_36, hl_37, Heq⟩ := gn_some Heq
    refine w_s (st' := [.ref (ad 3 j_35)]) (congrArg (fun z9 : Option Nat => [rv ad 3 z9]) hj_36) ?_
    refine va_get (D := D) (ci := 3) (v := .int (o_15.i 3 9 j_35)) (C := R_Op) (T := F_Op) (N := 15) hx hb hts i_Op hown hK hP (cPos N 3 j_35) (cw_obj (k := 3) (by decide) hl_37) rfl 9 (by decide) (hts _ kw_85) (fun _ h9 => h9) rfl d_cJT_key_42 ?_
    exact (Kr _ (Option.some.inj Heq).symm).1 _ rfl 45 _ _ _ d_cJT_key_45 hP hD hS
def m_cJT_key (N : Nat → Nat) (x0 : Nat) (S : CS) (x1 : Int32) (x2 : Int32) (x3 : Int32) (x4 : Int32) : Option ((CS × Int32) ⊕ (CS × Nat)) := m_cJT_key_J0 N x0 S x1 x2 x3 x4
set_option maxHeartbeats 4000000 in
theorem g_cJT_key (l : Launch) (hfl : l.flags = flags0) (D : va_G) (sz : Nat) {ad : Nat → Nat → Nat} {cc : Nat → ClassId} {sad sav : Nat → Nat} {N : Nat → Nat} {x0 : Nat} {S : CS} {x1 : Int32} {x2 : Int32} {x3 : Int32} {x4 : Int32} {o : CS × Int32} (Heq : m_cJT_key N x0 S x1 x2 x3 x4 = some (.inl o)) : Met l ⟨"JoinedTrees", "key", "(IIII)I"⟩ (Cond.code ⟨"JoinedTrees", "key", "(IIII)I"⟩ prog_1_method_17_code 7 (some .int) :: gb) ({ frames := 8, cells := 0, slots := 0, locals := 140 }) (cPc sad sav D (cw ad cc N S) (cty cc) sz [.ref (ad 11 x0), .int x1, .int x2, .int x3, .int x4]) (va_Qi (fun (r : Int32) (_ : Unit) => r = o.2) (fun _ t => gO D (cw ad cc N o.1) (cty cc) (va_A (cw ad cc N S) sz) t) (va_A (cw ad cc N S) sz)) 0 0 (va_A (cw ad cc N S) sz) := by
  refine Met.ofW (cc := prog_1_method_17_code) (maxL := 7) (ret := (some .int)) (by decide) rfl ?_
  intro p e s m args below meth c s₁ B hml hv
  obtain ⟨rfl, hsz, hP, hK, hD0, hev, hE, hN⟩ := hv
  have hx := B.exec
  have hb := B.bytes
  have hr := B.returns
  have hts : ∀ w9 ∈ gb, w9.before [.ref (ad 11 x0), .int x1, .int x2, .int x3, .int x4].toArray s = true := fun w9 h => atoms_spec (ws := Cond.code ⟨"JoinedTrees", "key", "(IIII)I"⟩ prog_1_method_17_code 7 (some .int) :: gb) B.pre w9 (List.mem_cons_of_mem _ h)
  have hown : s.vm.findClass "JoinedTrees" = some m.cls := findClass_of_methodNamed B.named
  have hlocks := B.notSynchronized
  have hNS := ns_of hP
  subst hsz
  have hD := hD0.self (sz := s.heap.size)
  generalize hAe : va_A (cw ad cc N S) s.heap.size = A at hD hev hE hNS ⊢
  have hA : ∀ q : Nat, s.heap.size ≤ q → A q := fun q h => by rw [← hAe]; exact Or.inr h
  have hS : va_S A s.heap s.heap [] := va_S.rf
  obtain ⟨ls, hl, hle⟩ : ∃ ls : Array Slot, lv_has ls 7 [(0, .ref (ad 11 x0)), (1, .int x1), (2, .int x2), (3, .int x3), (4, .int x4)] ∧ entryFrame m ([.ref (ad 11 x0), .int x1, .int x2, .int x3, .int x4] : List Value).toArray 7 = F0 m 0 ls [] := by
    exact ⟨_, lv_entry (n := 7) _ (Nat.le_of_ble_eq_true rfl), lg_entry_eq ..⟩
  rw [hle]
  refine w_cJT_key_J0 (cR := 0) (sR := 0) hfl ⟨hx, hb, hr, hml, hown, hts, hK, hA, hev, hE, hN, hNS⟩ Heq (fun r h => ⟨fun v9 hv9 pc H locs ls hd hP hD hS => ?_, fun t9 ht9 => (by subst h; cases ht9)⟩) _ _ _ hP hD hS (lv_sub hl [0, 1, 2, 3, 4] rfl)
  subst h
  cases hv9
  exact W.iret hx hb hr (fun t ht hW => ⟨⟨_, (), rfl, rfl, by rw [ht]; exact hP, va_K.moved hW.alike hK, hD⟩, hS.F ht⟩) hS.2.2 hd
set_option maxHeartbeats 4000000 in
theorem g_cJT_key_t (l : Launch) (hfl : l.flags = flags0) (D : va_G) (sz : Nat) {ad : Nat → Nat → Nat} {cc : Nat → ClassId} {sad sav : Nat → Nat} {N : Nat → Nat} {x0 : Nat} {S : CS} {x1 : Int32} {x2 : Int32} {x3 : Int32} {x4 : Int32} {o : CS × Nat} (Heq : m_cJT_key N x0 S x1 x2 x3 x4 = some (.inr o)) : MeT l ⟨"JoinedTrees", "key", "(IIII)I"⟩ (Cond.code ⟨"JoinedTrees", "key", "(IIII)I"⟩ prog_1_method_17_code 7 (some .int) :: gb) ({ frames := 8, cells := 1, slots := 6, locals := 140 }) (cPc sad sav D (cw ad cc N S) (cty cc) sz [.ref (ad 11 x0), .int x1, .int x2, .int x3, .int x4]) (exN o.2) (va_A (cw ad cc N S) sz) (fun H1 => va_P D cls (cw ad cc N o.1) H1) 1 6 := by
  refine MeT.ofW (cc := prog_1_method_17_code) (maxL := 7) (ret := (some .int)) (by decide) rfl ?_
  intro p e s m args below meth c s₁ B hml hno hv
  obtain ⟨rfl, hsz, hP, hK, hD0, hev, hE, hN⟩ := hv
  have hx := B.exec
  have hb := B.bytes
  have hr := B.returns
  have hts : ∀ w9 ∈ gb, w9.before [.ref (ad 11 x0), .int x1, .int x2, .int x3, .int x4].toArray s = true := fun w9 h => atoms_spec (ws := Cond.code ⟨"JoinedTrees", "key", "(IIII)I"⟩ prog_1_method_17_code 7 (some .int) :: gb) B.pre w9 (List.mem_cons_of_mem _ h)
  have hown : s.vm.findClass "JoinedTrees" = some m.cls := findClass_of_methodNamed B.named
  have hlocks := B.notSynchronized
  have hNS := ns_of hP
  subst hsz
  have hD := hD0.self (sz := s.heap.size)
  generalize hAe : va_A (cw ad cc N S) s.heap.size = A at hD hev hE hNS ⊢
  have hA : ∀ q : Nat, s.heap.size ≤ q → A q := fun q h => by rw [← hAe]; exact Or.inr h
  have hS : va_S A s.heap s.heap [] := va_S.rf
  obtain ⟨ls, hl, hle⟩ : ∃ ls : Array Slot, lv_has ls 7 [(0, .ref (ad 11 x0)), (1, .int x1), (2, .int x2), (3, .int x3), (4, .int x4)] ∧ entryFrame m ([.ref (ad 11 x0), .int x1, .int x2, .int x3, .int x4] : List Value).toArray 7 = F0 m 0 ls [] := by
    exact ⟨_, lv_entry (n := 7) _ (Nat.le_of_ble_eq_true rfl), lg_entry_eq ..⟩
  rw [hle]
  refine w_cJT_key_J0 (cR := 1) (sR := 6) hfl ⟨hx, hb, hr, hml, hown, hts, hK, hA, hev, hE, hN, hNS⟩ Heq (fun r h => ⟨fun v9 hv9 => (by subst h; cases hv9), fun t9 ht9 => ⟨⟨Nat.le_refl _, Nat.le_refl _⟩, fun pc H locs ls hd hsz hP hD hS => ?_, fun pc H locs ls st0 rest9 A9 hr9 hF9 hS => ?_⟩⟩) _ _ _ hP hD hS (lv_sub hl [0, 1, 2, 3, 4] rfl)
  · subst h; cases ht9; exact tx_thr hfl hx hb hno hlocks hown hts hev hN hNS hd (hsz.trans hml.symm) hP hS hA (Nat.le_refl _) (Nat.le_refl _) (Nat.le_of_ble_eq_true rfl) (Nat.le_of_ble_eq_true rfl)
  · subst h; cases ht9; exact tx_on hr9 hno hlocks hS hF9
