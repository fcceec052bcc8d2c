noncomputable def m_cSt_openElement_B43 (N : Nat → Nat) (x0 : Nat) (S : CS) (x1 : Option Nat) (x3 : Option Nat) (x4 : Option Nat) : Option ((((Nat → Nat) × CS × Option Nat × Option Nat × Option Nat) ⊕ ((Nat → Nat) × CS × Option Nat × Option Nat × Option Nat)) × Nat × Nat) := on x4 (some ((.inr (N, S, x1, x3, x4)), 0, 0)) (fun j_1 => gl j_1 (N 7) (gn (S.r 7 0 j_1) (N 3) (fun j_3 => gn x1 (N 3) (fun j_6 => (if S.i 3 0 j_3 ≤ S.i 3 0 j_6 then some ((.inr (N, S, x1, x3, x4)), 0, 0) else some ((.inl (N, S, x1, x4, (S.r 7 2 j_1))), 0, 0))))))
theorem d_cSt_openElement_0 : decode prog_10_method_9_code 0 = .ok (.aload_n 1, 1) := by decide +kernel
theorem d_cSt_openElement_1 : decode prog_10_method_9_code 1 = .ok (.iconst 1, 1) := by decide +kernel
theorem d_cSt_openElement_2 : decode prog_10_method_9_code 2 = .ok (.putfield 110, 3) := by decide +kernel
theorem d_cSt_openElement_5 : decode prog_10_method_9_code 5 = .ok (.aload_n 1, 1) := by decide +kernel
theorem d_cSt_openElement_6 : decode prog_10_method_9_code 6 = .ok (.aload_n 2, 1) := by decide +kernel
theorem d_cSt_openElement_7 : decode prog_10_method_9_code 7 = .ok (.putfield 114, 3) := by decide +kernel
theorem d_cSt_openElement_10 : decode prog_10_method_9_code 10 = .ok (.aload_n 2, 1) := by decide +kernel
theorem d_cSt_openElement_11 : decode prog_10_method_9_code 11 = .ok (.ifnonnull 7, 3) := by decide +kernel
theorem d_cSt_openElement_14 : decode prog_10_method_9_code 14 = .ok (.aconst_null, 1) := by decide +kernel
theorem d_cSt_openElement_15 : decode prog_10_method_9_code 15 = .ok (.goto 7, 3) := by decide +kernel
theorem d_cSt_openElement_22 : decode prog_10_method_9_code 22 = .ok (.astore_n 3, 1) := by decide +kernel
theorem d_cSt_openElement_23 : decode prog_10_method_9_code 23 = .ok (.aload_n 3, 1) := by decide +kernel
theorem d_cSt_openElement_24 : decode prog_10_method_9_code 24 = .ok (.ifnonnull 13, 3) := by decide +kernel
theorem d_cSt_openElement_27 : decode prog_10_method_9_code 27 = .ok (.aload_n 1, 1) := by decide +kernel
theorem d_cSt_openElement_28 : decode prog_10_method_9_code 28 = .ok (.getfield 103, 3) := by decide +kernel
theorem d_cSt_openElement_31 : decode prog_10_method_9_code 31 = .ok (.getfield 92, 3) := by decide +kernel
theorem d_cSt_openElement_34 : decode prog_10_method_9_code 34 = .ok (.goto 7, 3) := by decide +kernel
theorem d_cSt_openElement_41 : decode prog_10_method_9_code 41 = .ok (.astore 4, 2) := by decide +kernel
theorem d_cSt_openElement_43 : decode prog_10_method_9_code 43 = .ok (.aload 4, 2) := by decide +kernel
theorem d_cSt_openElement_45 : decode prog_10_method_9_code 45 = .ok (.ifnull 31, 3) := by decide +kernel
theorem d_cSt_openElement_48 : decode prog_10_method_9_code 48 = .ok (.aload 4, 2) := by decide +kernel
theorem d_cSt_openElement_50 : decode prog_10_method_9_code 50 = .ok (.getfield 83, 3) := by decide +kernel
theorem d_cSt_openElement_53 : decode prog_10_method_9_code 53 = .ok (.getfield 70, 3) := by decide +kernel
theorem d_cSt_openElement_56 : decode prog_10_method_9_code 56 = .ok (.aload_n 1, 1) := by decide +kernel
theorem d_cSt_openElement_57 : decode prog_10_method_9_code 57 = .ok (.getfield 70, 3) := by decide +kernel
theorem d_cSt_openElement_60 : decode prog_10_method_9_code 60 = .ok (.if_icmp .le 16, 3) := by decide +kernel
theorem d_cSt_openElement_63 : decode prog_10_method_9_code 63 = .ok (.aload 4, 2) := by decide +kernel
theorem d_cSt_openElement_65 : decode prog_10_method_9_code 65 = .ok (.astore_n 3, 1) := by decide +kernel
theorem d_cSt_openElement_66 : decode prog_10_method_9_code 66 = .ok (.aload 4, 2) := by decide +kernel
theorem d_cSt_openElement_68 : decode prog_10_method_9_code 68 = .ok (.getfield 100, 3) := by decide +kernel
theorem d_cSt_openElement_71 : decode prog_10_method_9_code 71 = .ok (.astore 4, 2) := by decide +kernel
theorem d_cSt_openElement_73 : decode prog_10_method_9_code 73 = .ok (.goto (-30), 3) := by decide +kernel
set_option maxHeartbeats 4000000 in
set_option maxRecDepth 100000 in
theorem w_cSt_openElement_B43 {p : Program} {l : Launch} {e : Env} {s : State} {m : MethodId} {args : Array Value} {below : List Frame} {meth : Method} {c : Code} {A : Nat → Prop} {D : va_G} {cc : Nat → ClassId} {sad sav : Nat → Nat} {Q : State → Prop} {ad0 : Nat → Nat → Nat} {N0 : Nat → Nat} {CT ST cR sR : Nat} (hC : MCc sad sav "JoinedTrees$Store" prog_10_method_9_code 5 none p s m args meth c A D cc) (hCT : CT ≤ cR) (hST : ST ≤ sR) {N : Nat → Nat} {x0 : Nat} {S : CS} {x1 : Option Nat} {x3 : Option Nat} {x4 : Option Nat} {o : (((Nat → Nat) × CS × Option Nat × Option Nat × Option Nat) ⊕ ((Nat → Nat) × CS × Option Nat × Option Nat × Option Nat))} {oc os : Nat} (Heq : m_cSt_openElement_B43 N x0 S x1 x3 x4 = some (o, oc, os)) (Ka : ∀ (N : Nat → Nat) (b : CS × Option Nat × Option Nat × Option Nat), o = .inl (N, b) → ∀ (ad : Nat → Nat → Nat) (H : Heap) (locs : List Loc) (ls : Array Slot), Ext ad0 N0 ad N → va_P D cls (cw ad cc N b.1) H → va_D A (cw ad cc N b.1) → va_S A s.heap H locs → lv_has ls 5 [(0, .ref (ad 8 x0)), (1, rv ad 3 b.2.1), (3, rv ad 7 b.2.2.1), (4, rv ad 7 b.2.2.2)] → W p l e ({ frames := 3, cells := cR, slots := sR, locals := 69 }) s m args below meth c H locs CT ST Q (F0 m 43 ls [])) (K0 : ∀ (N : Nat → Nat) (b : CS × Option Nat × Option Nat × Option Nat), o = .inr (N, b) → ∀ (ad : Nat → Nat → Nat) (H : Heap) (locs : List Loc) (ls : Array Slot), Ext ad0 N0 ad N → va_P D cls (cw ad cc N b.1) H → va_D A (cw ad cc N b.1) → va_S A s.heap H locs → lv_has ls 5 [(0, .ref (ad 8 x0)), (1, rv ad 3 b.2.1), (3, rv ad 7 b.2.2.1), (4, rv ad 7 b.2.2.2)] → W p l e ({ frames := 3, cells := cR, slots := sR, locals := 69 }) s m args below meth c H locs CT ST Q (F0 m 76 ls [])) : ∀ (ad : Nat → Nat → Nat) (H : Heap) (locs : List Loc) (ls : Array Slot) (cells slots : Nat), Ext ad0 N0 ad N → cells + oc = CT → slots + os = ST → va_P D cls (cw ad cc N S) H → va_D A (cw ad cc N S) → va_S A s.heap H locs → lv_has ls 5 [(0, .ref (ad 8 x0)), (1, rv ad 3 x1), (3, rv ad 7 x3), (4, rv ad 7 x4)] → W p l e ({ frames := 3, cells := cR, slots := sR, locals := 69 }) s m args below meth c H locs cells slots Q (F0 m 43 ls []) := by
  intro ad H locs ls cells slots hX hcu hsu hP hD hS hl
  obtain ⟨hx, hb, hr, hml, hown, hts, hK, hA, hev, hE, hN, hNS⟩ := id hC
  unfold m_cSt_openElement_B43 at Heq
  refine tx_aload (x := x4.map (ad 7)) hx hb d_cSt_openElement_43 (lv_at hl 3 rfl) ?_
  refine w_v (y := rv ad 7 x4) rfl ?_
  rcases on_some Heq with ⟨hj_2, Heq⟩ | ⟨j_1, hj_2, Heq⟩
  · refine w_s (st' := [.null]) (congrArg (fun z9 : Option Nat => [rv ad 7 z9]) hj_2) ?_
    refine lv_ifnullN (tgt := 76) hx hb d_cSt_openElement_45 (by decide) ?_
    obtain ⟨e9, e9a, e9b⟩ := tri Heq
    refine W.cs (cells' := CT) (slots' := ST) (by omega) (by omega) ?_
    exact K0 _ _ e9 _ _ _ _ hX hP hD hS (lv_sub hl [0, 1, 2, 3] rfl)
  · refine w_s (st' := [.ref (ad 7 j_1)]) (congrArg (fun z9 : Option Nat => [rv ad 7 z9]) hj_2) ?_
    refine lv_ifnull hx hb d_cSt_openElement_45 ?_
    refine tx_aload (x := x4.map (ad 7)) hx hb d_cSt_openElement_48 (lv_at hl 3 rfl) ?_
    refine w_v (y := rv ad 7 x4) rfl ?_
    refine w_s (st' := [.ref (ad 7 j_1)]) (congrArg (fun z9 : Option Nat => [rv ad 7 z9]) hj_2) ?_
    obtain ⟨hl_j_1_7, Heq⟩ := gl_some Heq
    refine va_get (D := D) (ci := 7) (v := rv ad 3 (S.r 7 0 j_1)) (C := R_Sp) (T := F_Sp) (N := 3) hx hb hts i_Sp hown hK hP (cPos N 7 j_1) (cw_obj (k := 7) (by decide) hl_j_1_7) rfl 0 (by decide) (hts _ kw_741) (fun _ h9 => h9) rfl d_cSt_openElement_50 ?_
    obtain ⟨j_3, hj_4, hl_5, Heq⟩ := gn_some Heq
    refine w_s (st' := [.ref (ad 3 j_3)]) (congrArg (fun z9 : Option Nat => [rv ad 3 z9]) hj_4) ?_
    refine va_get (D := D) (ci := 3) (v := .int (S.i 3 0 j_3)) (C := R_Op) (T := F_Op) (N := 15) hx hb hts i_Op hown hK hP (cPos N 3 j_3) (cw_obj (k := 3) (by decide) hl_5) rfl 0 (by decide) (hts _ kw_50) (fun _ h9 => h9) rfl d_cSt_openElement_53 ?_
    refine tx_aload_n (x := x1.map (ad 3)) hx hb d_cSt_openElement_56 rfl (lv_at hl 1 rfl) ?_
    refine w_v (y := rv ad 3 x1) rfl ?_
    obtain ⟨j_6, hj_7, hl_8, Heq⟩ := gn_some Heq
    refine w_s (st' := [.ref (ad 3 j_6), .int (S.i 3 0 j_3)]) (congrArg (fun z9 : Option Nat => [rv ad 3 z9, .int (S.i 3 0 j_3)]) hj_7) ?_
    refine va_get (D := D) (ci := 3) (v := .int (S.i 3 0 j_6)) (C := R_Op) (T := F_Op) (N := 15) hx hb hts i_Op hown hK hP (cPos N 3 j_6) (cw_obj (k := 3) (by decide) hl_8) rfl 0 (by decide) (hts _ kw_50) (fun _ h9 => h9) rfl d_cSt_openElement_57 ?_
    refine lv_icmp_le (tgt := 76) hx hb d_cSt_openElement_60 (by decide) (fun c_9 => ?_) (fun c_9 => ?_)
    · replace Heq := (if_pos c_9).symm.trans Heq
      obtain ⟨e9, e9a, e9b⟩ := tri Heq
      refine W.cs (cells' := CT) (slots' := ST) (by omega) (by omega) ?_
      exact K0 _ _ e9 _ _ _ _ hX hP hD hS (lv_sub hl [0, 1, 2, 3] rfl)
    · replace Heq := (if_neg c_9).symm.trans Heq
      refine tx_aload (x := x4.map (ad 7)) hx hb d_cSt_openElement_63 (lv_at hl 3 rfl) ?_
      refine w_v (y := rv ad 7 x4) rfl ?_
      refine tx_astore_n (x := x4.map (ad 7)) (lv' := [(3, rv ad 7 x4), (0, .ref (ad 8 x0)), (1, rv ad 3 x1), (4, rv ad 7 x4)]) hx hb d_cSt_openElement_65 rfl hl (by decide) rfl (fun ls hl => ?_)
      refine tx_aload (x := x4.map (ad 7)) hx hb d_cSt_openElement_66 (lv_at hl 3 rfl) ?_
      refine w_v (y := rv ad 7 x4) rfl ?_
      refine w_s (st' := [.ref (ad 7 j_1)]) (congrArg (fun z9 : Option Nat => [rv ad 7 z9]) hj_2) ?_
      refine va_get (D := D) (ci := 7) (v := rv ad 7 (S.r 7 2 j_1)) (C := R_Sp) (T := F_Sp) (N := 3) hx hb hts i_Sp hown hK hP (cPos N 7 j_1) (cw_obj (k := 7) (by decide) hl_j_1_7) rfl 2 (by decide) (hts _ kw_747) (fun _ h9 => h9) rfl d_cSt_openElement_68 ?_
      refine tx_astore (x := (S.r 7 2 j_1).map (ad 7)) (lv' := [(4, rv ad 7 (S.r 7 2 j_1)), (3, rv ad 7 x4), (0, .ref (ad 8 x0)), (1, rv ad 3 x1)]) hx hb d_cSt_openElement_71 hl (by decide) (by simp [rv, rf_cat]) (fun ls hl => ?_)
      refine lv_goto (tgt := 43) hx hb d_cSt_openElement_73 (by decide) ?_
      obtain ⟨e9, e9a, e9b⟩ := tri Heq
      refine W.cs (cells' := CT) (slots' := ST) (by omega) (by omega) ?_
      exact Ka _ _ e9 _ _ _ _ hX hP hD hS (lv_sub hl [2, 3, 1, 0] rfl)
noncomputable def m_cSt_openElement_L43 (N : Nat → Nat) (x0 : Nat) (S : CS) (x1 : Option Nat) (x3 : Option Nat) (x4 : Option Nat) : Option (((Nat → Nat) × CS × Option Nat × Option Nat × Option Nat) × Nat × Nat) := lpA (fun a : (Nat → Nat) × CS × Option Nat × Option Nat × Option Nat => m_cSt_openElement_B43 a.1 x0 a.2.1 a.2.2.1 a.2.2.2.1 a.2.2.2.2) FU (N, S, x1, x3, x4)
set_option maxHeartbeats 4000000 in
theorem w_cSt_openElement_L43 {p : Program} {l : Launch} {e : Env} {s : State} {m : MethodId} {args : Array Value} {below : List Frame} {meth : Method} {c : Code} {A : Nat → Prop} {D : va_G} {cc : Nat → ClassId} {sad sav : Nat → Nat} {Q : State → Prop} {ad0 : Nat → Nat → Nat} {N0 : Nat → Nat} {CT ST cR sR : Nat} (hC : MCc sad sav "JoinedTrees$Store" prog_10_method_9_code 5 none p s m args meth c A D cc) (hCT : CT ≤ cR) (hST : ST ≤ sR) {N : Nat → Nat} {x0 : Nat} {S : CS} {x1 : Option Nat} {x3 : Option Nat} {x4 : Option Nat} {o : (Nat → Nat) × CS × Option Nat × Option Nat × Option Nat} {oc os : Nat} (Heq : m_cSt_openElement_L43 N x0 S x1 x3 x4 = some (o, oc, os)) (K0 : ∀ (N : Nat → Nat) (b : CS × Option Nat × Option Nat × Option Nat), o = (N, b) → ∀ (ad : Nat → Nat → Nat) (H : Heap) (locs : List Loc) (ls : Array Slot), Ext ad0 N0 ad N → va_P D cls (cw ad cc N b.1) H → va_D A (cw ad cc N b.1) → va_S A s.heap H locs → lv_has ls 5 [(0, .ref (ad 8 x0)), (1, rv ad 3 b.2.1), (3, rv ad 7 b.2.2.1), (4, rv ad 7 b.2.2.2)] → W p l e ({ frames := 3, cells := cR, slots := sR, locals := 69 }) s m args below meth c H locs CT ST Q (F0 m 76 ls [])) : ∀ (ad : Nat → Nat → Nat) (H : Heap) (locs : List Loc) (ls : Array Slot) (cells slots : Nat), Ext ad0 N0 ad N → cells + oc = CT → slots + os = ST → va_P D cls (cw ad cc N S) H → va_D A (cw ad cc N S) → va_S A s.heap H locs → lv_has ls 5 [(0, .ref (ad 8 x0)), (1, rv ad 3 x1), (3, rv ad 7 x3), (4, rv ad 7 x4)] → W p l e ({ frames := 3, cells := cR, slots := sR, locals := 69 }) s m args below meth c H locs cells slots Q (F0 m 43 ls []) := by
  refine lpA_w2 (e := o) (G := fun (a : (Nat → Nat) × CS × Option Nat × Option Nat × Option Nat) u9 v9 => ∀ (ad : Nat → Nat → Nat) (H : Heap) (locs : List Loc) (ls : Array Slot) (cells slots : Nat), Ext ad0 N0 ad a.1 → cells + u9 = CT → slots + v9 = ST → va_P D cls (cw ad cc a.1 a.2.1) H → va_D A (cw ad cc a.1 a.2.1) → va_S A s.heap H locs → lv_has ls 5 [(0, .ref (ad 8 x0)), (1, rv ad 3 a.2.2.1), (3, rv ad 7 a.2.2.2.1), (4, rv ad 7 a.2.2.2.2)] → W p l e ({ frames := 3, cells := cR, slots := sR, locals := 69 }) s m args below meth c H locs cells slots Q (F0 m 43 ls [])) ?_ FU (N, S, x1, x3, x4) oc os Heq
  intro a o1 c9 s9 u9 v9 ho hc9 hs9 Ka Ke ad H locs ls cells slots hX hcu hsu hP hD hS hl
  refine w_cSt_openElement_B43 (CT := cells + c9) (ST := slots + s9) hC (Nat.le_trans (m := CT) (by omega) hCT) (Nat.le_trans (m := ST) (by omega) hST) ho (fun N b h => ?_) (fun N b h => ?_) _ _ _ _ _ _ hX rfl rfl hP hD hS hl
  · obtain ⟨u1, v1, h1, h2, h3⟩ := Ka _ h
    intro ad H locs ls hX hP hD hS hl
    exact h3 ad H locs ls _ _ hX (by omega) (by omega) hP hD hS hl
  · obtain ⟨h1, h2, h3⟩ := Ke _ h
    intro ad H locs ls hX hP hD hS hl
    refine W.cs (cells' := CT) (slots' := ST) (by omega) (by omega) ?_
    exact K0 N b h1.symm ad H locs ls hX hP hD hS hl
noncomputable def m_cSt_openElement_J76 (N : Nat → Nat) (x0 : Nat) (S : CS) (x1 : Option Nat) (x3 : Option Nat) (x4 : Option Nat) : Option (((Nat → Nat) × CS) × Nat × Nat) := gn x1 (N 3) (fun j_1 => gl x0 (N 8) (ov (m_cSt_openBetween N x0 S j_1 x3 x4) (fun N_6 S_7 => some ((N_6, S_7), 0, 0))))
theorem d_cSt_openElement_76 : decode prog_10_method_9_code 76 = .ok (.aload_n 0, 1) := by decide +kernel
theorem d_cSt_openElement_77 : decode prog_10_method_9_code 77 = .ok (.aload_n 1, 1) := by decide +kernel
theorem d_cSt_openElement_78 : decode prog_10_method_9_code 78 = .ok (.aload_n 3, 1) := by decide +kernel
theorem d_cSt_openElement_79 : decode prog_10_method_9_code 79 = .ok (.aload 4, 2) := by decide +kernel
theorem d_cSt_openElement_81 : decode prog_10_method_9_code 81 = .ok (.invokevirtual 106, 3) := by decide +kernel
theorem d_cSt_openElement_84 : decode prog_10_method_9_code 84 = .ok (.return_, 1) := by decide +kernel
set_option maxHeartbeats 4000000 in
set_option maxRecDepth 100000 in
theorem w_cSt_openElement_J76 {p : Program} {l : Launch} {e : Env} {s : State} {m : MethodId} {args : Array Value} {below : List Frame} {meth : Method} {c : Code} {A : Nat → Prop} {D : va_G} {cc : Nat → ClassId} {sad sav : Nat → Nat} {Q : State → Prop} {ad0 : Nat → Nat → Nat} {N0 : Nat → Nat} {CT ST cR sR : Nat} (hC : MCc sad sav "JoinedTrees$Store" prog_10_method_9_code 5 none p s m args meth c A D cc) (hCT : CT ≤ cR) (hST : ST ≤ sR) {N : Nat → Nat} {x0 : Nat} {S : CS} {x1 : Option Nat} {x3 : Option Nat} {x4 : Option Nat} {o : (Nat → Nat) × CS} {oc os : Nat} (Heq : m_cSt_openElement_J76 N x0 S x1 x3 x4 = some (o, oc, os)) (Kr : ∀ r : (Nat → Nat) × CS, o = r → ∀ (pc : Nat) (ad : Nat → Nat → Nat) (H : Heap) (locs : List Loc) (ls : Array Slot), decode prog_10_method_9_code pc = .ok (.return_, 1) → Ext ad0 N0 ad (r.1) → va_P D cls (cw ad cc r.1 r.2) H → va_D A (cw ad cc r.1 r.2) → va_S A s.heap H locs → W p l e ({ frames := 3, cells := cR, slots := sR, locals := 69 }) s m args below meth c H locs CT ST Q (F0 m pc ls [])) : ∀ (ad : Nat → Nat → Nat) (H : Heap) (locs : List Loc) (ls : Array Slot) (cells slots : Nat), Ext ad0 N0 ad N → cells + oc = CT → slots + os = ST → va_P D cls (cw ad cc N S) H → va_D A (cw ad cc N S) → va_S A s.heap H locs → lv_has ls 5 [(0, .ref (ad 8 x0)), (1, rv ad 3 x1), (3, rv ad 7 x3), (4, rv ad 7 x4)] → W p l e ({ frames := 3, cells := cR, slots := sR, locals := 69 }) s m args below meth c H locs cells slots Q (F0 m 76 ls []) := by
  intro ad H locs ls cells slots hX hcu hsu hP hD hS hl
  obtain ⟨hx, hb, hr, hml, hown, hts, hK, hA, hev, hE, hN, hNS⟩ := id hC
  unfold m_cSt_openElement_J76 at Heq
  refine lv_aload_n hx hb d_cSt_openElement_76 rfl (lv_at hl 0 rfl) ?_
  refine tx_aload_n (x := x1.map (ad 3)) hx hb d_cSt_openElement_77 rfl (lv_at hl 1 rfl) ?_
  refine w_v (y := rv ad 3 x1) rfl ?_
  refine tx_aload_n (x := x3.map (ad 7)) hx hb d_cSt_openElement_78 rfl (lv_at hl 2 rfl) ?_
  refine w_v (y := rv ad 7 x3) rfl ?_
  refine tx_aload (x := x4.map (ad 7)) hx hb d_cSt_openElement_79 (lv_at hl 3 rfl) ?_
  refine w_v (y := rv ad 7 x4) rfl ?_
  obtain ⟨j_1, hj_2, hl_3, Heq⟩ := gn_some Heq
  refine w_s (st' := [rv ad 7 x4, rv ad 7 x3, .ref (ad 3 j_1), .ref (ad 8 x0)]) (congrArg (fun z9 : Option Nat => [rv ad 7 x4, rv ad 7 x3, rv ad 3 z9, .ref (ad 8 x0)]) hj_2) ?_
  obtain ⟨hl_x0_8, Heq⟩ := gl_some Heq
  have hl : lv_has ls 5 [(0, .ref (ad 8 x0))] := lv_sub hl [0] rfl
  obtain ⟨N_6, S_7, a9, b9, a8, b8, h_5, Heq, e9a, e9b⟩ := ov_some Heq
  refine w_s (st' := [rv ad 7 x4, rv ad 7 x3, .ref (ad 3 j_1), .ref (ad 8 x0)]) rfl ?_
  have hFc := fr_all hD hS hA
  refine va_callv (va_runV (As := [.ref (ad 3 j_1), rv ad 7 x3, rv ad 7 x4]) (rest := []) ⟨hx, hb, hml, hown, hts⟩ (g_cSt_openBetween l D H.size (ad := ad) (cc := cc) (sad := sad) (sav := sav) h_5) (cw_v 3 hts kw_733 kw_730 kw_731 kw_732 kw_2 rfl rfl (by decide +kernel) ⟨Nat.le_of_ble_eq_true rfl, Nat.le_of_ble_eq_true rfl⟩) ⟨c_blind, va_recv hK hP (ci := 8) (q0 := cPos N 8 x0) rfl (cw_obj (k := 8) (by decide) hl_x0_8), fun U hU hW => c_pre hU hW hP hK hD hev hE hN hNS hS hFc⟩ rfl rfl hl.1 rfl (lv_room (Nat.le_of_ble_eq_true rfl)) d_cSt_openElement_81 ⟨(Nat.le_trans (m := CT) (by omega) hCT), (Nat.le_trans (m := ST) (by omega) hST)⟩) hS (fun q _ h => hFc q h) hFc (fun ad t H1 locs ht hvm hw hB hz1 hk1 hS => ?_)
  obtain ⟨hX1, hP, -, hD1⟩ := hB
  rw [ht] at hP
  have hD := hD1.weaken (fun _ q _ h => hFc q.1 h)
  generalize H1 = H at hP hS ⊢
  have hX := hX.tr hX1
  have hl : lv_has ls 5 [(0, .ref (ad 8 x0))] := lv_cast hl (by first | rfl | simp only [hX1.2 8 x0 hl_x0_8])
  have hl_3 := Nat.lt_of_lt_of_le hl_3 (hX1.1 3)
  have hl_x0_8 := Nat.lt_of_lt_of_le hl_x0_8 (hX1.1 8)
  obtain ⟨e9, e9a, e9b⟩ := tri Heq
  refine W.cs (cells' := CT) (slots' := ST) (by omega) (by omega) ?_
  exact Kr _ e9 84 _ _ _ _ d_cSt_openElement_84 hX hP hD hS
noncomputable def m_cSt_openElement_J41 (N : Nat → Nat) (x0 : Nat) (S : CS) (x1 : Option Nat) (x3 : Option Nat) (t0 : Option Nat) : Option (((Nat → Nat) × CS) × Nat × Nat) := ov (m_cSt_openElement_L43 N x0 S x1 x3 t0) (fun N_1 b_2 => m_cSt_openElement_J76 N_1 x0 b_2.1 b_2.2.1 b_2.2.2.1 b_2.2.2.2)
set_option maxHeartbeats 4000000 in
set_option maxRecDepth 100000 in
theorem w_cSt_openElement_J41 {p : Program} {l : Launch} {e : Env} {s : State} {m : MethodId} {args : Array Value} {below : List Frame} {meth : Method} {c : Code} {A : Nat → Prop} {D : va_G} {cc : Nat → ClassId} {sad sav : Nat → Nat} {Q : State → Prop} {ad0 : Nat → Nat → Nat} {N0 : Nat → Nat} {CT ST cR sR : Nat} (hC : MCc sad sav "JoinedTrees$Store" prog_10_method_9_code 5 none p s m args meth c A D cc) (hCT : CT ≤ cR) (hST : ST ≤ sR) {N : Nat → Nat} {x0 : Nat} {S : CS} {x1 : Option Nat} {x3 : Option Nat} {t0 : Option Nat} {o : (Nat → Nat) × CS} {oc os : Nat} (Heq : m_cSt_openElement_J41 N x0 S x1 x3 t0 = some (o, oc, os)) (Kr : ∀ r : (Nat → Nat) × CS, o = r → ∀ (pc : Nat) (ad : Nat → Nat → Nat) (H : Heap) (locs : List Loc) (ls : Array Slot), decode prog_10_method_9_code pc = .ok (.return_, 1) → Ext ad0 N0 ad (r.1) → va_P D cls (cw ad cc r.1 r.2) H → va_D A (cw ad cc r.1 r.2) → va_S A s.heap H locs → W p l e ({ frames := 3, cells := cR, slots := sR, locals := 69 }) s m args below meth c H locs CT ST Q (F0 m pc ls [])) : ∀ (ad : Nat → Nat → Nat) (H : Heap) (locs : List Loc) (ls : Array Slot) (cells slots : Nat), Ext ad0 N0 ad N → cells + oc = CT → slots + os = ST → va_P D cls (cw ad cc N S) H → va_D A (cw ad cc N S) → va_S A s.heap H locs → lv_has ls 5 [(0, .ref (ad 8 x0)), (1, rv ad 3 x1), (3, rv ad 7 x3)] → W p l e ({ frames := 3, cells := cR, slots := sR, locals := 69 }) s m args below meth c H locs cells slots Q (F0 m 41 ls [rv ad 7 t0]) := by
  intro ad H locs ls cells slots hX hcu hsu hP hD hS hl
  obtain ⟨hx, hb, hr, hml, hown, hts, hK, hA, hev, hE, hN, hNS⟩ := id hC
  unfold m_cSt_openElement_J41 at Heq
  refine tx_astore (x := t0.map (ad 7)) (lv' := [(4, rv ad 7 t0), (0, .ref (ad 8 x0)), (1, rv ad 3 x1), (3, rv ad 7 x3)]) hx hb d_cSt_openElement_41 hl (by decide) (by simp [rv, rf_cat]) (fun ls hl => ?_)
  obtain ⟨N_1, b_2, a9, b9, a8, b8, h_3, Heq, e9a, e9b⟩ := ov_some Heq
  refine w_cSt_openElement_L43 hC (Nat.le_trans (m := CT) (by omega) hCT) (Nat.le_trans (m := ST) (by omega) hST) h_3 (fun N9 b9 h9 => ?_) _ _ _ _ _ _ hX rfl rfl hP hD hS (lv_sub hl [1, 2, 3, 0] rfl)
  cases h9
  intro ad H locs ls hX hP hD hS hl
  exact w_cSt_openElement_J76 hC hCT hST Heq Kr _ _ _ _ _ _ hX (by omega) (by omega) hP hD hS (lv_sub hl [0, 1, 2, 3] rfl)
noncomputable def m_cSt_openElement_J22 (N : Nat → Nat) (x0 : Nat) (S : CS) (x1 : Option Nat) (t0 : Option Nat) : Option (((Nat → Nat) × CS) × Nat × Nat) := on t0 (gn x1 (N 3) (fun j_3 => gn (S.r 3 1 j_3) (N 3) (fun j_6 => m_cSt_openElement_J41 N x0 S x1 t0 (S.r 3 13 j_6)))) (fun j_1 => gl j_1 (N 7) (m_cSt_openElement_J41 N x0 S x1 t0 (S.r 7 2 j_1)))
theorem d_cSt_openElement_37 : decode prog_10_method_9_code 37 = .ok (.aload_n 3, 1) := by decide +kernel
theorem d_cSt_openElement_38 : decode prog_10_method_9_code 38 = .ok (.getfield 100, 3) := by decide +kernel
set_option maxHeartbeats 4000000 in
set_option maxRecDepth 100000 in
theorem w_cSt_openElement_J22 {p : Program} {l : Launch} {e : Env} {s : State} {m : MethodId} {args : Array Value} {below : List Frame} {meth : Method} {c : Code} {A : Nat → Prop} {D : va_G} {cc : Nat → ClassId} {sad sav : Nat → Nat} {Q : State → Prop} {ad0 : Nat → Nat → Nat} {N0 : Nat → Nat} {CT ST cR sR : Nat} (hC : MCc sad sav "JoinedTrees$Store" prog_10_method_9_code 5 none p s m args meth c A D cc) (hCT : CT ≤ cR) (hST : ST ≤ sR) {N : Nat → Nat} {x0 : Nat} {S : CS} {x1 : Option Nat} {t0 : Option Nat} {o : (Nat → Nat) × CS} {oc os : Nat} (Heq : m_cSt_openElement_J22 N x0 S x1 t0 = some (o, oc, os)) (Kr : ∀ r : (Nat → Nat) × CS, o = r → ∀ (pc : Nat) (ad : Nat → Nat → Nat) (H : Heap) (locs : List Loc) (ls : Array Slot), decode prog_10_method_9_code pc = .ok (.return_, 1) → Ext ad0 N0 ad (r.1) → va_P D cls (cw ad cc r.1 r.2) H → va_D A (cw ad cc r.1 r.2) → va_S A s.heap H locs → W p l e ({ frames := 3, cells := cR, slots := sR, locals := 69 }) s m args below meth c H locs CT ST Q (F0 m pc ls [])) : ∀ (ad : Nat → Nat → Nat) (H : Heap) (locs : List Loc) (ls : Array Slot) (cells slots : Nat), Ext ad0 N0 ad N → cells + oc = CT → slots + os = ST → va_P D cls (cw ad cc N S) H → va_D A (cw ad cc N S) → va_S A s.heap H locs → lv_has ls 5 [(0, .ref (ad 8 x0)), (1, rv ad 3 x1)] → W p l e ({ frames := 3, cells := cR, slots := sR, locals := 69 }) s m args below meth c H locs cells slots Q (F0 m 22 ls [rv ad 7 t0]) := by
  intro ad H locs ls cells slots hX hcu hsu hP hD hS hl
  obtain ⟨hx, hb, hr, hml, hown, hts, hK, hA, hev, hE, hN, hNS⟩ := id hC
  unfold m_cSt_openElement_J22 at Heq
  refine tx_astore_n (x := t0.map (ad 7)) (lv' := [(3, rv ad 7 t0), (0, .ref (ad 8 x0)), (1, rv ad 3 x1)]) hx hb d_cSt_openElement_22 rfl hl (by decide) rfl (fun ls hl => ?_)
  refine tx_aload_n (x := t0.map (ad 7)) hx hb d_cSt_openElement_23 rfl (lv_at hl 0 rfl) ?_
  refine w_v (y := rv ad 7 t0) rfl ?_
  rcases on_some Heq with ⟨hj_2, Heq⟩ | ⟨j_1, hj_2, Heq⟩
  · refine w_s (st' := [.null]) (congrArg (fun z9 : Option Nat => [rv ad 7 z9]) hj_2) ?_
    refine lv_ifnonnullN hx hb d_cSt_openElement_24 ?_
    refine tx_aload_n (x := x1.map (ad 3)) hx hb d_cSt_openElement_27 rfl (lv_at hl 2 rfl) ?_
    refine w_v (y := rv ad 3 x1) rfl ?_
    obtain ⟨j_3, hj_4, hl_5, Heq⟩ := gn_some Heq
    refine w_s (st' := [.ref (ad 3 j_3)]) (congrArg (fun z9 : Option Nat => [rv ad 3 z9]) hj_4) ?_
    refine va_get (D := D) (ci := 3) (v := rv ad 3 (S.r 3 1 j_3)) (C := R_Op) (T := F_Op) (N := 15) hx hb hts i_Op hown hK hP (cPos N 3 j_3) (cw_obj (k := 3) (by decide) hl_5) rfl 1 (by decide) (hts _ kw_56) (fun _ h9 => h9) rfl d_cSt_openElement_28 ?_
    obtain ⟨j_6, hj_7, hl_8, Heq⟩ := gn_some Heq
    refine w_s (st' := [.ref (ad 3 j_6)]) (congrArg (fun z9 : Option Nat => [rv ad 3 z9]) hj_7) ?_
    refine va_get (D := D) (ci := 3) (v := rv ad 7 (S.r 3 13 j_6)) (C := R_Op) (T := F_Op) (N := 15) hx hb hts i_Op hown hK hP (cPos N 3 j_6) (cw_obj (k := 3) (by decide) hl_8) rfl 13 (by decide) (hts _ kw_99) (fun _ h9 => h9) rfl d_cSt_openElement_31 ?_
    refine lv_goto (tgt := 41) hx hb d_cSt_openElement_34 (by decide) ?_
    exact w_cSt_openElement_J41 hC hCT hST Heq Kr _ _ _ _ _ _ hX (by omega) (by omega) hP hD hS (lv_sub hl [1, 2, 0] rfl)
  · refine w_s (st' := [.ref (ad 7 j_1)]) (congrArg (fun z9 : Option Nat => [rv ad 7 z9]) hj_2) ?_
    refine lv_ifnonnull (tgt := 37) hx hb d_cSt_openElement_24 (by decide) ?_
    refine tx_aload_n (x := t0.map (ad 7)) hx hb d_cSt_openElement_37 rfl (lv_at hl 0 rfl) ?_
    refine w_v (y := rv ad 7 t0) rfl ?_
    refine w_s (st' := [.ref (ad 7 j_1)]) (congrArg (fun z9 : Option Nat => [rv ad 7 z9]) hj_2) ?_
    obtain ⟨hl_j_1_7, Heq⟩ := gl_some Heq
    refine va_get (D := D) (ci := 7) (v := rv ad 7 (S.r 7 2 j_1)) (C := R_Sp) (T := F_Sp) (N := 3) hx hb hts i_Sp hown hK hP (cPos N 7 j_1) (cw_obj (k := 7) (by decide) hl_j_1_7) rfl 2 (by decide) (hts _ kw_747) (fun _ h9 => h9) rfl d_cSt_openElement_38 ?_
    exact w_cSt_openElement_J41 hC hCT hST Heq Kr _ _ _ _ _ _ hX (by omega) (by omega) hP hD hS (lv_sub hl [1, 2, 0] rfl)
noncomputable def m_cSt_openElement_J0 (N : Nat → Nat) (x0 : Nat) (S : CS) (x1 : Nat) (x2 : Option Nat) : Option (((Nat → Nat) × CS) × Nat × Nat) := gl x1 (N 3) (on x2 (m_cSt_openElement_J22 N x0 ((S.setI 3 5 x1 1).setR 3 6 x1 x2) (some x1) none) (fun j_1 => gl j_1 (N 3) (m_cSt_openElement_J22 N x0 ((S.setI 3 5 x1 1).setR 3 6 x1 x2) (some x1) (S.r 3 11 j_1))))
theorem d_cSt_openElement_18 : decode prog_10_method_9_code 18 = .ok (.aload_n 2, 1) := by decide +kernel
theorem d_cSt_openElement_19 : decode prog_10_method_9_code 19 = .ok (.getfield 117, 3) := by decide +kernel
set_option maxHeartbeats 4000000 in
set_option maxRecDepth 100000 in
theorem w_cSt_openElement_J0 {p : Program} {l : Launch} {e : Env} {s : State} {m : MethodId} {args : Array Value} {below : List Frame} {meth : Method} {c : Code} {A : Nat → Prop} {D : va_G} {cc : Nat → ClassId} {sad sav : Nat → Nat} {Q : State → Prop} {ad0 : Nat → Nat → Nat} {N0 : Nat → Nat} {CT ST cR sR : Nat} (hC : MCc sad sav "JoinedTrees$Store" prog_10_method_9_code 5 none p s m args meth c A D cc) (hCT : CT ≤ cR) (hST : ST ≤ sR) {N : Nat → Nat} {x0 : Nat} {S : CS} {x1 : Nat} {x2 : Option Nat} {o : (Nat → Nat) × CS} {oc os : Nat} (Heq : m_cSt_openElement_J0 N x0 S x1 x2 = some (o, oc, os)) (Kr : ∀ r : (Nat → Nat) × CS, o = r → ∀ (pc : Nat) (ad : Nat → Nat → Nat) (H : Heap) (locs : List Loc) (ls : Array Slot), decode prog_10_method_9_code pc = .ok (.return_, 1) → Ext ad0 N0 ad (r.1) → va_P D cls (cw ad cc r.1 r.2) H → va_D A (cw ad cc r.1 r.2) → va_S A s.heap H locs → W p l e ({ frames := 3, cells := cR, slots := sR, locals := 69 }) s m args below meth c H locs CT ST Q (F0 m pc ls [])) : ∀ (ad : Nat → Nat → Nat) (H : Heap) (locs : List Loc) (ls : Array Slot) (cells slots : Nat), Ext ad0 N0 ad N → cells + oc = CT → slots + os = ST → va_P D cls (cw ad cc N S) H → va_D A (cw ad cc N S) → va_S A s.heap H locs → lv_has ls 5 [(0, .ref (ad 8 x0)), (1, .ref (ad 3 x1)), (2, rv ad 3 x2)] → W p l e ({ frames := 3, cells := cR, slots := sR, locals := 69 }) s m args below meth c H locs cells slots Q (F0 m 0 ls []) := by
  intro ad H locs ls cells slots hX hcu hsu hP hD hS hl
  obtain ⟨hx, hb, hr, hml, hown, hts, hK, hA, hev, hE, hN, hNS⟩ := id hC
  unfold m_cSt_openElement_J0 at Heq
  refine lv_aload_n hx hb d_cSt_openElement_0 rfl (lv_at hl 1 rfl) ?_
  refine lv_iconst (v := 1) hx hb d_cSt_openElement_1 (by decide) ?_
  obtain ⟨hl_x1_3, Heq⟩ := gl_some Heq
  refine va_put (D := D) (ci := 3) (v := .int 1) (ty := .boolean) (C := R_Op) (T := F_Op) (N := 15) hx hb hts i_Op t_Op t_Op_ok n_Op hown hK hP hD hS (cPos N 3 x1) (cw_obj (k := 3) (by decide) hl_x1_3) rfl 5 (by decide) (hts _ kw_69) (fun _ h9 => h9) rfl (by decide +kernel) (by decide) (by decide) (Nat.le_of_ble_eq_true rfl) d_cSt_openElement_2 (fun H locs hP hD hS => ?_)
  have hD := (congrArg (fun w9 => va_D A w9) (cw_setI (ad := ad) (cc := cc) (S := S) (k := 3) (f := 5) (v := 1) (by decide) rfl hl_x1_3)).mp hD
  have hP := (congrArg (fun w9 => va_P D cls w9 H) (cw_setI (ad := ad) (cc := cc) (S := S) (k := 3) (f := 5) (v := 1) (by decide) rfl hl_x1_3)).mp hP
  refine lv_aload_n hx hb d_cSt_openElement_5 rfl (lv_at hl 1 rfl) ?_
  refine tx_aload_n (x := x2.map (ad 3)) hx hb d_cSt_openElement_6 rfl (lv_at hl 2 rfl) ?_
  refine w_v (y := rv ad 3 x2) rfl ?_
  refine w_v (y := rv ad 3 x2) rfl ?_
  refine va_put (D := D) (ci := 3) (v := rv ad 3 x2) (ty := .object "JoinedTrees$Op") (C := R_Op) (T := F_Op) (N := 15) hx hb hts i_Op t_Op t_Op_ok n_Op hown hK hP hD hS (cPos N 3 x1) (cw_obj (k := 3) (by decide) hl_x1_3) rfl 6 (by decide) (hts _ kw_72) (fun _ h9 => h9) rfl (by decide +kernel) (rv_nar (Or.inl ⟨_, rfl⟩)) (rv_fit (Or.inl ⟨_, rfl⟩)) (Nat.le_of_ble_eq_true rfl) d_cSt_openElement_7 (fun H locs hP hD hS => ?_)
  have hD := (congrArg (fun w9 => va_D A w9) (cw_setR (ad := ad) (cc := cc) (S := (S.setI 3 5 x1 1)) (k := 3) (f := 6) (t := 3) (v := x2) (by decide) rfl hl_x1_3)).mp hD
  have hP := (congrArg (fun w9 => va_P D cls w9 H) (cw_setR (ad := ad) (cc := cc) (S := (S.setI 3 5 x1 1)) (k := 3) (f := 6) (t := 3) (v := x2) (by decide) rfl hl_x1_3)).mp hP
  refine tx_aload_n (x := x2.map (ad 3)) hx hb d_cSt_openElement_10 rfl (lv_at hl 2 rfl) ?_
  refine w_v (y := rv ad 3 x2) rfl ?_
  rcases on_some Heq with ⟨hj_2, Heq⟩ | ⟨j_1, hj_2, Heq⟩
  · refine w_s (st' := [.null]) (congrArg (fun z9 : Option Nat => [rv ad 3 z9]) hj_2) ?_
    refine lv_ifnonnullN hx hb d_cSt_openElement_11 ?_
    refine lv_null hx hb d_cSt_openElement_14 ?_
    refine lv_goto (tgt := 22) hx hb d_cSt_openElement_15 (by decide) ?_
    exact w_cSt_openElement_J22 hC hCT hST Heq Kr _ _ _ _ _ _ hX (by omega) (by omega) hP hD hS (lv_sub hl [0, 1] rfl)
  · refine w_s (st' := [.ref (ad 3 j_1)]) (congrArg (fun z9 : Option Nat => [rv ad 3 z9]) hj_2) ?_
    refine lv_ifnonnull (tgt := 18) hx hb d_cSt_openElement_11 (by decide) ?_
    refine tx_aload_n (x := x2.map (ad 3)) hx hb d_cSt_openElement_18 rfl (lv_at hl 2 rfl) ?_
    refine w_v (y := rv ad 3 x2) rfl ?_
    refine w_s (st' := [.ref (ad 3 j_1)]) (congrArg (fun z9 : Option Nat => [rv ad 3 z9]) hj_2) ?_
    obtain ⟨hl_j_1_3, Heq⟩ := gl_some Heq
    refine va_get (D := D) (ci := 3) (v := rv ad 7 (((S.setI 3 5 x1 1).setR 3 6 x1 x2).r 3 11 j_1)) (C := R_Op) (T := F_Op) (N := 15) hx hb hts i_Op hown hK hP (cPos N 3 j_1) (cw_obj (k := 3) (by decide) hl_j_1_3) rfl 11 (by decide) (hts _ kw_92) (fun _ h9 => h9) rfl d_cSt_openElement_19 ?_
    refine w_v (y := rv ad 7 (S.r 3 11 j_1)) (congrArg (rv ad 7) rfl) ?_
    exact w_cSt_openElement_J22 hC hCT hST Heq Kr _ _ _ _ _ _ hX (by omega) (by omega) hP hD hS (lv_sub hl [0, 1] rfl)
noncomputable def m_cSt_openElement (N : Nat → Nat) (x0 : Nat) (S : CS) (x1 : Nat) (x2 : Option Nat) : Option (((Nat → Nat) × CS) × Nat × Nat) := m_cSt_openElement_J0 N x0 S x1 x2
set_option maxHeartbeats 4000000 in
theorem g_cSt_openElement (l : Launch) (D : va_G) (sz : Nat) {ad : Nat → Nat → Nat} {cc : Nat → ClassId} {sad sav : Nat → Nat} {N : Nat → Nat} {x0 : Nat} {S : CS} {x1 : Nat} {x2 : Option Nat} {o : (Nat → Nat) × CS} {oc os : Nat} (Heq : m_cSt_openElement N x0 S x1 x2 = some (o, oc, os)) : Met l ⟨"JoinedTrees$Store", "openElement", "(LJoinedTrees$Op;LJoinedTrees$Op;)V"⟩ (Cond.code ⟨"JoinedTrees$Store", "openElement", "(LJoinedTrees$Op;LJoinedTrees$Op;)V"⟩ prog_10_method_9_code 5 none :: gb) ({ frames := 3, cells := oc, slots := os, locals := 69 }) (cPc sad sav D (cw ad cc N S) (cty cc) sz [.ref (ad 8 x0), .ref (ad 3 x1), rv ad 3 x2]) (va_Qv (fun _ : Nat → Nat → Nat => True) (fun (u : Nat → Nat → Nat) t => Ext ad N u o.1 ∧ gO D (cw u cc o.1 o.2) (cty cc) (va_A (cw ad cc N S) sz) t) (va_A (cw ad cc N S) sz)) oc os (va_A (cw ad cc N S) sz) := by
  refine Met.ofW (cc := prog_10_method_9_code) (maxL := 5) (ret := none) (by decide) rfl ?_
  intro p e s m args below meth c s₁ B hml hv
  obtain ⟨rfl, hsz, hP, hK, hD0, hev, hE, hN⟩ := hv
  have hx := B.exec
  have hb := B.bytes
  have hr := B.returns
  have hts : ∀ w9 ∈ gb, w9.before [.ref (ad 8 x0), .ref (ad 3 x1), rv ad 3 x2].toArray s = true := fun w9 h => atoms_spec (ws := Cond.code ⟨"JoinedTrees$Store", "openElement", "(LJoinedTrees$Op;LJoinedTrees$Op;)V"⟩ prog_10_method_9_code 5 none :: gb) B.pre w9 (List.mem_cons_of_mem _ h)
  have hown : s.vm.findClass "JoinedTrees$Store" = some m.cls := findClass_of_methodNamed B.named
  have hlocks := B.notSynchronized
  have hNS := ns_of hP
  subst hsz
  have hD := hD0.self (sz := s.heap.size)
  generalize hAe : va_A (cw ad cc N S) s.heap.size = A at hD hev hE hNS ⊢
  have hA : ∀ q : Nat, s.heap.size ≤ q → A q := fun q h => by rw [← hAe]; exact Or.inr h
  have hS : va_S A s.heap s.heap [] := va_S.rf
  obtain ⟨ls, hl, hle⟩ : ∃ ls : Array Slot, lv_has ls 5 [(0, .ref (ad 8 x0)), (1, .ref (ad 3 x1)), (2, rv ad 3 x2)] ∧ entryFrame m ([.ref (ad 8 x0), .ref (ad 3 x1), rv ad 3 x2] : List Value).toArray 5 = F0 m 0 ls [] := by
    rcases x2 with _ | x2
    all_goals exact ⟨_, lv_entry (n := 5) _ (Nat.le_of_ble_eq_true rfl), lg_entry_eq ..⟩
  rw [hle]
  refine w_cSt_openElement_J0 (ad0 := ad) (N0 := N) (CT := oc) (ST := os) (cR := oc) (sR := os) ⟨hx, hb, hr, hml, hown, hts, hK, hA, hev, hE, hN, hNS⟩ (Nat.le_refl _) (Nat.le_refl _) Heq (fun r h pc ad1 H locs ls hd hX hP hD hS => ?_) _ _ _ _ 0 0 Ext.rf (Nat.zero_add _) (Nat.zero_add _) hP hD hS (lv_sub hl [0, 1, 2] rfl)
  subst h
  exact W.vret hx hb hr (fun t ht hW => ⟨⟨ad1, rfl, trivial, hX, by rw [ht]; exact hP, va_K.moved hW.alike hK, hD⟩, hS.F ht⟩) hS.2.2 hd
noncomputable def m_cJT_writeBehind_J0 (N : Nat → Nat) (x0 : Nat) (S : CS) (x1 : Nat) (x2 : Nat) (x3 : Option Nat) (x4 : Int32) (x5 : Int64) : Option (((Nat → Nat) × CS × Option Nat) × Nat × Nat) := gl x0 (N 11) (gl x2 (N 3) (gl x1 (N 4) (gn (S.r 11 0 x0) (N 8) (fun j_1 => gv x3 (N 3) (oq (m_cSt_make N j_1 S x1 x2 x4 x5) (fun N_7 S_8 v_9 => gn v_9 (N_7 3) (fun j_10 => gn (S_8.r 11 0 x0) (N_7 8) (fun j_13 => ov (m_cSt_openElement N_7 j_13 S_8 j_10 x3) (fun N_18 S_19 => some ((N_18, S_19, v_9), 0, 0))))))))))
theorem d_cJT_writeBehind_0 : decode prog_1_method_48_code 0 = .ok (.aload_n 0, 1) := by decide +kernel
theorem d_cJT_writeBehind_1 : decode prog_1_method_48_code 1 = .ok (.getfield 12, 3) := by decide +kernel
theorem d_cJT_writeBehind_4 : decode prog_1_method_48_code 4 = .ok (.aload_n 1, 1) := by decide +kernel
theorem d_cJT_writeBehind_5 : decode prog_1_method_48_code 5 = .ok (.aload_n 2, 1) := by decide +kernel
theorem d_cJT_writeBehind_6 : decode prog_1_method_48_code 6 = .ok (.iload 4, 2) := by decide +kernel
theorem d_cJT_writeBehind_8 : decode prog_1_method_48_code 8 = .ok (.lload 5, 2) := by decide +kernel
theorem d_cJT_writeBehind_10 : decode prog_1_method_48_code 10 = .ok (.invokevirtual 411, 3) := by decide +kernel
theorem d_cJT_writeBehind_13 : decode prog_1_method_48_code 13 = .ok (.astore 7, 2) := by decide +kernel
theorem d_cJT_writeBehind_15 : decode prog_1_method_48_code 15 = .ok (.aload_n 0, 1) := by decide +kernel
theorem d_cJT_writeBehind_16 : decode prog_1_method_48_code 16 = .ok (.getfield 12, 3) := by decide +kernel
theorem d_cJT_writeBehind_19 : decode prog_1_method_48_code 19 = .ok (.aload 7, 2) := by decide +kernel
theorem d_cJT_writeBehind_21 : decode prog_1_method_48_code 21 = .ok (.aload_n 3, 1) := by decide +kernel
theorem d_cJT_writeBehind_22 : decode prog_1_method_48_code 22 = .ok (.invokevirtual 433, 3) := by decide +kernel
theorem d_cJT_writeBehind_25 : decode prog_1_method_48_code 25 = .ok (.aload 7, 2) := by decide +kernel
theorem d_cJT_writeBehind_27 : decode prog_1_method_48_code 27 = .ok (.areturn, 1) := by decide +kernel
set_option maxHeartbeats 4000000 in
set_option maxRecDepth 100000 in
theorem w_cJT_writeBehind_J0 {p : Program} {l : Launch} {e : Env} {s : State} {m : MethodId} {args : Array Value} {below : List Frame} {meth : Method} {c : Code} {A : Nat → Prop} {D : va_G} {cc : Nat → ClassId} {sad sav : Nat → Nat} {Q : State → Prop} {ad0 : Nat → Nat → Nat} {N0 : Nat → Nat} {CT ST cR sR : Nat} (hC : MCc sad sav "JoinedTrees" prog_1_method_48_code 8 (some (.object "JoinedTrees$Op")) p s m args meth c A D cc) (hCT : CT ≤ cR) (hST : ST ≤ sR) {N : Nat → Nat} {x0 : Nat} {S : CS} {x1 : Nat} {x2 : Nat} {x3 : Option Nat} {x4 : Int32} {x5 : Int64} {o : (Nat → Nat) × CS × Option Nat} {oc os : Nat} (Heq : m_cJT_writeBehind_J0 N x0 S x1 x2 x3 x4 x5 = some (o, oc, os)) (Kr : ∀ r : (Nat → Nat) × CS × Option Nat, o = r → ∀ (pc : Nat) (ad : Nat → Nat → Nat) (H : Heap) (locs : List Loc) (ls : Array Slot), decode prog_1_method_48_code pc = .ok (.areturn, 1) → Ext ad0 N0 ad (r.1) → va_P D cls (cw ad cc r.1 r.2.1) H → va_D A (cw ad cc r.1 r.2.1) → va_S A s.heap H locs → W p l e ({ frames := 4, cells := cR, slots := sR, locals := 93 }) s m args below meth c H locs CT ST Q (F0 m pc ls [rv ad 3 r.2.2])) : ∀ (ad : Nat → Nat → Nat) (H : Heap) (locs : List Loc) (ls : Array Slot) (cells slots : Nat), Ext ad0 N0 ad N → cells + oc = CT → slots + os = ST → va_P D cls (cw ad cc N S) H → va_D A (cw ad cc N S) → va_S A s.heap H locs → lv_has ls 8 [(0, .ref (ad 11 x0)), (1, .ref (ad 4 x1)), (2, .ref (ad 3 x2)), (3, rv ad 3 x3), (4, .int x4), (5, .long x5)] → W p l e ({ frames := 4, cells := cR, slots := sR, locals := 93 }) s m args below meth c H locs cells slots Q (F0 m 0 ls []) := by
  intro ad H locs ls cells slots hX hcu hsu hP hD hS hl
  obtain ⟨hx, hb, hr, hml, hown, hts, hK, hA, hev, hE, hN, hNS⟩ := id hC
  unfold m_cJT_writeBehind_J0 at Heq
  refine lv_aload_n hx hb d_cJT_writeBehind_0 rfl (lv_at hl 0 rfl) ?_
  obtain ⟨hl_x0_11, Heq⟩ := gl_some Heq
  refine va_get (D := D) (ci := 11) (v := rv ad 8 (S.r 11 0 x0)) (C := R_JT) (T := F_JT) (N := 13) hx hb hts i_JT hown hK hP (cPos N 11 x0) (cw_obj (k := 11) (by decide) hl_x0_11) rfl 0 (by decide) (hts _ kw_421) (fun _ h9 => h9) rfl d_cJT_writeBehind_1 ?_
  refine lv_aload_n hx hb d_cJT_writeBehind_4 rfl (lv_at hl 1 rfl) ?_
  refine lv_aload_n hx hb d_cJT_writeBehind_5 rfl (lv_at hl 2 rfl) ?_
  refine lv_iload hx hb d_cJT_writeBehind_6 (lv_at hl 4 rfl) ?_
  refine lv_lload hx hb d_cJT_writeBehind_8 (lv_at hl 5 rfl) ?_
  obtain ⟨hl_x2_3, Heq⟩ := gl_some Heq
  obtain ⟨hl_x1_4, Heq⟩ := gl_some Heq
  obtain ⟨j_1, hj_2, hl_3, Heq⟩ := gn_some Heq
  refine w_s (st' := [.long x5, .int x4, .ref (ad 3 x2), .ref (ad 4 x1), .ref (ad 8 j_1)]) (congrArg (fun z9 : Option Nat => [.long x5, .int x4, .ref (ad 3 x2), .ref (ad 4 x1), rv ad 8 z9]) hj_2) ?_
  have hl : lv_has ls 8 [(0, .ref (ad 11 x0)), (3, rv ad 3 x3)] := lv_sub hl [0, 3] rfl
  obtain ⟨hv_4, Heq⟩ := gv_some Heq
  obtain ⟨N_7, S_8, v_9, a9, b9, a8, b8, h_6, Heq, e9a, e9b⟩ := oq_some Heq
  have hFc := fr_all hD hS hA
  refine va_callq (va_runV (As := [.ref (ad 4 x1), .ref (ad 3 x2), .int x4, .long x5]) (rest := []) ⟨hx, hb, hml, hown, hts⟩ (g_cSt_make l D H.size (ad := ad) (cc := cc) (sad := sad) (sav := sav) h_6) (cw_v 4 hts kw_709 kw_706 kw_707 kw_708 kw_2 rfl rfl (by decide +kernel) ⟨Nat.le_of_ble_eq_true rfl, Nat.le_of_ble_eq_true rfl⟩) ⟨c_blind, va_recv hK hP (ci := 8) (q0 := cPos N 8 j_1) rfl (cw_obj (k := 8) (by decide) hl_3), fun U hU hW => c_pre hU hW hP hK hD hev hE hN hNS hS hFc⟩ rfl rfl hl.1 rfl (lv_room (Nat.le_of_ble_eq_true rfl)) d_cJT_writeBehind_10 ⟨(Nat.le_trans (m := CT) (by omega) hCT), (Nat.le_trans (m := ST) (by omega) hST)⟩) hS (fun q _ h => hFc q h) hFc (fun rz ad t H1 locs ht hvm hw hB hz1 hk1 hS => ?_)
  obtain ⟨hX1, hP, -, hD1⟩ := hB
  rw [ht] at hP
  have hD := hD1.weaken (fun _ q _ h => hFc q.1 h)
  generalize H1 = H at hP hS ⊢
  subst hw
  refine w_v (y := rv ad 3 v_9) rfl ?_
  have hX := hX.tr hX1
  have hl : lv_has ls 8 [(0, .ref (ad 11 x0)), (3, rv ad 3 x3)] := lv_cast hl (by first | rfl | simp only [hX1.2 11 x0 hl_x0_11, hX1.rv (k := 3) (x := x3) hv_4])
  refine w_s (st' := [rv ad 3 v_9]) (by first | rfl | simp only [hX1.2 11 x0 hl_x0_11, hX1.rv (k := 3) (x := x3) hv_4]) ?_
  have hl_x0_11 := Nat.lt_of_lt_of_le hl_x0_11 (hX1.1 11)
  have hl_x2_3 := Nat.lt_of_lt_of_le hl_x2_3 (hX1.1 3)
  have hl_x1_4 := Nat.lt_of_lt_of_le hl_x1_4 (hX1.1 4)
  have hl_3 := Nat.lt_of_lt_of_le hl_3 (hX1.1 8)
  have hv_4 := fun j9 q9 => Nat.lt_of_lt_of_le (hv_4 j9 q9) (hX1.1 3)
  refine tx_astore (x := v_9.map (ad 3)) (lv' := [(7, rv ad 3 v_9), (0, .ref (ad 11 x0)), (3, rv ad 3 x3)]) hx hb d_cJT_writeBehind_13 hl (by decide) rfl (fun ls hl => ?_)
  refine lv_aload_n hx hb d_cJT_writeBehind_15 rfl (lv_at hl 1 rfl) ?_
  refine va_get (D := D) (ci := 11) (v := rv ad 8 (S_8.r 11 0 x0)) (C := R_JT) (T := F_JT) (N := 13) hx hb hts i_JT hown hK hP (cPos N_7 11 x0) (cw_obj (k := 11) (by decide) hl_x0_11) rfl 0 (by decide) (hts _ kw_421) (fun _ h9 => h9) rfl d_cJT_writeBehind_16 ?_
  refine tx_aload (x := v_9.map (ad 3)) hx hb d_cJT_writeBehind_19 (lv_at hl 0 rfl) ?_
  refine w_v (y := rv ad 3 v_9) rfl ?_
  refine tx_aload_n (x := x3.map (ad 3)) hx hb d_cJT_writeBehind_21 rfl (lv_at hl 2 rfl) ?_
  refine w_v (y := rv ad 3 x3) rfl ?_
  obtain ⟨j_10, hj_11, hl_12, Heq⟩ := gn_some Heq
  refine w_s (st' := [rv ad 3 x3, .ref (ad 3 j_10), rv ad 8 (S_8.r 11 0 x0)]) (congrArg (fun z9 : Option Nat => [rv ad 3 x3, rv ad 3 z9, rv ad 8 (S_8.r 11 0 x0)]) hj_11) ?_
  obtain ⟨j_13, hj_14, hl_15, Heq⟩ := gn_some Heq
  refine w_s (st' := [rv ad 3 x3, .ref (ad 3 j_10), .ref (ad 8 j_13)]) (congrArg (fun z9 : Option Nat => [rv ad 3 x3, .ref (ad 3 j_10), rv ad 8 z9]) hj_14) ?_
  have hl : lv_has ls 8 [(7, rv ad 3 v_9), (0, .ref (ad 11 x0))] := lv_sub hl [0, 1] rfl
  obtain ⟨N_18, S_19, a9, b9, a8, b8, h_17, Heq, e9a, e9b⟩ := ov_some Heq
  refine w_s (st' := [rv ad 3 x3, .ref (ad 3 j_10), .ref (ad 8 j_13)]) rfl ?_
  have hFc := fr_all hD hS hA
  refine va_callv (va_runV (As := [.ref (ad 3 j_10), rv ad 3 x3]) (rest := []) ⟨hx, hb, hml, hown, hts⟩ (g_cSt_openElement l D H.size (ad := ad) (cc := cc) (sad := sad) (sav := sav) h_17) (cw_v 2 hts kw_808 kw_805 kw_806 kw_807 kw_2 rfl rfl (by decide +kernel) ⟨Nat.le_of_ble_eq_true rfl, Nat.le_of_ble_eq_true rfl⟩) ⟨c_blind, va_recv hK hP (ci := 8) (q0 := cPos N_7 8 j_13) rfl (cw_obj (k := 8) (by decide) hl_15), fun U hU hW => c_pre hU hW hP hK hD hev hE hN hNS hS hFc⟩ rfl rfl hl.1 rfl (lv_room (Nat.le_of_ble_eq_true rfl)) d_cJT_writeBehind_22 ⟨(Nat.le_trans (m := CT) (by omega) hCT), (Nat.le_trans (m := ST) (by omega) hST)⟩) hS (fun q _ h => hFc q h) hFc (fun ad t H1 locs ht hvm hw hB hz1 hk1 hS => ?_)
  obtain ⟨hX1, hP, -, hD1⟩ := hB
  rw [ht] at hP
  have hD := hD1.weaken (fun _ q _ h => hFc q.1 h)
  generalize H1 = H at hP hS ⊢
  have hX := hX.tr hX1
  have hl : lv_has ls 8 [(7, rv ad 3 v_9), (0, .ref (ad 11 x0))] := lv_cast hl (by first | rfl | simp only [hX1.rv (k := 3) (x := v_9) (fun _ q9 => by rw [hj_11] at q9; cases q9; exact hl_12), hX1.2 11 x0 hl_x0_11])
  have hl_x0_11 := Nat.lt_of_lt_of_le hl_x0_11 (hX1.1 11)
  have hl_x2_3 := Nat.lt_of_lt_of_le hl_x2_3 (hX1.1 3)
  have hl_x1_4 := Nat.lt_of_lt_of_le hl_x1_4 (hX1.1 4)
  have hl_3 := Nat.lt_of_lt_of_le hl_3 (hX1.1 8)
  have hl_12 := Nat.lt_of_lt_of_le hl_12 (hX1.1 3)
  have hl_15 := Nat.lt_of_lt_of_le hl_15 (hX1.1 8)
  have hv_4 := fun j9 q9 => Nat.lt_of_lt_of_le (hv_4 j9 q9) (hX1.1 3)
  refine tx_aload (x := v_9.map (ad 3)) hx hb d_cJT_writeBehind_25 (lv_at hl 0 rfl) ?_
  refine w_v (y := rv ad 3 v_9) rfl ?_
  obtain ⟨e9, e9a, e9b⟩ := tri Heq
  refine W.cs (cells' := CT) (slots' := ST) (by omega) (by omega) ?_
  exact Kr _ e9 27 _ _ _ _ d_cJT_writeBehind_27 hX hP hD hS
noncomputable def m_cJT_writeBehind (N : Nat → Nat) (x0 : Nat) (S : CS) (x1 : Nat) (x2 : Nat) (x3 : Option Nat) (x4 : Int32) (x5 : Int64) : Option (((Nat → Nat) × CS × Option Nat) × Nat × Nat) := m_cJT_writeBehind_J0 N x0 S x1 x2 x3 x4 x5
set_option maxHeartbeats 4000000 in
theorem g_cJT_writeBehind (l : Launch) (D : va_G) (sz : Nat) {ad : Nat → Nat → Nat} {cc : Nat → ClassId} {sad sav : Nat → Nat} {N : Nat → Nat} {x0 : Nat} {S : CS} {x1 : Nat} {x2 : Nat} {x3 : Option Nat} {x4 : Int32} {x5 : Int64} {o : (Nat → Nat) × CS × Option Nat} {oc os : Nat} (Heq : m_cJT_writeBehind N x0 S x1 x2 x3 x4 x5 = some (o, oc, os)) : Met l ⟨"JoinedTrees", "writeBehind", "(LJoinedTrees$Replica;LJoinedTrees$Op;LJoinedTrees$Op;IJ)LJoinedTrees$Op;"⟩ (Cond.code ⟨"JoinedTrees", "writeBehind", "(LJoinedTrees$Replica;LJoinedTrees$Op;LJoinedTrees$Op;IJ)LJoinedTrees$Op;"⟩ prog_1_method_48_code 8 (some (.object "JoinedTrees$Op")) :: gb) ({ frames := 4, cells := oc, slots := os, locals := 93 }) (cPc sad sav D (cw ad cc N S) (cty cc) sz [.ref (ad 11 x0), .ref (ad 4 x1), .ref (ad 3 x2), rv ad 3 x3, .int x4, .long x5]) (va_Qq (fun (r : Option Nat) (u : Nat → Nat → Nat) => r = o.2.2.map (u 3)) (fun (u : Nat → Nat → Nat) t => Ext ad N u o.1 ∧ gO D (cw u cc o.1 o.2.1) (cty cc) (va_A (cw ad cc N S) sz) t) (va_A (cw ad cc N S) sz)) oc os (va_A (cw ad cc N S) sz) := by
  refine Met.ofW (cc := prog_1_method_48_code) (maxL := 8) (ret := (some (.object "JoinedTrees$Op"))) (by decide) rfl ?_
  intro p e s m args below meth c s₁ B hml hv
  obtain ⟨rfl, hsz, hP, hK, hD0, hev, hE, hN⟩ := hv
  have hx := B.exec
  have hb := B.bytes
  have hr := B.returns
  have hts : ∀ w9 ∈ gb, w9.before [.ref (ad 11 x0), .ref (ad 4 x1), .ref (ad 3 x2), rv ad 3 x3, .int x4, .long x5].toArray s = true := fun w9 h => atoms_spec (ws := Cond.code ⟨"JoinedTrees", "writeBehind", "(LJoinedTrees$Replica;LJoinedTrees$Op;LJoinedTrees$Op;IJ)LJoinedTrees$Op;"⟩ prog_1_method_48_code 8 (some (.object "JoinedTrees$Op")) :: gb) B.pre w9 (List.mem_cons_of_mem _ h)
  have hown : s.vm.findClass "JoinedTrees" = some m.cls := findClass_of_methodNamed B.named
  have hlocks := B.notSynchronized
  have hNS := ns_of hP
  subst hsz
  have hD := hD0.self (sz := s.heap.size)
  generalize hAe : va_A (cw ad cc N S) s.heap.size = A at hD hev hE hNS ⊢
  have hA : ∀ q : Nat, s.heap.size ≤ q → A q := fun q h => by rw [← hAe]; exact Or.inr h
  have hS : va_S A s.heap s.heap [] := va_S.rf
  obtain ⟨ls, hl, hle⟩ : ∃ ls : Array Slot, lv_has ls 8 [(0, .ref (ad 11 x0)), (1, .ref (ad 4 x1)), (2, .ref (ad 3 x2)), (3, rv ad 3 x3), (4, .int x4), (5, .long x5)] ∧ entryFrame m ([.ref (ad 11 x0), .ref (ad 4 x1), .ref (ad 3 x2), rv ad 3 x3, .int x4, .long x5] : List Value).toArray 8 = F0 m 0 ls [] := by
    rcases x3 with _ | x3
    all_goals exact ⟨_, lv_entry (n := 8) _ (Nat.le_of_ble_eq_true rfl), lg_entry_eq ..⟩
  rw [hle]
  refine w_cJT_writeBehind_J0 (ad0 := ad) (N0 := N) (CT := oc) (ST := os) (cR := oc) (sR := os) ⟨hx, hb, hr, hml, hown, hts, hK, hA, hev, hE, hN, hNS⟩ (Nat.le_refl _) (Nat.le_refl _) Heq (fun r h pc ad1 H locs ls hd hX hP hD hS => ?_) _ _ _ _ 0 0 Ext.rf (Nat.zero_add _) (Nat.zero_add _) hP hD hS (lv_sub hl [0, 1, 2, 3, 4, 5] rfl)
  subst h
  exact W.aret hx hb hr (Or.inl ⟨_, rfl⟩) (va_rf_or _) (fun t ht hW => ⟨⟨_, ad1, rfl, rfl, hX, by rw [ht]; exact hP, va_K.moved hW.alike hK, hD⟩, hS.F ht⟩) hS.2.2 hd
noncomputable def m_cJT_insert_J0 (N : Nat → Nat) (x0 : Nat) (S : CS) (x1 : Int32) (x2 : Int32) (x3 : Int32) (x4 : Int32) (x5 : Int64) : Option ((((Nat → Nat) × CS × Int32) ⊕ ((Nat → Nat) × CS × Nat)) × Nat × Nat) := gl x0 (N 11) (ob (m_cJT_takeArguments N x0 S) (fun o_1 => oe (m_cJT_shown N x0 o_1.1 x1) (fun o_3 => oe (m_cJT_needValue N x0 o_3.1 x4 o_1.2 0) (fun o_6 => oe (m_cJT_listAt N x0 o_6 x2) (fun o_9 => gn o_9.2 (N 3) (fun j_12 => oe (m_cJT_elementBefore N x0 o_9.1 j_12 x3) (fun o_15 => gn o_3.2 (N 4) (fun j_18 => oe (m_cJT_needAll N x0 o_15.1 j_18) (fun o_21 => gn (o_21.r 11 9 x0) (N 5) (fun j_24 => ob (m_cJT_stringLength N o_21 x4 j_24) (fun o_27 => oe (m_cJT_needRoom N x0 o_27.1 1 o_27.2) (fun o_29 => oq (m_cJT_writeBehind N x0 o_29 j_18 j_12 o_15.2 x4 x5) (fun N_34 S_35 v_36 => gn (S_35.r 11 9 x0) (N_34 5) (fun j_37 => gn v_36 (N_34 3) (fun j_40 => ob (m_cJT_giveString N_34 x0 S_35 j_40 j_37) (fun o_43 => some ((.inl (N_34, o_43, o_43.i 3 0 j_40)), 0, 0)))))) (fun t_31 => some ((.inr (N, t_31.1, t_31.2)), 1, 6))))) (fun t_23 => some ((.inr (N, t_23.1, t_23.2)), 1, 6)))) (fun t_17 => some ((.inr (N, t_17.1, t_17.2)), 1, 6)))) (fun t_11 => some ((.inr (N, t_11.1, t_11.2)), 1, 6))) (fun t_8 => some ((.inr (N, t_8.1, t_8.2)), 1, 6))) (fun t_5 => some ((.inr (N, t_5.1, t_5.2)), 1, 6))))
theorem d_cJT_insert_0 : decode prog_1_method_6_code 0 = .ok (.aload_n 0, 1) := by decide +kernel
theorem d_cJT_insert_1 : decode prog_1_method_6_code 1 = .ok (.invokevirtual 102, 3) := by decide +kernel
theorem d_cJT_insert_4 : decode prog_1_method_6_code 4 = .ok (.istore 7, 2) := by decide +kernel
theorem d_cJT_insert_6 : decode prog_1_method_6_code 6 = .ok (.aload_n 0, 1) := by decide +kernel
theorem d_cJT_insert_7 : decode prog_1_method_6_code 7 = .ok (.iload_n 1, 1) := by decide +kernel
theorem d_cJT_insert_8 : decode prog_1_method_6_code 8 = .ok (.invokevirtual 105, 3) := by decide +kernel
theorem d_cJT_insert_11 : decode prog_1_method_6_code 11 = .ok (.astore 8, 2) := by decide +kernel
theorem d_cJT_insert_13 : decode prog_1_method_6_code 13 = .ok (.aload_n 0, 1) := by decide +kernel
theorem d_cJT_insert_14 : decode prog_1_method_6_code 14 = .ok (.iload 4, 2) := by decide +kernel
theorem d_cJT_insert_16 : decode prog_1_method_6_code 16 = .ok (.iload 7, 2) := by decide +kernel
theorem d_cJT_insert_18 : decode prog_1_method_6_code 18 = .ok (.iconst 0, 1) := by decide +kernel
theorem d_cJT_insert_19 : decode prog_1_method_6_code 19 = .ok (.invokevirtual 109, 3) := by decide +kernel
theorem d_cJT_insert_22 : decode prog_1_method_6_code 22 = .ok (.aload_n 0, 1) := by decide +kernel
theorem d_cJT_insert_23 : decode prog_1_method_6_code 23 = .ok (.iload_n 2, 1) := by decide +kernel
theorem d_cJT_insert_24 : decode prog_1_method_6_code 24 = .ok (.invokevirtual 145, 3) := by decide +kernel
theorem d_cJT_insert_27 : decode prog_1_method_6_code 27 = .ok (.astore 9, 2) := by decide +kernel
theorem d_cJT_insert_29 : decode prog_1_method_6_code 29 = .ok (.aload_n 0, 1) := by decide +kernel
theorem d_cJT_insert_30 : decode prog_1_method_6_code 30 = .ok (.aload 9, 2) := by decide +kernel
theorem d_cJT_insert_32 : decode prog_1_method_6_code 32 = .ok (.iload_n 3, 1) := by decide +kernel
theorem d_cJT_insert_33 : decode prog_1_method_6_code 33 = .ok (.invokevirtual 160, 3) := by decide +kernel
theorem d_cJT_insert_36 : decode prog_1_method_6_code 36 = .ok (.astore 10, 2) := by decide +kernel
theorem d_cJT_insert_38 : decode prog_1_method_6_code 38 = .ok (.aload_n 0, 1) := by decide +kernel
theorem d_cJT_insert_39 : decode prog_1_method_6_code 39 = .ok (.aload 8, 2) := by decide +kernel
theorem d_cJT_insert_41 : decode prog_1_method_6_code 41 = .ok (.invokevirtual 120, 3) := by decide +kernel
theorem d_cJT_insert_44 : decode prog_1_method_6_code 44 = .ok (.aload_n 0, 1) := by decide +kernel
theorem d_cJT_insert_45 : decode prog_1_method_6_code 45 = .ok (.iconst 1, 1) := by decide +kernel
theorem d_cJT_insert_46 : decode prog_1_method_6_code 46 = .ok (.iload 4, 2) := by decide +kernel
theorem d_cJT_insert_48 : decode prog_1_method_6_code 48 = .ok (.aload_n 0, 1) := by decide +kernel
theorem d_cJT_insert_49 : decode prog_1_method_6_code 49 = .ok (.getfield 70, 3) := by decide +kernel
theorem d_cJT_insert_52 : decode prog_1_method_6_code 52 = .ok (.invokestatic 124, 3) := by decide +kernel
theorem d_cJT_insert_55 : decode prog_1_method_6_code 55 = .ok (.invokevirtual 128, 3) := by decide +kernel
theorem d_cJT_insert_58 : decode prog_1_method_6_code 58 = .ok (.aload_n 0, 1) := by decide +kernel
theorem d_cJT_insert_59 : decode prog_1_method_6_code 59 = .ok (.aload 8, 2) := by decide +kernel
theorem d_cJT_insert_61 : decode prog_1_method_6_code 61 = .ok (.aload 9, 2) := by decide +kernel
theorem d_cJT_insert_63 : decode prog_1_method_6_code 63 = .ok (.aload 10, 2) := by decide +kernel
theorem d_cJT_insert_65 : decode prog_1_method_6_code 65 = .ok (.iload 4, 2) := by decide +kernel
theorem d_cJT_insert_67 : decode prog_1_method_6_code 67 = .ok (.lload 5, 2) := by decide +kernel
theorem d_cJT_insert_69 : decode prog_1_method_6_code 69 = .ok (.invokevirtual 164, 3) := by decide +kernel
theorem d_cJT_insert_72 : decode prog_1_method_6_code 72 = .ok (.astore 11, 2) := by decide +kernel
theorem d_cJT_insert_74 : decode prog_1_method_6_code 74 = .ok (.aload_n 0, 1) := by decide +kernel
theorem d_cJT_insert_75 : decode prog_1_method_6_code 75 = .ok (.aload 11, 2) := by decide +kernel
theorem d_cJT_insert_77 : decode prog_1_method_6_code 77 = .ok (.aload_n 0, 1) := by decide +kernel
theorem d_cJT_insert_78 : decode prog_1_method_6_code 78 = .ok (.getfield 70, 3) := by decide +kernel
theorem d_cJT_insert_81 : decode prog_1_method_6_code 81 = .ok (.invokevirtual 136, 3) := by decide +kernel
theorem d_cJT_insert_84 : decode prog_1_method_6_code 84 = .ok (.aload 11, 2) := by decide +kernel
theorem d_cJT_insert_86 : decode prog_1_method_6_code 86 = .ok (.getfield 140, 3) := by decide +kernel
theorem d_cJT_insert_89 : decode prog_1_method_6_code 89 = .ok (.ireturn, 1) := by decide +kernel
set_option maxHeartbeats 4000000 in
set_option maxRecDepth 100000 in
theorem w_cJT_insert_J0 {p : Program} {l : Launch} {e : Env} {s : State} {m : MethodId} {args : Array Value} {below : List Frame} {meth : Method} {c : Code} {A : Nat → Prop} {D : va_G} {cc : Nat → ClassId} {sad sav : Nat → Nat} {Q : State → Prop} {ad0 : Nat → Nat → Nat} {N0 : Nat → Nat} {CT ST cR sR : Nat} (hfl : l.flags = flags0) (hC : MCc sad sav "JoinedTrees" prog_1_method_6_code 12 (some .int) p s m args meth c A D cc) (hCT : CT ≤ cR) (hST : ST ≤ sR) {N : Nat → Nat} {x0 : Nat} {S : CS} {x1 : Int32} {x2 : Int32} {x3 : Int32} {x4 : Int32} {x5 : Int64} {o : (((Nat → Nat) × CS × Int32) ⊕ ((Nat → Nat) × CS × Nat))} {oc os : Nat} (Heq : m_cJT_insert_J0 N x0 S x1 x2 x3 x4 x5 = some (o, oc, os)) (Kr : ∀ r : (((Nat → Nat) × CS × Int32) ⊕ ((Nat → Nat) × CS × Nat)), o = r → (∀ v9 : (Nat → Nat) × CS × Int32, r = .inl v9 → ∀ (pc : Nat) (ad : Nat → Nat → Nat) (H : Heap) (locs : List Loc) (ls : Array Slot), decode prog_1_method_6_code pc = .ok (.ireturn, 1) → Ext ad0 N0 ad (v9.1) → va_P D cls (cw ad cc v9.1 v9.2.1) H → va_D A (cw ad cc v9.1 v9.2.1) → va_S A s.heap H locs → W p l e ({ frames := 8, cells := cR, slots := sR, locals := 140 }) s m args below meth c H locs CT ST Q (F0 m pc ls [.int v9.2.2])) ∧ (∀ t9 : (Nat → Nat) × CS × Nat, r = .inr t9 → (∀ (pc : Nat) (ad : Nat → Nat → Nat) (H : Heap) (locs : List Loc) (ls : Array Slot) (cells slots : Nat), cells + 1 = CT → slots + 6 = ST → thD prog_1_method_6_code t9.2.2 pc → ls.size = 12 → Ext ad0 N0 ad t9.1 → va_P D cls (cw ad cc t9.1 t9.2.1) H → va_D A (cw ad cc t9.1 t9.2.1) → va_S A s.heap H locs → W p l e ({ frames := 8, cells := cR, slots := sR, locals := 140 }) s m args below meth c H locs cells slots Q (F0 m pc ls [])) ∧ (∀ (pc : Nat) (ad : Nat → Nat → Nat) (H : Heap) (locs : List Loc) (ls : Array Slot) (st0 rest9 : List Value) (A9 : Nat → Prop) (cells slots : Nat), cells + 1 = CT → slots + 6 = ST → Ext ad0 N0 ad t9.1 → va_D A (cw ad cc t9.1 t9.2.1) → tx_Thr p l e ({ frames := 8, cells := cR, slots := sR, locals := 140 }) s m args below meth c H locs cells slots 1 6 (F0 m pc ls st0) rest9 (exN t9.2.2) A9 (fun H1 => va_P D cls (cw ad cc t9.1 t9.2.1) H1) → (∀ q, A9 q → A q) → va_S A s.heap H locs → W p l e ({ frames := 8, cells := cR, slots := sR, locals := 140 }) s m args below meth c H locs cells slots Q (F0 m pc ls st0)))) : ∀ (ad : Nat → Nat → Nat) (H : Heap) (locs : List Loc) (ls : Array Slot) (cells slots : Nat), Ext ad0 N0 ad N → cells + oc = CT → slots + os = ST → va_P D cls (cw ad cc N S) H → va_D A (cw ad cc N S) → va_S A s.heap H locs → lv_has ls 12 [(0, .ref (ad 11 x0)), (1, .int x1), (2, .int x2), (3, .int x3), (4, .int x4), (5, .long x5)] → W p l e ({ frames := 8, cells := cR, slots := sR, locals := 140 }) s m args below meth c H locs cells slots Q (F0 m 0 ls []) := by
  intro ad H locs ls cells slots hX hcu hsu hP hD hS hl
  obtain ⟨hx, hb, hr, hml, hown, hts, hK, hA, hev, hE, hN, hNS⟩ := id hC
  unfold m_cJT_insert_J0 at Heq
  refine lv_aload_n hx hb d_cJT_insert_0 rfl (lv_at hl 0 rfl) ?_
  obtain ⟨hl_x0_11, Heq⟩ := gl_some Heq
  obtain ⟨o_1, h_2, Heq⟩ := ob_some Heq
  have hFc := fr_all hD hS hA
  refine va_calli (va_runV (As := []) (rest := []) ⟨hx, hb, hml, hown, hts⟩ (g_cJT_takeArguments l D H.size (ad := ad) (cc := cc) (sad := sad) (sav := sav) h_2) (cw_v 0 hts kw_589 kw_586 kw_588 kp_2 kw_1 rfl rfl (by decide +kernel) ⟨Nat.le_of_ble_eq_true rfl, Nat.le_of_ble_eq_true rfl⟩) ⟨c_blind, va_recv hK hP (ci := 11) (q0 := cPos N 11 x0) rfl (cw_obj (k := 11) (by decide) hl_x0_11), fun U hU hW => c_pre hU hW hP hK hD hev hE hN hNS hS hFc⟩ rfl rfl hl.1 rfl (lv_room (Nat.le_of_ble_eq_true rfl)) d_cJT_insert_1 ⟨(Nat.le_trans (m := CT) (by omega) hCT), (Nat.le_trans (m := ST) (by omega) hST)⟩) hS (fun q _ h => hFc q h) hFc (fun rz u t H1 locs ht hvm hw hB hz1 hk1 hS => ?_)
  obtain ⟨hP, -, hD1⟩ := hB
  rw [ht] at hP
  have hD := hD1.weaken (fun _ q _ h => hFc q.1 h)
  generalize H1 = H at hP hS ⊢
  subst hw
  refine lv_istore (lv' := [(7, .int o_1.2), (0, .ref (ad 11 x0)), (1, .int x1), (2, .int x2), (3, .int x3), (4, .int x4), (5, .long x5)]) hx hb d_cJT_insert_4 hl (by decide) rfl (fun ls hl => ?_)
  refine lv_aload_n hx hb d_cJT_insert_6 rfl (lv_at hl 1 rfl) ?_
  refine lv_iload_n hx hb d_cJT_insert_7 rfl (lv_at hl 2 rfl) ?_
  have hFc := fr_all hD hS hA
  rcases oe_some Heq with ⟨o_3, h_4, Heq⟩ | ⟨t_5, h_4, Heq⟩
  case inr =>
    obtain ⟨e9, e9a, e9b⟩ := tri Heq
    exact ((Kr _ e9).2 _ rfl).2 8 _ _ _ _ _ _ _ _ _ (by omega) (by omega) hX (d_cw _ hD) (tx_runV (As := [.int x1]) (rest := []) ⟨hx, hb, hml, hown, hts⟩ (g_cJT_shown_t l hfl D H.size (ad := ad) (cc := cc) (sad := sad) (sav := sav) h_4) (cw_v 1 hts kw_593 kw_590 kw_592 kp_3 kw_1 rfl rfl (by decide +kernel) ⟨Nat.le_of_ble_eq_true rfl, Nat.le_of_ble_eq_true rfl⟩) ⟨c_blind, va_recv hK hP (ci := 11) (q0 := cPos N 11 x0) rfl (cw_obj (k := 11) (by decide) hl_x0_11), fun U hU hW => c_pre hU hW hP hK hD hev hE hN hNS hS hFc⟩ rfl rfl hl.1 rfl (lv_room (Nat.le_of_ble_eq_true rfl)) d_cJT_insert_8 ⟨(Nat.le_trans (m := CT) (by omega) hCT), (Nat.le_trans (m := ST) (by omega) hST)⟩) hFc hS
  refine va_callq (va_runV (As := [.int x1]) (rest := []) ⟨hx, hb, hml, hown, hts⟩ (g_cJT_shown l hfl D H.size (ad := ad) (cc := cc) (sad := sad) (sav := sav) h_4) (cw_v 1 hts kw_593 kw_590 kw_592 kp_3 kw_1 rfl rfl (by decide +kernel) ⟨Nat.le_of_ble_eq_true rfl, Nat.le_of_ble_eq_true rfl⟩) ⟨c_blind, va_recv hK hP (ci := 11) (q0 := cPos N 11 x0) rfl (cw_obj (k := 11) (by decide) hl_x0_11), fun U hU hW => c_pre hU hW hP hK hD hev hE hN hNS hS hFc⟩ rfl rfl hl.1 rfl (lv_room (Nat.le_of_ble_eq_true rfl)) d_cJT_insert_8 ⟨(Nat.le_trans (m := CT) (by omega) hCT), (Nat.le_trans (m := ST) (by omega) hST)⟩) hS (fun q _ h => hFc q h) hFc (fun rz u t H1 locs ht hvm hw hB hz1 hk1 hS => ?_)
  obtain ⟨hP, -, hD1⟩ := hB
  rw [ht] at hP
  have hD := hD1.weaken (fun _ q _ h => hFc q.1 h)
  generalize H1 = H at hP hS ⊢
  subst hw
  refine w_v (y := rv ad 4 o_3.2) rfl ?_
  refine tx_astore (x := o_3.2.map (ad 4)) (lv' := [(8, rv ad 4 o_3.2), (7, .int o_1.2), (0, .ref (ad 11 x0)), (1, .int x1), (2, .int x2), (3, .int x3), (4, .int x4), (5, .long x5)]) hx hb d_cJT_insert_11 hl (by decide) rfl (fun ls hl => ?_)
  refine lv_aload_n hx hb d_cJT_insert_13 rfl (lv_at hl 2 rfl) ?_
  refine lv_iload hx hb d_cJT_insert_14 (lv_at hl 6 rfl) ?_
  refine lv_iload hx hb d_cJT_insert_16 (lv_at hl 1 rfl) ?_
  refine lv_iconst (v := 0) hx hb d_cJT_insert_18 (by decide) ?_
  have hFc := fr_all hD hS hA
  rcases oe_some Heq with ⟨o_6, h_7, Heq⟩ | ⟨t_8, h_7, Heq⟩
  case inr =>
    obtain ⟨e9, e9a, e9b⟩ := tri Heq
    exact ((Kr _ e9).2 _ rfl).2 19 _ _ _ _ _ _ _ _ _ (by omega) (by omega) hX (d_cw _ hD) (tx_runV (As := [.int x4, .int o_1.2, .int 0]) (rest := []) ⟨hx, hb, hml, hown, hts⟩ (g_cJT_needValue_t l hfl D H.size (ad := ad) (cc := cc) (sad := sad) (sav := sav) h_7) (cw_v 3 hts kw_604 kw_601 kw_603 kp_4 kw_1 rfl rfl (by decide +kernel) ⟨Nat.le_of_ble_eq_true rfl, Nat.le_of_ble_eq_true rfl⟩) ⟨c_blind, va_recv hK hP (ci := 11) (q0 := cPos N 11 x0) rfl (cw_obj (k := 11) (by decide) hl_x0_11), fun U hU hW => c_pre hU hW hP hK hD hev hE hN hNS hS hFc⟩ rfl rfl hl.1 rfl (lv_room (Nat.le_of_ble_eq_true rfl)) d_cJT_insert_19 ⟨(Nat.le_trans (m := CT) (by omega) hCT), (Nat.le_trans (m := ST) (by omega) hST)⟩) hFc hS
  refine va_callv (va_runV (As := [.int x4, .int o_1.2, .int 0]) (rest := []) ⟨hx, hb, hml, hown, hts⟩ (g_cJT_needValue l hfl D H.size (ad := ad) (cc := cc) (sad := sad) (sav := sav) h_7) (cw_v 3 hts kw_604 kw_601 kw_603 kp_4 kw_1 rfl rfl (by decide +kernel) ⟨Nat.le_of_ble_eq_true rfl, Nat.le_of_ble_eq_true rfl⟩) ⟨c_blind, va_recv hK hP (ci := 11) (q0 := cPos N 11 x0) rfl (cw_obj (k := 11) (by decide) hl_x0_11), fun U hU hW => c_pre hU hW hP hK hD hev hE hN hNS hS hFc⟩ rfl rfl hl.1 rfl (lv_room (Nat.le_of_ble_eq_true rfl)) d_cJT_insert_19 ⟨(Nat.le_trans (m := CT) (by omega) hCT), (Nat.le_trans (m := ST) (by omega) hST)⟩) hS (fun q _ h => hFc q h) hFc (fun u t H1 locs ht hvm hw hB hz1 hk1 hS => ?_)
  obtain ⟨hP, -, hD1⟩ := hB
  rw [ht] at hP
  have hD := hD1.weaken (fun _ q _ h => hFc q.1 h)
  generalize H1 = H at hP hS ⊢
  refine lv_aload_n hx hb d_cJT_insert_22 rfl (lv_at hl 2 rfl) ?_
  refine lv_iload_n hx hb d_cJT_insert_23 rfl (lv_at hl 4 rfl) ?_
  have hFc := fr_all hD hS hA
  rcases oe_some Heq with ⟨o_9, h_10, Heq⟩ | ⟨t_11, h_10, Heq⟩
  case inr =>
    obtain ⟨e9, e9a, e9b⟩ := tri Heq
    exact ((Kr _ e9).2 _ rfl).2 24 _ _ _ _ _ _ _ _ _ (by omega) (by omega) hX (d_cw _ hD) (tx_runV (As := [.int x2]) (rest := []) ⟨hx, hb, hml, hown, hts⟩ (g_cJT_listAt_t l hfl D H.size (ad := ad) (cc := cc) (sad := sad) (sav := sav) h_10) (cw_v 1 hts kw_776 kw_773 kw_775 kp_13 kw_1 rfl rfl (by decide +kernel) ⟨Nat.le_of_ble_eq_true rfl, Nat.le_of_ble_eq_true rfl⟩) ⟨c_blind, va_recv hK hP (ci := 11) (q0 := cPos N 11 x0) rfl (cw_obj (k := 11) (by decide) hl_x0_11), fun U hU hW => c_pre hU hW hP hK hD hev hE hN hNS hS hFc⟩ rfl rfl hl.1 rfl (lv_room (Nat.le_of_ble_eq_true rfl)) d_cJT_insert_24 ⟨(Nat.le_trans (m := CT) (by omega) hCT), (Nat.le_trans (m := ST) (by omega) hST)⟩) hFc hS
  refine va_callq (va_runV (As := [.int x2]) (rest := []) ⟨hx, hb, hml, hown, hts⟩ (g_cJT_listAt l hfl D H.size (ad := ad) (cc := cc) (sad := sad) (sav := sav) h_10) (cw_v 1 hts kw_776 kw_773 kw_775 kp_13 kw_1 rfl rfl (by decide +kernel) ⟨Nat.le_of_ble_eq_true rfl, Nat.le_of_ble_eq_true rfl⟩) ⟨c_blind, va_recv hK hP (ci := 11) (q0 := cPos N 11 x0) rfl (cw_obj (k := 11) (by decide) hl_x0_11), fun U hU hW => c_pre hU hW hP hK hD hev hE hN hNS hS hFc⟩ rfl rfl hl.1 rfl (lv_room (Nat.le_of_ble_eq_true rfl)) d_cJT_insert_24 ⟨(Nat.le_trans (m := CT) (by omega) hCT), (Nat.le_trans (m := ST) (by omega) hST)⟩) hS (fun q _ h => hFc q h) hFc (fun rz u t H1 locs ht hvm hw hB hz1 hk1 hS => ?_)
  obtain ⟨hP, -, hD1⟩ := hB
  rw [ht] at hP
  have hD := hD1.weaken (fun _ q _ h => hFc q.1 h)
  generalize H1 = H at hP hS ⊢
  subst hw
  refine w_v (y := rv ad 3 o_9.2) rfl ?_
  refine tx_astore (x := o_9.2.map (ad 3)) (lv' := [(9, rv ad 3 o_9.2), (8, rv ad 4 o_3.2), (7, .int o_1.2), (0, .ref (ad 11 x0)), (1, .int x1), (2, .int x2), (3, .int x3), (4, .int x4), (5, .long x5)]) hx hb d_cJT_insert_27 hl (by decide) (by simp [rv, rf_cat]) (fun ls hl => ?_)
  refine lv_aload_n hx hb d_cJT_insert_29 rfl (lv_at hl 3 rfl) ?_
  refine tx_aload (x := o_9.2.map (ad 3)) hx hb d_cJT_insert_30 (lv_at hl 0 rfl) ?_
  refine w_v (y := rv ad 3 o_9.2) rfl ?_
  refine lv_iload_n hx hb d_cJT_insert_32 rfl (lv_at hl 6 rfl) ?_
  obtain ⟨j_12, hj_13, hl_14, Heq⟩ := gn_some Heq
  refine w_s (st' := [.int x3, .ref (ad 3 j_12), .ref (ad 11 x0)]) (congrArg (fun z9 : Option Nat => [.int x3, rv ad 3 z9, .ref (ad 11 x0)]) hj_13) ?_
  have hFc := fr_all hD hS hA
  rcases oe_some Heq with ⟨o_15, h_16, Heq⟩ | ⟨t_17, h_16, Heq⟩
  case inr =>
    obtain ⟨e9, e9a, e9b⟩ := tri Heq
    exact ((Kr _ e9).2 _ rfl).2 33 _ _ _ _ _ _ _ _ _ (by omega) (by omega) hX (d_cw _ hD) (tx_runV (As := [.ref (ad 3 j_12), .int x3]) (rest := []) ⟨hx, hb, hml, hown, hts⟩ (g_cJT_elementBefore_t l hfl D H.size (ad := ad) (cc := cc) (sad := sad) (sav := sav) h_16) (cw_v 2 hts kw_800 kw_797 kw_799 kp_15 kw_1 rfl rfl (by decide +kernel) ⟨Nat.le_of_ble_eq_true rfl, Nat.le_of_ble_eq_true rfl⟩) ⟨c_blind, va_recv hK hP (ci := 11) (q0 := cPos N 11 x0) rfl (cw_obj (k := 11) (by decide) hl_x0_11), fun U hU hW => c_pre hU hW hP hK hD hev hE hN hNS hS hFc⟩ rfl rfl hl.1 rfl (lv_room (Nat.le_of_ble_eq_true rfl)) d_cJT_insert_33 ⟨(Nat.le_trans (m := CT) (by omega) hCT), (Nat.le_trans (m := ST) (by omega) hST)⟩) hFc hS
  refine va_callq (va_runV (As := [.ref (ad 3 j_12), .int x3]) (rest := []) ⟨hx, hb, hml, hown, hts⟩ (g_cJT_elementBefore l hfl D H.size (ad := ad) (cc := cc) (sad := sad) (sav := sav) h_16) (cw_v 2 hts kw_800 kw_797 kw_799 kp_15 kw_1 rfl rfl (by decide +kernel) ⟨Nat.le_of_ble_eq_true rfl, Nat.le_of_ble_eq_true rfl⟩) ⟨c_blind, va_recv hK hP (ci := 11) (q0 := cPos N 11 x0) rfl (cw_obj (k := 11) (by decide) hl_x0_11), fun U hU hW => c_pre hU hW hP hK hD hev hE hN hNS hS hFc⟩ rfl rfl hl.1 rfl (lv_room (Nat.le_of_ble_eq_true rfl)) d_cJT_insert_33 ⟨(Nat.le_trans (m := CT) (by omega) hCT), (Nat.le_trans (m := ST) (by omega) hST)⟩) hS (fun q _ h => hFc q h) hFc (fun rz u t H1 locs ht hvm hw hB hz1 hk1 hS => ?_)
  obtain ⟨hP, -, hD1⟩ := hB
  rw [ht] at hP
  have hD := hD1.weaken (fun _ q _ h => hFc q.1 h)
  generalize H1 = H at hP hS ⊢
  subst hw
  refine w_v (y := rv ad 3 o_15.2) rfl ?_
  refine tx_astore (x := o_15.2.map (ad 3)) (lv' := [(10, rv ad 3 o_15.2), (9, rv ad 3 o_9.2), (8, rv ad 4 o_3.2), (7, .int o_1.2), (0, .ref (ad 11 x0)), (1, .int x1), (2, .int x2), (3, .int x3), (4, .int x4), (5, .long x5)]) hx hb d_cJT_insert_36 hl (by decide) (by simp [rv, rf_cat]) (fun ls hl => ?_)
  refine lv_aload_n hx hb d_cJT_insert_38 rfl (lv_at hl 4 rfl) ?_
  refine tx_aload (x := o_3.2.map (ad 4)) hx hb d_cJT_insert_39 (lv_at hl 2 rfl) ?_
  refine w_v (y := rv ad 4 o_3.2) rfl ?_
  obtain ⟨j_18, hj_19, hl_20, Heq⟩ := gn_some Heq
  refine w_s (st' := [.ref (ad 4 j_18), .ref (ad 11 x0)]) (congrArg (fun z9 : Option Nat => [rv ad 4 z9, .ref (ad 11 x0)]) hj_19) ?_
  have hFc := fr_all hD hS hA
  rcases oe_some Heq with ⟨o_21, h_22, Heq⟩ | ⟨t_23, h_22, Heq⟩
  case inr =>
    obtain ⟨e9, e9a, e9b⟩ := tri Heq
    exact ((Kr _ e9).2 _ rfl).2 41 _ _ _ _ _ _ _ _ _ (by omega) (by omega) hX (d_cw _ hD) (tx_runV (As := [.ref (ad 4 j_18)]) (rest := []) ⟨hx, hb, hml, hown, hts⟩ (g_cJT_needAll_t l hfl D H.size (ad := ad) (cc := cc) (sad := sad) (sav := sav) h_22) (cw_v 1 hts kw_647 kw_644 kw_646 kp_8 kw_1 rfl rfl (by decide +kernel) ⟨Nat.le_of_ble_eq_true rfl, Nat.le_of_ble_eq_true rfl⟩) ⟨c_blind, va_recv hK hP (ci := 11) (q0 := cPos N 11 x0) rfl (cw_obj (k := 11) (by decide) hl_x0_11), fun U hU hW => c_pre hU hW hP hK hD hev hE hN hNS hS hFc⟩ rfl rfl hl.1 rfl (lv_room (Nat.le_of_ble_eq_true rfl)) d_cJT_insert_41 ⟨(Nat.le_trans (m := CT) (by omega) hCT), (Nat.le_trans (m := ST) (by omega) hST)⟩) hFc hS
  refine va_callv (va_runV (As := [.ref (ad 4 j_18)]) (rest := []) ⟨hx, hb, hml, hown, hts⟩ (g_cJT_needAll l hfl D H.size (ad := ad) (cc := cc) (sad := sad) (sav := sav) h_22) (cw_v 1 hts kw_647 kw_644 kw_646 kp_8 kw_1 rfl rfl (by decide +kernel) ⟨Nat.le_of_ble_eq_true rfl, Nat.le_of_ble_eq_true rfl⟩) ⟨c_blind, va_recv hK hP (ci := 11) (q0 := cPos N 11 x0) rfl (cw_obj (k := 11) (by decide) hl_x0_11), fun U hU hW => c_pre hU hW hP hK hD hev hE hN hNS hS hFc⟩ rfl rfl hl.1 rfl (lv_room (Nat.le_of_ble_eq_true rfl)) d_cJT_insert_41 ⟨(Nat.le_trans (m := CT) (by omega) hCT), (Nat.le_trans (m := ST) (by omega) hST)⟩) hS (fun q _ h => hFc q h) hFc (fun u t H1 locs ht hvm hw hB hz1 hk1 hS => ?_)
  obtain ⟨hP, -, hD1⟩ := hB
  rw [ht] at hP
  have hD := hD1.weaken (fun _ q _ h => hFc q.1 h)
  generalize H1 = H at hP hS ⊢
  refine lv_aload_n hx hb d_cJT_insert_44 rfl (lv_at hl 4 rfl) ?_
  refine lv_iconst (v := 1) hx hb d_cJT_insert_45 (by decide) ?_
  refine lv_iload hx hb d_cJT_insert_46 (lv_at hl 8 rfl) ?_
  refine lv_aload_n hx hb d_cJT_insert_48 rfl (lv_at hl 4 rfl) ?_
  refine va_get (D := D) (ci := 11) (v := rv ad 5 (o_21.r 11 9 x0)) (C := R_JT) (T := F_JT) (N := 13) hx hb hts i_JT hown hK hP (cPos N 11 x0) (cw_obj (k := 11) (by decide) hl_x0_11) rfl 9 (by decide) (hts _ kw_430) (fun _ h9 => h9) rfl d_cJT_insert_49 ?_
  obtain ⟨j_24, hj_25, hl_26, Heq⟩ := gn_some Heq
  refine w_s (st' := [.ref (ad 5 j_24), .int x4, .int 1, .ref (ad 11 x0)]) (congrArg (fun z9 : Option Nat => [rv ad 5 z9, .int x4, .int 1, .ref (ad 11 x0)]) hj_25) ?_
  obtain ⟨o_27, h_28, Heq⟩ := ob_some Heq
  have hFc := fr_all hD hS hA
  refine va_calli (va_runS (As := [.int x4, .ref (ad 5 j_24)]) (rest := [.int 1, .ref (ad 11 x0)]) ⟨hx, hb, hml, hown, hts⟩ (g_cJT_stringLength l D H.size (ad := ad) (cc := cc) (sad := sad) (sav := sav) h_28) (cw_s 2 hts kw_665 kw_663 kw_664 kw_1 rfl rfl (by decide +kernel) ⟨Nat.le_of_ble_eq_true rfl, Nat.le_of_ble_eq_true rfl⟩) ⟨c_blind, fun U hU hW => c_pre hU hW hP hK hD hev hE hN hNS hS hFc⟩ rfl rfl hl.1 rfl (lv_room (Nat.le_of_ble_eq_true rfl)) d_cJT_insert_52 ⟨(Nat.le_trans (m := CT) (by omega) hCT), (Nat.le_trans (m := ST) (by omega) hST)⟩) hS (fun q _ h => hFc q h) hFc (fun rz u t H1 locs ht hvm hw hB hz1 hk1 hS => ?_)
  obtain ⟨hP, -, hD1⟩ := hB
  rw [ht] at hP
  have hD := hD1.weaken (fun _ q _ h => hFc q.1 h)
  generalize H1 = H at hP hS ⊢
  subst hw
  have hFc := fr_all hD hS hA
  rcases oe_some Heq with ⟨o_29, h_30, Heq⟩ | ⟨t_31, h_30, Heq⟩
  case inr =>
    obtain ⟨e9, e9a, e9b⟩ := tri Heq
    exact ((Kr _ e9).2 _ rfl).2 55 _ _ _ _ _ _ _ _ _ (by omega) (by omega) hX (d_cw _ hD) (tx_runV (As := [.int 1, .int o_27.2]) (rest := []) ⟨hx, hb, hml, hown, hts⟩ (g_cJT_needRoom_t l hfl D H.size (ad := ad) (cc := cc) (sad := sad) (sav := sav) h_30) (cw_v 2 hts kw_669 kw_666 kw_668 kp_9 kw_1 rfl rfl (by decide +kernel) ⟨Nat.le_of_ble_eq_true rfl, Nat.le_of_ble_eq_true rfl⟩) ⟨c_blind, va_recv hK hP (ci := 11) (q0 := cPos N 11 x0) rfl (cw_obj (k := 11) (by decide) hl_x0_11), fun U hU hW => c_pre hU hW hP hK hD hev hE hN hNS hS hFc⟩ rfl rfl hl.1 rfl (lv_room (Nat.le_of_ble_eq_true rfl)) d_cJT_insert_55 ⟨(Nat.le_trans (m := CT) (by omega) hCT), (Nat.le_trans (m := ST) (by omega) hST)⟩) hFc hS
  refine va_callv (va_runV (As := [.int 1, .int o_27.2]) (rest := []) ⟨hx, hb, hml, hown, hts⟩ (g_cJT_needRoom l hfl D H.size (ad := ad) (cc := cc) (sad := sad) (sav := sav) h_30) (cw_v 2 hts kw_669 kw_666 kw_668 kp_9 kw_1 rfl rfl (by decide +kernel) ⟨Nat.le_of_ble_eq_true rfl, Nat.le_of_ble_eq_true rfl⟩) ⟨c_blind, va_recv hK hP (ci := 11) (q0 := cPos N 11 x0) rfl (cw_obj (k := 11) (by decide) hl_x0_11), fun U hU hW => c_pre hU hW hP hK hD hev hE hN hNS hS hFc⟩ rfl rfl hl.1 rfl (lv_room (Nat.le_of_ble_eq_true rfl)) d_cJT_insert_55 ⟨(Nat.le_trans (m := CT) (by omega) hCT), (Nat.le_trans (m := ST) (by omega) hST)⟩) hS (fun q _ h => hFc q h) hFc (fun u t H1 locs ht hvm hw hB hz1 hk1 hS => ?_)
  obtain ⟨hP, -, hD1⟩ := hB
  rw [ht] at hP
  have hD := hD1.weaken (fun _ q _ h => hFc q.1 h)
  generalize H1 = H at hP hS ⊢
  refine lv_aload_n hx hb d_cJT_insert_58 rfl (lv_at hl 4 rfl) ?_
  refine tx_aload (x := o_3.2.map (ad 4)) hx hb d_cJT_insert_59 (lv_at hl 2 rfl) ?_
  refine w_v (y := rv ad 4 o_3.2) rfl ?_
  refine tx_aload (x := o_9.2.map (ad 3)) hx hb d_cJT_insert_61 (lv_at hl 1 rfl) ?_
  refine w_v (y := rv ad 3 o_9.2) rfl ?_
  refine tx_aload (x := o_15.2.map (ad 3)) hx hb d_cJT_insert_63 (lv_at hl 0 rfl) ?_
  refine w_v (y := rv ad 3 o_15.2) rfl ?_
  refine lv_iload hx hb d_cJT_insert_65 (lv_at hl 8 rfl) ?_
  refine lv_lload hx hb d_cJT_insert_67 (lv_at hl 9 rfl) ?_
  refine w_s (st' := [.long x5, .int x4, rv ad 3 o_15.2, .ref (ad 3 j_12), rv ad 4 o_3.2, .ref (ad 11 x0)]) (congrArg (fun z9 : Option Nat => [.long x5, .int x4, rv ad 3 o_15.2, rv ad 3 z9, rv ad 4 o_3.2, .ref (ad 11 x0)]) hj_13) ?_
  refine w_s (st' := [.long x5, .int x4, rv ad 3 o_15.2, .ref (ad 3 j_12), .ref (ad 4 j_18), .ref (ad 11 x0)]) (congrArg (fun z9 : Option Nat => [.long x5, .int x4, rv ad 3 o_15.2, .ref (ad 3 j_12), rv ad 4 z9, .ref (ad 11 x0)]) hj_19) ?_
  have hl : lv_has ls 12 [(0, .ref (ad 11 x0))] := lv_sub hl [4] rfl
  obtain ⟨N_34, S_35, v_36, a9, b9, a8, b8, h_33, Heq, e9a, e9b⟩ := oq_some Heq
  refine w_s (st' := [.long x5, .int x4, rv ad 3 o_15.2, .ref (ad 3 j_12), .ref (ad 4 j_18), .ref (ad 11 x0)]) rfl ?_
  have hFc := fr_all hD hS hA
  refine va_callq (va_runV (As := [.ref (ad 4 j_18), .ref (ad 3 j_12), rv ad 3 o_15.2, .int x4, .long x5]) (rest := []) ⟨hx, hb, hml, hown, hts⟩ (g_cJT_writeBehind l D H.size (ad := ad) (cc := cc) (sad := sad) (sav := sav) h_33) (cw_v 5 hts kw_804 kw_801 kw_803 kp_16 kw_1 rfl rfl (by decide +kernel) ⟨Nat.le_of_ble_eq_true rfl, Nat.le_of_ble_eq_true rfl⟩) ⟨c_blind, va_recv hK hP (ci := 11) (q0 := cPos N 11 x0) rfl (cw_obj (k := 11) (by decide) hl_x0_11), fun U hU hW => c_pre hU hW hP hK hD hev hE hN hNS hS hFc⟩ rfl rfl hl.1 rfl (lv_room (Nat.le_of_ble_eq_true rfl)) d_cJT_insert_69 ⟨(Nat.le_trans (m := CT) (by omega) hCT), (Nat.le_trans (m := ST) (by omega) hST)⟩) hS (fun q _ h => hFc q h) hFc (fun rz ad t H1 locs ht hvm hw hB hz1 hk1 hS => ?_)
  obtain ⟨hX1, hP, -, hD1⟩ := hB
  rw [ht] at hP
  have hD := hD1.weaken (fun _ q _ h => hFc q.1 h)
  generalize H1 = H at hP hS ⊢
  subst hw
  refine w_v (y := rv ad 3 v_36) rfl ?_
  have hX := hX.tr hX1
  have hl : lv_has ls 12 [(0, .ref (ad 11 x0))] := lv_cast hl (by first | rfl | simp only [hX1.2 11 x0 hl_x0_11])
  refine w_s (st' := [rv ad 3 v_36]) (by first | rfl | simp only [hX1.2 11 x0 hl_x0_11]) ?_
  have hl_x0_11 := Nat.lt_of_lt_of_le hl_x0_11 (hX1.1 11)
  have hl_14 := Nat.lt_of_lt_of_le hl_14 (hX1.1 3)
  have hl_20 := Nat.lt_of_lt_of_le hl_20 (hX1.1 4)
  have hl_26 := Nat.lt_of_lt_of_le hl_26 (hX1.1 5)
  refine tx_astore (x := v_36.map (ad 3)) (lv' := [(11, rv ad 3 v_36), (0, .ref (ad 11 x0))]) hx hb d_cJT_insert_72 hl (by decide) rfl (fun ls hl => ?_)
  refine lv_aload_n hx hb d_cJT_insert_74 rfl (lv_at hl 1 rfl) ?_
  refine tx_aload (x := v_36.map (ad 3)) hx hb d_cJT_insert_75 (lv_at hl 0 rfl) ?_
  refine w_v (y := rv ad 3 v_36) rfl ?_
  refine lv_aload_n hx hb d_cJT_insert_77 rfl (lv_at hl 1 rfl) ?_
  refine va_get (D := D) (ci := 11) (v := rv ad 5 (S_35.r 11 9 x0)) (C := R_JT) (T := F_JT) (N := 13) hx hb hts i_JT hown hK hP (cPos N_34 11 x0) (cw_obj (k := 11) (by decide) hl_x0_11) rfl 9 (by decide) (hts _ kw_430) (fun _ h9 => h9) rfl d_cJT_insert_78 ?_
  obtain ⟨j_37, hj_38, hl_39, Heq⟩ := gn_some Heq
  refine w_s (st' := [.ref (ad 5 j_37), rv ad 3 v_36, .ref (ad 11 x0)]) (congrArg (fun z9 : Option Nat => [rv ad 5 z9, rv ad 3 v_36, .ref (ad 11 x0)]) hj_38) ?_
  obtain ⟨j_40, hj_41, hl_42, Heq⟩ := gn_some Heq
  refine w_s (st' := [.ref (ad 5 j_37), .ref (ad 3 j_40), .ref (ad 11 x0)]) (congrArg (fun z9 : Option Nat => [.ref (ad 5 j_37), rv ad 3 z9, .ref (ad 11 x0)]) hj_41) ?_
  obtain ⟨o_43, h_44, Heq⟩ := ob_some Heq
  have hFc := fr_all hD hS hA
  refine va_callv (va_runV (As := [.ref (ad 3 j_40), .ref (ad 5 j_37)]) (rest := []) ⟨hx, hb, hml, hown, hts⟩ (g_cJT_giveString l D H.size (ad := ad) (cc := cc) (sad := sad) (sav := sav) h_44) (cw_v 2 hts kw_761 kw_758 kw_760 kp_12 kw_1 rfl rfl (by decide +kernel) ⟨Nat.le_of_ble_eq_true rfl, Nat.le_of_ble_eq_true rfl⟩) ⟨c_blind, va_recv hK hP (ci := 11) (q0 := cPos N_34 11 x0) rfl (cw_obj (k := 11) (by decide) hl_x0_11), fun U hU hW => c_pre hU hW hP hK hD hev hE hN hNS hS hFc⟩ rfl rfl hl.1 rfl (lv_room (Nat.le_of_ble_eq_true rfl)) d_cJT_insert_81 ⟨(Nat.le_trans (m := CT) (by omega) hCT), (Nat.le_trans (m := ST) (by omega) hST)⟩) hS (fun q _ h => hFc q h) hFc (fun u t H1 locs ht hvm hw hB hz1 hk1 hS => ?_)
  obtain ⟨hP, -, hD1⟩ := hB
  rw [ht] at hP
  have hD := hD1.weaken (fun _ q _ h => hFc q.1 h)
  generalize H1 = H at hP hS ⊢
  refine tx_aload (x := v_36.map (ad 3)) hx hb d_cJT_insert_84 (lv_at hl 0 rfl) ?_
  refine w_v (y := rv ad 3 v_36) rfl ?_
  refine w_s (st' := [.ref (ad 3 j_40)]) (congrArg (fun z9 : Option Nat => [rv ad 3 z9]) hj_41) ?_
  refine va_get (D := D) (ci := 3) (v := .int (o_43.i 3 0 j_40)) (C := R_Op) (T := F_Op) (N := 15) hx hb hts i_Op hown hK hP (cPos N_34 3 j_40) (cw_obj (k := 3) (by decide) hl_42) rfl 0 (by decide) (hts _ kw_52) (fun _ h9 => h9) rfl d_cJT_insert_86 ?_
  obtain ⟨e9, e9a, e9b⟩ := tri Heq
  refine W.cs (cells' := CT) (slots' := ST) (by omega) (by omega) ?_
  exact (Kr _ e9).1 _ rfl 89 _ _ _ _ d_cJT_insert_89 hX hP hD hS
noncomputable def m_cJT_insert (N : Nat → Nat) (x0 : Nat) (S : CS) (x1 : Int32) (x2 : Int32) (x3 : Int32) (x4 : Int32) (x5 : Int64) : Option (((((Nat → Nat) × CS × Int32) ⊕ ((Nat → Nat) × CS × Nat))) × Nat × Nat) := m_cJT_insert_J0 N x0 S x1 x2 x3 x4 x5
set_option maxHeartbeats 4000000 in
theorem g_cJT_insert (l : Launch) (hfl : l.flags = flags0) (D : va_G) (sz : Nat) {ad : Nat → Nat → Nat} {cc : Nat → ClassId} {sad sav : Nat → Nat} {N : Nat → Nat} {x0 : Nat} {S : CS} {x1 : Int32} {x2 : Int32} {x3 : Int32} {x4 : Int32} {x5 : Int64} {o : (Nat → Nat) × CS × Int32} {oc os : Nat} (Heq : m_cJT_insert N x0 S x1 x2 x3 x4 x5 = some (.inl o, oc, os)) : Met l ⟨"JoinedTrees", "insert", "(IIIIJ)I"⟩ (Cond.code ⟨"JoinedTrees", "insert", "(IIIIJ)I"⟩ prog_1_method_6_code 12 (some .int) :: gb) ({ frames := 8, cells := oc, slots := os, locals := 140 }) (cPc sad sav D (cw ad cc N S) (cty cc) sz [.ref (ad 11 x0), .int x1, .int x2, .int x3, .int x4, .long x5]) (va_Qi (fun (r : Int32) (_ : Nat → Nat → Nat) => r = o.2.2) (fun (u : Nat → Nat → Nat) t => Ext ad N u o.1 ∧ gO D (cw u cc o.1 o.2.1) (cty cc) (va_A (cw ad cc N S) sz) t) (va_A (cw ad cc N S) sz)) oc os (va_A (cw ad cc N S) sz) := by
  refine Met.ofW (cc := prog_1_method_6_code) (maxL := 12) (ret := (some .int)) (by decide) rfl ?_
  intro p e s m args below meth c s₁ B hml hv
  obtain ⟨rfl, hsz, hP, hK, hD0, hev, hE, hN⟩ := hv
  have hx := B.exec
  have hb := B.bytes
  have hr := B.returns
  have hts : ∀ w9 ∈ gb, w9.before [.ref (ad 11 x0), .int x1, .int x2, .int x3, .int x4, .long x5].toArray s = true := fun w9 h => atoms_spec (ws := Cond.code ⟨"JoinedTrees", "insert", "(IIIIJ)I"⟩ prog_1_method_6_code 12 (some .int) :: gb) B.pre w9 (List.mem_cons_of_mem _ h)
  have hown : s.vm.findClass "JoinedTrees" = some m.cls := findClass_of_methodNamed B.named
  have hlocks := B.notSynchronized
  have hNS := ns_of hP
  subst hsz
  have hD := hD0.self (sz := s.heap.size)
  generalize hAe : va_A (cw ad cc N S) s.heap.size = A at hD hev hE hNS ⊢
  have hA : ∀ q : Nat, s.heap.size ≤ q → A q := fun q h => by rw [← hAe]; exact Or.inr h
  have hS : va_S A s.heap s.heap [] := va_S.rf
  obtain ⟨ls, hl, hle⟩ : ∃ ls : Array Slot, lv_has ls 12 [(0, .ref (ad 11 x0)), (1, .int x1), (2, .int x2), (3, .int x3), (4, .int x4), (5, .long x5)] ∧ entryFrame m ([.ref (ad 11 x0), .int x1, .int x2, .int x3, .int x4, .long x5] : List Value).toArray 12 = F0 m 0 ls [] := by
    exact ⟨_, lv_entry (n := 12) _ (Nat.le_of_ble_eq_true rfl), lg_entry_eq ..⟩
  rw [hle]
  refine w_cJT_insert_J0 (ad0 := ad) (N0 := N) (CT := oc) (ST := os) (cR := oc) (sR := os) hfl ⟨hx, hb, hr, hml, hown, hts, hK, hA, hev, hE, hN, hNS⟩ (Nat.le_refl _) (Nat.le_refl _) Heq (fun r h => ⟨fun v9 hv9 pc ad1 H locs ls hd hX hP hD hS => ?_, fun t9 ht9 => (by subst h; cases ht9)⟩) _ _ _ _ 0 0 Ext.rf (Nat.zero_add _) (Nat.zero_add _) hP hD hS (lv_sub hl [0, 1, 2, 3, 4, 5] rfl)
  subst h
  cases hv9
  exact W.iret hx hb hr (fun t ht hW => ⟨⟨_, ad1, rfl, rfl, hX, by rw [ht]; exact hP, va_K.moved hW.alike hK, hD⟩, hS.F ht⟩) hS.2.2 hd
set_option maxHeartbeats 4000000 in
theorem g_cJT_insert_t (l : Launch) (hfl : l.flags = flags0) (D : va_G) (sz : Nat) {ad : Nat → Nat → Nat} {cc : Nat → ClassId} {sad sav : Nat → Nat} {N : Nat → Nat} {x0 : Nat} {S : CS} {x1 : Int32} {x2 : Int32} {x3 : Int32} {x4 : Int32} {x5 : Int64} {o : (Nat → Nat) × CS × Nat} {oc os : Nat} (Heq : m_cJT_insert N x0 S x1 x2 x3 x4 x5 = some (.inr o, oc, os)) : MeT l ⟨"JoinedTrees", "insert", "(IIIIJ)I"⟩ (Cond.code ⟨"JoinedTrees", "insert", "(IIIIJ)I"⟩ prog_1_method_6_code 12 (some .int) :: gb) ({ frames := 8, cells := oc, slots := os, locals := 140 }) (cPc sad sav D (cw ad cc N S) (cty cc) sz [.ref (ad 11 x0), .int x1, .int x2, .int x3, .int x4, .long x5]) (exN o.2.2) (va_A (cw ad cc N S) sz) (fun H1 => ∃ ad1 : Nat → Nat → Nat, Ext ad N ad1 o.1 ∧ va_P D cls (cw ad1 cc o.1 o.2.1) H1 ∧ va_D (va_A (cw ad cc N S) sz) (cw ad1 cc o.1 o.2.1)) oc os := by
  refine MeT.ofW (cc := prog_1_method_6_code) (maxL := 12) (ret := (some .int)) (by decide) rfl ?_
  intro p e s m args below meth c s₁ B hml hno hv
  obtain ⟨rfl, hsz, hP, hK, hD0, hev, hE, hN⟩ := hv
  have hx := B.exec
  have hb := B.bytes
  have hr := B.returns
  have hts : ∀ w9 ∈ gb, w9.before [.ref (ad 11 x0), .int x1, .int x2, .int x3, .int x4, .long x5].toArray s = true := fun w9 h => atoms_spec (ws := Cond.code ⟨"JoinedTrees", "insert", "(IIIIJ)I"⟩ prog_1_method_6_code 12 (some .int) :: gb) B.pre w9 (List.mem_cons_of_mem _ h)
  have hown : s.vm.findClass "JoinedTrees" = some m.cls := findClass_of_methodNamed B.named
  have hlocks := B.notSynchronized
  have hNS := ns_of hP
  subst hsz
  have hD := hD0.self (sz := s.heap.size)
  generalize hAe : va_A (cw ad cc N S) s.heap.size = A at hD hev hE hNS ⊢
  have hA : ∀ q : Nat, s.heap.size ≤ q → A q := fun q h => by rw [← hAe]; exact Or.inr h
  have hS : va_S A s.heap s.heap [] := va_S.rf
  obtain ⟨ls, hl, hle⟩ : ∃ ls : Array Slot, lv_has ls 12 [(0, .ref (ad 11 x0)), (1, .int x1), (2, .int x2), (3, .int x3), (4, .int x4), (5, .long x5)] ∧ entryFrame m ([.ref (ad 11 x0), .int x1, .int x2, .int x3, .int x4, .long x5] : List Value).toArray 12 = F0 m 0 ls [] := by
    exact ⟨_, lv_entry (n := 12) _ (Nat.le_of_ble_eq_true rfl), lg_entry_eq ..⟩
  rw [hle]
  refine w_cJT_insert_J0 (ad0 := ad) (N0 := N) (CT := oc) (ST := os) (cR := oc) (sR := os) hfl ⟨hx, hb, hr, hml, hown, hts, hK, hA, hev, hE, hN, hNS⟩ (Nat.le_refl _) (Nat.le_refl _) Heq (fun r h => ⟨fun v9 hv9 => (by subst h; cases hv9), fun t9 ht9 => ⟨fun pc ad1 H locs ls cells slots hc1 hs1 hd hsz hX hP hD hS => ?_, fun pc ad1 H locs ls st0 rest9 A9 cells slots hc1 hs1 hX hD hr9 hF9 hS => ?_⟩⟩) _ _ _ _ 0 0 Ext.rf (Nat.zero_add _) (Nat.zero_add _) hP hD hS (lv_sub hl [0, 1, 2, 3, 4, 5] rfl)
  · subst h; cases ht9; subst hc1 hs1; exact tx_thrB hfl hx hb hno hlocks hown hts hev hN hNS hd (hsz.trans hml.symm) hP hS hA (Nat.le_refl _) (Nat.le_refl _) (Nat.le_of_ble_eq_true rfl) (Nat.le_of_ble_eq_true rfl) (fun H1 h1 => ⟨ad1, hX, h1, hD⟩)
  · subst h; cases ht9; subst hc1 hs1; exact tx_on (tx_Thr.mono hr9 (fun H1 h1 => ⟨ad1, hX, h1, hD⟩)) hno hlocks hS hF9
noncomputable def m_cJT_eraseRun_J42 (N : Nat → Nat) (x0 : Nat) (S : CS) (x1 : Option Nat) (x4 : Int32) (x5 : Option Nat) : Option ((((Nat → Nat) × CS × Option Nat × Int32 × Option Nat) ⊕ ((Nat → Nat) × CS)) × Nat × Nat) := gn x5 (N 7) (fun j_1 => some ((.inl (N, S, x1, x4, (S.r 7 2 j_1))), 0, 0))
theorem d_cJT_eraseRun_0 : decode prog_1_method_50_code 0 = .ok (.iload_n 3, 1) := by decide +kernel
theorem d_cJT_eraseRun_1 : decode prog_1_method_50_code 1 = .ok (.istore 4, 2) := by decide +kernel
theorem d_cJT_eraseRun_3 : decode prog_1_method_50_code 3 = .ok (.aload_n 2, 1) := by decide +kernel
theorem d_cJT_eraseRun_4 : decode prog_1_method_50_code 4 = .ok (.astore 5, 2) := by decide +kernel
theorem d_cJT_eraseRun_6 : decode prog_1_method_50_code 6 = .ok (.aload 5, 2) := by decide +kernel
theorem d_cJT_eraseRun_8 : decode prog_1_method_50_code 8 = .ok (.ifnull 44, 3) := by decide +kernel
theorem d_cJT_eraseRun_11 : decode prog_1_method_50_code 11 = .ok (.iload 4, 2) := by decide +kernel
theorem d_cJT_eraseRun_13 : decode prog_1_method_50_code 13 = .ok (.ifCond .le 39, 3) := by decide +kernel
theorem d_cJT_eraseRun_16 : decode prog_1_method_50_code 16 = .ok (.aload_n 0, 1) := by decide +kernel
theorem d_cJT_eraseRun_17 : decode prog_1_method_50_code 17 = .ok (.getfield 30, 3) := by decide +kernel
theorem d_cJT_eraseRun_20 : decode prog_1_method_50_code 20 = .ok (.aload 5, 2) := by decide +kernel
theorem d_cJT_eraseRun_22 : decode prog_1_method_50_code 22 = .ok (.invokevirtual 408, 3) := by decide +kernel
theorem d_cJT_eraseRun_25 : decode prog_1_method_50_code 25 = .ok (.ifnull 17, 3) := by decide +kernel
theorem d_cJT_eraseRun_42 : decode prog_1_method_50_code 42 = .ok (.aload 5, 2) := by decide +kernel
theorem d_cJT_eraseRun_44 : decode prog_1_method_50_code 44 = .ok (.getfield 440, 3) := by decide +kernel
theorem d_cJT_eraseRun_47 : decode prog_1_method_50_code 47 = .ok (.astore 5, 2) := by decide +kernel
theorem d_cJT_eraseRun_49 : decode prog_1_method_50_code 49 = .ok (.goto (-43), 3) := by decide +kernel
set_option maxHeartbeats 4000000 in
set_option maxRecDepth 100000 in
theorem w_cJT_eraseRun_J42 {p : Program} {l : Launch} {e : Env} {s : State} {m : MethodId} {args : Array Value} {below : List Frame} {meth : Method} {c : Code} {A : Nat → Prop} {D : va_G} {cc : Nat → ClassId} {sad sav : Nat → Nat} {Q : State → Prop} {ad0 : Nat → Nat → Nat} {N0 : Nat → Nat} {CT ST cR sR : Nat} (hC : MCc sad sav "JoinedTrees" prog_1_method_50_code 6 none p s m args meth c A D cc) (hCT : CT ≤ cR) (hST : ST ≤ sR) {N : Nat → Nat} {x0 : Nat} {S : CS} {x1 : Option Nat} {x4 : Int32} {x5 : Option Nat} {o : (((Nat → Nat) × CS × Option Nat × Int32 × Option Nat) ⊕ ((Nat → Nat) × CS))} {oc os : Nat} (Heq : m_cJT_eraseRun_J42 N x0 S x1 x4 x5 = some (o, oc, os)) (Ka : ∀ (N : Nat → Nat) (b : CS × Option Nat × Int32 × Option Nat), o = .inl (N, b) → ∀ (ad : Nat → Nat → Nat) (H : Heap) (locs : List Loc) (ls : Array Slot), Ext ad0 N0 ad N → va_P D cls (cw ad cc N b.1) H → va_D A (cw ad cc N b.1) → va_S A s.heap H locs → lv_has ls 6 [(0, .ref (ad 11 x0)), (1, rv ad 4 b.2.1), (4, .int b.2.2.1), (5, rv ad 7 b.2.2.2)] → W p l e ({ frames := 4, cells := cR, slots := sR, locals := 102 }) s m args below meth c H locs CT ST Q (F0 m 6 ls [])) (K0 : ∀ (N : Nat → Nat) (b : CS), o = .inr (N, b) → ∀ (ad : Nat → Nat → Nat) (H : Heap) (locs : List Loc) (ls : Array Slot), Ext ad0 N0 ad N → va_P D cls (cw ad cc N b) H → va_D A (cw ad cc N b) → va_S A s.heap H locs → lv_has ls 6 [(0, .ref (ad 11 x0))] → W p l e ({ frames := 4, cells := cR, slots := sR, locals := 102 }) s m args below meth c H locs CT ST Q (F0 m 52 ls [])) : ∀ (ad : Nat → Nat → Nat) (H : Heap) (locs : List Loc) (ls : Array Slot) (cells slots : Nat), Ext ad0 N0 ad N → cells + oc = CT → slots + os = ST → va_P D cls (cw ad cc N S) H → va_D A (cw ad cc N S) → va_S A s.heap H locs → lv_has ls 6 [(0, .ref (ad 11 x0)), (1, rv ad 4 x1), (4, .int x4), (5, rv ad 7 x5)] → W p l e ({ frames := 4, cells := cR, slots := sR, locals := 102 }) s m args below meth c H locs cells slots Q (F0 m 42 ls []) := by
  intro ad H locs ls cells slots hX hcu hsu hP hD hS hl
  obtain ⟨hx, hb, hr, hml, hown, hts, hK, hA, hev, hE, hN, hNS⟩ := id hC
  unfold m_cJT_eraseRun_J42 at Heq
  refine tx_aload (x := x5.map (ad 7)) hx hb d_cJT_eraseRun_42 (lv_at hl 3 rfl) ?_
  refine w_v (y := rv ad 7 x5) rfl ?_
  obtain ⟨j_1, hj_2, hl_3, Heq⟩ := gn_some Heq
  refine w_s (st' := [.ref (ad 7 j_1)]) (congrArg (fun z9 : Option Nat => [rv ad 7 z9]) hj_2) ?_
  refine va_get (D := D) (ci := 7) (v := rv ad 7 (S.r 7 2 j_1)) (C := R_Sp) (T := F_Sp) (N := 3) hx hb hts i_Sp hown hK hP (cPos N 7 j_1) (cw_obj (k := 7) (by decide) hl_3) rfl 2 (by decide) (hts _ kw_749) (fun _ h9 => h9) rfl d_cJT_eraseRun_44 ?_
  refine tx_astore (x := (S.r 7 2 j_1).map (ad 7)) (lv' := [(5, rv ad 7 (S.r 7 2 j_1)), (0, .ref (ad 11 x0)), (1, rv ad 4 x1), (4, .int x4)]) hx hb d_cJT_eraseRun_47 hl (by decide) rfl (fun ls hl => ?_)
  refine lv_goto (tgt := 6) hx hb d_cJT_eraseRun_49 (by decide) ?_
  obtain ⟨e9, e9a, e9b⟩ := tri Heq
  refine W.cs (cells' := CT) (slots' := ST) (by omega) (by omega) ?_
  exact Ka _ _ e9 _ _ _ _ hX hP hD hS (lv_sub hl [1, 2, 3, 0] rfl)
noncomputable def m_cJT_eraseRun_B6 (N : Nat → Nat) (x0 : Nat) (S : CS) (x1 : Option Nat) (x4 : Int32) (x5 : Option Nat) : Option ((((Nat → Nat) × CS × Option Nat × Int32 × Option Nat) ⊕ ((Nat → Nat) × CS)) × Nat × Nat) := on x5 (some ((.inr (N, S)), 0, 0)) (fun j_1 => (if x4 ≤ 0 then some ((.inr (N, S)), 0, 0) else gl x0 (N 11) (gl j_1 (N 7) (gn (S.r 11 2 x0) (N 10) (fun j_4 => ob (m_cVw_top N j_4 S j_1) (fun o_7 => on o_7.2 (m_cJT_eraseRun_J42 N x0 o_7.1 x1 x4 x5) (fun j_9 => gn x1 (N 4) (fun j_11 => oq (m_cJT_writeOn N x0 o_7.1 j_11 j_1 9 0) (fun N_16 S_17 v_18 => m_cJT_eraseRun_J42 N_16 x0 S_17 x1 (x4 + (-1)) x5)))))))))
theorem d_cJT_eraseRun_28 : decode prog_1_method_50_code 28 = .ok (.aload_n 0, 1) := by decide +kernel
theorem d_cJT_eraseRun_29 : decode prog_1_method_50_code 29 = .ok (.aload_n 1, 1) := by decide +kernel
theorem d_cJT_eraseRun_30 : decode prog_1_method_50_code 30 = .ok (.aload 5, 2) := by decide +kernel
theorem d_cJT_eraseRun_32 : decode prog_1_method_50_code 32 = .ok (.bipush 9, 2) := by decide +kernel
theorem d_cJT_eraseRun_34 : decode prog_1_method_50_code 34 = .ok (.lconst 0, 1) := by decide +kernel
theorem d_cJT_eraseRun_35 : decode prog_1_method_50_code 35 = .ok (.invokevirtual 156, 3) := by decide +kernel
theorem d_cJT_eraseRun_38 : decode prog_1_method_50_code 38 = .ok (.pop, 1) := by decide +kernel
theorem d_cJT_eraseRun_39 : decode prog_1_method_50_code 39 = .ok (.iinc 4 (-1), 3) := by decide +kernel
set_option maxHeartbeats 4000000 in
set_option maxRecDepth 100000 in
theorem w_cJT_eraseRun_B6 {p : Program} {l : Launch} {e : Env} {s : State} {m : MethodId} {args : Array Value} {below : List Frame} {meth : Method} {c : Code} {A : Nat → Prop} {D : va_G} {cc : Nat → ClassId} {sad sav : Nat → Nat} {Q : State → Prop} {ad0 : Nat → Nat → Nat} {N0 : Nat → Nat} {CT ST cR sR : Nat} (hC : MCc sad sav "JoinedTrees" prog_1_method_50_code 6 none p s m args meth c A D cc) (hCT : CT ≤ cR) (hST : ST ≤ sR) {N : Nat → Nat} {x0 : Nat} {S : CS} {x1 : Option Nat} {x4 : Int32} {x5 : Option Nat} {o : (((Nat → Nat) × CS × Option Nat × Int32 × Option Nat) ⊕ ((Nat → Nat) × CS))} {oc os : Nat} (Heq : m_cJT_eraseRun_B6 N x0 S x1 x4 x5 = some (o, oc, os)) (Ka : ∀ (N : Nat → Nat) (b : CS × Option Nat × Int32 × Option Nat), o = .inl (N, b) → ∀ (ad : Nat → Nat → Nat) (H : Heap) (locs : List Loc) (ls : Array Slot), Ext ad0 N0 ad N → va_P D cls (cw ad cc N b.1) H → va_D A (cw ad cc N b.1) → va_S A s.heap H locs → lv_has ls 6 [(0, .ref (ad 11 x0)), (1, rv ad 4 b.2.1), (4, .int b.2.2.1), (5, rv ad 7 b.2.2.2)] → W p l e ({ frames := 4, cells := cR, slots := sR, locals := 102 }) s m args below meth c H locs CT ST Q (F0 m 6 ls [])) (K0 : ∀ (N : Nat → Nat) (b : CS), o = .inr (N, b) → ∀ (ad : Nat → Nat → Nat) (H : Heap) (locs : List Loc) (ls : Array Slot), Ext ad0 N0 ad N → va_P D cls (cw ad cc N b) H → va_D A (cw ad cc N b) → va_S A s.heap H locs → lv_has ls 6 [(0, .ref (ad 11 x0))] → W p l e ({ frames := 4, cells := cR, slots := sR, locals := 102 }) s m args below meth c H locs CT ST Q (F0 m 52 ls [])) : ∀ (ad : Nat → Nat → Nat) (H : Heap) (locs : List Loc) (ls : Array Slot) (cells slots : Nat), Ext ad0 N0 ad N → cells + oc = CT → slots + os = ST → va_P D cls (cw ad cc N S) H → va_D A (cw ad cc N S) → va_S A s.heap H locs → lv_has ls 6 [(0, .ref (ad 11 x0)), (1, rv ad 4 x1), (4, .int x4), (5, rv ad 7 x5)] → W p l e ({ frames := 4, cells := cR, slots := sR, locals := 102 }) s m args below meth c H locs cells slots Q (F0 m 6 ls []) := by
  intro ad H locs ls cells slots hX hcu hsu hP hD hS hl
  obtain ⟨hx, hb, hr, hml, hown, hts, hK, hA, hev, hE, hN, hNS⟩ := id hC
  unfold m_cJT_eraseRun_B6 at Heq
  refine tx_aload (x := x5.map (ad 7)) hx hb d_cJT_eraseRun_6 (lv_at hl 3 rfl) ?_
  refine w_v (y := rv ad 7 x5) rfl ?_
  rcases on_some Heq with ⟨hj_2, Heq⟩ | ⟨j_1, hj_2, Heq⟩
  · refine w_s (st' := [.null]) (congrArg (fun z9 : Option Nat => [rv ad 7 z9]) hj_2) ?_
    refine lv_ifnullN (tgt := 52) hx hb d_cJT_eraseRun_8 (by decide) ?_
    obtain ⟨e9, e9a, e9b⟩ := tri Heq
    refine W.cs (cells' := CT) (slots' := ST) (by omega) (by omega) ?_
    exact K0 _ _ e9 _ _ _ _ hX hP hD hS (lv_sub hl [0] rfl)
  · refine w_s (st' := [.ref (ad 7 j_1)]) (congrArg (fun z9 : Option Nat => [rv ad 7 z9]) hj_2) ?_
    refine lv_ifnull hx hb d_cJT_eraseRun_8 ?_
    refine lv_iload hx hb d_cJT_eraseRun_11 (lv_at hl 2 rfl) ?_
    refine lv_if_le (tgt := 52) hx hb d_cJT_eraseRun_13 (by decide) (fun c_3 => ?_) (fun c_3 => ?_)
    · replace Heq := (if_pos c_3).symm.trans Heq
      obtain ⟨e9, e9a, e9b⟩ := tri Heq
      refine W.cs (cells' := CT) (slots' := ST) (by omega) (by omega) ?_
      exact K0 _ _ e9 _ _ _ _ hX hP hD hS (lv_sub hl [0] rfl)
    · replace Heq := (if_neg c_3).symm.trans Heq
      refine lv_aload_n hx hb d_cJT_eraseRun_16 rfl (lv_at hl 0 rfl) ?_
      obtain ⟨hl_x0_11, Heq⟩ := gl_some Heq
      refine va_get (D := D) (ci := 11) (v := rv ad 10 (S.r 11 2 x0)) (C := R_JT) (T := F_JT) (N := 13) hx hb hts i_JT hown hK hP (cPos N 11 x0) (cw_obj (k := 11) (by decide) hl_x0_11) rfl 2 (by decide) (hts _ kw_423) (fun _ h9 => h9) rfl d_cJT_eraseRun_17 ?_
      refine tx_aload (x := x5.map (ad 7)) hx hb d_cJT_eraseRun_20 (lv_at hl 3 rfl) ?_
      refine w_v (y := rv ad 7 x5) rfl ?_
      refine w_s (st' := [.ref (ad 7 j_1), rv ad 10 (S.r 11 2 x0)]) (congrArg (fun z9 : Option Nat => [rv ad 7 z9, rv ad 10 (S.r 11 2 x0)]) hj_2) ?_
      obtain ⟨hl_j_1_7, Heq⟩ := gl_some Heq
      obtain ⟨j_4, hj_5, hl_6, Heq⟩ := gn_some Heq
      refine w_s (st' := [.ref (ad 7 j_1), .ref (ad 10 j_4)]) (congrArg (fun z9 : Option Nat => [.ref (ad 7 j_1), rv ad 10 z9]) hj_5) ?_
      obtain ⟨o_7, h_8, Heq⟩ := ob_some Heq
      have hFc := fr_all hD hS hA
      refine va_callq (va_runV (As := [.ref (ad 7 j_1)]) (rest := []) ⟨hx, hb, hml, hown, hts⟩ (g_cVw_top l D H.size (ad := ad) (cc := cc) (sad := sad) (sav := sav) h_8) (cw_v 1 hts kw_784 kw_828 kw_782 kw_783 kw_6 rfl rfl (by decide +kernel) ⟨Nat.le_of_ble_eq_true rfl, Nat.le_of_ble_eq_true rfl⟩) ⟨c_blind, va_recv hK hP (ci := 10) (q0 := cPos N 10 j_4) rfl (cw_obj (k := 10) (by decide) hl_6), fun U hU hW => c_pre hU hW hP hK hD hev hE hN hNS hS hFc⟩ rfl rfl hl.1 rfl (lv_room (Nat.le_of_ble_eq_true rfl)) d_cJT_eraseRun_22 ⟨(Nat.le_trans (m := CT) (by omega) hCT), (Nat.le_trans (m := ST) (by omega) hST)⟩) hS (fun q _ h => hFc q h) hFc (fun rz u t H1 locs ht hvm hw hB hz1 hk1 hS => ?_)
      obtain ⟨hP, -, hD1⟩ := hB
      rw [ht] at hP
      have hD := hD1.weaken (fun _ q _ h => hFc q.1 h)
      generalize H1 = H at hP hS ⊢
      subst hw
      refine w_v (y := rv ad 3 o_7.2) rfl ?_
      rcases on_some Heq with ⟨hj_10, Heq⟩ | ⟨j_9, hj_10, Heq⟩
      · refine w_s (st' := [.null]) (congrArg (fun z9 : Option Nat => [rv ad 3 z9]) hj_10) ?_
        refine lv_ifnullN (tgt := 42) hx hb d_cJT_eraseRun_25 (by decide) ?_
        exact w_cJT_eraseRun_J42 hC hCT hST Heq Ka K0 _ _ _ _ _ _ hX (by omega) (by omega) hP hD hS (lv_sub hl [0, 1, 2, 3] rfl)
      · refine w_s (st' := [.ref (ad 3 j_9)]) (congrArg (fun z9 : Option Nat => [rv ad 3 z9]) hj_10) ?_
        refine lv_ifnull hx hb d_cJT_eraseRun_25 ?_
        refine lv_aload_n hx hb d_cJT_eraseRun_28 rfl (lv_at hl 0 rfl) ?_
        refine tx_aload_n (x := x1.map (ad 4)) hx hb d_cJT_eraseRun_29 rfl (lv_at hl 1 rfl) ?_
        refine w_v (y := rv ad 4 x1) rfl ?_
        refine tx_aload (x := x5.map (ad 7)) hx hb d_cJT_eraseRun_30 (lv_at hl 3 rfl) ?_
        refine w_v (y := rv ad 7 x5) rfl ?_
        refine lv_bipush (v := 9) hx hb d_cJT_eraseRun_32 (by decide) ?_
        refine lv_lconst (v := 0) hx hb d_cJT_eraseRun_34 (by decide) ?_
        refine w_s (st' := [.long 0, .int 9, .ref (ad 7 j_1), rv ad 4 x1, .ref (ad 11 x0)]) (congrArg (fun z9 : Option Nat => [.long 0, .int 9, rv ad 7 z9, rv ad 4 x1, .ref (ad 11 x0)]) hj_2) ?_
        obtain ⟨j_11, hj_12, hl_13, Heq⟩ := gn_some Heq
        refine w_s (st' := [.long 0, .int 9, .ref (ad 7 j_1), .ref (ad 4 j_11), .ref (ad 11 x0)]) (congrArg (fun z9 : Option Nat => [.long 0, .int 9, .ref (ad 7 j_1), rv ad 4 z9, .ref (ad 11 x0)]) hj_12) ?_
        obtain ⟨N_16, S_17, v_18, a9, b9, a8, b8, h_15, Heq, e9a, e9b⟩ := oq_some Heq
        have hFc := fr_all hD hS hA
        refine va_callq (va_runV (As := [.ref (ad 4 j_11), .ref (ad 7 j_1), .int 9, .long 0]) (rest := []) ⟨hx, hb, hml, hown, hts⟩ (g_cJT_writeOn l D H.size (ad := ad) (cc := cc) (sad := sad) (sav := sav) h_15) (cw_v 4 hts kw_693 kw_690 kw_692 kp_11 kw_1 rfl rfl (by decide +kernel) ⟨Nat.le_of_ble_eq_true rfl, Nat.le_of_ble_eq_true rfl⟩) ⟨c_blind, va_recv hK hP (ci := 11) (q0 := cPos N 11 x0) rfl (cw_obj (k := 11) (by decide) hl_x0_11), fun U hU hW => c_pre hU hW hP hK hD hev hE hN hNS hS hFc⟩ rfl rfl hl.1 rfl (lv_room (Nat.le_of_ble_eq_true rfl)) d_cJT_eraseRun_35 ⟨(Nat.le_trans (m := CT) (by omega) hCT), (Nat.le_trans (m := ST) (by omega) hST)⟩) hS (fun q _ h => hFc q h) hFc (fun rz ad t H1 locs ht hvm hw hB hz1 hk1 hS => ?_)
        obtain ⟨hX1, hP, -, hD1⟩ := hB
        rw [ht] at hP
        have hD := hD1.weaken (fun _ q _ h => hFc q.1 h)
        generalize H1 = H at hP hS ⊢
        subst hw
        refine w_v (y := rv ad 3 v_18) rfl ?_
        have hX := hX.tr hX1
        have hl : lv_has ls 6 [(0, .ref (ad 11 x0)), (1, rv ad 4 x1), (4, .int x4), (5, rv ad 7 x5)] := lv_cast hl (by first | rfl | simp only [hX1.2 11 x0 hl_x0_11, hX1.rv (k := 4) (x := x1) (fun _ q9 => by rw [hj_12] at q9; cases q9; exact hl_13), hX1.rv (k := 7) (x := x5) (fun _ q9 => by rw [hj_2] at q9; cases q9; exact hl_j_1_7)])
        refine w_s (st' := [rv ad 3 v_18]) (by first | rfl | simp only [hX1.2 11 x0 hl_x0_11, hX1.rv (k := 4) (x := x1) (fun _ q9 => by rw [hj_12] at q9; cases q9; exact hl_13), hX1.rv (k := 7) (x := x5) (fun _ q9 => by rw [hj_2] at q9; cases q9; exact hl_j_1_7)]) ?_
        have hl_x0_11 := Nat.lt_of_lt_of_le hl_x0_11 (hX1.1 11)
        have hl_j_1_7 := Nat.lt_of_lt_of_le hl_j_1_7 (hX1.1 7)
        have hl_6 := Nat.lt_of_lt_of_le hl_6 (hX1.1 10)
        have hl_13 := Nat.lt_of_lt_of_le hl_13 (hX1.1 4)
        refine lv_pop hx hb d_cJT_eraseRun_38 (by first | rfl | exact rv_cat) ?_
        refine lv_iinc (v := x4 + (-1)) (lv' := [(4, .int (x4 + (-1))), (0, .ref (ad 11 x0)), (1, rv ad 4 x1), (5, rv ad 7 x5)]) hx hb d_cJT_eraseRun_39 hl (k := 2) rfl rfl (by decide) rfl (fun ls hl => ?_)
        exact w_cJT_eraseRun_J42 hC hCT hST Heq Ka K0 _ _ _ _ _ _ hX (by omega) (by omega) hP hD hS (lv_sub hl [1, 2, 0, 3] rfl)
noncomputable def m_cJT_eraseRun_L6 (N : Nat → Nat) (x0 : Nat) (S : CS) (x1 : Option Nat) (x4 : Int32) (x5 : Option Nat) : Option (((Nat → Nat) × CS) × Nat × Nat) := lpA (fun a : (Nat → Nat) × CS × Option Nat × Int32 × Option Nat => m_cJT_eraseRun_B6 a.1 x0 a.2.1 a.2.2.1 a.2.2.2.1 a.2.2.2.2) FU (N, S, x1, x4, x5)
set_option maxHeartbeats 4000000 in
theorem w_cJT_eraseRun_L6 {p : Program} {l : Launch} {e : Env} {s : State} {m : MethodId} {args : Array Value} {below : List Frame} {meth : Method} {c : Code} {A : Nat → Prop} {D : va_G} {cc : Nat → ClassId} {sad sav : Nat → Nat} {Q : State → Prop} {ad0 : Nat → Nat → Nat} {N0 : Nat → Nat} {CT ST cR sR : Nat} (hC : MCc sad sav "JoinedTrees" prog_1_method_50_code 6 none p s m args meth c A D cc) (hCT : CT ≤ cR) (hST : ST ≤ sR) {N : Nat → Nat} {x0 : Nat} {S : CS} {x1 : Option Nat} {x4 : Int32} {x5 : Option Nat} {o : (Nat → Nat) × CS} {oc os : Nat} (Heq : m_cJT_eraseRun_L6 N x0 S x1 x4 x5 = some (o, oc, os)) (K0 : ∀ (N : Nat → Nat) (b : CS), o = (N, b) → ∀ (ad : Nat → Nat → Nat) (H : Heap) (locs : List Loc) (ls : Array Slot), Ext ad0 N0 ad N → va_P D cls (cw ad cc N b) H → va_D A (cw ad cc N b) → va_S A s.heap H locs → lv_has ls 6 [(0, .ref (ad 11 x0))] → W p l e ({ frames := 4, cells := cR, slots := sR, locals := 102 }) s m args below meth c H locs CT ST Q (F0 m 52 ls [])) : ∀ (ad : Nat → Nat → Nat) (H : Heap) (locs : List Loc) (ls : Array Slot) (cells slots : Nat), Ext ad0 N0 ad N → cells + oc = CT → slots + os = ST → va_P D cls (cw ad cc N S) H → va_D A (cw ad cc N S) → va_S A s.heap H locs → lv_has ls 6 [(0, .ref (ad 11 x0)), (1, rv ad 4 x1), (4, .int x4), (5, rv ad 7 x5)] → W p l e ({ frames := 4, cells := cR, slots := sR, locals := 102 }) s m args below meth c H locs cells slots Q (F0 m 6 ls []) := by
  refine lpA_w2 (e := o) (G := fun (a : (Nat → Nat) × CS × Option Nat × Int32 × Option Nat) u9 v9 => ∀ (ad : Nat → Nat → Nat) (H : Heap) (locs : List Loc) (ls : Array Slot) (cells slots : Nat), Ext ad0 N0 ad a.1 → cells + u9 = CT → slots + v9 = ST → va_P D cls (cw ad cc a.1 a.2.1) H → va_D A (cw ad cc a.1 a.2.1) → va_S A s.heap H locs → lv_has ls 6 [(0, .ref (ad 11 x0)), (1, rv ad 4 a.2.2.1), (4, .int a.2.2.2.1), (5, rv ad 7 a.2.2.2.2)] → W p l e ({ frames := 4, cells := cR, slots := sR, locals := 102 }) s m args below meth c H locs cells slots Q (F0 m 6 ls [])) ?_ FU (N, S, x1, x4, x5) oc os Heq
  intro a o1 c9 s9 u9 v9 ho hc9 hs9 Ka Ke ad H locs ls cells slots hX hcu hsu hP hD hS hl
  refine w_cJT_eraseRun_B6 (CT := cells + c9) (ST := slots + s9) hC (Nat.le_trans (m := CT) (by omega) hCT) (Nat.le_trans (m := ST) (by omega) hST) ho (fun N b h => ?_) (fun N b h => ?_) _ _ _ _ _ _ hX rfl rfl hP hD hS hl
  · obtain ⟨u1, v1, h1, h2, h3⟩ := Ka _ h
    intro ad H locs ls hX hP hD hS hl
    exact h3 ad H locs ls _ _ hX (by omega) (by omega) hP hD hS hl
  · obtain ⟨h1, h2, h3⟩ := Ke _ h
    intro ad H locs ls hX hP hD hS hl
    refine W.cs (cells' := CT) (slots' := ST) (by omega) (by omega) ?_
    exact K0 N b h1.symm ad H locs ls hX hP hD hS hl
noncomputable def m_cJT_eraseRun_J52 (N : Nat → Nat) (x0 : Nat) (S : CS) : Option (((Nat → Nat) × CS) × Nat × Nat) := some ((N, S), 0, 0)
theorem d_cJT_eraseRun_52 : decode prog_1_method_50_code 52 = .ok (.return_, 1) := by decide +kernel
set_option maxHeartbeats 4000000 in
set_option maxRecDepth 100000 in
theorem w_cJT_eraseRun_J52 {p : Program} {l : Launch} {e : Env} {s : State} {m : MethodId} {args : Array Value} {below : List Frame} {meth : Method} {c : Code} {A : Nat → Prop} {D : va_G} {cc : Nat → ClassId} {sad sav : Nat → Nat} {Q : State → Prop} {ad0 : Nat → Nat → Nat} {N0 : Nat → Nat} {CT ST cR sR : Nat} (hC : MCc sad sav "JoinedTrees" prog_1_method_50_code 6 none p s m args meth c A D cc) (hCT : CT ≤ cR) (hST : ST ≤ sR) {N : Nat → Nat} {x0 : Nat} {S : CS} {o : (Nat → Nat) × CS} {oc os : Nat} (Heq : m_cJT_eraseRun_J52 N x0 S = some (o, oc, os)) (Kr : ∀ r : (Nat → Nat) × CS, o = r → ∀ (pc : Nat) (ad : Nat → Nat → Nat) (H : Heap) (locs : List Loc) (ls : Array Slot), decode prog_1_method_50_code pc = .ok (.return_, 1) → Ext ad0 N0 ad (r.1) → va_P D cls (cw ad cc r.1 r.2) H → va_D A (cw ad cc r.1 r.2) → va_S A s.heap H locs → W p l e ({ frames := 4, cells := cR, slots := sR, locals := 102 }) s m args below meth c H locs CT ST Q (F0 m pc ls [])) : ∀ (ad : Nat → Nat → Nat) (H : Heap) (locs : List Loc) (ls : Array Slot) (cells slots : Nat), Ext ad0 N0 ad N → cells + oc = CT → slots + os = ST → va_P D cls (cw ad cc N S) H → va_D A (cw ad cc N S) → va_S A s.heap H locs → lv_has ls 6 [(0, .ref (ad 11 x0))] → W p l e ({ frames := 4, cells := cR, slots := sR, locals := 102 }) s m args below meth c H locs cells slots Q (F0 m 52 ls []) := by
  intro ad H locs ls cells slots hX hcu hsu hP hD hS hl
  obtain ⟨hx, hb, hr, hml, hown, hts, hK, hA, hev, hE, hN, hNS⟩ := id hC
  unfold m_cJT_eraseRun_J52 at Heq
  obtain ⟨e9, e9a, e9b⟩ := tri Heq
  refine W.cs (cells' := CT) (slots' := ST) (by omega) (by omega) ?_
  exact Kr _ e9 52 _ _ _ _ d_cJT_eraseRun_52 hX hP hD hS
noncomputable def m_cJT_eraseRun_J0 (N : Nat → Nat) (x0 : Nat) (S : CS) (x1 : Nat) (x2 : Option Nat) (x3 : Int32) : Option (((Nat → Nat) × CS) × Nat × Nat) := ov (m_cJT_eraseRun_L6 N x0 S (some x1) x3 x2) (fun N_1 b_2 => m_cJT_eraseRun_J52 N_1 x0 b_2)
set_option maxHeartbeats 4000000 in
set_option maxRecDepth 100000 in
theorem w_cJT_eraseRun_J0 {p : Program} {l : Launch} {e : Env} {s : State} {m : MethodId} {args : Array Value} {below : List Frame} {meth : Method} {c : Code} {A : Nat → Prop} {D : va_G} {cc : Nat → ClassId} {sad sav : Nat → Nat} {Q : State → Prop} {ad0 : Nat → Nat → Nat} {N0 : Nat → Nat} {CT ST cR sR : Nat} (hC : MCc sad sav "JoinedTrees" prog_1_method_50_code 6 none p s m args meth c A D cc) (hCT : CT ≤ cR) (hST : ST ≤ sR) {N : Nat → Nat} {x0 : Nat} {S : CS} {x1 : Nat} {x2 : Option Nat} {x3 : Int32} {o : (Nat → Nat) × CS} {oc os : Nat} (Heq : m_cJT_eraseRun_J0 N x0 S x1 x2 x3 = some (o, oc, os)) (Kr : ∀ r : (Nat → Nat) × CS, o = r → ∀ (pc : Nat) (ad : Nat → Nat → Nat) (H : Heap) (locs : List Loc) (ls : Array Slot), decode prog_1_method_50_code pc = .ok (.return_, 1) → Ext ad0 N0 ad (r.1) → va_P D cls (cw ad cc r.1 r.2) H → va_D A (cw ad cc r.1 r.2) → va_S A s.heap H locs → W p l e ({ frames := 4, cells := cR, slots := sR, locals := 102 }) s m args below meth c H locs CT ST Q (F0 m pc ls [])) : ∀ (ad : Nat → Nat → Nat) (H : Heap) (locs : List Loc) (ls : Array Slot) (cells slots : Nat), Ext ad0 N0 ad N → cells + oc = CT → slots + os = ST → va_P D cls (cw ad cc N S) H → va_D A (cw ad cc N S) → va_S A s.heap H locs → lv_has ls 6 [(0, .ref (ad 11 x0)), (1, .ref (ad 4 x1)), (2, rv ad 7 x2), (3, .int x3)] → W p l e ({ frames := 4, cells := cR, slots := sR, locals := 102 }) s m args below meth c H locs cells slots Q (F0 m 0 ls []) := by
  intro ad H locs ls cells slots hX hcu hsu hP hD hS hl
  obtain ⟨hx, hb, hr, hml, hown, hts, hK, hA, hev, hE, hN, hNS⟩ := id hC
  unfold m_cJT_eraseRun_J0 at Heq
  refine lv_iload_n hx hb d_cJT_eraseRun_0 rfl (lv_at hl 3 rfl) ?_
  refine lv_istore (lv' := [(4, .int x3), (0, .ref (ad 11 x0)), (1, .ref (ad 4 x1)), (2, rv ad 7 x2), (3, .int x3)]) hx hb d_cJT_eraseRun_1 hl (by decide) rfl (fun ls hl => ?_)
  refine tx_aload_n (x := x2.map (ad 7)) hx hb d_cJT_eraseRun_3 rfl (lv_at hl 3 rfl) ?_
  refine w_v (y := rv ad 7 x2) rfl ?_
  refine tx_astore (x := x2.map (ad 7)) (lv' := [(5, rv ad 7 x2), (4, .int x3), (0, .ref (ad 11 x0)), (1, .ref (ad 4 x1)), (2, rv ad 7 x2), (3, .int x3)]) hx hb d_cJT_eraseRun_4 hl (by decide) rfl (fun ls hl => ?_)
  obtain ⟨N_1, b_2, a9, b9, a8, b8, h_3, Heq, e9a, e9b⟩ := ov_some Heq
  refine w_cJT_eraseRun_L6 hC (Nat.le_trans (m := CT) (by omega) hCT) (Nat.le_trans (m := ST) (by omega) hST) h_3 (fun N9 b9 h9 => ?_) _ _ _ _ _ _ hX rfl rfl hP hD hS (lv_sub hl [2, 3, 1, 0] rfl)
  cases h9
  intro ad H locs ls hX hP hD hS hl
  exact w_cJT_eraseRun_J52 hC hCT hST Heq Kr _ _ _ _ _ _ hX (by omega) (by omega) hP hD hS (lv_sub hl [0] rfl)
noncomputable def m_cJT_eraseRun (N : Nat → Nat) (x0 : Nat) (S : CS) (x1 : Nat) (x2 : Option Nat) (x3 : Int32) : Option (((Nat → Nat) × CS) × Nat × Nat) := m_cJT_eraseRun_J0 N x0 S x1 x2 x3
set_option maxHeartbeats 4000000 in
theorem g_cJT_eraseRun (l : Launch) (D : va_G) (sz : Nat) {ad : Nat → Nat → Nat} {cc : Nat → ClassId} {sad sav : Nat → Nat} {N : Nat → Nat} {x0 : Nat} {S : CS} {x1 : Nat} {x2 : Option Nat} {x3 : Int32} {o : (Nat → Nat) × CS} {oc os : Nat} (Heq : m_cJT_eraseRun N x0 S x1 x2 x3 = some (o, oc, os)) : Met l ⟨"JoinedTrees", "eraseRun", "(LJoinedTrees$Replica;LJoinedTrees$Spot;I)V"⟩ (Cond.code ⟨"JoinedTrees", "eraseRun", "(LJoinedTrees$Replica;LJoinedTrees$Spot;I)V"⟩ prog_1_method_50_code 6 none :: gb) ({ frames := 4, cells := oc, slots := os, locals := 102 }) (cPc sad sav D (cw ad cc N S) (cty cc) sz [.ref (ad 11 x0), .ref (ad 4 x1), rv ad 7 x2, .int x3]) (va_Qv (fun _ : Nat → Nat → Nat => True) (fun (u : Nat → Nat → Nat) t => Ext ad N u o.1 ∧ gO D (cw u cc o.1 o.2) (cty cc) (va_A (cw ad cc N S) sz) t) (va_A (cw ad cc N S) sz)) oc os (va_A (cw ad cc N S) sz) := by
  refine Met.ofW (cc := prog_1_method_50_code) (maxL := 6) (ret := none) (by decide) rfl ?_
  intro p e s m args below meth c s₁ B hml hv
  obtain ⟨rfl, hsz, hP, hK, hD0, hev, hE, hN⟩ := hv
  have hx := B.exec
  have hb := B.bytes
  have hr := B.returns
  have hts : ∀ w9 ∈ gb, w9.before [.ref (ad 11 x0), .ref (ad 4 x1), rv ad 7 x2, .int x3].toArray s = true := fun w9 h => atoms_spec (ws := Cond.code ⟨"JoinedTrees", "eraseRun", "(LJoinedTrees$Replica;LJoinedTrees$Spot;I)V"⟩ prog_1_method_50_code 6 none :: gb) B.pre w9 (List.mem_cons_of_mem _ h)
  have hown : s.vm.findClass "JoinedTrees" = some m.cls := findClass_of_methodNamed B.named
  have hlocks := B.notSynchronized
  have hNS := ns_of hP
  subst hsz
  have hD := hD0.self (sz := s.heap.size)
  generalize hAe : va_A (cw ad cc N S) s.heap.size = A at hD hev hE hNS ⊢
  have hA : ∀ q : Nat, s.heap.size ≤ q → A q := fun q h => by rw [← hAe]; exact Or.inr h
  have hS : va_S A s.heap s.heap [] := va_S.rf
  obtain ⟨ls, hl, hle⟩ : ∃ ls : Array Slot, lv_has ls 6 [(0, .ref (ad 11 x0)), (1, .ref (ad 4 x1)), (2, rv ad 7 x2), (3, .int x3)] ∧ entryFrame m ([.ref (ad 11 x0), .ref (ad 4 x1), rv ad 7 x2, .int x3] : List Value).toArray 6 = F0 m 0 ls [] := by
    rcases x2 with _ | x2
    all_goals exact ⟨_, lv_entry (n := 6) _ (Nat.le_of_ble_eq_true rfl), lg_entry_eq ..⟩
  rw [hle]
  refine w_cJT_eraseRun_J0 (ad0 := ad) (N0 := N) (CT := oc) (ST := os) (cR := oc) (sR := os) ⟨hx, hb, hr, hml, hown, hts, hK, hA, hev, hE, hN, hNS⟩ (Nat.le_refl _) (Nat.le_refl _) Heq (fun r h pc ad1 H locs ls hd hX hP hD hS => ?_) _ _ _ _ 0 0 Ext.rf (Nat.zero_add _) (Nat.zero_add _) hP hD hS (lv_sub hl [0, 1, 2, 3] rfl)
  subst h
  exact W.vret hx hb hr (fun t ht hW => ⟨⟨ad1, rfl, trivial, hX, by rw [ht]; exact hP, va_K.moved hW.alike hK, hD⟩, hS.F ht⟩) hS.2.2 hd
