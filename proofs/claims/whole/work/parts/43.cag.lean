def m_cJT_harm_J10 (N : Nat → Nat) (x0 : Nat) (S : CS) : Option ((CS) ⊕ (CS × Nat)) := some (.inr (S, 1))
theorem d_cJT_harm_0 : decode prog_1_method_26_code 0 = .ok (.iload_n 2, 1) := by decide +kernel
theorem d_cJT_harm_1 : decode prog_1_method_26_code 1 = .ok (.ifCond .lt 9, 3) := by decide +kernel
theorem d_cJT_harm_10 : decode prog_1_method_26_code 10 = .ok (.new 93, 3) := by decide +kernel
theorem d_cJT_harm_13 : decode prog_1_method_26_code 13 = .ok (.dup, 1) := by decide +kernel
theorem d_cJT_harm_14 : decode prog_1_method_26_code 14 = .ok (.invokespecial 95, 3) := by decide +kernel
theorem d_cJT_harm_17 : decode prog_1_method_26_code 17 = .ok (.athrow, 1) := by decide +kernel
set_option maxHeartbeats 4000000 in
set_option maxRecDepth 100000 in
theorem w_cJT_harm_J10 {p : Program} {l : Launch} {e : Env} {s : State} {m : MethodId} {args : Array Value} {below : List Frame} {meth : Method} {c : Code} {A : Nat → Prop} {D : va_G} {ad : Nat → Nat → Nat} {cc : Nat → ClassId} {sad sav : Nat → Nat} {Q : State → Prop} {cR sR : Nat} (hfl : l.flags = flags0) (hC : MCc sad sav "JoinedTrees" prog_1_method_26_code 3 none p s m args meth c A D cc) {N : Nat → Nat} {x0 : Nat} {S : CS} {o : ((CS) ⊕ (CS × Nat))} (Heq : m_cJT_harm_J10 N x0 S = some o) (Kr : ∀ r : ((CS) ⊕ (CS × Nat)), o = r → (∀ v9 : CS, r = .inl v9 → ∀ (pc : Nat) (H : Heap) (locs : List Loc) (ls : Array Slot), decode prog_1_method_26_code pc = .ok (.return_, 1) → va_P D cls (cw ad cc N v9) H → va_D A (cw ad cc N v9) → va_S A s.heap H locs → W p l e ({ frames := 6, cells := cR, slots := sR, locals := 96 }) s m args below meth c H locs 0 0 Q (F0 m pc ls [])) ∧ (∀ t9 : CS × Nat, r = .inr t9 → (1 ≤ cR ∧ 6 ≤ sR) ∧ (∀ (pc : Nat) (H : Heap) (locs : List Loc) (ls : Array Slot), thD prog_1_method_26_code t9.2 pc → ls.size = 3 → va_P D cls (cw ad cc N t9.1) H → va_D A (cw ad cc N t9.1) → va_S A s.heap H locs → W p l e ({ frames := 6, cells := cR, slots := sR, locals := 96 }) s m args below meth c H locs 0 0 Q (F0 m pc ls [])) ∧ (∀ (pc : Nat) (H : Heap) (locs : List Loc) (ls : Array Slot) (st0 rest9 : List Value) (A9 : Nat → Prop), tx_Thr p l e ({ frames := 6, cells := cR, slots := sR, locals := 96 }) s m args below meth c H locs 0 0 1 6 (F0 m pc ls st0) rest9 (exN t9.2) A9 (fun H1 => va_P D cls (cw ad cc N t9.1) H1) → (∀ q, A9 q → A q) → va_S A s.heap H locs → W p l e ({ frames := 6, cells := cR, slots := sR, locals := 96 }) s m args below meth c H locs 0 0 Q (F0 m pc ls st0)))) : ∀ (H : Heap) (locs : List Loc) (ls : Array Slot), va_P D cls (cw ad cc N S) H → va_D A (cw ad cc N S) → va_S A s.heap H locs → lv_has ls 3 [(0, .ref (ad 11 x0))] → W p l e ({ frames := 6, cells := cR, slots := sR, locals := 96 }) s m args below meth c H locs 0 0 Q (F0 m 10 ls []) := by
  intro H locs ls hP hD hS hl
  obtain ⟨hx, hb, hr, hml, hown, hts, hK, hA, hev, hE, hN, hNS⟩ := id hC
  unfold m_cJT_harm_J10 at Heq
  exact ((Kr _ (Option.some.inj Heq).symm).2 _ rfl).2.1 10 _ _ _ ⟨⟨show 1 ≤ 1 by decide, show 1 ≤ 5 by decide⟩, d_cJT_harm_10, d_cJT_harm_13, d_cJT_harm_14, d_cJT_harm_17⟩ hl.1 hP hD hS
def m_cJT_harm_J33 (N : Nat → Nat) (x0 : Nat) (S : CS) : Option ((CS) ⊕ (CS × Nat)) := some (.inr (S, 3))
theorem d_cJT_harm_4 : decode prog_1_method_26_code 4 = .ok (.iload_n 2, 1) := by decide +kernel
theorem d_cJT_harm_5 : decode prog_1_method_26_code 5 = .ok (.bipush 7, 2) := by decide +kernel
theorem d_cJT_harm_7 : decode prog_1_method_26_code 7 = .ok (.if_icmp .le 11, 3) := by decide +kernel
theorem d_cJT_harm_18 : decode prog_1_method_26_code 18 = .ok (.iload_n 1, 1) := by decide +kernel
theorem d_cJT_harm_19 : decode prog_1_method_26_code 19 = .ok (.ifCond .lt 14, 3) := by decide +kernel
theorem d_cJT_harm_33 : decode prog_1_method_26_code 33 = .ok (.new 178, 3) := by decide +kernel
theorem d_cJT_harm_36 : decode prog_1_method_26_code 36 = .ok (.dup, 1) := by decide +kernel
theorem d_cJT_harm_37 : decode prog_1_method_26_code 37 = .ok (.invokespecial 180, 3) := by decide +kernel
theorem d_cJT_harm_40 : decode prog_1_method_26_code 40 = .ok (.athrow, 1) := by decide +kernel
set_option maxHeartbeats 4000000 in
set_option maxRecDepth 100000 in
theorem w_cJT_harm_J33 {p : Program} {l : Launch} {e : Env} {s : State} {m : MethodId} {args : Array Value} {below : List Frame} {meth : Method} {c : Code} {A : Nat → Prop} {D : va_G} {ad : Nat → Nat → Nat} {cc : Nat → ClassId} {sad sav : Nat → Nat} {Q : State → Prop} {cR sR : Nat} (hfl : l.flags = flags0) (hC : MCc sad sav "JoinedTrees" prog_1_method_26_code 3 none p s m args meth c A D cc) {N : Nat → Nat} {x0 : Nat} {S : CS} {o : ((CS) ⊕ (CS × Nat))} (Heq : m_cJT_harm_J33 N x0 S = some o) (Kr : ∀ r : ((CS) ⊕ (CS × Nat)), o = r → (∀ v9 : CS, r = .inl v9 → ∀ (pc : Nat) (H : Heap) (locs : List Loc) (ls : Array Slot), decode prog_1_method_26_code pc = .ok (.return_, 1) → va_P D cls (cw ad cc N v9) H → va_D A (cw ad cc N v9) → va_S A s.heap H locs → W p l e ({ frames := 6, cells := cR, slots := sR, locals := 96 }) s m args below meth c H locs 0 0 Q (F0 m pc ls [])) ∧ (∀ t9 : CS × Nat, r = .inr t9 → (1 ≤ cR ∧ 6 ≤ sR) ∧ (∀ (pc : Nat) (H : Heap) (locs : List Loc) (ls : Array Slot), thD prog_1_method_26_code t9.2 pc → ls.size = 3 → va_P D cls (cw ad cc N t9.1) H → va_D A (cw ad cc N t9.1) → va_S A s.heap H locs → W p l e ({ frames := 6, cells := cR, slots := sR, locals := 96 }) s m args below meth c H locs 0 0 Q (F0 m pc ls [])) ∧ (∀ (pc : Nat) (H : Heap) (locs : List Loc) (ls : Array Slot) (st0 rest9 : List Value) (A9 : Nat → Prop), tx_Thr p l e ({ frames := 6, cells := cR, slots := sR, locals := 96 }) s m args below meth c H locs 0 0 1 6 (F0 m pc ls st0) rest9 (exN t9.2) A9 (fun H1 => va_P D cls (cw ad cc N t9.1) H1) → (∀ q, A9 q → A q) → va_S A s.heap H locs → W p l e ({ frames := 6, cells := cR, slots := sR, locals := 96 }) s m args below meth c H locs 0 0 Q (F0 m pc ls st0)))) : ∀ (H : Heap) (locs : List Loc) (ls : Array Slot), va_P D cls (cw ad cc N S) H → va_D A (cw ad cc N S) → va_S A s.heap H locs → lv_has ls 3 [(0, .ref (ad 11 x0))] → W p l e ({ frames := 6, cells := cR, slots := sR, locals := 96 }) s m args below meth c H locs 0 0 Q (F0 m 33 ls []) := by
  intro H locs ls hP hD hS hl
  obtain ⟨hx, hb, hr, hml, hown, hts, hK, hA, hev, hE, hN, hNS⟩ := id hC
  unfold m_cJT_harm_J33 at Heq
  exact ((Kr _ (Option.some.inj Heq).symm).2 _ rfl).2.1 33 _ _ _ ⟨⟨show 1 ≤ 3 by decide, show 3 ≤ 5 by decide⟩, d_cJT_harm_33, d_cJT_harm_36, d_cJT_harm_37, d_cJT_harm_40⟩ hl.1 hP hD hS
def m_cJT_harm_J0 (N : Nat → Nat) (x0 : Nat) (S : CS) (x1 : Int32) (x2 : Int32) : Option ((CS) ⊕ (CS × Nat)) := (if x2 < 0 then m_cJT_harm_J10 N x0 S else (if x2 ≤ 7 then (if x1 < 0 then m_cJT_harm_J33 N x0 S else gl x0 (N 11) (gn (S.r 11 6 x0) (N 5) (fun j_4 => (if x1 < S.i 5 1 j_4 then gn (S.r 5 0 j_4) (N 13) (fun j_8 => gd x1 (S.z 13 j_8) (gd x1 (S.z 13 j_8) (some (.inl (S.setA 13 j_8 x1.toNatClampNeg (vp_nar .byte (((S.a 13 j_8 x1.toNatClampNeg) ^^^ (1 <<< (x2 &&& 31))).toInt8.toInt32))))))) else m_cJT_harm_J33 N x0 S)))) else m_cJT_harm_J10 N x0 S))
theorem d_cJT_harm_22 : decode prog_1_method_26_code 22 = .ok (.iload_n 1, 1) := by decide +kernel
theorem d_cJT_harm_23 : decode prog_1_method_26_code 23 = .ok (.aload_n 0, 1) := by decide +kernel
theorem d_cJT_harm_24 : decode prog_1_method_26_code 24 = .ok (.getfield 54, 3) := by decide +kernel
theorem d_cJT_harm_27 : decode prog_1_method_26_code 27 = .ok (.getfield 80, 3) := by decide +kernel
theorem d_cJT_harm_30 : decode prog_1_method_26_code 30 = .ok (.if_icmp .lt 11, 3) := by decide +kernel
theorem d_cJT_harm_41 : decode prog_1_method_26_code 41 = .ok (.aload_n 0, 1) := by decide +kernel
theorem d_cJT_harm_42 : decode prog_1_method_26_code 42 = .ok (.getfield 54, 3) := by decide +kernel
theorem d_cJT_harm_45 : decode prog_1_method_26_code 45 = .ok (.getfield 374, 3) := by decide +kernel
theorem d_cJT_harm_48 : decode prog_1_method_26_code 48 = .ok (.iload_n 1, 1) := by decide +kernel
theorem d_cJT_harm_49 : decode prog_1_method_26_code 49 = .ok (.aload_n 0, 1) := by decide +kernel
theorem d_cJT_harm_50 : decode prog_1_method_26_code 50 = .ok (.getfield 54, 3) := by decide +kernel
theorem d_cJT_harm_53 : decode prog_1_method_26_code 53 = .ok (.getfield 374, 3) := by decide +kernel
theorem d_cJT_harm_56 : decode prog_1_method_26_code 56 = .ok (.iload_n 1, 1) := by decide +kernel
theorem d_cJT_harm_57 : decode prog_1_method_26_code 57 = .ok (.baload, 1) := by decide +kernel
theorem d_cJT_harm_58 : decode prog_1_method_26_code 58 = .ok (.iconst 1, 1) := by decide +kernel
theorem d_cJT_harm_59 : decode prog_1_method_26_code 59 = .ok (.iload_n 2, 1) := by decide +kernel
theorem d_cJT_harm_60 : decode prog_1_method_26_code 60 = .ok (.ishl, 1) := by decide +kernel
theorem d_cJT_harm_61 : decode prog_1_method_26_code 61 = .ok (.ixor, 1) := by decide +kernel
theorem d_cJT_harm_62 : decode prog_1_method_26_code 62 = .ok (.i2b, 1) := by decide +kernel
theorem d_cJT_harm_63 : decode prog_1_method_26_code 63 = .ok (.bastore, 1) := by decide +kernel
theorem d_cJT_harm_64 : decode prog_1_method_26_code 64 = .ok (.return_, 1) := by decide +kernel
set_option maxHeartbeats 4000000 in
set_option maxRecDepth 100000 in
theorem w_cJT_harm_J0 {p : Program} {l : Launch} {e : Env} {s : State} {m : MethodId} {args : Array Value} {below : List Frame} {meth : Method} {c : Code} {A : Nat → Prop} {D : va_G} {ad : Nat → Nat → Nat} {cc : Nat → ClassId} {sad sav : Nat → Nat} {Q : State → Prop} {cR sR : Nat} (hfl : l.flags = flags0) (hC : MCc sad sav "JoinedTrees" prog_1_method_26_code 3 none p s m args meth c A D cc) {N : Nat → Nat} {x0 : Nat} {S : CS} {x1 : Int32} {x2 : Int32} {o : ((CS) ⊕ (CS × Nat))} (Heq : m_cJT_harm_J0 N x0 S x1 x2 = some o) (Kr : ∀ r : ((CS) ⊕ (CS × Nat)), o = r → (∀ v9 : CS, r = .inl v9 → ∀ (pc : Nat) (H : Heap) (locs : List Loc) (ls : Array Slot), decode prog_1_method_26_code pc = .ok (.return_, 1) → va_P D cls (cw ad cc N v9) H → va_D A (cw ad cc N v9) → va_S A s.heap H locs → W p l e ({ frames := 6, cells := cR, slots := sR, locals := 96 }) s m args below meth c H locs 0 0 Q (F0 m pc ls [])) ∧ (∀ t9 : CS × Nat, r = .inr t9 → (1 ≤ cR ∧ 6 ≤ sR) ∧ (∀ (pc : Nat) (H : Heap) (locs : List Loc) (ls : Array Slot), thD prog_1_method_26_code t9.2 pc → ls.size = 3 → va_P D cls (cw ad cc N t9.1) H → va_D A (cw ad cc N t9.1) → va_S A s.heap H locs → W p l e ({ frames := 6, cells := cR, slots := sR, locals := 96 }) s m args below meth c H locs 0 0 Q (F0 m pc ls [])) ∧ (∀ (pc : Nat) (H : Heap) (locs : List Loc) (ls : Array Slot) (st0 rest9 : List Value) (A9 : Nat → Prop), tx_Thr p l e ({ frames := 6, cells := cR, slots := sR, locals := 96 }) s m args below meth c H locs 0 0 1 6 (F0 m pc ls st0) rest9 (exN t9.2) A9 (fun H1 => va_P D cls (cw ad cc N t9.1) H1) → (∀ q, A9 q → A q) → va_S A s.heap H locs → W p l e ({ frames := 6, cells := cR, slots := sR, locals := 96 }) s m args below meth c H locs 0 0 Q (F0 m pc ls st0)))) : ∀ (H : Heap) (locs : List Loc) (ls : Array Slot), va_P D cls (cw ad cc N S) H → va_D A (cw ad cc N S) → va_S A s.heap H locs → lv_has ls 3 [(0, .ref (ad 11 x0)), (1, .int x1), (2, .int x2)] → W p l e ({ frames := 6, cells := cR, slots := sR, locals := 96 }) s m args below meth c H locs 0 0 Q (F0 m 0 ls []) := by
  intro H locs ls hP hD hS hl
  obtain ⟨hx, hb, hr, hml, hown, hts, hK, hA, hev, hE, hN, hNS⟩ := id hC
  unfold m_cJT_harm_J0 at Heq
  refine lv_iload_n hx hb d_cJT_harm_0 rfl (lv_at hl 2 rfl) ?_
  refine lv_if_lt (tgt := 10) hx hb d_cJT_harm_1 (by decide) (fun c_1 => ?_) (fun c_1 => ?_)
  · replace Heq := (if_pos c_1).symm.trans Heq
    exact w_cJT_harm_J10 hfl hC Heq Kr _ _ _ hP hD hS (lv_sub hl [0] rfl)
  · replace Heq := (if_neg c_1).symm.trans Heq
    refine lv_iload_n hx hb d_cJT_harm_4 rfl (lv_at hl 2 rfl) ?_
    refine lv_bipush (v := 7) hx hb d_cJT_harm_5 (by decide) ?_
    refine lv_icmp_le (tgt := 18) hx hb d_cJT_harm_7 (by decide) (fun c_2 => ?_) (fun c_2 => ?_)
    · replace Heq := (if_pos c_2).symm.trans Heq
      refine lv_iload_n hx hb d_cJT_harm_18 rfl (lv_at hl 1 rfl) ?_
      refine lv_if_lt (tgt := 33) hx hb d_cJT_harm_19 (by decide) (fun c_3 => ?_) (fun c_3 => ?_)
      · replace Heq := (if_pos c_3).symm.trans Heq
        exact w_cJT_harm_J33 hfl hC Heq Kr _ _ _ hP hD hS (lv_sub hl [0] rfl)
      · replace Heq := (if_neg c_3).symm.trans Heq
        refine lv_iload_n hx hb d_cJT_harm_22 rfl (lv_at hl 1 rfl) ?_
        refine lv_aload_n hx hb d_cJT_harm_23 rfl (lv_at hl 0 rfl) ?_
        obtain ⟨hl_x0_11, Heq⟩ := gl_some Heq
        refine va_get (D := D) (ci := 11) (v := rv ad 5 (S.r 11 6 x0)) (C := R_JT) (T := F_JT) (N := 13) hx hb hts i_JT hown hK hP (cPos N 11 x0) (cw_obj (k := 11) (by decide) hl_x0_11) rfl 6 (by decide) (hts _ kw_427) (fun _ h9 => h9) rfl d_cJT_harm_24 ?_
        obtain ⟨j_4, hj_5, hl_6, Heq⟩ := gn_some Heq
        refine w_s (st' := [.ref (ad 5 j_4), .int x1]) (congrArg (fun z9 : Option Nat => [rv ad 5 z9, .int x1]) hj_5) ?_
        refine va_get (D := D) (ci := 5) (v := .int (S.i 5 1 j_4)) (C := R_Rw) (T := F_Rw) (N := 3) hx hb hts i_Rw hown hK hP (cPos N 5 j_4) (cw_obj (k := 5) (by decide) hl_6) rfl 1 (by decide) (hts _ kw_143) (fun _ h9 => h9) rfl d_cJT_harm_27 ?_
        refine lv_icmp_lt (tgt := 41) hx hb d_cJT_harm_30 (by decide) (fun c_7 => ?_) (fun c_7 => ?_)
        · replace Heq := (if_pos c_7).symm.trans Heq
          refine lv_aload_n hx hb d_cJT_harm_41 rfl (lv_at hl 0 rfl) ?_
          refine va_get (D := D) (ci := 11) (v := rv ad 5 (S.r 11 6 x0)) (C := R_JT) (T := F_JT) (N := 13) hx hb hts i_JT hown hK hP (cPos N 11 x0) (cw_obj (k := 11) (by decide) hl_x0_11) rfl 6 (by decide) (hts _ kw_427) (fun _ h9 => h9) rfl d_cJT_harm_42 ?_
          refine w_s (st' := [.ref (ad 5 j_4)]) (congrArg (fun z9 : Option Nat => [rv ad 5 z9]) hj_5) ?_
          refine va_get (D := D) (ci := 5) (v := rv ad 13 (S.r 5 0 j_4)) (C := R_Rw) (T := F_Rw) (N := 3) hx hb hts i_Rw hown hK hP (cPos N 5 j_4) (cw_obj (k := 5) (by decide) hl_6) rfl 0 (by decide) (hts _ kw_141) (fun _ h9 => h9) rfl d_cJT_harm_45 ?_
          refine lv_iload_n hx hb d_cJT_harm_48 rfl (lv_at hl 1 rfl) ?_
          refine lv_aload_n hx hb d_cJT_harm_49 rfl (lv_at hl 0 rfl) ?_
          refine va_get (D := D) (ci := 11) (v := rv ad 5 (S.r 11 6 x0)) (C := R_JT) (T := F_JT) (N := 13) hx hb hts i_JT hown hK hP (cPos N 11 x0) (cw_obj (k := 11) (by decide) hl_x0_11) rfl 6 (by decide) (hts _ kw_427) (fun _ h9 => h9) rfl d_cJT_harm_50 ?_
          refine w_s (st' := [.ref (ad 5 j_4), .int x1, rv ad 13 (S.r 5 0 j_4)]) (congrArg (fun z9 : Option Nat => [rv ad 5 z9, .int x1, rv ad 13 (S.r 5 0 j_4)]) hj_5) ?_
          refine va_get (D := D) (ci := 5) (v := rv ad 13 (S.r 5 0 j_4)) (C := R_Rw) (T := F_Rw) (N := 3) hx hb hts i_Rw hown hK hP (cPos N 5 j_4) (cw_obj (k := 5) (by decide) hl_6) rfl 0 (by decide) (hts _ kw_141) (fun _ h9 => h9) rfl d_cJT_harm_53 ?_
          refine lv_iload_n hx hb d_cJT_harm_56 rfl (lv_at hl 1 rfl) ?_
          obtain ⟨j_8, hj_9, hl_10, Heq⟩ := gn_some Heq
          refine w_s (st' := [.int x1, .ref (ad 13 j_8), .int x1, rv ad 13 (S.r 5 0 j_4)]) (congrArg (fun z9 : Option Nat => [.int x1, rv ad 13 z9, .int x1, rv ad 13 (S.r 5 0 j_4)]) hj_9) ?_
          obtain ⟨hi_11, Heq⟩ := gd_some Heq
          refine va_bald hx hb hK hP (cPos N 13 j_8) 1 (cw_arr (k := 13) (by decide) hl_10) rfl (i := x1) hi_11 d_cJT_harm_57 ?_
          refine w_i (y := S.a 13 j_8 x1.toNatClampNeg) rfl ?_
          refine lv_iconst (v := 1) hx hb d_cJT_harm_58 (by decide) ?_
          refine lv_iload_n hx hb d_cJT_harm_59 rfl (lv_at hl 2 rfl) ?_
          refine lv_ishl hx hb d_cJT_harm_60 ?_
          refine w_i (y := 1 <<< (x2 &&& 31)) rfl ?_
          refine lv_ixor hx hb d_cJT_harm_61 ?_
          refine w_i (y := (S.a 13 j_8 x1.toNatClampNeg) ^^^ (1 <<< (x2 &&& 31))) rfl ?_
          refine lv_i2b hx hb d_cJT_harm_62 rfl ?_
          refine w_i (y := ((S.a 13 j_8 x1.toNatClampNeg) ^^^ (1 <<< (x2 &&& 31))).toInt8.toInt32) rfl ?_
          refine w_s (st' := [.int (((S.a 13 j_8 x1.toNatClampNeg) ^^^ (1 <<< (x2 &&& 31))).toInt8.toInt32), .int x1, .ref (ad 13 j_8)]) (congrArg (fun z9 : Option Nat => [.int (((S.a 13 j_8 x1.toNatClampNeg) ^^^ (1 <<< (x2 &&& 31))).toInt8.toInt32), .int x1, rv ad 13 z9]) hj_9) ?_
          obtain ⟨hi_12, Heq⟩ := gd_some Heq
          refine va_bast hx hb hK hP hD hS (cPos N 13 j_8) 1 (cw_arr (k := 13) (by decide) hl_10) rfl (i := x1) (x := ((S.a 13 j_8 x1.toNatClampNeg) ^^^ (1 <<< (x2 &&& 31))).toInt8.toInt32) hi_12 d_cJT_harm_63 (fun H locs hP hD hS => ?_)
          have hD := (congrArg (fun w9 => va_D A w9) (cw_setA (ad := ad) (cc := cc) (S := S) (k := 13) (i := x1.toNatClampNeg) (v := (vp_nar .byte (((S.a 13 j_8 x1.toNatClampNeg) ^^^ (1 <<< (x2 &&& 31))).toInt8.toInt32))) (by decide) hl_10)).mp hD
          have hP := (congrArg (fun w9 => va_P D cls w9 H) (cw_setA (ad := ad) (cc := cc) (S := S) (k := 13) (i := x1.toNatClampNeg) (v := (vp_nar .byte (((S.a 13 j_8 x1.toNatClampNeg) ^^^ (1 <<< (x2 &&& 31))).toInt8.toInt32))) (by decide) hl_10)).mp hP
          exact (Kr _ (Option.some.inj Heq).symm).1 _ rfl 64 _ _ _ d_cJT_harm_64 hP hD hS
        · replace Heq := (if_neg c_7).symm.trans Heq
          exact w_cJT_harm_J33 hfl hC Heq Kr _ _ _ hP hD hS (lv_sub hl [0] rfl)
    · replace Heq := (if_neg c_2).symm.trans Heq
      exact w_cJT_harm_J10 hfl hC Heq Kr _ _ _ hP hD hS (lv_sub hl [0] rfl)
def m_cJT_harm (N : Nat → Nat) (x0 : Nat) (S : CS) (x1 : Int32) (x2 : Int32) : Option ((CS) ⊕ (CS × Nat)) := m_cJT_harm_J0 N x0 S x1 x2
set_option maxHeartbeats 4000000 in
theorem g_cJT_harm (l : Launch) (hfl : l.flags = flags0) (D : va_G) (sz : Nat) {ad : Nat → Nat → Nat} {cc : Nat → ClassId} {sad sav : Nat → Nat} {N : Nat → Nat} {x0 : Nat} {S : CS} {x1 : Int32} {x2 : Int32} {o : CS} (Heq : m_cJT_harm N x0 S x1 x2 = some (.inl o)) : Met l ⟨"JoinedTrees", "harm", "(II)V"⟩ (Cond.code ⟨"JoinedTrees", "harm", "(II)V"⟩ prog_1_method_26_code 3 none :: gb) ({ frames := 6, cells := 0, slots := 0, locals := 96 }) (cPc sad sav D (cw ad cc N S) (cty cc) sz [.ref (ad 11 x0), .int x1, .int x2]) (va_Qv (fun _ : Unit => True) (fun _ t => gO D (cw ad cc N o) (cty cc) (va_A (cw ad cc N S) sz) t) (va_A (cw ad cc N S) sz)) 0 0 (va_A (cw ad cc N S) sz) := by
  refine Met.ofW (cc := prog_1_method_26_code) (maxL := 3) (ret := none) (by decide) rfl ?_
  intro p e s m args below meth c s₁ B hml hv
  obtain ⟨rfl, hsz, hP, hK, hD0, hev, hE, hN⟩ := hv
  have hx := B.exec
  have hb := B.bytes
  have hr := B.returns
  have hts : ∀ w9 ∈ gb, w9.before [.ref (ad 11 x0), .int x1, .int x2].toArray s = true := fun w9 h => atoms_spec (ws := Cond.code ⟨"JoinedTrees", "harm", "(II)V"⟩ prog_1_method_26_code 3 none :: gb) B.pre w9 (List.mem_cons_of_mem _ h)
  have hown : s.vm.findClass "JoinedTrees" = some m.cls := findClass_of_methodNamed B.named
  have hlocks := B.notSynchronized
  have hNS := ns_of hP
  subst hsz
  have hD := hD0.self (sz := s.heap.size)
  generalize hAe : va_A (cw ad cc N S) s.heap.size = A at hD hev hE hNS ⊢
  have hA : ∀ q : Nat, s.heap.size ≤ q → A q := fun q h => by rw [← hAe]; exact Or.inr h
  have hS : va_S A s.heap s.heap [] := va_S.rf
  obtain ⟨ls, hl, hle⟩ : ∃ ls : Array Slot, lv_has ls 3 [(0, .ref (ad 11 x0)), (1, .int x1), (2, .int x2)] ∧ entryFrame m ([.ref (ad 11 x0), .int x1, .int x2] : List Value).toArray 3 = F0 m 0 ls [] := by
    exact ⟨_, lv_entry (n := 3) _ (Nat.le_of_ble_eq_true rfl), lg_entry_eq ..⟩
  rw [hle]
  refine w_cJT_harm_J0 (cR := 0) (sR := 0) hfl ⟨hx, hb, hr, hml, hown, hts, hK, hA, hev, hE, hN, hNS⟩ Heq (fun r h => ⟨fun v9 hv9 pc H locs ls hd hP hD hS => ?_, fun t9 ht9 => (by subst h; cases ht9)⟩) _ _ _ hP hD hS (lv_sub hl [0, 1, 2] rfl)
  subst h
  cases hv9
  exact W.vret hx hb hr (fun t ht hW => ⟨⟨(), rfl, trivial, by rw [ht]; exact hP, va_K.moved hW.alike hK, hD⟩, hS.F ht⟩) hS.2.2 hd
set_option maxHeartbeats 4000000 in
theorem g_cJT_harm_t (l : Launch) (hfl : l.flags = flags0) (D : va_G) (sz : Nat) {ad : Nat → Nat → Nat} {cc : Nat → ClassId} {sad sav : Nat → Nat} {N : Nat → Nat} {x0 : Nat} {S : CS} {x1 : Int32} {x2 : Int32} {o : CS × Nat} (Heq : m_cJT_harm N x0 S x1 x2 = some (.inr o)) : MeT l ⟨"JoinedTrees", "harm", "(II)V"⟩ (Cond.code ⟨"JoinedTrees", "harm", "(II)V"⟩ prog_1_method_26_code 3 none :: gb) ({ frames := 6, cells := 1, slots := 6, locals := 96 }) (cPc sad sav D (cw ad cc N S) (cty cc) sz [.ref (ad 11 x0), .int x1, .int x2]) (exN o.2) (va_A (cw ad cc N S) sz) (fun H1 => va_P D cls (cw ad cc N o.1) H1) 1 6 := by
  refine MeT.ofW (cc := prog_1_method_26_code) (maxL := 3) (ret := none) (by decide) rfl ?_
  intro p e s m args below meth c s₁ B hml hno hv
  obtain ⟨rfl, hsz, hP, hK, hD0, hev, hE, hN⟩ := hv
  have hx := B.exec
  have hb := B.bytes
  have hr := B.returns
  have hts : ∀ w9 ∈ gb, w9.before [.ref (ad 11 x0), .int x1, .int x2].toArray s = true := fun w9 h => atoms_spec (ws := Cond.code ⟨"JoinedTrees", "harm", "(II)V"⟩ prog_1_method_26_code 3 none :: gb) B.pre w9 (List.mem_cons_of_mem _ h)
  have hown : s.vm.findClass "JoinedTrees" = some m.cls := findClass_of_methodNamed B.named
  have hlocks := B.notSynchronized
  have hNS := ns_of hP
  subst hsz
  have hD := hD0.self (sz := s.heap.size)
  generalize hAe : va_A (cw ad cc N S) s.heap.size = A at hD hev hE hNS ⊢
  have hA : ∀ q : Nat, s.heap.size ≤ q → A q := fun q h => by rw [← hAe]; exact Or.inr h
  have hS : va_S A s.heap s.heap [] := va_S.rf
  obtain ⟨ls, hl, hle⟩ : ∃ ls : Array Slot, lv_has ls 3 [(0, .ref (ad 11 x0)), (1, .int x1), (2, .int x2)] ∧ entryFrame m ([.ref (ad 11 x0), .int x1, .int x2] : List Value).toArray 3 = F0 m 0 ls [] := by
    exact ⟨_, lv_entry (n := 3) _ (Nat.le_of_ble_eq_true rfl), lg_entry_eq ..⟩
  rw [hle]
  refine w_cJT_harm_J0 (cR := 1) (sR := 6) hfl ⟨hx, hb, hr, hml, hown, hts, hK, hA, hev, hE, hN, hNS⟩ Heq (fun r h => ⟨fun v9 hv9 => (by subst h; cases hv9), fun t9 ht9 => ⟨⟨Nat.le_refl _, Nat.le_refl _⟩, fun pc H locs ls hd hsz hP hD hS => ?_, fun pc H locs ls st0 rest9 A9 hr9 hF9 hS => ?_⟩⟩) _ _ _ hP hD hS (lv_sub hl [0, 1, 2] rfl)
  · subst h; cases ht9; exact tx_thr hfl hx hb hno hlocks hown hts hev hN hNS hd (hsz.trans hml.symm) hP hS hA (Nat.le_refl _) (Nat.le_refl _) (Nat.le_of_ble_eq_true rfl) (Nat.le_of_ble_eq_true rfl)
  · subst h; cases ht9; exact tx_on hr9 hno hlocks hS hF9
def m_cJT_out_J11 (N : Nat → Nat) (x0 : Nat) (S : CS) : Option ((CS × Int64) ⊕ (CS × Nat)) := some (.inr (S, 1))
theorem d_cJT_out_0 : decode prog_1_method_27_code 0 = .ok (.iload_n 1, 1) := by decide +kernel
theorem d_cJT_out_1 : decode prog_1_method_27_code 1 = .ok (.ifCond .lt 10, 3) := by decide +kernel
theorem d_cJT_out_11 : decode prog_1_method_27_code 11 = .ok (.new 93, 3) := by decide +kernel
theorem d_cJT_out_14 : decode prog_1_method_27_code 14 = .ok (.dup, 1) := by decide +kernel
theorem d_cJT_out_15 : decode prog_1_method_27_code 15 = .ok (.invokespecial 95, 3) := by decide +kernel
theorem d_cJT_out_18 : decode prog_1_method_27_code 18 = .ok (.athrow, 1) := by decide +kernel
set_option maxHeartbeats 4000000 in
set_option maxRecDepth 100000 in
theorem w_cJT_out_J11 {p : Program} {l : Launch} {e : Env} {s : State} {m : MethodId} {args : Array Value} {below : List Frame} {meth : Method} {c : Code} {A : Nat → Prop} {D : va_G} {ad : Nat → Nat → Nat} {cc : Nat → ClassId} {sad sav : Nat → Nat} {Q : State → Prop} {cR sR : Nat} (hfl : l.flags = flags0) (hC : MCc sad sav "JoinedTrees" prog_1_method_27_code 5 (some .long) p s m args meth c A D cc) {N : Nat → Nat} {x0 : Nat} {S : CS} {o : ((CS × Int64) ⊕ (CS × Nat))} (Heq : m_cJT_out_J11 N x0 S = some o) (Kr : ∀ r : ((CS × Int64) ⊕ (CS × Nat)), o = r → (∀ v9 : CS × Int64, r = .inl v9 → ∀ (pc : Nat) (H : Heap) (locs : List Loc) (ls : Array Slot), decode prog_1_method_27_code pc = .ok (.lreturn, 1) → va_P D cls (cw ad cc N v9.1) H → va_D A (cw ad cc N v9.1) → va_S A s.heap H locs → W p l e ({ frames := 6, cells := cR, slots := sR, locals := 96 }) s m args below meth c H locs 0 0 Q (F0 m pc ls [.long v9.2])) ∧ (∀ t9 : CS × Nat, r = .inr t9 → (1 ≤ cR ∧ 6 ≤ sR) ∧ (∀ (pc : Nat) (H : Heap) (locs : List Loc) (ls : Array Slot), thD prog_1_method_27_code t9.2 pc → ls.size = 5 → va_P D cls (cw ad cc N t9.1) H → va_D A (cw ad cc N t9.1) → va_S A s.heap H locs → W p l e ({ frames := 6, cells := cR, slots := sR, locals := 96 }) s m args below meth c H locs 0 0 Q (F0 m pc ls [])) ∧ (∀ (pc : Nat) (H : Heap) (locs : List Loc) (ls : Array Slot) (st0 rest9 : List Value) (A9 : Nat → Prop), tx_Thr p l e ({ frames := 6, cells := cR, slots := sR, locals := 96 }) s m args below meth c H locs 0 0 1 6 (F0 m pc ls st0) rest9 (exN t9.2) A9 (fun H1 => va_P D cls (cw ad cc N t9.1) H1) → (∀ q, A9 q → A q) → va_S A s.heap H locs → W p l e ({ frames := 6, cells := cR, slots := sR, locals := 96 }) s m args below meth c H locs 0 0 Q (F0 m pc ls st0)))) : ∀ (H : Heap) (locs : List Loc) (ls : Array Slot), va_P D cls (cw ad cc N S) H → va_D A (cw ad cc N S) → va_S A s.heap H locs → lv_has ls 5 [(0, .ref (ad 11 x0))] → W p l e ({ frames := 6, cells := cR, slots := sR, locals := 96 }) s m args below meth c H locs 0 0 Q (F0 m 11 ls []) := by
  intro H locs ls hP hD hS hl
  obtain ⟨hx, hb, hr, hml, hown, hts, hK, hA, hev, hE, hN, hNS⟩ := id hC
  unfold m_cJT_out_J11 at Heq
  exact ((Kr _ (Option.some.inj Heq).symm).2 _ rfl).2.1 11 _ _ _ ⟨⟨show 1 ≤ 1 by decide, show 1 ≤ 5 by decide⟩, d_cJT_out_11, d_cJT_out_14, d_cJT_out_15, d_cJT_out_18⟩ hl.1 hP hD hS
def m_cJT_out_B24 (N : Nat → Nat) (x0 : Nat) (S : CS) (x1 : Int32) (x2 : Int64) (x4 : Int32) : Option ((CS × Int32 × Int64 × Int32) ⊕ (CS × Int64)) := (if 8 ≤ x4 then some (.inr (S, x2)) else gl x0 (N 11) (gn (S.r 11 6 x0) (N 5) (fun j_2 => ob (m_cRw_at N j_2 S ((8 * x1) + x4)) (fun o_5 => some (.inl (o_5.1, x1, ((x2 <<< ((8 : Int32).toInt64 &&& 63)) ||| ((if (0 : Int32) < o_5.2 then o_5.2 else 0).toInt64)), (x4 + 1)))))))
theorem d_cJT_out_4 : decode prog_1_method_27_code 4 = .ok (.iload_n 1, 1) := by decide +kernel
theorem d_cJT_out_5 : decode prog_1_method_27_code 5 = .ok (.sipush 8192, 3) := by decide +kernel
theorem d_cJT_out_8 : decode prog_1_method_27_code 8 = .ok (.if_icmp .lt 11, 3) := by decide +kernel
theorem d_cJT_out_19 : decode prog_1_method_27_code 19 = .ok (.lconst 0, 1) := by decide +kernel
theorem d_cJT_out_20 : decode prog_1_method_27_code 20 = .ok (.lstore_n 2, 1) := by decide +kernel
theorem d_cJT_out_21 : decode prog_1_method_27_code 21 = .ok (.iconst 0, 1) := by decide +kernel
theorem d_cJT_out_22 : decode prog_1_method_27_code 22 = .ok (.istore 4, 2) := by decide +kernel
theorem d_cJT_out_24 : decode prog_1_method_27_code 24 = .ok (.iload 4, 2) := by decide +kernel
theorem d_cJT_out_26 : decode prog_1_method_27_code 26 = .ok (.bipush 8, 2) := by decide +kernel
theorem d_cJT_out_28 : decode prog_1_method_27_code 28 = .ok (.if_icmp .ge 34, 3) := by decide +kernel
theorem d_cJT_out_31 : decode prog_1_method_27_code 31 = .ok (.lload_n 2, 1) := by decide +kernel
theorem d_cJT_out_32 : decode prog_1_method_27_code 32 = .ok (.bipush 8, 2) := by decide +kernel
theorem d_cJT_out_34 : decode prog_1_method_27_code 34 = .ok (.lshl, 1) := by decide +kernel
theorem d_cJT_out_35 : decode prog_1_method_27_code 35 = .ok (.iconst 0, 1) := by decide +kernel
theorem d_cJT_out_36 : decode prog_1_method_27_code 36 = .ok (.aload_n 0, 1) := by decide +kernel
theorem d_cJT_out_37 : decode prog_1_method_27_code 37 = .ok (.getfield 54, 3) := by decide +kernel
theorem d_cJT_out_40 : decode prog_1_method_27_code 40 = .ok (.bipush 8, 2) := by decide +kernel
theorem d_cJT_out_42 : decode prog_1_method_27_code 42 = .ok (.iload_n 1, 1) := by decide +kernel
theorem d_cJT_out_43 : decode prog_1_method_27_code 43 = .ok (.imul, 1) := by decide +kernel
theorem d_cJT_out_44 : decode prog_1_method_27_code 44 = .ok (.iload 4, 2) := by decide +kernel
theorem d_cJT_out_46 : decode prog_1_method_27_code 46 = .ok (.iadd, 1) := by decide +kernel
theorem d_cJT_out_47 : decode prog_1_method_27_code 47 = .ok (.invokevirtual 293, 3) := by decide +kernel
theorem d_cJT_out_50 : decode prog_1_method_27_code 50 = .ok (.invokestatic 378, 3) := by decide +kernel
theorem d_cJT_out_53 : decode prog_1_method_27_code 53 = .ok (.i2l, 1) := by decide +kernel
theorem d_cJT_out_54 : decode prog_1_method_27_code 54 = .ok (.lor, 1) := by decide +kernel
theorem d_cJT_out_55 : decode prog_1_method_27_code 55 = .ok (.lstore_n 2, 1) := by decide +kernel
theorem d_cJT_out_56 : decode prog_1_method_27_code 56 = .ok (.iinc 4 1, 3) := by decide +kernel
theorem d_cJT_out_59 : decode prog_1_method_27_code 59 = .ok (.goto (-35), 3) := by decide +kernel
set_option maxHeartbeats 4000000 in
set_option maxRecDepth 100000 in
theorem w_cJT_out_B24 {p : Program} {l : Launch} {e : Env} {s : State} {m : MethodId} {args : Array Value} {below : List Frame} {meth : Method} {c : Code} {A : Nat → Prop} {D : va_G} {ad : Nat → Nat → Nat} {cc : Nat → ClassId} {sad sav : Nat → Nat} {Q : State → Prop} {cR sR : Nat} (hfl : l.flags = flags0) (hC : MCc sad sav "JoinedTrees" prog_1_method_27_code 5 (some .long) p s m args meth c A D cc) {N : Nat → Nat} {x0 : Nat} {S : CS} {x1 : Int32} {x2 : Int64} {x4 : Int32} {o : ((CS × Int32 × Int64 × Int32) ⊕ (CS × Int64))} (Heq : m_cJT_out_B24 N x0 S x1 x2 x4 = some o) (Ka : ∀ b : CS × Int32 × Int64 × Int32, o = .inl b → ∀ (H : Heap) (locs : List Loc) (ls : Array Slot), va_P D cls (cw ad cc N b.1) H → va_D A (cw ad cc N b.1) → va_S A s.heap H locs → lv_has ls 5 [(0, .ref (ad 11 x0)), (1, .int b.2.1), (2, .long b.2.2.1), (4, .int b.2.2.2)] → W p l e ({ frames := 6, cells := cR, slots := sR, locals := 96 }) s m args below meth c H locs 0 0 Q (F0 m 24 ls [])) (K0 : ∀ b : CS × Int64, o = .inr b → ∀ (H : Heap) (locs : List Loc) (ls : Array Slot), va_P D cls (cw ad cc N b.1) H → va_D A (cw ad cc N b.1) → va_S A s.heap H locs → lv_has ls 5 [(0, .ref (ad 11 x0)), (2, .long b.2)] → W p l e ({ frames := 6, cells := cR, slots := sR, locals := 96 }) s m args below meth c H locs 0 0 Q (F0 m 62 ls [])) : ∀ (H : Heap) (locs : List Loc) (ls : Array Slot), va_P D cls (cw ad cc N S) H → va_D A (cw ad cc N S) → va_S A s.heap H locs → lv_has ls 5 [(0, .ref (ad 11 x0)), (1, .int x1), (2, .long x2), (4, .int x4)] → W p l e ({ frames := 6, cells := cR, slots := sR, locals := 96 }) s m args below meth c H locs 0 0 Q (F0 m 24 ls []) := by
  intro H locs ls hP hD hS hl
  obtain ⟨hx, hb, hr, hml, hown, hts, hK, hA, hev, hE, hN, hNS⟩ := id hC
  unfold m_cJT_out_B24 at Heq
  refine lv_iload hx hb d_cJT_out_24 (lv_at hl 3 rfl) ?_
  refine lv_bipush (v := 8) hx hb d_cJT_out_26 (by decide) ?_
  refine lv_icmp_ge (tgt := 62) hx hb d_cJT_out_28 (by decide) (fun c_1 => ?_) (fun c_1 => ?_)
  · replace Heq := (if_pos c_1).symm.trans Heq
    exact K0 _ (Option.some.inj Heq).symm _ _ _ hP hD hS (lv_sub hl [0, 2] rfl)
  · replace Heq := (if_neg c_1).symm.trans Heq
    refine lv_lload_n hx hb d_cJT_out_31 rfl (lv_at hl 2 rfl) ?_
    refine lv_bipush (v := 8) hx hb d_cJT_out_32 (by decide) ?_
    refine lv_lshl hx hb d_cJT_out_34 rfl ?_
    refine w_l (y := x2 <<< ((8 : Int32).toInt64 &&& 63)) rfl ?_
    refine lv_iconst (v := 0) hx hb d_cJT_out_35 (by decide) ?_
    refine lv_aload_n hx hb d_cJT_out_36 rfl (lv_at hl 0 rfl) ?_
    obtain ⟨hl_x0_11, Heq⟩ := gl_some Heq
    refine va_get (D := D) (ci := 11) (v := rv ad 5 (S.r 11 6 x0)) (C := R_JT) (T := F_JT) (N := 13) hx hb hts i_JT hown hK hP (cPos N 11 x0) (cw_obj (k := 11) (by decide) hl_x0_11) rfl 6 (by decide) (hts _ kw_427) (fun _ h9 => h9) rfl d_cJT_out_37 ?_
    refine lv_bipush (v := 8) hx hb d_cJT_out_40 (by decide) ?_
    refine lv_iload_n hx hb d_cJT_out_42 rfl (lv_at hl 1 rfl) ?_
    refine lv_imul hx hb d_cJT_out_43 ?_
    refine w_i (y := 8 * x1) rfl ?_
    refine lv_iload hx hb d_cJT_out_44 (lv_at hl 3 rfl) ?_
    refine lv_iadd hx hb d_cJT_out_46 ?_
    refine w_i (y := (8 * x1) + x4) rfl ?_
    obtain ⟨j_2, hj_3, hl_4, Heq⟩ := gn_some Heq
    refine w_s (st' := [.int ((8 * x1) + x4), .ref (ad 5 j_2), .int 0, .long (x2 <<< ((8 : Int32).toInt64 &&& 63))]) (congrArg (fun z9 : Option Nat => [.int ((8 * x1) + x4), rv ad 5 z9, .int 0, .long (x2 <<< ((8 : Int32).toInt64 &&& 63))]) hj_3) ?_
    obtain ⟨o_5, h_6, Heq⟩ := ob_some Heq
    have hFc := fr_all hD hS hA
    refine va_calli (va_runV (As := [.int ((8 * x1) + x4)]) (rest := [.int 0, .long (x2 <<< ((8 : Int32).toInt64 &&& 63))]) ⟨hx, hb, hml, hown, hts⟩ (g_cRw_at l D H.size (ad := ad) (cc := cc) (sad := sad) (sav := sav) h_6) (cw_v 1 hts kw_689 kw_1136 kw_687 kw_688 kw_4 rfl rfl (by decide +kernel) ⟨Nat.le_of_ble_eq_true rfl, Nat.le_of_ble_eq_true rfl⟩) ⟨c_blind, va_recv hK hP (ci := 5) (q0 := cPos N 5 j_2) rfl (cw_obj (k := 5) (by decide) hl_4), fun U hU hW => c_pre hU hW hP hK hD hev hE hN hNS hS hFc⟩ rfl rfl hl.1 rfl (lv_room (Nat.le_of_ble_eq_true rfl)) d_cJT_out_47 ⟨Nat.zero_le _, Nat.zero_le _⟩) hS (fun q _ h => hFc q h) hFc (fun rz u t H1 locs ht hvm hw hB hz1 hk1 hS => ?_)
    obtain ⟨hP, -, hD1⟩ := hB
    rw [ht] at hP
    have hD := hD1.weaken (fun _ q _ h => hFc q.1 h)
    generalize H1 = H at hP hS ⊢
    refine W.cs (cells' := 0) (slots' := 0) rfl rfl ?_
    subst hw
    refine va_mmax hx hb (hml.trans hl.1.symm) hown (hts _ kw_1361) (hts _ kw_1102) (hts _ kw_21) (hts _ kw_1103) (Nat.le_of_ble_eq_true rfl) (Nat.le_of_ble_eq_true rfl) (Nat.le_of_ble_eq_true rfl) (Nat.le_of_ble_eq_true rfl) d_cJT_out_50 ?_
    refine lv_i2l hx hb d_cJT_out_53 rfl ?_
    refine w_l (y := (if (0 : Int32) < o_5.2 then o_5.2 else 0).toInt64) rfl ?_
    refine lv_lor hx hb d_cJT_out_54 ?_
    refine w_l (y := (x2 <<< ((8 : Int32).toInt64 &&& 63)) ||| ((if (0 : Int32) < o_5.2 then o_5.2 else 0).toInt64)) rfl ?_
    refine lv_lstore_n (lv' := [(2, .long ((x2 <<< ((8 : Int32).toInt64 &&& 63)) ||| ((if (0 : Int32) < o_5.2 then o_5.2 else 0).toInt64))), (0, .ref (ad 11 x0)), (1, .int x1), (4, .int x4)]) hx hb d_cJT_out_55 rfl hl (by decide) rfl (fun ls hl => ?_)
    refine lv_iinc (v := x4 + 1) (lv' := [(4, .int (x4 + 1)), (2, .long ((x2 <<< ((8 : Int32).toInt64 &&& 63)) ||| ((if (0 : Int32) < o_5.2 then o_5.2 else 0).toInt64))), (0, .ref (ad 11 x0)), (1, .int x1)]) hx hb d_cJT_out_56 hl (k := 3) rfl rfl (by decide) rfl (fun ls hl => ?_)
    refine lv_goto (tgt := 24) hx hb d_cJT_out_59 (by decide) ?_
    exact Ka _ (Option.some.inj Heq).symm _ _ _ hP hD hS (lv_sub hl [2, 3, 1, 0] rfl)
def m_cJT_out_L24 (N : Nat → Nat) (x0 : Nat) (S : CS) (x1 : Int32) (x2 : Int64) (x4 : Int32) : Option (CS × Int64) := lp (fun a : CS × Int32 × Int64 × Int32 => m_cJT_out_B24 N x0 a.1 a.2.1 a.2.2.1 a.2.2.2) FU (S, x1, x2, x4)
theorem w_cJT_out_L24 {p : Program} {l : Launch} {e : Env} {s : State} {m : MethodId} {args : Array Value} {below : List Frame} {meth : Method} {c : Code} {A : Nat → Prop} {D : va_G} {ad : Nat → Nat → Nat} {cc : Nat → ClassId} {sad sav : Nat → Nat} {Q : State → Prop} {cR sR : Nat} (hfl : l.flags = flags0) (hC : MCc sad sav "JoinedTrees" prog_1_method_27_code 5 (some .long) p s m args meth c A D cc) {N : Nat → Nat} {x0 : Nat} {S : CS} {x1 : Int32} {x2 : Int64} {x4 : Int32} {o : CS × Int64} (Heq : m_cJT_out_L24 N x0 S x1 x2 x4 = some o) (K0 : ∀ b : CS × Int64, o = b → ∀ (H : Heap) (locs : List Loc) (ls : Array Slot), va_P D cls (cw ad cc N b.1) H → va_D A (cw ad cc N b.1) → va_S A s.heap H locs → lv_has ls 5 [(0, .ref (ad 11 x0)), (2, .long b.2)] → W p l e ({ frames := 6, cells := cR, slots := sR, locals := 96 }) s m args below meth c H locs 0 0 Q (F0 m 62 ls [])) : ∀ (H : Heap) (locs : List Loc) (ls : Array Slot), va_P D cls (cw ad cc N S) H → va_D A (cw ad cc N S) → va_S A s.heap H locs → lv_has ls 5 [(0, .ref (ad 11 x0)), (1, .int x1), (2, .long x2), (4, .int x4)] → W p l e ({ frames := 6, cells := cR, slots := sR, locals := 96 }) s m args below meth c H locs 0 0 Q (F0 m 24 ls []) := by
  refine lp_w (G := fun a : CS × Int32 × Int64 × Int32 => ∀ (H : Heap) (locs : List Loc) (ls : Array Slot), va_P D cls (cw ad cc N a.1) H → va_D A (cw ad cc N a.1) → va_S A s.heap H locs → lv_has ls 5 [(0, .ref (ad 11 x0)), (1, .int a.2.1), (2, .long a.2.2.1), (4, .int a.2.2.2)] → W p l e ({ frames := 6, cells := cR, slots := sR, locals := 96 }) s m args below meth c H locs 0 0 Q (F0 m 24 ls [])) ?_ FU (S, x1, x2, x4) Heq
  intro a o1 ho Ka Ke
  exact w_cJT_out_B24 hfl hC ho (fun b h => Ka b h) (fun b h => K0 b (Ke _ h).symm)
def m_cJT_out_J0 (N : Nat → Nat) (x0 : Nat) (S : CS) (x1 : Int32) : Option ((CS × Int64) ⊕ (CS × Nat)) := (if x1 < 0 then m_cJT_out_J11 N x0 S else (if x1 < 8192 then ob (m_cJT_out_L24 N x0 S x1 0 0) (fun b_3 => some (.inl (b_3.1, b_3.2))) else m_cJT_out_J11 N x0 S))
theorem d_cJT_out_62 : decode prog_1_method_27_code 62 = .ok (.lload_n 2, 1) := by decide +kernel
theorem d_cJT_out_63 : decode prog_1_method_27_code 63 = .ok (.lreturn, 1) := by decide +kernel
set_option maxHeartbeats 4000000 in
set_option maxRecDepth 100000 in
theorem w_cJT_out_J0 {p : Program} {l : Launch} {e : Env} {s : State} {m : MethodId} {args : Array Value} {below : List Frame} {meth : Method} {c : Code} {A : Nat → Prop} {D : va_G} {ad : Nat → Nat → Nat} {cc : Nat → ClassId} {sad sav : Nat → Nat} {Q : State → Prop} {cR sR : Nat} (hfl : l.flags = flags0) (hC : MCc sad sav "JoinedTrees" prog_1_method_27_code 5 (some .long) p s m args meth c A D cc) {N : Nat → Nat} {x0 : Nat} {S : CS} {x1 : Int32} {o : ((CS × Int64) ⊕ (CS × Nat))} (Heq : m_cJT_out_J0 N x0 S x1 = some o) (Kr : ∀ r : ((CS × Int64) ⊕ (CS × Nat)), o = r → (∀ v9 : CS × Int64, r = .inl v9 → ∀ (pc : Nat) (H : Heap) (locs : List Loc) (ls : Array Slot), decode prog_1_method_27_code pc = .ok (.lreturn, 1) → va_P D cls (cw ad cc N v9.1) H → va_D A (cw ad cc N v9.1) → va_S A s.heap H locs → W p l e ({ frames := 6, cells := cR, slots := sR, locals := 96 }) s m args below meth c H locs 0 0 Q (F0 m pc ls [.long v9.2])) ∧ (∀ t9 : CS × Nat, r = .inr t9 → (1 ≤ cR ∧ 6 ≤ sR) ∧ (∀ (pc : Nat) (H : Heap) (locs : List Loc) (ls : Array Slot), thD prog_1_method_27_code t9.2 pc → ls.size = 5 → va_P D cls (cw ad cc N t9.1) H → va_D A (cw ad cc N t9.1) → va_S A s.heap H locs → W p l e ({ frames := 6, cells := cR, slots := sR, locals := 96 }) s m args below meth c H locs 0 0 Q (F0 m pc ls [])) ∧ (∀ (pc : Nat) (H : Heap) (locs : List Loc) (ls : Array Slot) (st0 rest9 : List Value) (A9 : Nat → Prop), tx_Thr p l e ({ frames := 6, cells := cR, slots := sR, locals := 96 }) s m args below meth c H locs 0 0 1 6 (F0 m pc ls st0) rest9 (exN t9.2) A9 (fun H1 => va_P D cls (cw ad cc N t9.1) H1) → (∀ q, A9 q → A q) → va_S A s.heap H locs → W p l e ({ frames := 6, cells := cR, slots := sR, locals := 96 }) s m args below meth c H locs 0 0 Q (F0 m pc ls st0)))) : ∀ (H : Heap) (locs : List Loc) (ls : Array Slot), va_P D cls (cw ad cc N S) H → va_D A (cw ad cc N S) → va_S A s.heap H locs → lv_has ls 5 [(0, .ref (ad 11 x0)), (1, .int x1)] → W p l e ({ frames := 6, cells := cR, slots := sR, locals := 96 }) s m args below meth c H locs 0 0 Q (F0 m 0 ls []) := by
  intro H locs ls hP hD hS hl
  obtain ⟨hx, hb, hr, hml, hown, hts, hK, hA, hev, hE, hN, hNS⟩ := id hC
  unfold m_cJT_out_J0 at Heq
  refine lv_iload_n hx hb d_cJT_out_0 rfl (lv_at hl 1 rfl) ?_
  refine lv_if_lt (tgt := 11) hx hb d_cJT_out_1 (by decide) (fun c_1 => ?_) (fun c_1 => ?_)
  · replace Heq := (if_pos c_1).symm.trans Heq
    exact w_cJT_out_J11 hfl hC Heq Kr _ _ _ hP hD hS (lv_sub hl [0] rfl)
  · replace Heq := (if_neg c_1).symm.trans Heq
    refine lv_iload_n hx hb d_cJT_out_4 rfl (lv_at hl 1 rfl) ?_
    refine lv_sipush (v := 8192) hx hb d_cJT_out_5 (by decide) ?_
    refine lv_icmp_lt (tgt := 19) hx hb d_cJT_out_8 (by decide) (fun c_2 => ?_) (fun c_2 => ?_)
    · replace Heq := (if_pos c_2).symm.trans Heq
      refine lv_lconst (v := 0) hx hb d_cJT_out_19 (by decide) ?_
      refine lv_lstore_n (lv' := [(2, .long 0), (0, .ref (ad 11 x0)), (1, .int x1)]) hx hb d_cJT_out_20 rfl hl (by decide) rfl (fun ls hl => ?_)
      refine lv_iconst (v := 0) hx hb d_cJT_out_21 (by decide) ?_
      refine lv_istore (lv' := [(4, .int 0), (2, .long 0), (0, .ref (ad 11 x0)), (1, .int x1)]) hx hb d_cJT_out_22 hl (by decide) rfl (fun ls hl => ?_)
      obtain ⟨b_3, h_4, Heq⟩ := ob_some Heq
      refine w_cJT_out_L24 hfl hC h_4 (fun b h => ?_) _ _ _ hP hD hS (lv_sub hl [2, 3, 1, 0] rfl)
      subst h
      intro H locs ls hP hD hS hl
      refine lv_lload_n hx hb d_cJT_out_62 rfl (lv_at hl 1 rfl) ?_
      exact (Kr _ (Option.some.inj Heq).symm).1 _ rfl 63 _ _ _ d_cJT_out_63 hP hD hS
    · replace Heq := (if_neg c_2).symm.trans Heq
      exact w_cJT_out_J11 hfl hC Heq Kr _ _ _ hP hD hS (lv_sub hl [0] rfl)
def m_cJT_out (N : Nat → Nat) (x0 : Nat) (S : CS) (x1 : Int32) : Option ((CS × Int64) ⊕ (CS × Nat)) := m_cJT_out_J0 N x0 S x1
set_option maxHeartbeats 4000000 in
theorem g_cJT_out (l : Launch) (hfl : l.flags = flags0) (D : va_G) (sz : Nat) {ad : Nat → Nat → Nat} {cc : Nat → ClassId} {sad sav : Nat → Nat} {N : Nat → Nat} {x0 : Nat} {S : CS} {x1 : Int32} {o : CS × Int64} (Heq : m_cJT_out N x0 S x1 = some (.inl o)) : Met l ⟨"JoinedTrees", "out", "(I)J"⟩ (Cond.code ⟨"JoinedTrees", "out", "(I)J"⟩ prog_1_method_27_code 5 (some .long) :: gb) ({ frames := 6, cells := 0, slots := 0, locals := 96 }) (cPc sad sav D (cw ad cc N S) (cty cc) sz [.ref (ad 11 x0), .int x1]) (va_Ql (fun (r : Int64) (_ : Unit) => r = o.2) (fun _ t => gO D (cw ad cc N o.1) (cty cc) (va_A (cw ad cc N S) sz) t) (va_A (cw ad cc N S) sz)) 0 0 (va_A (cw ad cc N S) sz) := by
  refine Met.ofW (cc := prog_1_method_27_code) (maxL := 5) (ret := (some .long)) (by decide) rfl ?_
  intro p e s m args below meth c s₁ B hml hv
  obtain ⟨rfl, hsz, hP, hK, hD0, hev, hE, hN⟩ := hv
  have hx := B.exec
  have hb := B.bytes
  have hr := B.returns
  have hts : ∀ w9 ∈ gb, w9.before [.ref (ad 11 x0), .int x1].toArray s = true := fun w9 h => atoms_spec (ws := Cond.code ⟨"JoinedTrees", "out", "(I)J"⟩ prog_1_method_27_code 5 (some .long) :: gb) B.pre w9 (List.mem_cons_of_mem _ h)
  have hown : s.vm.findClass "JoinedTrees" = some m.cls := findClass_of_methodNamed B.named
  have hlocks := B.notSynchronized
  have hNS := ns_of hP
  subst hsz
  have hD := hD0.self (sz := s.heap.size)
  generalize hAe : va_A (cw ad cc N S) s.heap.size = A at hD hev hE hNS ⊢
  have hA : ∀ q : Nat, s.heap.size ≤ q → A q := fun q h => by rw [← hAe]; exact Or.inr h
  have hS : va_S A s.heap s.heap [] := va_S.rf
  obtain ⟨ls, hl, hle⟩ : ∃ ls : Array Slot, lv_has ls 5 [(0, .ref (ad 11 x0)), (1, .int x1)] ∧ entryFrame m ([.ref (ad 11 x0), .int x1] : List Value).toArray 5 = F0 m 0 ls [] := by
    exact ⟨_, lv_entry (n := 5) _ (Nat.le_of_ble_eq_true rfl), lg_entry_eq ..⟩
  rw [hle]
  refine w_cJT_out_J0 (cR := 0) (sR := 0) hfl ⟨hx, hb, hr, hml, hown, hts, hK, hA, hev, hE, hN, hNS⟩ Heq (fun r h => ⟨fun v9 hv9 pc H locs ls hd hP hD hS => ?_, fun t9 ht9 => (by subst h; cases ht9)⟩) _ _ _ hP hD hS (lv_sub hl [0, 1] rfl)
  subst h
  cases hv9
  exact W.lret hx hb hr (fun t ht hW => ⟨⟨_, (), rfl, rfl, by rw [ht]; exact hP, va_K.moved hW.alike hK, hD⟩, hS.F ht⟩) hS.2.2 hd
set_option maxHeartbeats 4000000 in
theorem g_cJT_out_t (l : Launch) (hfl : l.flags = flags0) (D : va_G) (sz : Nat) {ad : Nat → Nat → Nat} {cc : Nat → ClassId} {sad sav : Nat → Nat} {N : Nat → Nat} {x0 : Nat} {S : CS} {x1 : Int32} {o : CS × Nat} (Heq : m_cJT_out N x0 S x1 = some (.inr o)) : MeT l ⟨"JoinedTrees", "out", "(I)J"⟩ (Cond.code ⟨"JoinedTrees", "out", "(I)J"⟩ prog_1_method_27_code 5 (some .long) :: gb) ({ frames := 6, cells := 1, slots := 6, locals := 96 }) (cPc sad sav D (cw ad cc N S) (cty cc) sz [.ref (ad 11 x0), .int x1]) (exN o.2) (va_A (cw ad cc N S) sz) (fun H1 => va_P D cls (cw ad cc N o.1) H1) 1 6 := by
  refine MeT.ofW (cc := prog_1_method_27_code) (maxL := 5) (ret := (some .long)) (by decide) rfl ?_
  intro p e s m args below meth c s₁ B hml hno hv
  obtain ⟨rfl, hsz, hP, hK, hD0, hev, hE, hN⟩ := hv
  have hx := B.exec
  have hb := B.bytes
  have hr := B.returns
  have hts : ∀ w9 ∈ gb, w9.before [.ref (ad 11 x0), .int x1].toArray s = true := fun w9 h => atoms_spec (ws := Cond.code ⟨"JoinedTrees", "out", "(I)J"⟩ prog_1_method_27_code 5 (some .long) :: gb) B.pre w9 (List.mem_cons_of_mem _ h)
  have hown : s.vm.findClass "JoinedTrees" = some m.cls := findClass_of_methodNamed B.named
  have hlocks := B.notSynchronized
  have hNS := ns_of hP
  subst hsz
  have hD := hD0.self (sz := s.heap.size)
  generalize hAe : va_A (cw ad cc N S) s.heap.size = A at hD hev hE hNS ⊢
  have hA : ∀ q : Nat, s.heap.size ≤ q → A q := fun q h => by rw [← hAe]; exact Or.inr h
  have hS : va_S A s.heap s.heap [] := va_S.rf
  obtain ⟨ls, hl, hle⟩ : ∃ ls : Array Slot, lv_has ls 5 [(0, .ref (ad 11 x0)), (1, .int x1)] ∧ entryFrame m ([.ref (ad 11 x0), .int x1] : List Value).toArray 5 = F0 m 0 ls [] := by
    exact ⟨_, lv_entry (n := 5) _ (Nat.le_of_ble_eq_true rfl), lg_entry_eq ..⟩
  rw [hle]
  refine w_cJT_out_J0 (cR := 1) (sR := 6) hfl ⟨hx, hb, hr, hml, hown, hts, hK, hA, hev, hE, hN, hNS⟩ Heq (fun r h => ⟨fun v9 hv9 => (by subst h; cases hv9), fun t9 ht9 => ⟨⟨Nat.le_refl _, Nat.le_refl _⟩, fun pc H locs ls hd hsz hP hD hS => ?_, fun pc H locs ls st0 rest9 A9 hr9 hF9 hS => ?_⟩⟩) _ _ _ hP hD hS (lv_sub hl [0, 1] rfl)
  · subst h; cases ht9; exact tx_thr hfl hx hb hno hlocks hown hts hev hN hNS hd (hsz.trans hml.symm) hP hS hA (Nat.le_refl _) (Nat.le_refl _) (Nat.le_of_ble_eq_true rfl) (Nat.le_of_ble_eq_true rfl)
  · subst h; cases ht9; exact tx_on hr9 hno hlocks hS hF9
def m_cJT_count_J28 (N : Nat → Nat) (x0 : Nat) (S : CS) (x2 : Int32) (x3 : Option Nat) : Option ((CS × Int32) ⊕ (CS × Nat)) := (if x2 = 0 then gn x3 (N 4) (fun j_2 => some (.inl (S, S.i 4 5 j_2))) else (if x2 = 1 then gn x3 (N 4) (fun j_6 => some (.inl (S, S.i 4 6 j_6))) else (if x2 = 2 then gn x3 (N 4) (fun j_10 => ob (m_cRp_headsNow N j_10 S) (fun o_13 => some (.inl (o_13.1, o_13.2)))) else (if x2 = 3 then gn x3 (N 4) (fun j_16 => some (.inl (S, S.i 4 9 j_16))) else (if x2 = 4 then gn x3 (N 4) (fun j_20 => some (.inl (S, S.i 4 7 j_20))) else (if x2 = 5 then gn x3 (N 4) (fun j_24 => some (.inl (S, S.i 4 8 j_24))) else (if x2 = 6 then gn x3 (N 4) (fun j_28 => ob (m_cRp_changesInView N j_28 S) (fun o_31 => some (.inl (o_31.1, o_31.2)))) else some (.inl (S, (-1))))))))))
theorem d_cJT_count_0 : decode prog_1_method_28_code 0 = .ok (.aload_n 0, 1) := by decide +kernel
theorem d_cJT_count_1 : decode prog_1_method_28_code 1 = .ok (.iload_n 1, 1) := by decide +kernel
theorem d_cJT_count_2 : decode prog_1_method_28_code 2 = .ok (.invokevirtual 105, 3) := by decide +kernel
theorem d_cJT_count_5 : decode prog_1_method_28_code 5 = .ok (.astore_n 3, 1) := by decide +kernel
theorem d_cJT_count_6 : decode prog_1_method_28_code 6 = .ok (.iload_n 2, 1) := by decide +kernel
theorem d_cJT_count_7 : decode prog_1_method_28_code 7 = .ok (.bipush 10, 2) := by decide +kernel
theorem d_cJT_count_9 : decode prog_1_method_28_code 9 = .ok (.if_icmp .lt 19, 3) := by decide +kernel
theorem d_cJT_count_28 : decode prog_1_method_28_code 28 = .ok (.iload_n 2, 1) := by decide +kernel
theorem d_cJT_count_29 : decode prog_1_method_28_code 29 = .ok (.tableswitch 78 0 6 #[43, 48, 53, 58, 63, 68, 73], 43) := by decide +kernel
theorem d_cJT_count_72 : decode prog_1_method_28_code 72 = .ok (.aload_n 3, 1) := by decide +kernel
theorem d_cJT_count_73 : decode prog_1_method_28_code 73 = .ok (.getfield 387, 3) := by decide +kernel
theorem d_cJT_count_76 : decode prog_1_method_28_code 76 = .ok (.ireturn, 1) := by decide +kernel
theorem d_cJT_count_77 : decode prog_1_method_28_code 77 = .ok (.aload_n 3, 1) := by decide +kernel
theorem d_cJT_count_78 : decode prog_1_method_28_code 78 = .ok (.getfield 389, 3) := by decide +kernel
theorem d_cJT_count_81 : decode prog_1_method_28_code 81 = .ok (.ireturn, 1) := by decide +kernel
theorem d_cJT_count_82 : decode prog_1_method_28_code 82 = .ok (.aload_n 3, 1) := by decide +kernel
theorem d_cJT_count_83 : decode prog_1_method_28_code 83 = .ok (.invokevirtual 392, 3) := by decide +kernel
theorem d_cJT_count_86 : decode prog_1_method_28_code 86 = .ok (.ireturn, 1) := by decide +kernel
theorem d_cJT_count_87 : decode prog_1_method_28_code 87 = .ok (.aload_n 3, 1) := by decide +kernel
theorem d_cJT_count_88 : decode prog_1_method_28_code 88 = .ok (.getfield 220, 3) := by decide +kernel
theorem d_cJT_count_91 : decode prog_1_method_28_code 91 = .ok (.ireturn, 1) := by decide +kernel
theorem d_cJT_count_92 : decode prog_1_method_28_code 92 = .ok (.aload_n 3, 1) := by decide +kernel
theorem d_cJT_count_93 : decode prog_1_method_28_code 93 = .ok (.getfield 242, 3) := by decide +kernel
theorem d_cJT_count_96 : decode prog_1_method_28_code 96 = .ok (.ireturn, 1) := by decide +kernel
theorem d_cJT_count_97 : decode prog_1_method_28_code 97 = .ok (.aload_n 3, 1) := by decide +kernel
theorem d_cJT_count_98 : decode prog_1_method_28_code 98 = .ok (.getfield 233, 3) := by decide +kernel
theorem d_cJT_count_101 : decode prog_1_method_28_code 101 = .ok (.ireturn, 1) := by decide +kernel
theorem d_cJT_count_102 : decode prog_1_method_28_code 102 = .ok (.aload_n 3, 1) := by decide +kernel
theorem d_cJT_count_103 : decode prog_1_method_28_code 103 = .ok (.invokevirtual 275, 3) := by decide +kernel
theorem d_cJT_count_106 : decode prog_1_method_28_code 106 = .ok (.ireturn, 1) := by decide +kernel
theorem d_cJT_count_107 : decode prog_1_method_28_code 107 = .ok (.iconst (-1), 1) := by decide +kernel
theorem d_cJT_count_108 : decode prog_1_method_28_code 108 = .ok (.ireturn, 1) := by decide +kernel
set_option maxHeartbeats 4000000 in
set_option maxRecDepth 100000 in
theorem w_cJT_count_J28 {p : Program} {l : Launch} {e : Env} {s : State} {m : MethodId} {args : Array Value} {below : List Frame} {meth : Method} {c : Code} {A : Nat → Prop} {D : va_G} {ad : Nat → Nat → Nat} {cc : Nat → ClassId} {sad sav : Nat → Nat} {Q : State → Prop} {cR sR : Nat} (hfl : l.flags = flags0) (hC : MCc sad sav "JoinedTrees" prog_1_method_28_code 4 (some .int) p s m args meth c A D cc) {N : Nat → Nat} {x0 : Nat} {S : CS} {x2 : Int32} {x3 : Option Nat} {o : ((CS × Int32) ⊕ (CS × Nat))} (Heq : m_cJT_count_J28 N x0 S x2 x3 = some o) (Kr : ∀ r : ((CS × Int32) ⊕ (CS × Nat)), o = r → (∀ v9 : CS × Int32, r = .inl v9 → ∀ (pc : Nat) (H : Heap) (locs : List Loc) (ls : Array Slot), decode prog_1_method_28_code pc = .ok (.ireturn, 1) → va_P D cls (cw ad cc N v9.1) H → va_D A (cw ad cc N v9.1) → va_S A s.heap H locs → W p l e ({ frames := 7, cells := cR, slots := sR, locals := 117 }) s m args below meth c H locs 0 0 Q (F0 m pc ls [.int v9.2])) ∧ (∀ t9 : CS × Nat, r = .inr t9 → (1 ≤ cR ∧ 6 ≤ sR) ∧ (∀ (pc : Nat) (H : Heap) (locs : List Loc) (ls : Array Slot), thD prog_1_method_28_code t9.2 pc → ls.size = 4 → va_P D cls (cw ad cc N t9.1) H → va_D A (cw ad cc N t9.1) → va_S A s.heap H locs → W p l e ({ frames := 7, cells := cR, slots := sR, locals := 117 }) s m args below meth c H locs 0 0 Q (F0 m pc ls [])) ∧ (∀ (pc : Nat) (H : Heap) (locs : List Loc) (ls : Array Slot) (st0 rest9 : List Value) (A9 : Nat → Prop), tx_Thr p l e ({ frames := 7, cells := cR, slots := sR, locals := 117 }) s m args below meth c H locs 0 0 1 6 (F0 m pc ls st0) rest9 (exN t9.2) A9 (fun H1 => va_P D cls (cw ad cc N t9.1) H1) → (∀ q, A9 q → A q) → va_S A s.heap H locs → W p l e ({ frames := 7, cells := cR, slots := sR, locals := 117 }) s m args below meth c H locs 0 0 Q (F0 m pc ls st0)))) : ∀ (H : Heap) (locs : List Loc) (ls : Array Slot), va_P D cls (cw ad cc N S) H → va_D A (cw ad cc N S) → va_S A s.heap H locs → lv_has ls 4 [(0, .ref (ad 11 x0)), (2, .int x2), (3, rv ad 4 x3)] → W p l e ({ frames := 7, cells := cR, slots := sR, locals := 117 }) s m args below meth c H locs 0 0 Q (F0 m 28 ls []) := by
  intro H locs ls hP hD hS hl
  obtain ⟨hx, hb, hr, hml, hown, hts, hK, hA, hev, hE, hN, hNS⟩ := id hC
  unfold m_cJT_count_J28 at Heq
  refine lv_iload_n hx hb d_cJT_count_28 rfl (lv_at hl 1 rfl) ?_
  obtain ⟨xs29, hxs29⟩ : ∃ z, x2 = z := ⟨_, rfl⟩
  by_cases c_1 : x2 = 0
  · replace Heq := (if_pos c_1).symm.trans Heq
    refine w_i (y := 0) c_1 ?_
    refine lv_tableIn (tgt := 72) hx hb d_cJT_count_29 (by decide) (by decide) rfl (by decide) ?_
    refine tx_aload_n (x := x3.map (ad 4)) hx hb d_cJT_count_72 rfl (lv_at hl 2 rfl) ?_
    refine w_v (y := rv ad 4 x3) rfl ?_
    obtain ⟨j_2, hj_3, hl_4, Heq⟩ := gn_some Heq
    refine w_s (st' := [.ref (ad 4 j_2)]) (congrArg (fun z9 : Option Nat => [rv ad 4 z9]) hj_3) ?_
    refine va_get (D := D) (ci := 4) (v := .int (S.i 4 5 j_2)) (C := R_Rp) (T := F_Rp) (N := 10) hx hb hts i_Rp hown hK hP (cPos N 4 j_2) (cw_obj (k := 4) (by decide) hl_4) rfl 5 (by decide) (hts _ kw_219) (fun _ h9 => h9) rfl d_cJT_count_73 ?_
    exact (Kr _ (Option.some.inj Heq).symm).1 _ rfl 76 _ _ _ d_cJT_count_76 hP hD hS
  replace Heq := (if_neg c_1).symm.trans Heq
  by_cases c_5 : x2 = 1
  · replace Heq := (if_pos c_5).symm.trans Heq
    refine w_i (y := 1) c_5 ?_
    refine lv_tableIn (tgt := 77) hx hb d_cJT_count_29 (by decide) (by decide) rfl (by decide) ?_
    refine tx_aload_n (x := x3.map (ad 4)) hx hb d_cJT_count_77 rfl (lv_at hl 2 rfl) ?_
    refine w_v (y := rv ad 4 x3) rfl ?_
    obtain ⟨j_6, hj_7, hl_8, Heq⟩ := gn_some Heq
    refine w_s (st' := [.ref (ad 4 j_6)]) (congrArg (fun z9 : Option Nat => [rv ad 4 z9]) hj_7) ?_
    refine va_get (D := D) (ci := 4) (v := .int (S.i 4 6 j_6)) (C := R_Rp) (T := F_Rp) (N := 10) hx hb hts i_Rp hown hK hP (cPos N 4 j_6) (cw_obj (k := 4) (by decide) hl_8) rfl 6 (by decide) (hts _ kw_222) (fun _ h9 => h9) rfl d_cJT_count_78 ?_
    exact (Kr _ (Option.some.inj Heq).symm).1 _ rfl 81 _ _ _ d_cJT_count_81 hP hD hS
  replace Heq := (if_neg c_5).symm.trans Heq
  by_cases c_9 : x2 = 2
  · replace Heq := (if_pos c_9).symm.trans Heq
    refine w_i (y := 2) c_9 ?_
    refine lv_tableIn (tgt := 82) hx hb d_cJT_count_29 (by decide) (by decide) rfl (by decide) ?_
    refine tx_aload_n (x := x3.map (ad 4)) hx hb d_cJT_count_82 rfl (lv_at hl 2 rfl) ?_
    refine w_v (y := rv ad 4 x3) rfl ?_
    obtain ⟨j_10, hj_11, hl_12, Heq⟩ := gn_some Heq
    refine w_s (st' := [.ref (ad 4 j_10)]) (congrArg (fun z9 : Option Nat => [rv ad 4 z9]) hj_11) ?_
    obtain ⟨o_13, h_14, Heq⟩ := ob_some Heq
    have hFc := fr_all hD hS hA
    refine va_calli (va_runV (As := []) (rest := []) ⟨hx, hb, hml, hown, hts⟩ (g_cRp_headsNow l D H.size (ad := ad) (cc := cc) (sad := sad) (sav := sav) h_14) (cw_v 0 hts kw_1003 kw_1369 kw_1001 kw_1002 kw_5 rfl rfl (by decide +kernel) ⟨Nat.le_of_ble_eq_true rfl, Nat.le_of_ble_eq_true rfl⟩) ⟨c_blind, va_recv hK hP (ci := 4) (q0 := cPos N 4 j_10) rfl (cw_obj (k := 4) (by decide) hl_12), fun U hU hW => c_pre hU hW hP hK hD hev hE hN hNS hS hFc⟩ rfl rfl hl.1 rfl (lv_room (Nat.le_of_ble_eq_true rfl)) d_cJT_count_83 ⟨Nat.zero_le _, Nat.zero_le _⟩) hS (fun q _ h => hFc q h) hFc (fun rz u t H1 locs ht hvm hw hB hz1 hk1 hS => ?_)
    obtain ⟨hP, -, hD1⟩ := hB
    rw [ht] at hP
    have hD := hD1.weaken (fun _ q _ h => hFc q.1 h)
    generalize H1 = H at hP hS ⊢
    refine W.cs (cells' := 0) (slots' := 0) rfl rfl ?_
    subst hw
    exact (Kr _ (Option.some.inj Heq).symm).1 _ rfl 86 _ _ _ d_cJT_count_86 hP hD hS
  replace Heq := (if_neg c_9).symm.trans Heq
  by_cases c_15 : x2 = 3
  · replace Heq := (if_pos c_15).symm.trans Heq
    refine w_i (y := 3) c_15 ?_
    refine lv_tableIn (tgt := 87) hx hb d_cJT_count_29 (by decide) (by decide) rfl (by decide) ?_
    refine tx_aload_n (x := x3.map (ad 4)) hx hb d_cJT_count_87 rfl (lv_at hl 2 rfl) ?_
    refine w_v (y := rv ad 4 x3) rfl ?_
    obtain ⟨j_16, hj_17, hl_18, Heq⟩ := gn_some Heq
    refine w_s (st' := [.ref (ad 4 j_16)]) (congrArg (fun z9 : Option Nat => [rv ad 4 z9]) hj_17) ?_
    refine va_get (D := D) (ci := 4) (v := .int (S.i 4 9 j_16)) (C := R_Rp) (T := F_Rp) (N := 10) hx hb hts i_Rp hown hK hP (cPos N 4 j_16) (cw_obj (k := 4) (by decide) hl_18) rfl 9 (by decide) (hts _ kw_230) (fun _ h9 => h9) rfl d_cJT_count_88 ?_
    exact (Kr _ (Option.some.inj Heq).symm).1 _ rfl 91 _ _ _ d_cJT_count_91 hP hD hS
  replace Heq := (if_neg c_15).symm.trans Heq
  by_cases c_19 : x2 = 4
  · replace Heq := (if_pos c_19).symm.trans Heq
    refine w_i (y := 4) c_19 ?_
    refine lv_tableIn (tgt := 92) hx hb d_cJT_count_29 (by decide) (by decide) rfl (by decide) ?_
    refine tx_aload_n (x := x3.map (ad 4)) hx hb d_cJT_count_92 rfl (lv_at hl 2 rfl) ?_
    refine w_v (y := rv ad 4 x3) rfl ?_
    obtain ⟨j_20, hj_21, hl_22, Heq⟩ := gn_some Heq
    refine w_s (st' := [.ref (ad 4 j_20)]) (congrArg (fun z9 : Option Nat => [rv ad 4 z9]) hj_21) ?_
    refine va_get (D := D) (ci := 4) (v := .int (S.i 4 7 j_20)) (C := R_Rp) (T := F_Rp) (N := 10) hx hb hts i_Rp hown hK hP (cPos N 4 j_20) (cw_obj (k := 4) (by decide) hl_22) rfl 7 (by decide) (hts _ kw_224) (fun _ h9 => h9) rfl d_cJT_count_93 ?_
    exact (Kr _ (Option.some.inj Heq).symm).1 _ rfl 96 _ _ _ d_cJT_count_96 hP hD hS
  replace Heq := (if_neg c_19).symm.trans Heq
  by_cases c_23 : x2 = 5
  · replace Heq := (if_pos c_23).symm.trans Heq
    refine w_i (y := 5) c_23 ?_
    refine lv_tableIn (tgt := 97) hx hb d_cJT_count_29 (by decide) (by decide) rfl (by decide) ?_
    refine tx_aload_n (x := x3.map (ad 4)) hx hb d_cJT_count_97 rfl (lv_at hl 2 rfl) ?_
    refine w_v (y := rv ad 4 x3) rfl ?_
    obtain ⟨j_24, hj_25, hl_26, Heq⟩ := gn_some Heq
    refine w_s (st' := [.ref (ad 4 j_24)]) (congrArg (fun z9 : Option Nat => [rv ad 4 z9]) hj_25) ?_
    refine va_get (D := D) (ci := 4) (v := .int (S.i 4 8 j_24)) (C := R_Rp) (T := F_Rp) (N := 10) hx hb hts i_Rp hown hK hP (cPos N 4 j_24) (cw_obj (k := 4) (by decide) hl_26) rfl 8 (by decide) (hts _ kw_227) (fun _ h9 => h9) rfl d_cJT_count_98 ?_
    exact (Kr _ (Option.some.inj Heq).symm).1 _ rfl 101 _ _ _ d_cJT_count_101 hP hD hS
  replace Heq := (if_neg c_23).symm.trans Heq
  by_cases c_27 : x2 = 6
  · replace Heq := (if_pos c_27).symm.trans Heq
    refine w_i (y := 6) c_27 ?_
    refine lv_tableIn (tgt := 102) hx hb d_cJT_count_29 (by decide) (by decide) rfl (by decide) ?_
    refine tx_aload_n (x := x3.map (ad 4)) hx hb d_cJT_count_102 rfl (lv_at hl 2 rfl) ?_
    refine w_v (y := rv ad 4 x3) rfl ?_
    obtain ⟨j_28, hj_29, hl_30, Heq⟩ := gn_some Heq
    refine w_s (st' := [.ref (ad 4 j_28)]) (congrArg (fun z9 : Option Nat => [rv ad 4 z9]) hj_29) ?_
    obtain ⟨o_31, h_32, Heq⟩ := ob_some Heq
    have hFc := fr_all hD hS hA
    refine va_calli (va_runV (As := []) (rest := []) ⟨hx, hb, hml, hown, hts⟩ (g_cRp_changesInView l D H.size (ad := ad) (cc := cc) (sad := sad) (sav := sav) h_32) (cw_v 0 hts kw_1121 kw_1118 kw_1119 kw_1120 kw_5 rfl rfl (by decide +kernel) ⟨Nat.le_of_ble_eq_true rfl, Nat.le_of_ble_eq_true rfl⟩) ⟨c_blind, va_recv hK hP (ci := 4) (q0 := cPos N 4 j_28) rfl (cw_obj (k := 4) (by decide) hl_30), fun U hU hW => c_pre hU hW hP hK hD hev hE hN hNS hS hFc⟩ rfl rfl hl.1 rfl (lv_room (Nat.le_of_ble_eq_true rfl)) d_cJT_count_103 ⟨Nat.zero_le _, Nat.zero_le _⟩) hS (fun q _ h => hFc q h) hFc (fun rz u t H1 locs ht hvm hw hB hz1 hk1 hS => ?_)
    obtain ⟨hP, -, hD1⟩ := hB
    rw [ht] at hP
    have hD := hD1.weaken (fun _ q _ h => hFc q.1 h)
    generalize H1 = H at hP hS ⊢
    refine W.cs (cells' := 0) (slots' := 0) rfl rfl ?_
    subst hw
    exact (Kr _ (Option.some.inj Heq).symm).1 _ rfl 106 _ _ _ d_cJT_count_106 hP hD hS
  replace Heq := (if_neg c_27).symm.trans Heq
  refine lv_tableOut (tgt := 107) hx hb d_cJT_count_29 (by have q0 : (x2).toInt ≠ 0 := fun h => c_1 (Int32.toInt_inj.mp (h.trans (by decide))); have q1 : (x2).toInt ≠ 1 := fun h => c_5 (Int32.toInt_inj.mp (h.trans (by decide))); have q2 : (x2).toInt ≠ 2 := fun h => c_9 (Int32.toInt_inj.mp (h.trans (by decide))); have q3 : (x2).toInt ≠ 3 := fun h => c_15 (Int32.toInt_inj.mp (h.trans (by decide))); have q4 : (x2).toInt ≠ 4 := fun h => c_19 (Int32.toInt_inj.mp (h.trans (by decide))); have q5 : (x2).toInt ≠ 5 := fun h => c_23 (Int32.toInt_inj.mp (h.trans (by decide))); have q6 : (x2).toInt ≠ 6 := fun h => c_27 (Int32.toInt_inj.mp (h.trans (by decide))); omega) (by decide) ?_
  refine lv_iconst (v := (-1)) hx hb d_cJT_count_107 (by decide) ?_
  exact (Kr _ (Option.some.inj Heq).symm).1 _ rfl 108 _ _ _ d_cJT_count_108 hP hD hS
def m_cJT_count_J0 (N : Nat → Nat) (x0 : Nat) (S : CS) (x1 : Int32) (x2 : Int32) : Option ((CS × Int32) ⊕ (CS × Nat)) := gl x0 (N 11) (oe (m_cJT_shown N x0 S x1) (fun o_1 => (if x2 < 10 then m_cJT_count_J28 N x0 o_1.1 x2 o_1.2 else (if 18 ≤ x2 then m_cJT_count_J28 N x0 o_1.1 x2 o_1.2 else gn o_1.2 (N 4) (fun j_6 => gn (o_1.1.r 4 1 j_6) (N 12) (fun j_9 => gd (x2 - 10) (o_1.1.z 12 j_9) (some (.inl (o_1.1, o_1.1.a 12 j_9 ((x2 - 10).toNatClampNeg))))))))) (fun t_3 => some (.inr t_3)))
theorem d_cJT_count_12 : decode prog_1_method_28_code 12 = .ok (.iload_n 2, 1) := by decide +kernel
theorem d_cJT_count_13 : decode prog_1_method_28_code 13 = .ok (.bipush 18, 2) := by decide +kernel
theorem d_cJT_count_15 : decode prog_1_method_28_code 15 = .ok (.if_icmp .ge 13, 3) := by decide +kernel
theorem d_cJT_count_18 : decode prog_1_method_28_code 18 = .ok (.aload_n 3, 1) := by decide +kernel
theorem d_cJT_count_19 : decode prog_1_method_28_code 19 = .ok (.getfield 384, 3) := by decide +kernel
theorem d_cJT_count_22 : decode prog_1_method_28_code 22 = .ok (.iload_n 2, 1) := by decide +kernel
theorem d_cJT_count_23 : decode prog_1_method_28_code 23 = .ok (.bipush 10, 2) := by decide +kernel
theorem d_cJT_count_25 : decode prog_1_method_28_code 25 = .ok (.isub, 1) := by decide +kernel
theorem d_cJT_count_26 : decode prog_1_method_28_code 26 = .ok (.iaload, 1) := by decide +kernel
theorem d_cJT_count_27 : decode prog_1_method_28_code 27 = .ok (.ireturn, 1) := by decide +kernel
set_option maxHeartbeats 4000000 in
set_option maxRecDepth 100000 in
theorem w_cJT_count_J0 {p : Program} {l : Launch} {e : Env} {s : State} {m : MethodId} {args : Array Value} {below : List Frame} {meth : Method} {c : Code} {A : Nat → Prop} {D : va_G} {ad : Nat → Nat → Nat} {cc : Nat → ClassId} {sad sav : Nat → Nat} {Q : State → Prop} {cR sR : Nat} (hfl : l.flags = flags0) (hC : MCc sad sav "JoinedTrees" prog_1_method_28_code 4 (some .int) p s m args meth c A D cc) {N : Nat → Nat} {x0 : Nat} {S : CS} {x1 : Int32} {x2 : Int32} {o : ((CS × Int32) ⊕ (CS × Nat))} (Heq : m_cJT_count_J0 N x0 S x1 x2 = some o) (Kr : ∀ r : ((CS × Int32) ⊕ (CS × Nat)), o = r → (∀ v9 : CS × Int32, r = .inl v9 → ∀ (pc : Nat) (H : Heap) (locs : List Loc) (ls : Array Slot), decode prog_1_method_28_code pc = .ok (.ireturn, 1) → va_P D cls (cw ad cc N v9.1) H → va_D A (cw ad cc N v9.1) → va_S A s.heap H locs → W p l e ({ frames := 7, cells := cR, slots := sR, locals := 117 }) s m args below meth c H locs 0 0 Q (F0 m pc ls [.int v9.2])) ∧ (∀ t9 : CS × Nat, r = .inr t9 → (1 ≤ cR ∧ 6 ≤ sR) ∧ (∀ (pc : Nat) (H : Heap) (locs : List Loc) (ls : Array Slot), thD prog_1_method_28_code t9.2 pc → ls.size = 4 → va_P D cls (cw ad cc N t9.1) H → va_D A (cw ad cc N t9.1) → va_S A s.heap H locs → W p l e ({ frames := 7, cells := cR, slots := sR, locals := 117 }) s m args below meth c H locs 0 0 Q (F0 m pc ls [])) ∧ (∀ (pc : Nat) (H : Heap) (locs : List Loc) (ls : Array Slot) (st0 rest9 : List Value) (A9 : Nat → Prop), tx_Thr p l e ({ frames := 7, cells := cR, slots := sR, locals := 117 }) s m args below meth c H locs 0 0 1 6 (F0 m pc ls st0) rest9 (exN t9.2) A9 (fun H1 => va_P D cls (cw ad cc N t9.1) H1) → (∀ q, A9 q → A q) → va_S A s.heap H locs → W p l e ({ frames := 7, cells := cR, slots := sR, locals := 117 }) s m args below meth c H locs 0 0 Q (F0 m pc ls st0)))) : ∀ (H : Heap) (locs : List Loc) (ls : Array Slot), va_P D cls (cw ad cc N S) H → va_D A (cw ad cc N S) → va_S A s.heap H locs → lv_has ls 4 [(0, .ref (ad 11 x0)), (1, .int x1), (2, .int x2)] → W p l e ({ frames := 7, cells := cR, slots := sR, locals := 117 }) s m args below meth c H locs 0 0 Q (F0 m 0 ls []) := by
  intro H locs ls hP hD hS hl
  obtain ⟨hx, hb, hr, hml, hown, hts, hK, hA, hev, hE, hN, hNS⟩ := id hC
  unfold m_cJT_count_J0 at Heq
  refine lv_aload_n hx hb d_cJT_count_0 rfl (lv_at hl 0 rfl) ?_
  refine lv_iload_n hx hb d_cJT_count_1 rfl (lv_at hl 1 rfl) ?_
  obtain ⟨hl_x0_11, Heq⟩ := gl_some Heq
  have hFc := fr_all hD hS hA
  rcases oe_some Heq with ⟨o_1, h_2, Heq⟩ | ⟨t_3, h_2, Heq⟩
  case inr => exact ((Kr _ (Option.some.inj Heq).symm).2 _ rfl).2.2 2 _ _ _ _ _ _ (tx_runV (As := [.int x1]) (rest := []) ⟨hx, hb, hml, hown, hts⟩ (g_cJT_shown_t l hfl D H.size (ad := ad) (cc := cc) (sad := sad) (sav := sav) h_2) (cw_v 1 hts kw_593 kw_590 kw_592 kp_3 kw_1 rfl rfl (by decide +kernel) ⟨Nat.le_of_ble_eq_true rfl, Nat.le_of_ble_eq_true rfl⟩) ⟨c_blind, va_recv hK hP (ci := 11) (q0 := cPos N 11 x0) rfl (cw_obj (k := 11) (by decide) hl_x0_11), fun U hU hW => c_pre hU hW hP hK hD hev hE hN hNS hS hFc⟩ rfl rfl hl.1 rfl (lv_room (Nat.le_of_ble_eq_true rfl)) d_cJT_count_2 ((Kr _ (Option.some.inj Heq).symm).2 _ rfl).1) hFc hS
  refine va_callq (va_runV (As := [.int x1]) (rest := []) ⟨hx, hb, hml, hown, hts⟩ (g_cJT_shown l hfl D H.size (ad := ad) (cc := cc) (sad := sad) (sav := sav) h_2) (cw_v 1 hts kw_593 kw_590 kw_592 kp_3 kw_1 rfl rfl (by decide +kernel) ⟨Nat.le_of_ble_eq_true rfl, Nat.le_of_ble_eq_true rfl⟩) ⟨c_blind, va_recv hK hP (ci := 11) (q0 := cPos N 11 x0) rfl (cw_obj (k := 11) (by decide) hl_x0_11), fun U hU hW => c_pre hU hW hP hK hD hev hE hN hNS hS hFc⟩ rfl rfl hl.1 rfl (lv_room (Nat.le_of_ble_eq_true rfl)) d_cJT_count_2 ⟨Nat.zero_le _, Nat.zero_le _⟩) hS (fun q _ h => hFc q h) hFc (fun rz u t H1 locs ht hvm hw hB hz1 hk1 hS => ?_)
  obtain ⟨hP, -, hD1⟩ := hB
  rw [ht] at hP
  have hD := hD1.weaken (fun _ q _ h => hFc q.1 h)
  generalize H1 = H at hP hS ⊢
  refine W.cs (cells' := 0) (slots' := 0) rfl rfl ?_
  subst hw
  refine w_v (y := rv ad 4 o_1.2) rfl ?_
  refine tx_astore_n (x := o_1.2.map (ad 4)) (lv' := [(3, rv ad 4 o_1.2), (0, .ref (ad 11 x0)), (1, .int x1), (2, .int x2)]) hx hb d_cJT_count_5 rfl hl (by decide) rfl (fun ls hl => ?_)
  refine lv_iload_n hx hb d_cJT_count_6 rfl (lv_at hl 3 rfl) ?_
  refine lv_bipush (v := 10) hx hb d_cJT_count_7 (by decide) ?_
  refine lv_icmp_lt (tgt := 28) hx hb d_cJT_count_9 (by decide) (fun c_4 => ?_) (fun c_4 => ?_)
  · replace Heq := (if_pos c_4).symm.trans Heq
    exact w_cJT_count_J28 hfl hC Heq Kr _ _ _ hP hD hS (lv_sub hl [1, 3, 0] rfl)
  · replace Heq := (if_neg c_4).symm.trans Heq
    refine lv_iload_n hx hb d_cJT_count_12 rfl (lv_at hl 3 rfl) ?_
    refine lv_bipush (v := 18) hx hb d_cJT_count_13 (by decide) ?_
    refine lv_icmp_ge (tgt := 28) hx hb d_cJT_count_15 (by decide) (fun c_5 => ?_) (fun c_5 => ?_)
    · replace Heq := (if_pos c_5).symm.trans Heq
      exact w_cJT_count_J28 hfl hC Heq Kr _ _ _ hP hD hS (lv_sub hl [1, 3, 0] rfl)
    · replace Heq := (if_neg c_5).symm.trans Heq
      refine tx_aload_n (x := o_1.2.map (ad 4)) hx hb d_cJT_count_18 rfl (lv_at hl 0 rfl) ?_
      refine w_v (y := rv ad 4 o_1.2) rfl ?_
      obtain ⟨j_6, hj_7, hl_8, Heq⟩ := gn_some Heq
      refine w_s (st' := [.ref (ad 4 j_6)]) (congrArg (fun z9 : Option Nat => [rv ad 4 z9]) hj_7) ?_
      refine va_get (D := D) (ci := 4) (v := rv ad 12 (o_1.1.r 4 1 j_6)) (C := R_Rp) (T := F_Rp) (N := 10) hx hb hts i_Rp hown hK hP (cPos N 4 j_6) (cw_obj (k := 4) (by decide) hl_8) rfl 1 (by decide) (hts _ kw_209) (fun _ h9 => h9) rfl d_cJT_count_19 ?_
      refine lv_iload_n hx hb d_cJT_count_22 rfl (lv_at hl 3 rfl) ?_
      refine lv_bipush (v := 10) hx hb d_cJT_count_23 (by decide) ?_
      refine lv_isub hx hb d_cJT_count_25 ?_
      refine w_i (y := x2 - 10) rfl ?_
      obtain ⟨j_9, hj_10, hl_11, Heq⟩ := gn_some Heq
      refine w_s (st' := [.int (x2 - 10), .ref (ad 12 j_9)]) (congrArg (fun z9 : Option Nat => [.int (x2 - 10), rv ad 12 z9]) hj_10) ?_
      obtain ⟨hi_12, Heq⟩ := gd_some Heq
      refine va_iald hx hb hK hP (cPos N 12 j_9) 0 (cw_arr (k := 12) (by decide) hl_11) rfl (i := x2 - 10) hi_12 d_cJT_count_26 ?_
      refine w_i (y := o_1.1.a 12 j_9 ((x2 - 10).toNatClampNeg)) rfl ?_
      exact (Kr _ (Option.some.inj Heq).symm).1 _ rfl 27 _ _ _ d_cJT_count_27 hP hD hS
def m_cJT_count (N : Nat → Nat) (x0 : Nat) (S : CS) (x1 : Int32) (x2 : Int32) : Option ((CS × Int32) ⊕ (CS × Nat)) := m_cJT_count_J0 N x0 S x1 x2
set_option maxHeartbeats 4000000 in
theorem g_cJT_count (l : Launch) (hfl : l.flags = flags0) (D : va_G) (sz : Nat) {ad : Nat → Nat → Nat} {cc : Nat → ClassId} {sad sav : Nat → Nat} {N : Nat → Nat} {x0 : Nat} {S : CS} {x1 : Int32} {x2 : Int32} {o : CS × Int32} (Heq : m_cJT_count N x0 S x1 x2 = some (.inl o)) : Met l ⟨"JoinedTrees", "count", "(II)I"⟩ (Cond.code ⟨"JoinedTrees", "count", "(II)I"⟩ prog_1_method_28_code 4 (some .int) :: gb) ({ frames := 7, cells := 0, slots := 0, locals := 117 }) (cPc sad sav D (cw ad cc N S) (cty cc) sz [.ref (ad 11 x0), .int x1, .int x2]) (va_Qi (fun (r : Int32) (_ : Unit) => r = o.2) (fun _ t => gO D (cw ad cc N o.1) (cty cc) (va_A (cw ad cc N S) sz) t) (va_A (cw ad cc N S) sz)) 0 0 (va_A (cw ad cc N S) sz) := by
  refine Met.ofW (cc := prog_1_method_28_code) (maxL := 4) (ret := (some .int)) (by decide) rfl ?_
  intro p e s m args below meth c s₁ B hml hv
  obtain ⟨rfl, hsz, hP, hK, hD0, hev, hE, hN⟩ := hv
  have hx := B.exec
  have hb := B.bytes
  have hr := B.returns
  have hts : ∀ w9 ∈ gb, w9.before [.ref (ad 11 x0), .int x1, .int x2].toArray s = true := fun w9 h => atoms_spec (ws := Cond.code ⟨"JoinedTrees", "count", "(II)I"⟩ prog_1_method_28_code 4 (some .int) :: gb) B.pre w9 (List.mem_cons_of_mem _ h)
  have hown : s.vm.findClass "JoinedTrees" = some m.cls := findClass_of_methodNamed B.named
  have hlocks := B.notSynchronized
  have hNS := ns_of hP
  subst hsz
  have hD := hD0.self (sz := s.heap.size)
  generalize hAe : va_A (cw ad cc N S) s.heap.size = A at hD hev hE hNS ⊢
  have hA : ∀ q : Nat, s.heap.size ≤ q → A q := fun q h => by rw [← hAe]; exact Or.inr h
  have hS : va_S A s.heap s.heap [] := va_S.rf
  obtain ⟨ls, hl, hle⟩ : ∃ ls : Array Slot, lv_has ls 4 [(0, .ref (ad 11 x0)), (1, .int x1), (2, .int x2)] ∧ entryFrame m ([.ref (ad 11 x0), .int x1, .int x2] : List Value).toArray 4 = F0 m 0 ls [] := by
    exact ⟨_, lv_entry (n := 4) _ (Nat.le_of_ble_eq_true rfl), lg_entry_eq ..⟩
  rw [hle]
  refine w_cJT_count_J0 (cR := 0) (sR := 0) hfl ⟨hx, hb, hr, hml, hown, hts, hK, hA, hev, hE, hN, hNS⟩ Heq (fun r h => ⟨fun v9 hv9 pc H locs ls hd hP hD hS => ?_, fun t9 ht9 => (by subst h; cases ht9)⟩) _ _ _ hP hD hS (lv_sub hl [0, 1, 2] rfl)
  subst h
  cases hv9
  exact W.iret hx hb hr (fun t ht hW => ⟨⟨_, (), rfl, rfl, by rw [ht]; exact hP, va_K.moved hW.alike hK, hD⟩, hS.F ht⟩) hS.2.2 hd
set_option maxHeartbeats 4000000 in
theorem g_cJT_count_t (l : Launch) (hfl : l.flags = flags0) (D : va_G) (sz : Nat) {ad : Nat → Nat → Nat} {cc : Nat → ClassId} {sad sav : Nat → Nat} {N : Nat → Nat} {x0 : Nat} {S : CS} {x1 : Int32} {x2 : Int32} {o : CS × Nat} (Heq : m_cJT_count N x0 S x1 x2 = some (.inr o)) : MeT l ⟨"JoinedTrees", "count", "(II)I"⟩ (Cond.code ⟨"JoinedTrees", "count", "(II)I"⟩ prog_1_method_28_code 4 (some .int) :: gb) ({ frames := 7, cells := 1, slots := 6, locals := 117 }) (cPc sad sav D (cw ad cc N S) (cty cc) sz [.ref (ad 11 x0), .int x1, .int x2]) (exN o.2) (va_A (cw ad cc N S) sz) (fun H1 => va_P D cls (cw ad cc N o.1) H1) 1 6 := by
  refine MeT.ofW (cc := prog_1_method_28_code) (maxL := 4) (ret := (some .int)) (by decide) rfl ?_
  intro p e s m args below meth c s₁ B hml hno hv
  obtain ⟨rfl, hsz, hP, hK, hD0, hev, hE, hN⟩ := hv
  have hx := B.exec
  have hb := B.bytes
  have hr := B.returns
  have hts : ∀ w9 ∈ gb, w9.before [.ref (ad 11 x0), .int x1, .int x2].toArray s = true := fun w9 h => atoms_spec (ws := Cond.code ⟨"JoinedTrees", "count", "(II)I"⟩ prog_1_method_28_code 4 (some .int) :: gb) B.pre w9 (List.mem_cons_of_mem _ h)
  have hown : s.vm.findClass "JoinedTrees" = some m.cls := findClass_of_methodNamed B.named
  have hlocks := B.notSynchronized
  have hNS := ns_of hP
  subst hsz
  have hD := hD0.self (sz := s.heap.size)
  generalize hAe : va_A (cw ad cc N S) s.heap.size = A at hD hev hE hNS ⊢
  have hA : ∀ q : Nat, s.heap.size ≤ q → A q := fun q h => by rw [← hAe]; exact Or.inr h
  have hS : va_S A s.heap s.heap [] := va_S.rf
  obtain ⟨ls, hl, hle⟩ : ∃ ls : Array Slot, lv_has ls 4 [(0, .ref (ad 11 x0)), (1, .int x1), (2, .int x2)] ∧ entryFrame m ([.ref (ad 11 x0), .int x1, .int x2] : List Value).toArray 4 = F0 m 0 ls [] := by
    exact ⟨_, lv_entry (n := 4) _ (Nat.le_of_ble_eq_true rfl), lg_entry_eq ..⟩
  rw [hle]
  refine w_cJT_count_J0 (cR := 1) (sR := 6) hfl ⟨hx, hb, hr, hml, hown, hts, hK, hA, hev, hE, hN, hNS⟩ Heq (fun r h => ⟨fun v9 hv9 => (by subst h; cases hv9), fun t9 ht9 => ⟨⟨Nat.le_refl _, Nat.le_refl _⟩, fun pc H locs ls hd hsz hP hD hS => ?_, fun pc H locs ls st0 rest9 A9 hr9 hF9 hS => ?_⟩⟩) _ _ _ hP hD hS (lv_sub hl [0, 1, 2] rfl)
  · subst h; cases ht9; exact tx_thr hfl hx hb hno hlocks hown hts hev hN hNS hd (hsz.trans hml.symm) hP hS hA (Nat.le_refl _) (Nat.le_refl _) (Nat.le_of_ble_eq_true rfl) (Nat.le_of_ble_eq_true rfl)
  · subst h; cases ht9; exact tx_on hr9 hno hlocks hS hF9
