def m_cVw_keepCounters_J40 (N : Nat → Nat) (x0 : Nat) (S : CS) (x1 : Int32) (x2 : Int32) : Option ((CS × Int32 × Int32) ⊕ (CS × Int32)) := some (.inl (S, x1, (x2 + 1)))
theorem d_cVw_keepCounters_0 : decode prog_12_method_7_code 0 = .ok (.iconst 0, 1) := by decide +kernel
theorem d_cVw_keepCounters_1 : decode prog_12_method_7_code 1 = .ok (.istore_n 1, 1) := by decide +kernel
theorem d_cVw_keepCounters_2 : decode prog_12_method_7_code 2 = .ok (.iconst 0, 1) := by decide +kernel
theorem d_cVw_keepCounters_3 : decode prog_12_method_7_code 3 = .ok (.istore_n 2, 1) := by decide +kernel
theorem d_cVw_keepCounters_4 : decode prog_12_method_7_code 4 = .ok (.iload_n 2, 1) := by decide +kernel
theorem d_cVw_keepCounters_5 : decode prog_12_method_7_code 5 = .ok (.aload_n 0, 1) := by decide +kernel
theorem d_cVw_keepCounters_6 : decode prog_12_method_7_code 6 = .ok (.getfield 66, 3) := by decide +kernel
theorem d_cVw_keepCounters_9 : decode prog_12_method_7_code 9 = .ok (.if_icmp .ge 37, 3) := by decide +kernel
theorem d_cVw_keepCounters_12 : decode prog_12_method_7_code 12 = .ok (.aload_n 0, 1) := by decide +kernel
theorem d_cVw_keepCounters_13 : decode prog_12_method_7_code 13 = .ok (.getfield 17, 3) := by decide +kernel
theorem d_cVw_keepCounters_16 : decode prog_12_method_7_code 16 = .ok (.iload_n 2, 1) := by decide +kernel
theorem d_cVw_keepCounters_17 : decode prog_12_method_7_code 17 = .ok (.aaload, 1) := by decide +kernel
theorem d_cVw_keepCounters_18 : decode prog_12_method_7_code 18 = .ok (.getfield 77, 3) := by decide +kernel
theorem d_cVw_keepCounters_21 : decode prog_12_method_7_code 21 = .ok (.iconst 5, 1) := by decide +kernel
theorem d_cVw_keepCounters_22 : decode prog_12_method_7_code 22 = .ok (.if_icmp .ne 18, 3) := by decide +kernel
theorem d_cVw_keepCounters_40 : decode prog_12_method_7_code 40 = .ok (.iinc 2 1, 3) := by decide +kernel
theorem d_cVw_keepCounters_43 : decode prog_12_method_7_code 43 = .ok (.goto (-39), 3) := by decide +kernel
set_option maxHeartbeats 4000000 in
set_option maxRecDepth 100000 in
theorem w_cVw_keepCounters_J40 {p : Program} {l : Launch} {e : Env} {s : State} {m : MethodId} {args : Array Value} {below : List Frame} {meth : Method} {c : Code} {A : Nat → Prop} {D : va_G} {ad : Nat → Nat → Nat} {cc : Nat → ClassId} {sad sav : Nat → Nat} {Q : State → Prop} (hC : MCc sad sav "JoinedTrees$View" prog_12_method_7_code 3 none p s m args meth c A D cc) {N : Nat → Nat} {x0 : Nat} {S : CS} {x1 : Int32} {x2 : Int32} {o : ((CS × Int32 × Int32) ⊕ (CS × Int32))} (Heq : m_cVw_keepCounters_J40 N x0 S x1 x2 = some o) (Ka : ∀ b : CS × Int32 × Int32, o = .inl b → ∀ (H : Heap) (locs : List Loc) (ls : Array Slot), va_P D cls (cw ad cc N b.1) H → va_D A (cw ad cc N b.1) → va_S A s.heap H locs → lv_has ls 3 [(0, .ref (ad 10 x0)), (1, .int b.2.1), (2, .int b.2.2)] → W p l e ({ frames := 0, cells := 0, slots := 0, locals := 0 }) s m args below meth c H locs 0 0 Q (F0 m 4 ls [])) (K0 : ∀ b : CS × Int32, o = .inr b → ∀ (H : Heap) (locs : List Loc) (ls : Array Slot), va_P D cls (cw ad cc N b.1) H → va_D A (cw ad cc N b.1) → va_S A s.heap H locs → lv_has ls 3 [(0, .ref (ad 10 x0)), (1, .int b.2)] → W p l e ({ frames := 0, cells := 0, slots := 0, locals := 0 }) s m args below meth c H locs 0 0 Q (F0 m 46 ls [])) : ∀ (H : Heap) (locs : List Loc) (ls : Array Slot), va_P D cls (cw ad cc N S) H → va_D A (cw ad cc N S) → va_S A s.heap H locs → lv_has ls 3 [(0, .ref (ad 10 x0)), (1, .int x1), (2, .int x2)] → W p l e ({ frames := 0, cells := 0, slots := 0, locals := 0 }) s m args below meth c H locs 0 0 Q (F0 m 40 ls []) := by
  intro H locs ls hP hD hS hl
  obtain ⟨hx, hb, hr, hml, hown, hts, hK, hA, hev, hE, hN, hNS⟩ := id hC
  unfold m_cVw_keepCounters_J40 at Heq
  refine lv_iinc (v := x2 + 1) (lv' := [(2, .int (x2 + 1)), (0, .ref (ad 10 x0)), (1, .int x1)]) hx hb d_cVw_keepCounters_40 hl (k := 2) rfl rfl (by decide) rfl (fun ls hl => ?_)
  refine lv_goto (tgt := 4) hx hb d_cVw_keepCounters_43 (by decide) ?_
  exact Ka _ (Option.some.inj Heq).symm _ _ _ hP hD hS (lv_sub hl [1, 2, 0] rfl)
def m_cVw_keepCounters_B4 (N : Nat → Nat) (x0 : Nat) (S : CS) (x1 : Int32) (x2 : Int32) : Option ((CS × Int32 × Int32) ⊕ (CS × Int32)) := gl x0 (N 10) ((if S.i 10 3 x0 ≤ x2 then some (.inr (S, x1)) else gn (S.r 10 2 x0) (N 15) (fun j_2 => gd x2 (S.z 15 j_2) (gn (S.q 15 j_2 x2.toNatClampNeg) (N 3) (fun j_6 => (if S.i 3 2 j_6 = 5 then gd x2 (S.z 15 j_2) (gd x1 (S.z 15 j_2) (m_cVw_keepCounters_J40 N x0 (S.setQ 15 j_2 x1.toNatClampNeg (some j_6)) (x1 + 1) x2)) else m_cVw_keepCounters_J40 N x0 S x1 x2))))))
theorem d_cVw_keepCounters_25 : decode prog_12_method_7_code 25 = .ok (.aload_n 0, 1) := by decide +kernel
theorem d_cVw_keepCounters_26 : decode prog_12_method_7_code 26 = .ok (.getfield 17, 3) := by decide +kernel
theorem d_cVw_keepCounters_29 : decode prog_12_method_7_code 29 = .ok (.iload_n 1, 1) := by decide +kernel
theorem d_cVw_keepCounters_30 : decode prog_12_method_7_code 30 = .ok (.aload_n 0, 1) := by decide +kernel
theorem d_cVw_keepCounters_31 : decode prog_12_method_7_code 31 = .ok (.getfield 17, 3) := by decide +kernel
theorem d_cVw_keepCounters_34 : decode prog_12_method_7_code 34 = .ok (.iload_n 2, 1) := by decide +kernel
theorem d_cVw_keepCounters_35 : decode prog_12_method_7_code 35 = .ok (.aaload, 1) := by decide +kernel
theorem d_cVw_keepCounters_36 : decode prog_12_method_7_code 36 = .ok (.aastore, 1) := by decide +kernel
theorem d_cVw_keepCounters_37 : decode prog_12_method_7_code 37 = .ok (.iinc 1 1, 3) := by decide +kernel
set_option maxHeartbeats 4000000 in
set_option maxRecDepth 100000 in
theorem w_cVw_keepCounters_B4 {p : Program} {l : Launch} {e : Env} {s : State} {m : MethodId} {args : Array Value} {below : List Frame} {meth : Method} {c : Code} {A : Nat → Prop} {D : va_G} {ad : Nat → Nat → Nat} {cc : Nat → ClassId} {sad sav : Nat → Nat} {Q : State → Prop} (hC : MCc sad sav "JoinedTrees$View" prog_12_method_7_code 3 none p s m args meth c A D cc) {N : Nat → Nat} {x0 : Nat} {S : CS} {x1 : Int32} {x2 : Int32} {o : ((CS × Int32 × Int32) ⊕ (CS × Int32))} (Heq : m_cVw_keepCounters_B4 N x0 S x1 x2 = some o) (Ka : ∀ b : CS × Int32 × Int32, o = .inl b → ∀ (H : Heap) (locs : List Loc) (ls : Array Slot), va_P D cls (cw ad cc N b.1) H → va_D A (cw ad cc N b.1) → va_S A s.heap H locs → lv_has ls 3 [(0, .ref (ad 10 x0)), (1, .int b.2.1), (2, .int b.2.2)] → W p l e ({ frames := 0, cells := 0, slots := 0, locals := 0 }) s m args below meth c H locs 0 0 Q (F0 m 4 ls [])) (K0 : ∀ b : CS × Int32, o = .inr b → ∀ (H : Heap) (locs : List Loc) (ls : Array Slot), va_P D cls (cw ad cc N b.1) H → va_D A (cw ad cc N b.1) → va_S A s.heap H locs → lv_has ls 3 [(0, .ref (ad 10 x0)), (1, .int b.2)] → W p l e ({ frames := 0, cells := 0, slots := 0, locals := 0 }) s m args below meth c H locs 0 0 Q (F0 m 46 ls [])) : ∀ (H : Heap) (locs : List Loc) (ls : Array Slot), va_P D cls (cw ad cc N S) H → va_D A (cw ad cc N S) → va_S A s.heap H locs → lv_has ls 3 [(0, .ref (ad 10 x0)), (1, .int x1), (2, .int x2)] → W p l e ({ frames := 0, cells := 0, slots := 0, locals := 0 }) s m args below meth c H locs 0 0 Q (F0 m 4 ls []) := by
  intro H locs ls hP hD hS hl
  obtain ⟨hx, hb, hr, hml, hown, hts, hK, hA, hev, hE, hN, hNS⟩ := id hC
  unfold m_cVw_keepCounters_B4 at Heq
  refine lv_iload_n hx hb d_cVw_keepCounters_4 rfl (lv_at hl 2 rfl) ?_
  refine lv_aload_n hx hb d_cVw_keepCounters_5 rfl (lv_at hl 0 rfl) ?_
  obtain ⟨hl_x0_10, Heq⟩ := gl_some Heq
  refine va_get (D := D) (ci := 10) (v := .int (S.i 10 3 x0)) (C := R_Vw) (T := F_Vw) (N := 5) hx hb hts i_Vw hown hK hP (cPos N 10 x0) (cw_obj (k := 10) (by decide) hl_x0_10) rfl 3 (by decide) (hts _ kw_266) (fun _ h9 => h9) rfl d_cVw_keepCounters_6 ?_
  refine lv_icmp_ge (tgt := 46) hx hb d_cVw_keepCounters_9 (by decide) (fun c_1 => ?_) (fun c_1 => ?_)
  · replace Heq := (if_pos c_1).symm.trans Heq
    exact K0 _ (Option.some.inj Heq).symm _ _ _ hP hD hS (lv_sub hl [0, 1] rfl)
  · replace Heq := (if_neg c_1).symm.trans Heq
    refine lv_aload_n hx hb d_cVw_keepCounters_12 rfl (lv_at hl 0 rfl) ?_
    refine va_get (D := D) (ci := 10) (v := rv ad 15 (S.r 10 2 x0)) (C := R_Vw) (T := F_Vw) (N := 5) hx hb hts i_Vw hown hK hP (cPos N 10 x0) (cw_obj (k := 10) (by decide) hl_x0_10) rfl 2 (by decide) (hts _ kw_264) (fun _ h9 => h9) rfl d_cVw_keepCounters_13 ?_
    refine lv_iload_n hx hb d_cVw_keepCounters_16 rfl (lv_at hl 2 rfl) ?_
    obtain ⟨j_2, hj_3, hl_4, Heq⟩ := gn_some Heq
    refine w_s (st' := [.int x2, .ref (ad 15 j_2)]) (congrArg (fun z9 : Option Nat => [.int x2, rv ad 15 z9]) hj_3) ?_
    obtain ⟨hi_5, Heq⟩ := gd_some Heq
    refine va_aldq hx hb hK hP (cPos N 15 j_2) 3 (cw_refs (k := 15) (by decide) hl_4) rfl (i := x2) hi_5 d_cVw_keepCounters_17 ?_
    refine w_v (y := rv ad 3 (S.q 15 j_2 x2.toNatClampNeg)) (congrArg (rv ad 3) rfl) ?_
    obtain ⟨j_6, hj_7, hl_8, Heq⟩ := gn_some Heq
    refine w_s (st' := [.ref (ad 3 j_6)]) (congrArg (fun z9 : Option Nat => [rv ad 3 z9]) hj_7) ?_
    refine va_get (D := D) (ci := 3) (v := .int (S.i 3 2 j_6)) (C := R_Op) (T := F_Op) (N := 15) hx hb hts i_Op hown hK hP (cPos N 3 j_6) (cw_obj (k := 3) (by decide) hl_8) rfl 2 (by decide) (hts _ kw_61) (fun _ h9 => h9) rfl d_cVw_keepCounters_18 ?_
    refine lv_iconst (v := 5) hx hb d_cVw_keepCounters_21 (by decide) ?_
    refine lv_icmp_ne (tgt := 40) hx hb d_cVw_keepCounters_22 (by decide) (fun c_9 => ?_) (fun c_9 => ?_)
    · replace Heq := (if_neg c_9).symm.trans Heq
      exact w_cVw_keepCounters_J40 hC Heq Ka K0 _ _ _ hP hD hS (lv_sub hl [0, 1, 2] rfl)
    · replace Heq := (if_pos c_9).symm.trans Heq
      refine lv_aload_n hx hb d_cVw_keepCounters_25 rfl (lv_at hl 0 rfl) ?_
      refine va_get (D := D) (ci := 10) (v := rv ad 15 (S.r 10 2 x0)) (C := R_Vw) (T := F_Vw) (N := 5) hx hb hts i_Vw hown hK hP (cPos N 10 x0) (cw_obj (k := 10) (by decide) hl_x0_10) rfl 2 (by decide) (hts _ kw_264) (fun _ h9 => h9) rfl d_cVw_keepCounters_26 ?_
      refine lv_iload_n hx hb d_cVw_keepCounters_29 rfl (lv_at hl 1 rfl) ?_
      refine lv_aload_n hx hb d_cVw_keepCounters_30 rfl (lv_at hl 0 rfl) ?_
      refine va_get (D := D) (ci := 10) (v := rv ad 15 (S.r 10 2 x0)) (C := R_Vw) (T := F_Vw) (N := 5) hx hb hts i_Vw hown hK hP (cPos N 10 x0) (cw_obj (k := 10) (by decide) hl_x0_10) rfl 2 (by decide) (hts _ kw_264) (fun _ h9 => h9) rfl d_cVw_keepCounters_31 ?_
      refine lv_iload_n hx hb d_cVw_keepCounters_34 rfl (lv_at hl 2 rfl) ?_
      refine w_s (st' := [.int x2, .ref (ad 15 j_2), .int x1, rv ad 15 (S.r 10 2 x0)]) (congrArg (fun z9 : Option Nat => [.int x2, rv ad 15 z9, .int x1, rv ad 15 (S.r 10 2 x0)]) hj_3) ?_
      obtain ⟨hi_10, Heq⟩ := gd_some Heq
      refine va_aldq hx hb hK hP (cPos N 15 j_2) 3 (cw_refs (k := 15) (by decide) hl_4) rfl (i := x2) hi_10 d_cVw_keepCounters_35 ?_
      refine w_v (y := rv ad 3 (S.q 15 j_2 x2.toNatClampNeg)) (congrArg (rv ad 3) rfl) ?_
      refine w_s (st' := [rv ad 3 (S.q 15 j_2 x2.toNatClampNeg), .int x1, .ref (ad 15 j_2)]) (congrArg (fun z9 : Option Nat => [rv ad 3 (S.q 15 j_2 x2.toNatClampNeg), .int x1, rv ad 15 z9]) hj_3) ?_
      obtain ⟨hi_11, Heq⟩ := gd_some Heq
      refine w_s (st' := [.ref (ad 3 j_6), .int x1, .ref (ad 15 j_2)]) (congrArg (fun z9 : Option Nat => [rv ad 3 z9, .int x1, .ref (ad 15 j_2)]) hj_7) ?_
      refine va_astq hx hb hK hP hD hS (cPos N 15 j_2) 3 (cPos N 3 j_6) 3 (cw_refs (k := 15) (by decide) hl_4) rfl (cw_obj (k := 3) (by decide) hl_8) rfl (i := x1) hi_11 d_cVw_keepCounters_36 (fun H locs hP hD hS => ?_)
      have hD := (congrArg (fun w9 => va_D A w9) (cw_setQ (ad := ad) (cc := cc) (S := S) (k := 15) (i := x1.toNatClampNeg) (v := (some j_6)) (by decide) hl_4)).mp hD
      have hP := (congrArg (fun w9 => va_P D cls w9 H) (cw_setQ (ad := ad) (cc := cc) (S := S) (k := 15) (i := x1.toNatClampNeg) (v := (some j_6)) (by decide) hl_4)).mp hP
      refine lv_iinc (v := x1 + 1) (lv' := [(1, .int (x1 + 1)), (0, .ref (ad 10 x0)), (2, .int x2)]) hx hb d_cVw_keepCounters_37 hl (k := 1) rfl rfl (by decide) rfl (fun ls hl => ?_)
      exact w_cVw_keepCounters_J40 hC Heq Ka K0 _ _ _ hP hD hS (lv_sub hl [1, 0, 2] rfl)
def m_cVw_keepCounters_L4 (N : Nat → Nat) (x0 : Nat) (S : CS) (x1 : Int32) (x2 : Int32) : Option (CS × Int32) := lp (fun a : CS × Int32 × Int32 => m_cVw_keepCounters_B4 N x0 a.1 a.2.1 a.2.2) FU (S, x1, x2)
theorem w_cVw_keepCounters_L4 {p : Program} {l : Launch} {e : Env} {s : State} {m : MethodId} {args : Array Value} {below : List Frame} {meth : Method} {c : Code} {A : Nat → Prop} {D : va_G} {ad : Nat → Nat → Nat} {cc : Nat → ClassId} {sad sav : Nat → Nat} {Q : State → Prop} (hC : MCc sad sav "JoinedTrees$View" prog_12_method_7_code 3 none p s m args meth c A D cc) {N : Nat → Nat} {x0 : Nat} {S : CS} {x1 : Int32} {x2 : Int32} {o : CS × Int32} (Heq : m_cVw_keepCounters_L4 N x0 S x1 x2 = some o) (K0 : ∀ b : CS × Int32, o = b → ∀ (H : Heap) (locs : List Loc) (ls : Array Slot), va_P D cls (cw ad cc N b.1) H → va_D A (cw ad cc N b.1) → va_S A s.heap H locs → lv_has ls 3 [(0, .ref (ad 10 x0)), (1, .int b.2)] → W p l e ({ frames := 0, cells := 0, slots := 0, locals := 0 }) s m args below meth c H locs 0 0 Q (F0 m 46 ls [])) : ∀ (H : Heap) (locs : List Loc) (ls : Array Slot), va_P D cls (cw ad cc N S) H → va_D A (cw ad cc N S) → va_S A s.heap H locs → lv_has ls 3 [(0, .ref (ad 10 x0)), (1, .int x1), (2, .int x2)] → W p l e ({ frames := 0, cells := 0, slots := 0, locals := 0 }) s m args below meth c H locs 0 0 Q (F0 m 4 ls []) := by
  refine lp_w (G := fun a : CS × Int32 × Int32 => ∀ (H : Heap) (locs : List Loc) (ls : Array Slot), va_P D cls (cw ad cc N a.1) H → va_D A (cw ad cc N a.1) → va_S A s.heap H locs → lv_has ls 3 [(0, .ref (ad 10 x0)), (1, .int a.2.1), (2, .int a.2.2)] → W p l e ({ frames := 0, cells := 0, slots := 0, locals := 0 }) s m args below meth c H locs 0 0 Q (F0 m 4 ls [])) ?_ FU (S, x1, x2) Heq
  intro a o1 ho Ka Ke
  exact w_cVw_keepCounters_B4 hC ho (fun b h => Ka b h) (fun b h => K0 b (Ke _ h).symm)
def m_cVw_keepCounters_J0 (N : Nat → Nat) (x0 : Nat) (S : CS) : Option CS := ob (m_cVw_keepCounters_L4 N x0 S 0 0) (fun b_1 => gl x0 (N 10) (some (b_1.1.setI 10 3 x0 b_1.2)))
theorem d_cVw_keepCounters_46 : decode prog_12_method_7_code 46 = .ok (.aload_n 0, 1) := by decide +kernel
theorem d_cVw_keepCounters_47 : decode prog_12_method_7_code 47 = .ok (.iload_n 1, 1) := by decide +kernel
theorem d_cVw_keepCounters_48 : decode prog_12_method_7_code 48 = .ok (.putfield 66, 3) := by decide +kernel
theorem d_cVw_keepCounters_51 : decode prog_12_method_7_code 51 = .ok (.return_, 1) := by decide +kernel
set_option maxHeartbeats 4000000 in
set_option maxRecDepth 100000 in
theorem w_cVw_keepCounters_J0 {p : Program} {l : Launch} {e : Env} {s : State} {m : MethodId} {args : Array Value} {below : List Frame} {meth : Method} {c : Code} {A : Nat → Prop} {D : va_G} {ad : Nat → Nat → Nat} {cc : Nat → ClassId} {sad sav : Nat → Nat} {Q : State → Prop} (hC : MCc sad sav "JoinedTrees$View" prog_12_method_7_code 3 none p s m args meth c A D cc) {N : Nat → Nat} {x0 : Nat} {S : CS} {o : CS} (Heq : m_cVw_keepCounters_J0 N x0 S = some o) (Kr : ∀ r : CS, o = r → ∀ (pc : Nat) (H : Heap) (locs : List Loc) (ls : Array Slot), decode prog_12_method_7_code pc = .ok (.return_, 1) → va_P D cls (cw ad cc N r) H → va_D A (cw ad cc N r) → va_S A s.heap H locs → W p l e ({ frames := 0, cells := 0, slots := 0, locals := 0 }) s m args below meth c H locs 0 0 Q (F0 m pc ls [])) : ∀ (H : Heap) (locs : List Loc) (ls : Array Slot), va_P D cls (cw ad cc N S) H → va_D A (cw ad cc N S) → va_S A s.heap H locs → lv_has ls 3 [(0, .ref (ad 10 x0))] → W p l e ({ frames := 0, cells := 0, slots := 0, locals := 0 }) s m args below meth c H locs 0 0 Q (F0 m 0 ls []) := by
  intro H locs ls hP hD hS hl
  obtain ⟨hx, hb, hr, hml, hown, hts, hK, hA, hev, hE, hN, hNS⟩ := id hC
  unfold m_cVw_keepCounters_J0 at Heq
  refine lv_iconst (v := 0) hx hb d_cVw_keepCounters_0 (by decide) ?_
  refine lv_istore_n (lv' := [(1, .int 0), (0, .ref (ad 10 x0))]) hx hb d_cVw_keepCounters_1 rfl hl (by decide) rfl (fun ls hl => ?_)
  refine lv_iconst (v := 0) hx hb d_cVw_keepCounters_2 (by decide) ?_
  refine lv_istore_n (lv' := [(2, .int 0), (1, .int 0), (0, .ref (ad 10 x0))]) hx hb d_cVw_keepCounters_3 rfl hl (by decide) rfl (fun ls hl => ?_)
  obtain ⟨b_1, h_2, Heq⟩ := ob_some Heq
  refine w_cVw_keepCounters_L4 hC h_2 (fun b h => ?_) _ _ _ hP hD hS (lv_sub hl [2, 1, 0] rfl)
  subst h
  intro H locs ls hP hD hS hl
  refine lv_aload_n hx hb d_cVw_keepCounters_46 rfl (lv_at hl 0 rfl) ?_
  refine lv_iload_n hx hb d_cVw_keepCounters_47 rfl (lv_at hl 1 rfl) ?_
  obtain ⟨hl_x0_10, Heq⟩ := gl_some Heq
  refine va_put (D := D) (ci := 10) (v := .int b_1.2) (ty := .int) (C := R_Vw) (T := F_Vw) (N := 5) hx hb hts i_Vw t_Vw t_Vw_ok n_Vw hown hK hP hD hS (cPos N 10 x0) (cw_obj (k := 10) (by decide) hl_x0_10) rfl 3 (by decide) (hts _ kw_266) (fun _ h9 => h9) rfl (by decide +kernel) rfl rfl (Nat.le_of_ble_eq_true rfl) d_cVw_keepCounters_48 (fun H locs hP hD hS => ?_)
  have hD := (congrArg (fun w9 => va_D A w9) (cw_setI (ad := ad) (cc := cc) (S := b_1.1) (k := 10) (f := 3) (v := b_1.2) (by decide) rfl hl_x0_10)).mp hD
  have hP := (congrArg (fun w9 => va_P D cls w9 H) (cw_setI (ad := ad) (cc := cc) (S := b_1.1) (k := 10) (f := 3) (v := b_1.2) (by decide) rfl hl_x0_10)).mp hP
  exact Kr _ (Option.some.inj Heq).symm 51 _ _ _ d_cVw_keepCounters_51 hP hD hS
def m_cVw_keepCounters (N : Nat → Nat) (x0 : Nat) (S : CS) : Option CS := m_cVw_keepCounters_J0 N x0 S
set_option maxHeartbeats 4000000 in
theorem g_cVw_keepCounters (l : Launch) (D : va_G) (sz : Nat) {ad : Nat → Nat → Nat} {cc : Nat → ClassId} {sad sav : Nat → Nat} {N : Nat → Nat} {x0 : Nat} {S : CS} {o : CS} (Heq : m_cVw_keepCounters N x0 S = some o) : Met l ⟨"JoinedTrees$View", "keepCounters", "()V"⟩ (Cond.code ⟨"JoinedTrees$View", "keepCounters", "()V"⟩ prog_12_method_7_code 3 none :: gb) ({ frames := 0, cells := 0, slots := 0, locals := 0 }) (cPc sad sav D (cw ad cc N S) (cty cc) sz [.ref (ad 10 x0)]) (va_Qv (fun _ : Unit => True) (fun _ t => gO D (cw ad cc N o) (cty cc) (va_A (cw ad cc N S) sz) t) (va_A (cw ad cc N S) sz)) 0 0 (va_A (cw ad cc N S) sz) := by
  refine Met.ofW (cc := prog_12_method_7_code) (maxL := 3) (ret := none) (by decide) rfl ?_
  intro p e s m args below meth c s₁ B hml hv
  obtain ⟨rfl, hsz, hP, hK, hD0, hev, hE, hN⟩ := hv
  have hx := B.exec
  have hb := B.bytes
  have hr := B.returns
  have hts : ∀ w9 ∈ gb, w9.before [.ref (ad 10 x0)].toArray s = true := fun w9 h => atoms_spec (ws := Cond.code ⟨"JoinedTrees$View", "keepCounters", "()V"⟩ prog_12_method_7_code 3 none :: gb) B.pre w9 (List.mem_cons_of_mem _ h)
  have hown : s.vm.findClass "JoinedTrees$View" = some m.cls := findClass_of_methodNamed B.named
  have hlocks := B.notSynchronized
  have hNS := ns_of hP
  subst hsz
  have hD := hD0.self (sz := s.heap.size)
  generalize hAe : va_A (cw ad cc N S) s.heap.size = A at hD hev hE hNS ⊢
  have hA : ∀ q : Nat, s.heap.size ≤ q → A q := fun q h => by rw [← hAe]; exact Or.inr h
  have hS : va_S A s.heap s.heap [] := va_S.rf
  obtain ⟨ls, hl, hle⟩ : ∃ ls : Array Slot, lv_has ls 3 [(0, .ref (ad 10 x0))] ∧ entryFrame m ([.ref (ad 10 x0)] : List Value).toArray 3 = F0 m 0 ls [] := by
    exact ⟨_, lv_entry (n := 3) _ (Nat.le_of_ble_eq_true rfl), lg_entry_eq ..⟩
  rw [hle]
  refine w_cVw_keepCounters_J0 ⟨hx, hb, hr, hml, hown, hts, hK, hA, hev, hE, hN, hNS⟩ Heq (fun r h pc H locs ls hd hP hD hS => ?_) _ _ _ hP hD hS (lv_sub hl [0] rfl)
  subst h
  exact W.vret hx hb hr (fun t ht hW => ⟨⟨(), rfl, trivial, by rw [ht]; exact hP, va_K.moved hW.alike hK, hD⟩, hS.F ht⟩) hS.2.2 hd
def m_cRw_writeAll_B3 (N : Nat → Nat) (x0 : Nat) (S : CS) (x1 : Option Nat) (x2 : Int32) (x3 : Int32) (x4 : Int32) : Option ((CS × Option Nat × Int32 × Int32 × Int32) ⊕ CS) := (if x3 ≤ x4 then some (.inr (S)) else gn x1 (N 5) (fun j_2 => ob (m_cRw_at N j_2 S (x2 + x4)) (fun o_5 => gl x0 (N 5) (ob (m_cRw_write N x0 o_5.1 o_5.2) (fun o_7 => some (.inl (o_7, x1, x2, x3, (x4 + 1))))))))
theorem d_cRw_writeAll_0 : decode prog_7_method_5_code 0 = .ok (.iconst 0, 1) := by decide +kernel
theorem d_cRw_writeAll_1 : decode prog_7_method_5_code 1 = .ok (.istore 4, 2) := by decide +kernel
theorem d_cRw_writeAll_3 : decode prog_7_method_5_code 3 = .ok (.iload 4, 2) := by decide +kernel
theorem d_cRw_writeAll_5 : decode prog_7_method_5_code 5 = .ok (.iload_n 3, 1) := by decide +kernel
theorem d_cRw_writeAll_6 : decode prog_7_method_5_code 6 = .ok (.if_icmp .ge 21, 3) := by decide +kernel
theorem d_cRw_writeAll_9 : decode prog_7_method_5_code 9 = .ok (.aload_n 0, 1) := by decide +kernel
theorem d_cRw_writeAll_10 : decode prog_7_method_5_code 10 = .ok (.aload_n 1, 1) := by decide +kernel
theorem d_cRw_writeAll_11 : decode prog_7_method_5_code 11 = .ok (.iload_n 2, 1) := by decide +kernel
theorem d_cRw_writeAll_12 : decode prog_7_method_5_code 12 = .ok (.iload 4, 2) := by decide +kernel
theorem d_cRw_writeAll_14 : decode prog_7_method_5_code 14 = .ok (.iadd, 1) := by decide +kernel
theorem d_cRw_writeAll_15 : decode prog_7_method_5_code 15 = .ok (.invokevirtual 25, 3) := by decide +kernel
theorem d_cRw_writeAll_18 : decode prog_7_method_5_code 18 = .ok (.invokevirtual 21, 3) := by decide +kernel
theorem d_cRw_writeAll_21 : decode prog_7_method_5_code 21 = .ok (.iinc 4 1, 3) := by decide +kernel
theorem d_cRw_writeAll_24 : decode prog_7_method_5_code 24 = .ok (.goto (-21), 3) := by decide +kernel
set_option maxHeartbeats 4000000 in
set_option maxRecDepth 100000 in
theorem w_cRw_writeAll_B3 {p : Program} {l : Launch} {e : Env} {s : State} {m : MethodId} {args : Array Value} {below : List Frame} {meth : Method} {c : Code} {A : Nat → Prop} {D : va_G} {ad : Nat → Nat → Nat} {cc : Nat → ClassId} {sad sav : Nat → Nat} {Q : State → Prop} (hC : MCc sad sav "JoinedTrees$Row" prog_7_method_5_code 5 none p s m args meth c A D cc) {N : Nat → Nat} {x0 : Nat} {S : CS} {x1 : Option Nat} {x2 : Int32} {x3 : Int32} {x4 : Int32} {o : ((CS × Option Nat × Int32 × Int32 × Int32) ⊕ CS)} (Heq : m_cRw_writeAll_B3 N x0 S x1 x2 x3 x4 = some o) (Ka : ∀ b : CS × Option Nat × Int32 × Int32 × Int32, o = .inl b → ∀ (H : Heap) (locs : List Loc) (ls : Array Slot), va_P D cls (cw ad cc N b.1) H → va_D A (cw ad cc N b.1) → va_S A s.heap H locs → lv_has ls 5 [(0, .ref (ad 5 x0)), (1, rv ad 5 b.2.1), (2, .int b.2.2.1), (3, .int b.2.2.2.1), (4, .int b.2.2.2.2)] → W p l e ({ frames := 1, cells := 0, slots := 0, locals := 21 }) s m args below meth c H locs 0 0 Q (F0 m 3 ls [])) (K0 : ∀ b : CS, o = .inr b → ∀ (H : Heap) (locs : List Loc) (ls : Array Slot), va_P D cls (cw ad cc N b) H → va_D A (cw ad cc N b) → va_S A s.heap H locs → lv_has ls 5 [(0, .ref (ad 5 x0))] → W p l e ({ frames := 1, cells := 0, slots := 0, locals := 21 }) s m args below meth c H locs 0 0 Q (F0 m 27 ls [])) : ∀ (H : Heap) (locs : List Loc) (ls : Array Slot), va_P D cls (cw ad cc N S) H → va_D A (cw ad cc N S) → va_S A s.heap H locs → lv_has ls 5 [(0, .ref (ad 5 x0)), (1, rv ad 5 x1), (2, .int x2), (3, .int x3), (4, .int x4)] → W p l e ({ frames := 1, cells := 0, slots := 0, locals := 21 }) s m args below meth c H locs 0 0 Q (F0 m 3 ls []) := by
  intro H locs ls hP hD hS hl
  obtain ⟨hx, hb, hr, hml, hown, hts, hK, hA, hev, hE, hN, hNS⟩ := id hC
  unfold m_cRw_writeAll_B3 at Heq
  refine lv_iload hx hb d_cRw_writeAll_3 (lv_at hl 4 rfl) ?_
  refine lv_iload_n hx hb d_cRw_writeAll_5 rfl (lv_at hl 3 rfl) ?_
  refine lv_icmp_ge (tgt := 27) hx hb d_cRw_writeAll_6 (by decide) (fun c_1 => ?_) (fun c_1 => ?_)
  · replace Heq := (if_pos c_1).symm.trans Heq
    exact K0 _ (Option.some.inj Heq).symm _ _ _ hP hD hS (lv_sub hl [0] rfl)
  · replace Heq := (if_neg c_1).symm.trans Heq
    refine lv_aload_n hx hb d_cRw_writeAll_9 rfl (lv_at hl 0 rfl) ?_
    refine tx_aload_n (x := x1.map (ad 5)) hx hb d_cRw_writeAll_10 rfl (lv_at hl 1 rfl) ?_
    refine w_v (y := rv ad 5 x1) rfl ?_
    refine lv_iload_n hx hb d_cRw_writeAll_11 rfl (lv_at hl 2 rfl) ?_
    refine lv_iload hx hb d_cRw_writeAll_12 (lv_at hl 4 rfl) ?_
    refine lv_iadd hx hb d_cRw_writeAll_14 ?_
    refine w_i (y := x2 + x4) rfl ?_
    obtain ⟨j_2, hj_3, hl_4, Heq⟩ := gn_some Heq
    refine w_s (st' := [.int (x2 + x4), .ref (ad 5 j_2), .ref (ad 5 x0)]) (congrArg (fun z9 : Option Nat => [.int (x2 + x4), rv ad 5 z9, .ref (ad 5 x0)]) hj_3) ?_
    obtain ⟨o_5, h_6, Heq⟩ := ob_some Heq
    have hFc := fr_all hD hS hA
    refine va_calli (va_runV (As := [.int (x2 + x4)]) (rest := [.ref (ad 5 x0)]) ⟨hx, hb, hml, hown, hts⟩ (g_cRw_at l D H.size (ad := ad) (cc := cc) (sad := sad) (sav := sav) h_6) (cw_v 1 hts kw_689 kw_686 kw_687 kw_688 kw_4 rfl rfl (by decide +kernel) ⟨Nat.le_of_ble_eq_true rfl, Nat.le_of_ble_eq_true rfl⟩) ⟨c_blind, va_recv hK hP (ci := 5) (q0 := cPos N 5 j_2) rfl (cw_obj (k := 5) (by decide) hl_4), fun U hU hW => c_pre hU hW hP hK hD hev hE hN hNS hS hFc⟩ rfl rfl hl.1 rfl (lv_room (Nat.le_of_ble_eq_true rfl)) d_cRw_writeAll_15 ⟨Nat.le_of_ble_eq_true rfl, Nat.le_of_ble_eq_true rfl⟩) hS (fun q _ h => hFc q h) hFc (fun rz u t H1 locs ht hvm hw hB hz1 hk1 hS => ?_)
    obtain ⟨hP, -, hD1⟩ := hB
    rw [ht] at hP
    have hD := hD1.weaken (fun _ q _ h => hFc q.1 h)
    generalize H1 = H at hP hS ⊢
    refine W.cs (cells' := 0) (slots' := 0) rfl rfl ?_
    subst hw
    obtain ⟨hl_x0_5, Heq⟩ := gl_some Heq
    obtain ⟨o_7, h_8, Heq⟩ := ob_some Heq
    have hFc := fr_all hD hS hA
    refine va_callv (va_runV (As := [.int o_5.2]) (rest := []) ⟨hx, hb, hml, hown, hts⟩ (g_cRw_write l D H.size (ad := ad) (cc := cc) (sad := sad) (sav := sav) h_8) (cw_v 1 hts kw_549 kw_546 kw_547 kw_548 kw_4 rfl rfl (by decide +kernel) ⟨Nat.le_of_ble_eq_true rfl, Nat.le_of_ble_eq_true rfl⟩) ⟨c_blind, va_recv hK hP (ci := 5) (q0 := cPos N 5 x0) rfl (cw_obj (k := 5) (by decide) hl_x0_5), fun U hU hW => c_pre hU hW hP hK hD hev hE hN hNS hS hFc⟩ rfl rfl hl.1 rfl (lv_room (Nat.le_of_ble_eq_true rfl)) d_cRw_writeAll_18 ⟨Nat.le_of_ble_eq_true rfl, Nat.le_of_ble_eq_true rfl⟩) hS (fun q _ h => hFc q h) hFc (fun u t H1 locs ht hvm hw hB hz1 hk1 hS => ?_)
    obtain ⟨hP, -, hD1⟩ := hB
    rw [ht] at hP
    have hD := hD1.weaken (fun _ q _ h => hFc q.1 h)
    generalize H1 = H at hP hS ⊢
    refine W.cs (cells' := 0) (slots' := 0) rfl rfl ?_
    refine lv_iinc (v := x4 + 1) (lv' := [(4, .int (x4 + 1)), (0, .ref (ad 5 x0)), (1, rv ad 5 x1), (2, .int x2), (3, .int x3)]) hx hb d_cRw_writeAll_21 hl (k := 4) rfl rfl (by decide) rfl (fun ls hl => ?_)
    refine lv_goto (tgt := 3) hx hb d_cRw_writeAll_24 (by decide) ?_
    exact Ka _ (Option.some.inj Heq).symm _ _ _ hP hD hS (lv_sub hl [1, 2, 3, 4, 0] rfl)
def m_cRw_writeAll_L3 (N : Nat → Nat) (x0 : Nat) (S : CS) (x1 : Option Nat) (x2 : Int32) (x3 : Int32) (x4 : Int32) : Option CS := lp (fun a : CS × Option Nat × Int32 × Int32 × Int32 => m_cRw_writeAll_B3 N x0 a.1 a.2.1 a.2.2.1 a.2.2.2.1 a.2.2.2.2) FU (S, x1, x2, x3, x4)
theorem w_cRw_writeAll_L3 {p : Program} {l : Launch} {e : Env} {s : State} {m : MethodId} {args : Array Value} {below : List Frame} {meth : Method} {c : Code} {A : Nat → Prop} {D : va_G} {ad : Nat → Nat → Nat} {cc : Nat → ClassId} {sad sav : Nat → Nat} {Q : State → Prop} (hC : MCc sad sav "JoinedTrees$Row" prog_7_method_5_code 5 none p s m args meth c A D cc) {N : Nat → Nat} {x0 : Nat} {S : CS} {x1 : Option Nat} {x2 : Int32} {x3 : Int32} {x4 : Int32} {o : CS} (Heq : m_cRw_writeAll_L3 N x0 S x1 x2 x3 x4 = some o) (K0 : ∀ b : CS, o = b → ∀ (H : Heap) (locs : List Loc) (ls : Array Slot), va_P D cls (cw ad cc N b) H → va_D A (cw ad cc N b) → va_S A s.heap H locs → lv_has ls 5 [(0, .ref (ad 5 x0))] → W p l e ({ frames := 1, cells := 0, slots := 0, locals := 21 }) s m args below meth c H locs 0 0 Q (F0 m 27 ls [])) : ∀ (H : Heap) (locs : List Loc) (ls : Array Slot), va_P D cls (cw ad cc N S) H → va_D A (cw ad cc N S) → va_S A s.heap H locs → lv_has ls 5 [(0, .ref (ad 5 x0)), (1, rv ad 5 x1), (2, .int x2), (3, .int x3), (4, .int x4)] → W p l e ({ frames := 1, cells := 0, slots := 0, locals := 21 }) s m args below meth c H locs 0 0 Q (F0 m 3 ls []) := by
  refine lp_w (G := fun a : CS × Option Nat × Int32 × Int32 × Int32 => ∀ (H : Heap) (locs : List Loc) (ls : Array Slot), va_P D cls (cw ad cc N a.1) H → va_D A (cw ad cc N a.1) → va_S A s.heap H locs → lv_has ls 5 [(0, .ref (ad 5 x0)), (1, rv ad 5 a.2.1), (2, .int a.2.2.1), (3, .int a.2.2.2.1), (4, .int a.2.2.2.2)] → W p l e ({ frames := 1, cells := 0, slots := 0, locals := 21 }) s m args below meth c H locs 0 0 Q (F0 m 3 ls [])) ?_ FU (S, x1, x2, x3, x4) Heq
  intro a o1 ho Ka Ke
  exact w_cRw_writeAll_B3 hC ho (fun b h => Ka b h) (fun b h => K0 b (Ke _ h).symm)
def m_cRw_writeAll_J0 (N : Nat → Nat) (x0 : Nat) (S : CS) (x1 : Nat) (x2 : Int32) (x3 : Int32) : Option CS := ob (m_cRw_writeAll_L3 N x0 S (some x1) x2 x3 0) (fun b_1 => some b_1)
theorem d_cRw_writeAll_27 : decode prog_7_method_5_code 27 = .ok (.return_, 1) := by decide +kernel
set_option maxHeartbeats 4000000 in
set_option maxRecDepth 100000 in
theorem w_cRw_writeAll_J0 {p : Program} {l : Launch} {e : Env} {s : State} {m : MethodId} {args : Array Value} {below : List Frame} {meth : Method} {c : Code} {A : Nat → Prop} {D : va_G} {ad : Nat → Nat → Nat} {cc : Nat → ClassId} {sad sav : Nat → Nat} {Q : State → Prop} (hC : MCc sad sav "JoinedTrees$Row" prog_7_method_5_code 5 none p s m args meth c A D cc) {N : Nat → Nat} {x0 : Nat} {S : CS} {x1 : Nat} {x2 : Int32} {x3 : Int32} {o : CS} (Heq : m_cRw_writeAll_J0 N x0 S x1 x2 x3 = some o) (Kr : ∀ r : CS, o = r → ∀ (pc : Nat) (H : Heap) (locs : List Loc) (ls : Array Slot), decode prog_7_method_5_code pc = .ok (.return_, 1) → va_P D cls (cw ad cc N r) H → va_D A (cw ad cc N r) → va_S A s.heap H locs → W p l e ({ frames := 1, cells := 0, slots := 0, locals := 21 }) s m args below meth c H locs 0 0 Q (F0 m pc ls [])) : ∀ (H : Heap) (locs : List Loc) (ls : Array Slot), va_P D cls (cw ad cc N S) H → va_D A (cw ad cc N S) → va_S A s.heap H locs → lv_has ls 5 [(0, .ref (ad 5 x0)), (1, .ref (ad 5 x1)), (2, .int x2), (3, .int x3)] → W p l e ({ frames := 1, cells := 0, slots := 0, locals := 21 }) s m args below meth c H locs 0 0 Q (F0 m 0 ls []) := by
  intro H locs ls hP hD hS hl
  obtain ⟨hx, hb, hr, hml, hown, hts, hK, hA, hev, hE, hN, hNS⟩ := id hC
  unfold m_cRw_writeAll_J0 at Heq
  refine lv_iconst (v := 0) hx hb d_cRw_writeAll_0 (by decide) ?_
  refine lv_istore (lv' := [(4, .int 0), (0, .ref (ad 5 x0)), (1, .ref (ad 5 x1)), (2, .int x2), (3, .int x3)]) hx hb d_cRw_writeAll_1 hl (by decide) rfl (fun ls hl => ?_)
  obtain ⟨b_1, h_2, Heq⟩ := ob_some Heq
  refine w_cRw_writeAll_L3 hC h_2 (fun b h => ?_) _ _ _ hP hD hS (lv_sub hl [1, 2, 3, 4, 0] rfl)
  subst h
  intro H locs ls hP hD hS hl
  exact Kr _ (Option.some.inj Heq).symm 27 _ _ _ d_cRw_writeAll_27 hP hD hS
def m_cRw_writeAll (N : Nat → Nat) (x0 : Nat) (S : CS) (x1 : Nat) (x2 : Int32) (x3 : Int32) : Option CS := m_cRw_writeAll_J0 N x0 S x1 x2 x3
set_option maxHeartbeats 4000000 in
theorem g_cRw_writeAll (l : Launch) (D : va_G) (sz : Nat) {ad : Nat → Nat → Nat} {cc : Nat → ClassId} {sad sav : Nat → Nat} {N : Nat → Nat} {x0 : Nat} {S : CS} {x1 : Nat} {x2 : Int32} {x3 : Int32} {o : CS} (Heq : m_cRw_writeAll N x0 S x1 x2 x3 = some o) : Met l ⟨"JoinedTrees$Row", "writeAll", "(LJoinedTrees$Row;II)V"⟩ (Cond.code ⟨"JoinedTrees$Row", "writeAll", "(LJoinedTrees$Row;II)V"⟩ prog_7_method_5_code 5 none :: gb) ({ frames := 1, cells := 0, slots := 0, locals := 21 }) (cPc sad sav D (cw ad cc N S) (cty cc) sz [.ref (ad 5 x0), .ref (ad 5 x1), .int x2, .int x3]) (va_Qv (fun _ : Unit => True) (fun _ t => gO D (cw ad cc N o) (cty cc) (va_A (cw ad cc N S) sz) t) (va_A (cw ad cc N S) sz)) 0 0 (va_A (cw ad cc N S) sz) := by
  refine Met.ofW (cc := prog_7_method_5_code) (maxL := 5) (ret := none) (by decide) rfl ?_
  intro p e s m args below meth c s₁ B hml hv
  obtain ⟨rfl, hsz, hP, hK, hD0, hev, hE, hN⟩ := hv
  have hx := B.exec
  have hb := B.bytes
  have hr := B.returns
  have hts : ∀ w9 ∈ gb, w9.before [.ref (ad 5 x0), .ref (ad 5 x1), .int x2, .int x3].toArray s = true := fun w9 h => atoms_spec (ws := Cond.code ⟨"JoinedTrees$Row", "writeAll", "(LJoinedTrees$Row;II)V"⟩ prog_7_method_5_code 5 none :: gb) B.pre w9 (List.mem_cons_of_mem _ h)
  have hown : s.vm.findClass "JoinedTrees$Row" = some m.cls := findClass_of_methodNamed B.named
  have hlocks := B.notSynchronized
  have hNS := ns_of hP
  subst hsz
  have hD := hD0.self (sz := s.heap.size)
  generalize hAe : va_A (cw ad cc N S) s.heap.size = A at hD hev hE hNS ⊢
  have hA : ∀ q : Nat, s.heap.size ≤ q → A q := fun q h => by rw [← hAe]; exact Or.inr h
  have hS : va_S A s.heap s.heap [] := va_S.rf
  obtain ⟨ls, hl, hle⟩ : ∃ ls : Array Slot, lv_has ls 5 [(0, .ref (ad 5 x0)), (1, .ref (ad 5 x1)), (2, .int x2), (3, .int x3)] ∧ entryFrame m ([.ref (ad 5 x0), .ref (ad 5 x1), .int x2, .int x3] : List Value).toArray 5 = F0 m 0 ls [] := by
    exact ⟨_, lv_entry (n := 5) _ (Nat.le_of_ble_eq_true rfl), lg_entry_eq ..⟩
  rw [hle]
  refine w_cRw_writeAll_J0 ⟨hx, hb, hr, hml, hown, hts, hK, hA, hev, hE, hN, hNS⟩ Heq (fun r h pc H locs ls hd hP hD hS => ?_) _ _ _ hP hD hS (lv_sub hl [0, 1, 2, 3] rfl)
  subst h
  exact W.vret hx hb hr (fun t ht hW => ⟨⟨(), rfl, trivial, by rw [ht]; exact hP, va_K.moved hW.alike hK, hD⟩, hS.F ht⟩) hS.2.2 hd
def m_cSt_keepKey_J0 (N : Nat → Nat) (x0 : Nat) (S : CS) (x1 : Nat) (x2 : Nat) (x3 : Int32) (x4 : Int32) : Option CS := gl x0 (N 8) (gl x2 (N 5) (gn (S.r 8 2 x0) (N 5) (fun j_1 => ob (m_cRw_writeAll N j_1 S x2 x3 x4) (fun o_4 => gl x1 (N 3) (some (o_4.setI 3 9 x1 x4))))))
theorem d_cSt_keepKey_0 : decode prog_10_method_4_code 0 = .ok (.aload_n 0, 1) := by decide +kernel
theorem d_cSt_keepKey_1 : decode prog_10_method_4_code 1 = .ok (.getfield 29, 3) := by decide +kernel
theorem d_cSt_keepKey_4 : decode prog_10_method_4_code 4 = .ok (.aload_n 2, 1) := by decide +kernel
theorem d_cSt_keepKey_5 : decode prog_10_method_4_code 5 = .ok (.iload_n 3, 1) := by decide +kernel
theorem d_cSt_keepKey_6 : decode prog_10_method_4_code 6 = .ok (.iload 4, 2) := by decide +kernel
theorem d_cSt_keepKey_8 : decode prog_10_method_4_code 8 = .ok (.invokevirtual 73, 3) := by decide +kernel
theorem d_cSt_keepKey_11 : decode prog_10_method_4_code 11 = .ok (.aload_n 1, 1) := by decide +kernel
theorem d_cSt_keepKey_12 : decode prog_10_method_4_code 12 = .ok (.iload 4, 2) := by decide +kernel
theorem d_cSt_keepKey_14 : decode prog_10_method_4_code 14 = .ok (.putfield 77, 3) := by decide +kernel
theorem d_cSt_keepKey_17 : decode prog_10_method_4_code 17 = .ok (.return_, 1) := by decide +kernel
set_option maxHeartbeats 4000000 in
set_option maxRecDepth 100000 in
theorem w_cSt_keepKey_J0 {p : Program} {l : Launch} {e : Env} {s : State} {m : MethodId} {args : Array Value} {below : List Frame} {meth : Method} {c : Code} {A : Nat → Prop} {D : va_G} {ad : Nat → Nat → Nat} {cc : Nat → ClassId} {sad sav : Nat → Nat} {Q : State → Prop} (hC : MCc sad sav "JoinedTrees$Store" prog_10_method_4_code 5 none p s m args meth c A D cc) {N : Nat → Nat} {x0 : Nat} {S : CS} {x1 : Nat} {x2 : Nat} {x3 : Int32} {x4 : Int32} {o : CS} (Heq : m_cSt_keepKey_J0 N x0 S x1 x2 x3 x4 = some o) (Kr : ∀ r : CS, o = r → ∀ (pc : Nat) (H : Heap) (locs : List Loc) (ls : Array Slot), decode prog_10_method_4_code pc = .ok (.return_, 1) → va_P D cls (cw ad cc N r) H → va_D A (cw ad cc N r) → va_S A s.heap H locs → W p l e ({ frames := 2, cells := 0, slots := 0, locals := 45 }) s m args below meth c H locs 0 0 Q (F0 m pc ls [])) : ∀ (H : Heap) (locs : List Loc) (ls : Array Slot), va_P D cls (cw ad cc N S) H → va_D A (cw ad cc N S) → va_S A s.heap H locs → lv_has ls 5 [(0, .ref (ad 8 x0)), (1, .ref (ad 3 x1)), (2, .ref (ad 5 x2)), (3, .int x3), (4, .int x4)] → W p l e ({ frames := 2, cells := 0, slots := 0, locals := 45 }) s m args below meth c H locs 0 0 Q (F0 m 0 ls []) := by
  intro H locs ls hP hD hS hl
  obtain ⟨hx, hb, hr, hml, hown, hts, hK, hA, hev, hE, hN, hNS⟩ := id hC
  unfold m_cSt_keepKey_J0 at Heq
  refine lv_aload_n hx hb d_cSt_keepKey_0 rfl (lv_at hl 0 rfl) ?_
  obtain ⟨hl_x0_8, Heq⟩ := gl_some Heq
  refine va_get (D := D) (ci := 8) (v := rv ad 5 (S.r 8 2 x0)) (C := R_St) (T := F_St) (N := 6) hx hb hts i_St hown hK hP (cPos N 8 x0) (cw_obj (k := 8) (by decide) hl_x0_8) rfl 2 (by decide) (hts _ kw_167) (fun _ h9 => h9) rfl d_cSt_keepKey_1 ?_
  refine lv_aload_n hx hb d_cSt_keepKey_4 rfl (lv_at hl 2 rfl) ?_
  refine lv_iload_n hx hb d_cSt_keepKey_5 rfl (lv_at hl 3 rfl) ?_
  refine lv_iload hx hb d_cSt_keepKey_6 (lv_at hl 4 rfl) ?_
  obtain ⟨hl_x2_5, Heq⟩ := gl_some Heq
  obtain ⟨j_1, hj_2, hl_3, Heq⟩ := gn_some Heq
  refine w_s (st' := [.int x4, .int x3, .ref (ad 5 x2), .ref (ad 5 j_1)]) (congrArg (fun z9 : Option Nat => [.int x4, .int x3, .ref (ad 5 x2), rv ad 5 z9]) hj_2) ?_
  obtain ⟨o_4, h_5, Heq⟩ := ob_some Heq
  have hFc := fr_all hD hS hA
  refine va_callv (va_runV (As := [.ref (ad 5 x2), .int x3, .int x4]) (rest := []) ⟨hx, hb, hml, hown, hts⟩ (g_cRw_writeAll l D H.size (ad := ad) (cc := cc) (sad := sad) (sav := sav) h_5) (cw_v 3 hts kw_721 kw_718 kw_719 kw_720 kw_4 rfl rfl (by decide +kernel) ⟨Nat.le_of_ble_eq_true rfl, Nat.le_of_ble_eq_true rfl⟩) ⟨c_blind, va_recv hK hP (ci := 5) (q0 := cPos N 5 j_1) rfl (cw_obj (k := 5) (by decide) hl_3), fun U hU hW => c_pre hU hW hP hK hD hev hE hN hNS hS hFc⟩ rfl rfl hl.1 rfl (lv_room (Nat.le_of_ble_eq_true rfl)) d_cSt_keepKey_8 ⟨Nat.le_of_ble_eq_true rfl, Nat.le_of_ble_eq_true rfl⟩) hS (fun q _ h => hFc q h) hFc (fun u t H1 locs ht hvm hw hB hz1 hk1 hS => ?_)
  obtain ⟨hP, -, hD1⟩ := hB
  rw [ht] at hP
  have hD := hD1.weaken (fun _ q _ h => hFc q.1 h)
  generalize H1 = H at hP hS ⊢
  refine W.cs (cells' := 0) (slots' := 0) rfl rfl ?_
  refine lv_aload_n hx hb d_cSt_keepKey_11 rfl (lv_at hl 1 rfl) ?_
  refine lv_iload hx hb d_cSt_keepKey_12 (lv_at hl 4 rfl) ?_
  obtain ⟨hl_x1_3, Heq⟩ := gl_some Heq
  refine va_put (D := D) (ci := 3) (v := .int x4) (ty := .int) (C := R_Op) (T := F_Op) (N := 15) hx hb hts i_Op t_Op t_Op_ok n_Op hown hK hP hD hS (cPos N 3 x1) (cw_obj (k := 3) (by decide) hl_x1_3) rfl 9 (by decide) (hts _ kw_82) (fun _ h9 => h9) rfl (by decide +kernel) rfl rfl (Nat.le_of_ble_eq_true rfl) d_cSt_keepKey_14 (fun H locs hP hD hS => ?_)
  have hD := (congrArg (fun w9 => va_D A w9) (cw_setI (ad := ad) (cc := cc) (S := o_4) (k := 3) (f := 9) (v := x4) (by decide) rfl hl_x1_3)).mp hD
  have hP := (congrArg (fun w9 => va_P D cls w9 H) (cw_setI (ad := ad) (cc := cc) (S := o_4) (k := 3) (f := 9) (v := x4) (by decide) rfl hl_x1_3)).mp hP
  exact Kr _ (Option.some.inj Heq).symm 17 _ _ _ d_cSt_keepKey_17 hP hD hS
def m_cSt_keepKey (N : Nat → Nat) (x0 : Nat) (S : CS) (x1 : Nat) (x2 : Nat) (x3 : Int32) (x4 : Int32) : Option CS := m_cSt_keepKey_J0 N x0 S x1 x2 x3 x4
set_option maxHeartbeats 4000000 in
theorem g_cSt_keepKey (l : Launch) (D : va_G) (sz : Nat) {ad : Nat → Nat → Nat} {cc : Nat → ClassId} {sad sav : Nat → Nat} {N : Nat → Nat} {x0 : Nat} {S : CS} {x1 : Nat} {x2 : Nat} {x3 : Int32} {x4 : Int32} {o : CS} (Heq : m_cSt_keepKey N x0 S x1 x2 x3 x4 = some o) : Met l ⟨"JoinedTrees$Store", "keepKey", "(LJoinedTrees$Op;LJoinedTrees$Row;II)V"⟩ (Cond.code ⟨"JoinedTrees$Store", "keepKey", "(LJoinedTrees$Op;LJoinedTrees$Row;II)V"⟩ prog_10_method_4_code 5 none :: gb) ({ frames := 2, cells := 0, slots := 0, locals := 45 }) (cPc sad sav D (cw ad cc N S) (cty cc) sz [.ref (ad 8 x0), .ref (ad 3 x1), .ref (ad 5 x2), .int x3, .int x4]) (va_Qv (fun _ : Unit => True) (fun _ t => gO D (cw ad cc N o) (cty cc) (va_A (cw ad cc N S) sz) t) (va_A (cw ad cc N S) sz)) 0 0 (va_A (cw ad cc N S) sz) := by
  refine Met.ofW (cc := prog_10_method_4_code) (maxL := 5) (ret := none) (by decide) rfl ?_
  intro p e s m args below meth c s₁ B hml hv
  obtain ⟨rfl, hsz, hP, hK, hD0, hev, hE, hN⟩ := hv
  have hx := B.exec
  have hb := B.bytes
  have hr := B.returns
  have hts : ∀ w9 ∈ gb, w9.before [.ref (ad 8 x0), .ref (ad 3 x1), .ref (ad 5 x2), .int x3, .int x4].toArray s = true := fun w9 h => atoms_spec (ws := Cond.code ⟨"JoinedTrees$Store", "keepKey", "(LJoinedTrees$Op;LJoinedTrees$Row;II)V"⟩ prog_10_method_4_code 5 none :: gb) B.pre w9 (List.mem_cons_of_mem _ h)
  have hown : s.vm.findClass "JoinedTrees$Store" = some m.cls := findClass_of_methodNamed B.named
  have hlocks := B.notSynchronized
  have hNS := ns_of hP
  subst hsz
  have hD := hD0.self (sz := s.heap.size)
  generalize hAe : va_A (cw ad cc N S) s.heap.size = A at hD hev hE hNS ⊢
  have hA : ∀ q : Nat, s.heap.size ≤ q → A q := fun q h => by rw [← hAe]; exact Or.inr h
  have hS : va_S A s.heap s.heap [] := va_S.rf
  obtain ⟨ls, hl, hle⟩ : ∃ ls : Array Slot, lv_has ls 5 [(0, .ref (ad 8 x0)), (1, .ref (ad 3 x1)), (2, .ref (ad 5 x2)), (3, .int x3), (4, .int x4)] ∧ entryFrame m ([.ref (ad 8 x0), .ref (ad 3 x1), .ref (ad 5 x2), .int x3, .int x4] : List Value).toArray 5 = F0 m 0 ls [] := by
    exact ⟨_, lv_entry (n := 5) _ (Nat.le_of_ble_eq_true rfl), lg_entry_eq ..⟩
  rw [hle]
  refine w_cSt_keepKey_J0 ⟨hx, hb, hr, hml, hown, hts, hK, hA, hev, hE, hN, hNS⟩ Heq (fun r h pc H locs ls hd hP hD hS => ?_) _ _ _ hP hD hS (lv_sub hl [0, 1, 2, 3, 4] rfl)
  subst h
  exact W.vret hx hb hr (fun t ht hW => ⟨⟨(), rfl, trivial, by rw [ht]; exact hP, va_K.moved hW.alike hK, hD⟩, hS.F ht⟩) hS.2.2 hd
def m_cSp_link_J26 (N : Nat → Nat) (x0 : Nat) (S : CS) (x1 : Option Nat) : Option CS := gl x0 (N 7) (gn x1 (N 3) (fun j_1 => some ((S.setR 3 12 j_1 (S.r 7 1 x0)).setR 7 1 x0 x1)))
theorem d_cSp_link_0 : decode prog_9_method_2_code 0 = .ok (.aload_n 1, 1) := by decide +kernel
theorem d_cSp_link_1 : decode prog_9_method_2_code 1 = .ok (.aload_n 0, 1) := by decide +kernel
theorem d_cSp_link_2 : decode prog_9_method_2_code 2 = .ok (.putfield 13, 3) := by decide +kernel
theorem d_cSp_link_5 : decode prog_9_method_2_code 5 = .ok (.aload_n 0, 1) := by decide +kernel
theorem d_cSp_link_6 : decode prog_9_method_2_code 6 = .ok (.getfield 19, 3) := by decide +kernel
theorem d_cSp_link_9 : decode prog_9_method_2_code 9 = .ok (.ifnull 17, 3) := by decide +kernel
theorem d_cSp_link_26 : decode prog_9_method_2_code 26 = .ok (.aload_n 1, 1) := by decide +kernel
theorem d_cSp_link_27 : decode prog_9_method_2_code 27 = .ok (.aload_n 0, 1) := by decide +kernel
theorem d_cSp_link_28 : decode prog_9_method_2_code 28 = .ok (.getfield 19, 3) := by decide +kernel
theorem d_cSp_link_31 : decode prog_9_method_2_code 31 = .ok (.putfield 26, 3) := by decide +kernel
theorem d_cSp_link_34 : decode prog_9_method_2_code 34 = .ok (.aload_n 0, 1) := by decide +kernel
theorem d_cSp_link_35 : decode prog_9_method_2_code 35 = .ok (.aload_n 1, 1) := by decide +kernel
theorem d_cSp_link_36 : decode prog_9_method_2_code 36 = .ok (.putfield 19, 3) := by decide +kernel
theorem d_cSp_link_39 : decode prog_9_method_2_code 39 = .ok (.return_, 1) := by decide +kernel
set_option maxHeartbeats 4000000 in
set_option maxRecDepth 100000 in
theorem w_cSp_link_J26 {p : Program} {l : Launch} {e : Env} {s : State} {m : MethodId} {args : Array Value} {below : List Frame} {meth : Method} {c : Code} {A : Nat → Prop} {D : va_G} {ad : Nat → Nat → Nat} {cc : Nat → ClassId} {sad sav : Nat → Nat} {Q : State → Prop} (hC : MCc sad sav "JoinedTrees$Spot" prog_9_method_2_code 3 none p s m args meth c A D cc) {N : Nat → Nat} {x0 : Nat} {S : CS} {x1 : Option Nat} {o : CS} (Heq : m_cSp_link_J26 N x0 S x1 = some o) (Kr : ∀ r : CS, o = r → ∀ (pc : Nat) (H : Heap) (locs : List Loc) (ls : Array Slot), decode prog_9_method_2_code pc = .ok (.return_, 1) → va_P D cls (cw ad cc N r) H → va_D A (cw ad cc N r) → va_S A s.heap H locs → W p l e ({ frames := 0, cells := 0, slots := 0, locals := 0 }) s m args below meth c H locs 0 0 Q (F0 m pc ls [])) : ∀ (H : Heap) (locs : List Loc) (ls : Array Slot), va_P D cls (cw ad cc N S) H → va_D A (cw ad cc N S) → va_S A s.heap H locs → lv_has ls 3 [(0, .ref (ad 7 x0)), (1, rv ad 3 x1)] → W p l e ({ frames := 0, cells := 0, slots := 0, locals := 0 }) s m args below meth c H locs 0 0 Q (F0 m 26 ls []) := by
  intro H locs ls hP hD hS hl
  obtain ⟨hx, hb, hr, hml, hown, hts, hK, hA, hev, hE, hN, hNS⟩ := id hC
  unfold m_cSp_link_J26 at Heq
  refine tx_aload_n (x := x1.map (ad 3)) hx hb d_cSp_link_26 rfl (lv_at hl 1 rfl) ?_
  refine w_v (y := rv ad 3 x1) rfl ?_
  refine lv_aload_n hx hb d_cSp_link_27 rfl (lv_at hl 0 rfl) ?_
  obtain ⟨hl_x0_7, Heq⟩ := gl_some Heq
  refine va_get (D := D) (ci := 7) (v := rv ad 3 (S.r 7 1 x0)) (C := R_Sp) (T := F_Sp) (N := 3) hx hb hts i_Sp hown hK hP (cPos N 7 x0) (cw_obj (k := 7) (by decide) hl_x0_7) rfl 1 (by decide) (hts _ kw_744) (fun _ h9 => h9) rfl d_cSp_link_28 ?_
  obtain ⟨j_1, hj_2, hl_3, Heq⟩ := gn_some Heq
  refine w_s (st' := [rv ad 3 (S.r 7 1 x0), .ref (ad 3 j_1)]) (congrArg (fun z9 : Option Nat => [rv ad 3 (S.r 7 1 x0), rv ad 3 z9]) hj_2) ?_
  refine w_v (y := rv ad 3 (S.r 7 1 x0)) rfl ?_
  refine va_put (D := D) (ci := 3) (v := rv ad 3 (S.r 7 1 x0)) (ty := .object "JoinedTrees$Op") (C := R_Op) (T := F_Op) (N := 15) hx hb hts i_Op t_Op t_Op_ok n_Op hown hK hP hD hS (cPos N 3 j_1) (cw_obj (k := 3) (by decide) hl_3) rfl 12 (by decide) (hts _ kw_96) (fun _ h9 => h9) rfl (by decide +kernel) (rv_nar (Or.inl ⟨_, rfl⟩)) (rv_fit (Or.inl ⟨_, rfl⟩)) (Nat.le_of_ble_eq_true rfl) d_cSp_link_31 (fun H locs hP hD hS => ?_)
  have hD := (congrArg (fun w9 => va_D A w9) (cw_setR (ad := ad) (cc := cc) (S := S) (k := 3) (f := 12) (t := 3) (v := (S.r 7 1 x0)) (by decide) rfl hl_3)).mp hD
  have hP := (congrArg (fun w9 => va_P D cls w9 H) (cw_setR (ad := ad) (cc := cc) (S := S) (k := 3) (f := 12) (t := 3) (v := (S.r 7 1 x0)) (by decide) rfl hl_3)).mp hP
  refine lv_aload_n hx hb d_cSp_link_34 rfl (lv_at hl 0 rfl) ?_
  refine tx_aload_n (x := x1.map (ad 3)) hx hb d_cSp_link_35 rfl (lv_at hl 1 rfl) ?_
  refine w_v (y := rv ad 3 x1) rfl ?_
  refine w_v (y := rv ad 3 x1) rfl ?_
  refine va_put (D := D) (ci := 7) (v := rv ad 3 x1) (ty := .object "JoinedTrees$Op") (C := R_Sp) (T := F_Sp) (N := 3) hx hb hts i_Sp t_Sp t_Sp_ok n_Sp hown hK hP hD hS (cPos N 7 x0) (cw_obj (k := 7) (by decide) hl_x0_7) rfl 1 (by decide) (hts _ kw_744) (fun _ h9 => h9) rfl (by decide +kernel) (rv_nar (Or.inl ⟨_, rfl⟩)) (rv_fit (Or.inl ⟨_, rfl⟩)) (Nat.le_of_ble_eq_true rfl) d_cSp_link_36 (fun H locs hP hD hS => ?_)
  have hD := (congrArg (fun w9 => va_D A w9) (cw_setR (ad := ad) (cc := cc) (S := (S.setR 3 12 j_1 (S.r 7 1 x0))) (k := 7) (f := 1) (t := 3) (v := x1) (by decide) rfl hl_x0_7)).mp hD
  have hP := (congrArg (fun w9 => va_P D cls w9 H) (cw_setR (ad := ad) (cc := cc) (S := (S.setR 3 12 j_1 (S.r 7 1 x0))) (k := 7) (f := 1) (t := 3) (v := x1) (by decide) rfl hl_x0_7)).mp hP
  exact Kr _ (Option.some.inj Heq).symm 39 _ _ _ d_cSp_link_39 hP hD hS
def m_cSp_link_B45 (N : Nat → Nat) (x0 : Nat) (S : CS) (x1 : Option Nat) (x2 : Option Nat) : Option ((CS × Option Nat × Option Nat) ⊕ (CS × Option Nat × Option Nat)) := gn x2 (N 3) (fun j_1 => on (S.r 3 12 j_1) (some (.inr (S, x1, x2))) (fun j_4 => gl j_4 (N 3) (gn x1 (N 3) (fun j_6 => (if S.i 3 0 j_4 ≤ S.i 3 0 j_6 then some (.inr (S, x1, x2)) else some (.inl (S, x1, (S.r 3 12 j_1))))))))
theorem d_cSp_link_12 : decode prog_9_method_2_code 12 = .ok (.aload_n 0, 1) := by decide +kernel
theorem d_cSp_link_13 : decode prog_9_method_2_code 13 = .ok (.getfield 19, 3) := by decide +kernel
theorem d_cSp_link_16 : decode prog_9_method_2_code 16 = .ok (.getfield 22, 3) := by decide +kernel
theorem d_cSp_link_19 : decode prog_9_method_2_code 19 = .ok (.aload_n 1, 1) := by decide +kernel
theorem d_cSp_link_20 : decode prog_9_method_2_code 20 = .ok (.getfield 22, 3) := by decide +kernel
theorem d_cSp_link_23 : decode prog_9_method_2_code 23 = .ok (.if_icmp .ge 17, 3) := by decide +kernel
theorem d_cSp_link_40 : decode prog_9_method_2_code 40 = .ok (.aload_n 0, 1) := by decide +kernel
theorem d_cSp_link_41 : decode prog_9_method_2_code 41 = .ok (.getfield 19, 3) := by decide +kernel
theorem d_cSp_link_44 : decode prog_9_method_2_code 44 = .ok (.astore_n 2, 1) := by decide +kernel
theorem d_cSp_link_45 : decode prog_9_method_2_code 45 = .ok (.aload_n 2, 1) := by decide +kernel
theorem d_cSp_link_46 : decode prog_9_method_2_code 46 = .ok (.getfield 26, 3) := by decide +kernel
theorem d_cSp_link_49 : decode prog_9_method_2_code 49 = .ok (.ifnull 25, 3) := by decide +kernel
theorem d_cSp_link_52 : decode prog_9_method_2_code 52 = .ok (.aload_n 2, 1) := by decide +kernel
theorem d_cSp_link_53 : decode prog_9_method_2_code 53 = .ok (.getfield 26, 3) := by decide +kernel
theorem d_cSp_link_56 : decode prog_9_method_2_code 56 = .ok (.getfield 22, 3) := by decide +kernel
theorem d_cSp_link_59 : decode prog_9_method_2_code 59 = .ok (.aload_n 1, 1) := by decide +kernel
theorem d_cSp_link_60 : decode prog_9_method_2_code 60 = .ok (.getfield 22, 3) := by decide +kernel
theorem d_cSp_link_63 : decode prog_9_method_2_code 63 = .ok (.if_icmp .le 11, 3) := by decide +kernel
theorem d_cSp_link_66 : decode prog_9_method_2_code 66 = .ok (.aload_n 2, 1) := by decide +kernel
theorem d_cSp_link_67 : decode prog_9_method_2_code 67 = .ok (.getfield 26, 3) := by decide +kernel
theorem d_cSp_link_70 : decode prog_9_method_2_code 70 = .ok (.astore_n 2, 1) := by decide +kernel
theorem d_cSp_link_71 : decode prog_9_method_2_code 71 = .ok (.goto (-26), 3) := by decide +kernel
set_option maxHeartbeats 4000000 in
set_option maxRecDepth 100000 in
theorem w_cSp_link_B45 {p : Program} {l : Launch} {e : Env} {s : State} {m : MethodId} {args : Array Value} {below : List Frame} {meth : Method} {c : Code} {A : Nat → Prop} {D : va_G} {ad : Nat → Nat → Nat} {cc : Nat → ClassId} {sad sav : Nat → Nat} {Q : State → Prop} (hC : MCc sad sav "JoinedTrees$Spot" prog_9_method_2_code 3 none p s m args meth c A D cc) {N : Nat → Nat} {x0 : Nat} {S : CS} {x1 : Option Nat} {x2 : Option Nat} {o : ((CS × Option Nat × Option Nat) ⊕ (CS × Option Nat × Option Nat))} (Heq : m_cSp_link_B45 N x0 S x1 x2 = some o) (Ka : ∀ b : CS × Option Nat × Option Nat, o = .inl b → ∀ (H : Heap) (locs : List Loc) (ls : Array Slot), va_P D cls (cw ad cc N b.1) H → va_D A (cw ad cc N b.1) → va_S A s.heap H locs → lv_has ls 3 [(0, .ref (ad 7 x0)), (1, rv ad 3 b.2.1), (2, rv ad 3 b.2.2)] → W p l e ({ frames := 0, cells := 0, slots := 0, locals := 0 }) s m args below meth c H locs 0 0 Q (F0 m 45 ls [])) (K0 : ∀ b : CS × Option Nat × Option Nat, o = .inr b → ∀ (H : Heap) (locs : List Loc) (ls : Array Slot), va_P D cls (cw ad cc N b.1) H → va_D A (cw ad cc N b.1) → va_S A s.heap H locs → lv_has ls 3 [(0, .ref (ad 7 x0)), (1, rv ad 3 b.2.1), (2, rv ad 3 b.2.2)] → W p l e ({ frames := 0, cells := 0, slots := 0, locals := 0 }) s m args below meth c H locs 0 0 Q (F0 m 74 ls [])) : ∀ (H : Heap) (locs : List Loc) (ls : Array Slot), va_P D cls (cw ad cc N S) H → va_D A (cw ad cc N S) → va_S A s.heap H locs → lv_has ls 3 [(0, .ref (ad 7 x0)), (1, rv ad 3 x1), (2, rv ad 3 x2)] → W p l e ({ frames := 0, cells := 0, slots := 0, locals := 0 }) s m args below meth c H locs 0 0 Q (F0 m 45 ls []) := by
  intro H locs ls hP hD hS hl
  obtain ⟨hx, hb, hr, hml, hown, hts, hK, hA, hev, hE, hN, hNS⟩ := id hC
  unfold m_cSp_link_B45 at Heq
  refine tx_aload_n (x := x2.map (ad 3)) hx hb d_cSp_link_45 rfl (lv_at hl 2 rfl) ?_
  refine w_v (y := rv ad 3 x2) rfl ?_
  obtain ⟨j_1, hj_2, hl_3, Heq⟩ := gn_some Heq
  refine w_s (st' := [.ref (ad 3 j_1)]) (congrArg (fun z9 : Option Nat => [rv ad 3 z9]) hj_2) ?_
  refine va_get (D := D) (ci := 3) (v := rv ad 3 (S.r 3 12 j_1)) (C := R_Op) (T := F_Op) (N := 15) hx hb hts i_Op hown hK hP (cPos N 3 j_1) (cw_obj (k := 3) (by decide) hl_3) rfl 12 (by decide) (hts _ kw_96) (fun _ h9 => h9) rfl d_cSp_link_46 ?_
  rcases on_some Heq with ⟨hj_5, Heq⟩ | ⟨j_4, hj_5, Heq⟩
  · refine w_s (st' := [.null]) (congrArg (fun z9 : Option Nat => [rv ad 3 z9]) hj_5) ?_
    refine lv_ifnullN (tgt := 74) hx hb d_cSp_link_49 (by decide) ?_
    exact K0 _ (Option.some.inj Heq).symm _ _ _ hP hD hS (lv_sub hl [0, 1, 2] rfl)
  · refine w_s (st' := [.ref (ad 3 j_4)]) (congrArg (fun z9 : Option Nat => [rv ad 3 z9]) hj_5) ?_
    refine lv_ifnull hx hb d_cSp_link_49 ?_
    refine tx_aload_n (x := x2.map (ad 3)) hx hb d_cSp_link_52 rfl (lv_at hl 2 rfl) ?_
    refine w_v (y := rv ad 3 x2) rfl ?_
    refine w_s (st' := [.ref (ad 3 j_1)]) (congrArg (fun z9 : Option Nat => [rv ad 3 z9]) hj_2) ?_
    refine va_get (D := D) (ci := 3) (v := rv ad 3 (S.r 3 12 j_1)) (C := R_Op) (T := F_Op) (N := 15) hx hb hts i_Op hown hK hP (cPos N 3 j_1) (cw_obj (k := 3) (by decide) hl_3) rfl 12 (by decide) (hts _ kw_96) (fun _ h9 => h9) rfl d_cSp_link_53 ?_
    refine w_s (st' := [.ref (ad 3 j_4)]) (congrArg (fun z9 : Option Nat => [rv ad 3 z9]) hj_5) ?_
    obtain ⟨hl_j_4_3, Heq⟩ := gl_some Heq
    refine va_get (D := D) (ci := 3) (v := .int (S.i 3 0 j_4)) (C := R_Op) (T := F_Op) (N := 15) hx hb hts i_Op hown hK hP (cPos N 3 j_4) (cw_obj (k := 3) (by decide) hl_j_4_3) rfl 0 (by decide) (hts _ kw_49) (fun _ h9 => h9) rfl d_cSp_link_56 ?_
    refine tx_aload_n (x := x1.map (ad 3)) hx hb d_cSp_link_59 rfl (lv_at hl 1 rfl) ?_
    refine w_v (y := rv ad 3 x1) rfl ?_
    obtain ⟨j_6, hj_7, hl_8, Heq⟩ := gn_some Heq
    refine w_s (st' := [.ref (ad 3 j_6), .int (S.i 3 0 j_4)]) (congrArg (fun z9 : Option Nat => [rv ad 3 z9, .int (S.i 3 0 j_4)]) hj_7) ?_
    refine va_get (D := D) (ci := 3) (v := .int (S.i 3 0 j_6)) (C := R_Op) (T := F_Op) (N := 15) hx hb hts i_Op hown hK hP (cPos N 3 j_6) (cw_obj (k := 3) (by decide) hl_8) rfl 0 (by decide) (hts _ kw_49) (fun _ h9 => h9) rfl d_cSp_link_60 ?_
    refine lv_icmp_le (tgt := 74) hx hb d_cSp_link_63 (by decide) (fun c_9 => ?_) (fun c_9 => ?_)
    · replace Heq := (if_pos c_9).symm.trans Heq
      exact K0 _ (Option.some.inj Heq).symm _ _ _ hP hD hS (lv_sub hl [0, 1, 2] rfl)
    · replace Heq := (if_neg c_9).symm.trans Heq
      refine tx_aload_n (x := x2.map (ad 3)) hx hb d_cSp_link_66 rfl (lv_at hl 2 rfl) ?_
      refine w_v (y := rv ad 3 x2) rfl ?_
      refine w_s (st' := [.ref (ad 3 j_1)]) (congrArg (fun z9 : Option Nat => [rv ad 3 z9]) hj_2) ?_
      refine va_get (D := D) (ci := 3) (v := rv ad 3 (S.r 3 12 j_1)) (C := R_Op) (T := F_Op) (N := 15) hx hb hts i_Op hown hK hP (cPos N 3 j_1) (cw_obj (k := 3) (by decide) hl_3) rfl 12 (by decide) (hts _ kw_96) (fun _ h9 => h9) rfl d_cSp_link_67 ?_
      refine tx_astore_n (i := 2) (x := (S.r 3 12 j_1).map (ad 3)) (lv' := [(2, rv ad 3 (S.r 3 12 j_1)), (0, .ref (ad 7 x0)), (1, rv ad 3 x1)]) hx hb d_cSp_link_70 rfl hl (by decide) (by simp [rv, rf_cat]) (fun ls hl => ?_)
      refine lv_goto (tgt := 45) hx hb d_cSp_link_71 (by decide) ?_
      exact Ka _ (Option.some.inj Heq).symm _ _ _ hP hD hS (lv_sub hl [1, 2, 0] rfl)
def m_cSp_link_L45 (N : Nat → Nat) (x0 : Nat) (S : CS) (x1 : Option Nat) (x2 : Option Nat) : Option (CS × Option Nat × Option Nat) := lp (fun a : CS × Option Nat × Option Nat => m_cSp_link_B45 N x0 a.1 a.2.1 a.2.2) FU (S, x1, x2)
theorem w_cSp_link_L45 {p : Program} {l : Launch} {e : Env} {s : State} {m : MethodId} {args : Array Value} {below : List Frame} {meth : Method} {c : Code} {A : Nat → Prop} {D : va_G} {ad : Nat → Nat → Nat} {cc : Nat → ClassId} {sad sav : Nat → Nat} {Q : State → Prop} (hC : MCc sad sav "JoinedTrees$Spot" prog_9_method_2_code 3 none p s m args meth c A D cc) {N : Nat → Nat} {x0 : Nat} {S : CS} {x1 : Option Nat} {x2 : Option Nat} {o : CS × Option Nat × Option Nat} (Heq : m_cSp_link_L45 N x0 S x1 x2 = some o) (K0 : ∀ b : CS × Option Nat × Option Nat, o = b → ∀ (H : Heap) (locs : List Loc) (ls : Array Slot), va_P D cls (cw ad cc N b.1) H → va_D A (cw ad cc N b.1) → va_S A s.heap H locs → lv_has ls 3 [(0, .ref (ad 7 x0)), (1, rv ad 3 b.2.1), (2, rv ad 3 b.2.2)] → W p l e ({ frames := 0, cells := 0, slots := 0, locals := 0 }) s m args below meth c H locs 0 0 Q (F0 m 74 ls [])) : ∀ (H : Heap) (locs : List Loc) (ls : Array Slot), va_P D cls (cw ad cc N S) H → va_D A (cw ad cc N S) → va_S A s.heap H locs → lv_has ls 3 [(0, .ref (ad 7 x0)), (1, rv ad 3 x1), (2, rv ad 3 x2)] → W p l e ({ frames := 0, cells := 0, slots := 0, locals := 0 }) s m args below meth c H locs 0 0 Q (F0 m 45 ls []) := by
  refine lp_w (G := fun a : CS × Option Nat × Option Nat => ∀ (H : Heap) (locs : List Loc) (ls : Array Slot), va_P D cls (cw ad cc N a.1) H → va_D A (cw ad cc N a.1) → va_S A s.heap H locs → lv_has ls 3 [(0, .ref (ad 7 x0)), (1, rv ad 3 a.2.1), (2, rv ad 3 a.2.2)] → W p l e ({ frames := 0, cells := 0, slots := 0, locals := 0 }) s m args below meth c H locs 0 0 Q (F0 m 45 ls [])) ?_ FU (S, x1, x2) Heq
  intro a o1 ho Ka Ke
  exact w_cSp_link_B45 hC ho (fun b h => Ka b h) (fun b h => K0 b (Ke _ h).symm)
def m_cSp_link_J74 (N : Nat → Nat) (x0 : Nat) (S : CS) (x1 : Option Nat) (x2 : Option Nat) : Option CS := gn x2 (N 3) (fun j_1 => gn x1 (N 3) (fun j_4 => some ((S.setR 3 12 j_4 (S.r 3 12 j_1)).setR 3 12 j_1 x1)))
theorem d_cSp_link_74 : decode prog_9_method_2_code 74 = .ok (.aload_n 1, 1) := by decide +kernel
theorem d_cSp_link_75 : decode prog_9_method_2_code 75 = .ok (.aload_n 2, 1) := by decide +kernel
theorem d_cSp_link_76 : decode prog_9_method_2_code 76 = .ok (.getfield 26, 3) := by decide +kernel
theorem d_cSp_link_79 : decode prog_9_method_2_code 79 = .ok (.putfield 26, 3) := by decide +kernel
theorem d_cSp_link_82 : decode prog_9_method_2_code 82 = .ok (.aload_n 2, 1) := by decide +kernel
theorem d_cSp_link_83 : decode prog_9_method_2_code 83 = .ok (.aload_n 1, 1) := by decide +kernel
theorem d_cSp_link_84 : decode prog_9_method_2_code 84 = .ok (.putfield 26, 3) := by decide +kernel
theorem d_cSp_link_87 : decode prog_9_method_2_code 87 = .ok (.return_, 1) := by decide +kernel
set_option maxHeartbeats 4000000 in
set_option maxRecDepth 100000 in
theorem w_cSp_link_J74 {p : Program} {l : Launch} {e : Env} {s : State} {m : MethodId} {args : Array Value} {below : List Frame} {meth : Method} {c : Code} {A : Nat → Prop} {D : va_G} {ad : Nat → Nat → Nat} {cc : Nat → ClassId} {sad sav : Nat → Nat} {Q : State → Prop} (hC : MCc sad sav "JoinedTrees$Spot" prog_9_method_2_code 3 none p s m args meth c A D cc) {N : Nat → Nat} {x0 : Nat} {S : CS} {x1 : Option Nat} {x2 : Option Nat} {o : CS} (Heq : m_cSp_link_J74 N x0 S x1 x2 = some o) (Kr : ∀ r : CS, o = r → ∀ (pc : Nat) (H : Heap) (locs : List Loc) (ls : Array Slot), decode prog_9_method_2_code pc = .ok (.return_, 1) → va_P D cls (cw ad cc N r) H → va_D A (cw ad cc N r) → va_S A s.heap H locs → W p l e ({ frames := 0, cells := 0, slots := 0, locals := 0 }) s m args below meth c H locs 0 0 Q (F0 m pc ls [])) : ∀ (H : Heap) (locs : List Loc) (ls : Array Slot), va_P D cls (cw ad cc N S) H → va_D A (cw ad cc N S) → va_S A s.heap H locs → lv_has ls 3 [(0, .ref (ad 7 x0)), (1, rv ad 3 x1), (2, rv ad 3 x2)] → W p l e ({ frames := 0, cells := 0, slots := 0, locals := 0 }) s m args below meth c H locs 0 0 Q (F0 m 74 ls []) := by
  intro H locs ls hP hD hS hl
  obtain ⟨hx, hb, hr, hml, hown, hts, hK, hA, hev, hE, hN, hNS⟩ := id hC
  unfold m_cSp_link_J74 at Heq
  refine tx_aload_n (x := x1.map (ad 3)) hx hb d_cSp_link_74 rfl (lv_at hl 1 rfl) ?_
  refine w_v (y := rv ad 3 x1) rfl ?_
  refine tx_aload_n (x := x2.map (ad 3)) hx hb d_cSp_link_75 rfl (lv_at hl 2 rfl) ?_
  refine w_v (y := rv ad 3 x2) rfl ?_
  obtain ⟨j_1, hj_2, hl_3, Heq⟩ := gn_some Heq
  refine w_s (st' := [.ref (ad 3 j_1), rv ad 3 x1]) (congrArg (fun z9 : Option Nat => [rv ad 3 z9, rv ad 3 x1]) hj_2) ?_
  refine va_get (D := D) (ci := 3) (v := rv ad 3 (S.r 3 12 j_1)) (C := R_Op) (T := F_Op) (N := 15) hx hb hts i_Op hown hK hP (cPos N 3 j_1) (cw_obj (k := 3) (by decide) hl_3) rfl 12 (by decide) (hts _ kw_96) (fun _ h9 => h9) rfl d_cSp_link_76 ?_
  obtain ⟨j_4, hj_5, hl_6, Heq⟩ := gn_some Heq
  refine w_s (st' := [rv ad 3 (S.r 3 12 j_1), .ref (ad 3 j_4)]) (congrArg (fun z9 : Option Nat => [rv ad 3 (S.r 3 12 j_1), rv ad 3 z9]) hj_5) ?_
  refine w_v (y := rv ad 3 (S.r 3 12 j_1)) rfl ?_
  refine va_put (D := D) (ci := 3) (v := rv ad 3 (S.r 3 12 j_1)) (ty := .object "JoinedTrees$Op") (C := R_Op) (T := F_Op) (N := 15) hx hb hts i_Op t_Op t_Op_ok n_Op hown hK hP hD hS (cPos N 3 j_4) (cw_obj (k := 3) (by decide) hl_6) rfl 12 (by decide) (hts _ kw_96) (fun _ h9 => h9) rfl (by decide +kernel) (rv_nar (Or.inl ⟨_, rfl⟩)) (rv_fit (Or.inl ⟨_, rfl⟩)) (Nat.le_of_ble_eq_true rfl) d_cSp_link_79 (fun H locs hP hD hS => ?_)
  have hD := (congrArg (fun w9 => va_D A w9) (cw_setR (ad := ad) (cc := cc) (S := S) (k := 3) (f := 12) (t := 3) (v := (S.r 3 12 j_1)) (by decide) rfl hl_6)).mp hD
  have hP := (congrArg (fun w9 => va_P D cls w9 H) (cw_setR (ad := ad) (cc := cc) (S := S) (k := 3) (f := 12) (t := 3) (v := (S.r 3 12 j_1)) (by decide) rfl hl_6)).mp hP
  refine tx_aload_n (x := x2.map (ad 3)) hx hb d_cSp_link_82 rfl (lv_at hl 2 rfl) ?_
  refine w_v (y := rv ad 3 x2) rfl ?_
  refine tx_aload_n (x := x1.map (ad 3)) hx hb d_cSp_link_83 rfl (lv_at hl 1 rfl) ?_
  refine w_v (y := rv ad 3 x1) rfl ?_
  refine w_s (st' := [rv ad 3 x1, .ref (ad 3 j_1)]) (congrArg (fun z9 : Option Nat => [rv ad 3 x1, rv ad 3 z9]) hj_2) ?_
  refine w_v (y := rv ad 3 x1) rfl ?_
  refine va_put (D := D) (ci := 3) (v := rv ad 3 x1) (ty := .object "JoinedTrees$Op") (C := R_Op) (T := F_Op) (N := 15) hx hb hts i_Op t_Op t_Op_ok n_Op hown hK hP hD hS (cPos N 3 j_1) (cw_obj (k := 3) (by decide) hl_3) rfl 12 (by decide) (hts _ kw_96) (fun _ h9 => h9) rfl (by decide +kernel) (rv_nar (Or.inl ⟨_, rfl⟩)) (rv_fit (Or.inl ⟨_, rfl⟩)) (Nat.le_of_ble_eq_true rfl) d_cSp_link_84 (fun H locs hP hD hS => ?_)
  have hD := (congrArg (fun w9 => va_D A w9) (cw_setR (ad := ad) (cc := cc) (S := (S.setR 3 12 j_4 (S.r 3 12 j_1))) (k := 3) (f := 12) (t := 3) (v := x1) (by decide) rfl hl_3)).mp hD
  have hP := (congrArg (fun w9 => va_P D cls w9 H) (cw_setR (ad := ad) (cc := cc) (S := (S.setR 3 12 j_4 (S.r 3 12 j_1))) (k := 3) (f := 12) (t := 3) (v := x1) (by decide) rfl hl_3)).mp hP
  exact Kr _ (Option.some.inj Heq).symm 87 _ _ _ d_cSp_link_87 hP hD hS
def m_cSp_link_J0 (N : Nat → Nat) (x0 : Nat) (S : CS) (x1 : Nat) : Option CS := gl x1 (N 3) (gl x0 (N 7) (on (S.r 7 1 x0) (m_cSp_link_J26 N x0 (S.setR 3 11 x1 (some x0)) (some x1)) (fun j_1 => gl j_1 (N 3) ((if S.i 3 0 x1 ≤ S.i 3 0 j_1 then ob (m_cSp_link_L45 N x0 (S.setR 3 11 x1 (some x0)) (some x1) (S.r 7 1 x0)) (fun b_4 => m_cSp_link_J74 N x0 b_4.1 b_4.2.1 b_4.2.2) else m_cSp_link_J26 N x0 (S.setR 3 11 x1 (some x0)) (some x1))))))
set_option maxHeartbeats 4000000 in
set_option maxRecDepth 100000 in
theorem w_cSp_link_J0 {p : Program} {l : Launch} {e : Env} {s : State} {m : MethodId} {args : Array Value} {below : List Frame} {meth : Method} {c : Code} {A : Nat → Prop} {D : va_G} {ad : Nat → Nat → Nat} {cc : Nat → ClassId} {sad sav : Nat → Nat} {Q : State → Prop} (hC : MCc sad sav "JoinedTrees$Spot" prog_9_method_2_code 3 none p s m args meth c A D cc) {N : Nat → Nat} {x0 : Nat} {S : CS} {x1 : Nat} {o : CS} (Heq : m_cSp_link_J0 N x0 S x1 = some o) (Kr : ∀ r : CS, o = r → ∀ (pc : Nat) (H : Heap) (locs : List Loc) (ls : Array Slot), decode prog_9_method_2_code pc = .ok (.return_, 1) → va_P D cls (cw ad cc N r) H → va_D A (cw ad cc N r) → va_S A s.heap H locs → W p l e ({ frames := 0, cells := 0, slots := 0, locals := 0 }) s m args below meth c H locs 0 0 Q (F0 m pc ls [])) : ∀ (H : Heap) (locs : List Loc) (ls : Array Slot), va_P D cls (cw ad cc N S) H → va_D A (cw ad cc N S) → va_S A s.heap H locs → lv_has ls 3 [(0, .ref (ad 7 x0)), (1, .ref (ad 3 x1))] → W p l e ({ frames := 0, cells := 0, slots := 0, locals := 0 }) s m args below meth c H locs 0 0 Q (F0 m 0 ls []) := by
  intro H locs ls hP hD hS hl
  obtain ⟨hx, hb, hr, hml, hown, hts, hK, hA, hev, hE, hN, hNS⟩ := id hC
  unfold m_cSp_link_J0 at Heq
  refine lv_aload_n hx hb d_cSp_link_0 rfl (lv_at hl 1 rfl) ?_
  refine lv_aload_n hx hb d_cSp_link_1 rfl (lv_at hl 0 rfl) ?_
  obtain ⟨hl_x1_3, Heq⟩ := gl_some Heq
  refine w_v (y := rv ad 7 (some x0)) rfl ?_
  refine va_put (D := D) (ci := 3) (v := rv ad 7 (some x0)) (ty := .object "JoinedTrees$Spot") (C := R_Op) (T := F_Op) (N := 15) hx hb hts i_Op t_Op t_Op_ok n_Op hown hK hP hD hS (cPos N 3 x1) (cw_obj (k := 3) (by decide) hl_x1_3) rfl 11 (by decide) (hts _ kw_90) (fun _ h9 => h9) rfl (by decide +kernel) (rv_nar (Or.inl ⟨_, rfl⟩)) (rv_fit (Or.inl ⟨_, rfl⟩)) (Nat.le_of_ble_eq_true rfl) d_cSp_link_2 (fun H locs hP hD hS => ?_)
  have hD := (congrArg (fun w9 => va_D A w9) (cw_setR (ad := ad) (cc := cc) (S := S) (k := 3) (f := 11) (t := 7) (v := (some x0)) (by decide) rfl hl_x1_3)).mp hD
  have hP := (congrArg (fun w9 => va_P D cls w9 H) (cw_setR (ad := ad) (cc := cc) (S := S) (k := 3) (f := 11) (t := 7) (v := (some x0)) (by decide) rfl hl_x1_3)).mp hP
  refine lv_aload_n hx hb d_cSp_link_5 rfl (lv_at hl 0 rfl) ?_
  obtain ⟨hl_x0_7, Heq⟩ := gl_some Heq
  refine va_get (D := D) (ci := 7) (v := rv ad 3 ((S.setR 3 11 x1 (some x0)).r 7 1 x0)) (C := R_Sp) (T := F_Sp) (N := 3) hx hb hts i_Sp hown hK hP (cPos N 7 x0) (cw_obj (k := 7) (by decide) hl_x0_7) rfl 1 (by decide) (hts _ kw_744) (fun _ h9 => h9) rfl d_cSp_link_6 ?_
  refine w_v (y := rv ad 3 (S.r 7 1 x0)) (congrArg (rv ad 3) rfl) ?_
  rcases on_some Heq with ⟨hj_2, Heq⟩ | ⟨j_1, hj_2, Heq⟩
  · refine w_s (st' := [.null]) (congrArg (fun z9 : Option Nat => [rv ad 3 z9]) hj_2) ?_
    refine lv_ifnullN (tgt := 26) hx hb d_cSp_link_9 (by decide) ?_
    exact w_cSp_link_J26 hC Heq Kr _ _ _ hP hD hS (lv_sub hl [0, 1] rfl)
  · refine w_s (st' := [.ref (ad 3 j_1)]) (congrArg (fun z9 : Option Nat => [rv ad 3 z9]) hj_2) ?_
    refine lv_ifnull hx hb d_cSp_link_9 ?_
    refine lv_aload_n hx hb d_cSp_link_12 rfl (lv_at hl 0 rfl) ?_
    refine va_get (D := D) (ci := 7) (v := rv ad 3 ((S.setR 3 11 x1 (some x0)).r 7 1 x0)) (C := R_Sp) (T := F_Sp) (N := 3) hx hb hts i_Sp hown hK hP (cPos N 7 x0) (cw_obj (k := 7) (by decide) hl_x0_7) rfl 1 (by decide) (hts _ kw_744) (fun _ h9 => h9) rfl d_cSp_link_13 ?_
    refine w_v (y := rv ad 3 (S.r 7 1 x0)) (congrArg (rv ad 3) rfl) ?_
    refine w_s (st' := [.ref (ad 3 j_1)]) (congrArg (fun z9 : Option Nat => [rv ad 3 z9]) hj_2) ?_
    obtain ⟨hl_j_1_3, Heq⟩ := gl_some Heq
    refine va_get (D := D) (ci := 3) (v := .int ((S.setR 3 11 x1 (some x0)).i 3 0 j_1)) (C := R_Op) (T := F_Op) (N := 15) hx hb hts i_Op hown hK hP (cPos N 3 j_1) (cw_obj (k := 3) (by decide) hl_j_1_3) rfl 0 (by decide) (hts _ kw_49) (fun _ h9 => h9) rfl d_cSp_link_16 ?_
    refine w_i (y := S.i 3 0 j_1) rfl ?_
    refine lv_aload_n hx hb d_cSp_link_19 rfl (lv_at hl 1 rfl) ?_
    refine va_get (D := D) (ci := 3) (v := .int ((S.setR 3 11 x1 (some x0)).i 3 0 x1)) (C := R_Op) (T := F_Op) (N := 15) hx hb hts i_Op hown hK hP (cPos N 3 x1) (cw_obj (k := 3) (by decide) hl_x1_3) rfl 0 (by decide) (hts _ kw_49) (fun _ h9 => h9) rfl d_cSp_link_20 ?_
    refine w_i (y := S.i 3 0 x1) rfl ?_
    refine lv_icmp_ge (tgt := 40) hx hb d_cSp_link_23 (by decide) (fun c_3 => ?_) (fun c_3 => ?_)
    · replace Heq := (if_pos c_3).symm.trans Heq
      refine lv_aload_n hx hb d_cSp_link_40 rfl (lv_at hl 0 rfl) ?_
      refine va_get (D := D) (ci := 7) (v := rv ad 3 ((S.setR 3 11 x1 (some x0)).r 7 1 x0)) (C := R_Sp) (T := F_Sp) (N := 3) hx hb hts i_Sp hown hK hP (cPos N 7 x0) (cw_obj (k := 7) (by decide) hl_x0_7) rfl 1 (by decide) (hts _ kw_744) (fun _ h9 => h9) rfl d_cSp_link_41 ?_
      refine w_v (y := rv ad 3 (S.r 7 1 x0)) (congrArg (rv ad 3) rfl) ?_
      refine tx_astore_n (x := (S.r 7 1 x0).map (ad 3)) (lv' := [(2, rv ad 3 (S.r 7 1 x0)), (0, .ref (ad 7 x0)), (1, .ref (ad 3 x1))]) hx hb d_cSp_link_44 rfl hl (by decide) rfl (fun ls hl => ?_)
      obtain ⟨b_4, h_5, Heq⟩ := ob_some Heq
      refine w_cSp_link_L45 hC h_5 (fun b h => ?_) _ _ _ hP hD hS (lv_sub hl [1, 2, 0] rfl)
      subst h
      intro H locs ls hP hD hS hl
      exact w_cSp_link_J74 hC Heq Kr _ _ _ hP hD hS (lv_sub hl [0, 1, 2] rfl)
    · replace Heq := (if_neg c_3).symm.trans Heq
      exact w_cSp_link_J26 hC Heq Kr _ _ _ hP hD hS (lv_sub hl [0, 1] rfl)
def m_cSp_link (N : Nat → Nat) (x0 : Nat) (S : CS) (x1 : Nat) : Option CS := m_cSp_link_J0 N x0 S x1
set_option maxHeartbeats 4000000 in
theorem g_cSp_link (l : Launch) (D : va_G) (sz : Nat) {ad : Nat → Nat → Nat} {cc : Nat → ClassId} {sad sav : Nat → Nat} {N : Nat → Nat} {x0 : Nat} {S : CS} {x1 : Nat} {o : CS} (Heq : m_cSp_link N x0 S x1 = some o) : Met l ⟨"JoinedTrees$Spot", "link", "(LJoinedTrees$Op;)V"⟩ (Cond.code ⟨"JoinedTrees$Spot", "link", "(LJoinedTrees$Op;)V"⟩ prog_9_method_2_code 3 none :: gb) ({ frames := 0, cells := 0, slots := 0, locals := 0 }) (cPc sad sav D (cw ad cc N S) (cty cc) sz [.ref (ad 7 x0), .ref (ad 3 x1)]) (va_Qv (fun _ : Unit => True) (fun _ t => gO D (cw ad cc N o) (cty cc) (va_A (cw ad cc N S) sz) t) (va_A (cw ad cc N S) sz)) 0 0 (va_A (cw ad cc N S) sz) := by
  refine Met.ofW (cc := prog_9_method_2_code) (maxL := 3) (ret := none) (by decide) rfl ?_
  intro p e s m args below meth c s₁ B hml hv
  obtain ⟨rfl, hsz, hP, hK, hD0, hev, hE, hN⟩ := hv
  have hx := B.exec
  have hb := B.bytes
  have hr := B.returns
  have hts : ∀ w9 ∈ gb, w9.before [.ref (ad 7 x0), .ref (ad 3 x1)].toArray s = true := fun w9 h => atoms_spec (ws := Cond.code ⟨"JoinedTrees$Spot", "link", "(LJoinedTrees$Op;)V"⟩ prog_9_method_2_code 3 none :: gb) B.pre w9 (List.mem_cons_of_mem _ h)
  have hown : s.vm.findClass "JoinedTrees$Spot" = some m.cls := findClass_of_methodNamed B.named
  have hlocks := B.notSynchronized
  have hNS := ns_of hP
  subst hsz
  have hD := hD0.self (sz := s.heap.size)
  generalize hAe : va_A (cw ad cc N S) s.heap.size = A at hD hev hE hNS ⊢
  have hA : ∀ q : Nat, s.heap.size ≤ q → A q := fun q h => by rw [← hAe]; exact Or.inr h
  have hS : va_S A s.heap s.heap [] := va_S.rf
  obtain ⟨ls, hl, hle⟩ : ∃ ls : Array Slot, lv_has ls 3 [(0, .ref (ad 7 x0)), (1, .ref (ad 3 x1))] ∧ entryFrame m ([.ref (ad 7 x0), .ref (ad 3 x1)] : List Value).toArray 3 = F0 m 0 ls [] := by
    exact ⟨_, lv_entry (n := 3) _ (Nat.le_of_ble_eq_true rfl), lg_entry_eq ..⟩
  rw [hle]
  refine w_cSp_link_J0 ⟨hx, hb, hr, hml, hown, hts, hK, hA, hev, hE, hN, hNS⟩ Heq (fun r h pc H locs ls hd hP hD hS => ?_) _ _ _ hP hD hS (lv_sub hl [0, 1] rfl)
  subst h
  exact W.vret hx hb hr (fun t ht hW => ⟨⟨(), rfl, trivial, by rw [ht]; exact hP, va_K.moved hW.alike hK, hD⟩, hS.F ht⟩) hS.2.2 hd
def m_cSt_keepString_J0 (N : Nat → Nat) (x0 : Nat) (S : CS) (x1 : Nat) (x2 : Nat) (x3 : Int32) (x4 : Int32) : Option CS := gl x0 (N 8) (gl x2 (N 5) (gn (S.r 8 2 x0) (N 5) (fun j_1 => ob (m_cRw_writeAll N j_1 S x2 x3 x4) (fun o_4 => gl x1 (N 3) (some (o_4.setI 3 10 x1 x4))))))
theorem d_cSt_keepString_0 : decode prog_10_method_5_code 0 = .ok (.aload_n 0, 1) := by decide +kernel
theorem d_cSt_keepString_1 : decode prog_10_method_5_code 1 = .ok (.getfield 29, 3) := by decide +kernel
theorem d_cSt_keepString_4 : decode prog_10_method_5_code 4 = .ok (.aload_n 2, 1) := by decide +kernel
theorem d_cSt_keepString_5 : decode prog_10_method_5_code 5 = .ok (.iload_n 3, 1) := by decide +kernel
theorem d_cSt_keepString_6 : decode prog_10_method_5_code 6 = .ok (.iload 4, 2) := by decide +kernel
theorem d_cSt_keepString_8 : decode prog_10_method_5_code 8 = .ok (.invokevirtual 73, 3) := by decide +kernel
theorem d_cSt_keepString_11 : decode prog_10_method_5_code 11 = .ok (.aload_n 1, 1) := by decide +kernel
theorem d_cSt_keepString_12 : decode prog_10_method_5_code 12 = .ok (.iload 4, 2) := by decide +kernel
theorem d_cSt_keepString_14 : decode prog_10_method_5_code 14 = .ok (.putfield 80, 3) := by decide +kernel
theorem d_cSt_keepString_17 : decode prog_10_method_5_code 17 = .ok (.return_, 1) := by decide +kernel
set_option maxHeartbeats 4000000 in
set_option maxRecDepth 100000 in
theorem w_cSt_keepString_J0 {p : Program} {l : Launch} {e : Env} {s : State} {m : MethodId} {args : Array Value} {below : List Frame} {meth : Method} {c : Code} {A : Nat → Prop} {D : va_G} {ad : Nat → Nat → Nat} {cc : Nat → ClassId} {sad sav : Nat → Nat} {Q : State → Prop} (hC : MCc sad sav "JoinedTrees$Store" prog_10_method_5_code 5 none p s m args meth c A D cc) {N : Nat → Nat} {x0 : Nat} {S : CS} {x1 : Nat} {x2 : Nat} {x3 : Int32} {x4 : Int32} {o : CS} (Heq : m_cSt_keepString_J0 N x0 S x1 x2 x3 x4 = some o) (Kr : ∀ r : CS, o = r → ∀ (pc : Nat) (H : Heap) (locs : List Loc) (ls : Array Slot), decode prog_10_method_5_code pc = .ok (.return_, 1) → va_P D cls (cw ad cc N r) H → va_D A (cw ad cc N r) → va_S A s.heap H locs → W p l e ({ frames := 2, cells := 0, slots := 0, locals := 45 }) s m args below meth c H locs 0 0 Q (F0 m pc ls [])) : ∀ (H : Heap) (locs : List Loc) (ls : Array Slot), va_P D cls (cw ad cc N S) H → va_D A (cw ad cc N S) → va_S A s.heap H locs → lv_has ls 5 [(0, .ref (ad 8 x0)), (1, .ref (ad 3 x1)), (2, .ref (ad 5 x2)), (3, .int x3), (4, .int x4)] → W p l e ({ frames := 2, cells := 0, slots := 0, locals := 45 }) s m args below meth c H locs 0 0 Q (F0 m 0 ls []) := by
  intro H locs ls hP hD hS hl
  obtain ⟨hx, hb, hr, hml, hown, hts, hK, hA, hev, hE, hN, hNS⟩ := id hC
  unfold m_cSt_keepString_J0 at Heq
  refine lv_aload_n hx hb d_cSt_keepString_0 rfl (lv_at hl 0 rfl) ?_
  obtain ⟨hl_x0_8, Heq⟩ := gl_some Heq
  refine va_get (D := D) (ci := 8) (v := rv ad 5 (S.r 8 2 x0)) (C := R_St) (T := F_St) (N := 6) hx hb hts i_St hown hK hP (cPos N 8 x0) (cw_obj (k := 8) (by decide) hl_x0_8) rfl 2 (by decide) (hts _ kw_167) (fun _ h9 => h9) rfl d_cSt_keepString_1 ?_
  refine lv_aload_n hx hb d_cSt_keepString_4 rfl (lv_at hl 2 rfl) ?_
  refine lv_iload_n hx hb d_cSt_keepString_5 rfl (lv_at hl 3 rfl) ?_
  refine lv_iload hx hb d_cSt_keepString_6 (lv_at hl 4 rfl) ?_
  obtain ⟨hl_x2_5, Heq⟩ := gl_some Heq
  obtain ⟨j_1, hj_2, hl_3, Heq⟩ := gn_some Heq
  refine w_s (st' := [.int x4, .int x3, .ref (ad 5 x2), .ref (ad 5 j_1)]) (congrArg (fun z9 : Option Nat => [.int x4, .int x3, .ref (ad 5 x2), rv ad 5 z9]) hj_2) ?_
  obtain ⟨o_4, h_5, Heq⟩ := ob_some Heq
  have hFc := fr_all hD hS hA
  refine va_callv (va_runV (As := [.ref (ad 5 x2), .int x3, .int x4]) (rest := []) ⟨hx, hb, hml, hown, hts⟩ (g_cRw_writeAll l D H.size (ad := ad) (cc := cc) (sad := sad) (sav := sav) h_5) (cw_v 3 hts kw_721 kw_718 kw_719 kw_720 kw_4 rfl rfl (by decide +kernel) ⟨Nat.le_of_ble_eq_true rfl, Nat.le_of_ble_eq_true rfl⟩) ⟨c_blind, va_recv hK hP (ci := 5) (q0 := cPos N 5 j_1) rfl (cw_obj (k := 5) (by decide) hl_3), fun U hU hW => c_pre hU hW hP hK hD hev hE hN hNS hS hFc⟩ rfl rfl hl.1 rfl (lv_room (Nat.le_of_ble_eq_true rfl)) d_cSt_keepString_8 ⟨Nat.le_of_ble_eq_true rfl, Nat.le_of_ble_eq_true rfl⟩) hS (fun q _ h => hFc q h) hFc (fun u t H1 locs ht hvm hw hB hz1 hk1 hS => ?_)
  obtain ⟨hP, -, hD1⟩ := hB
  rw [ht] at hP
  have hD := hD1.weaken (fun _ q _ h => hFc q.1 h)
  generalize H1 = H at hP hS ⊢
  refine W.cs (cells' := 0) (slots' := 0) rfl rfl ?_
  refine lv_aload_n hx hb d_cSt_keepString_11 rfl (lv_at hl 1 rfl) ?_
  refine lv_iload hx hb d_cSt_keepString_12 (lv_at hl 4 rfl) ?_
  obtain ⟨hl_x1_3, Heq⟩ := gl_some Heq
  refine va_put (D := D) (ci := 3) (v := .int x4) (ty := .int) (C := R_Op) (T := F_Op) (N := 15) hx hb hts i_Op t_Op t_Op_ok n_Op hown hK hP hD hS (cPos N 3 x1) (cw_obj (k := 3) (by decide) hl_x1_3) rfl 10 (by decide) (hts _ kw_86) (fun _ h9 => h9) rfl (by decide +kernel) rfl rfl (Nat.le_of_ble_eq_true rfl) d_cSt_keepString_14 (fun H locs hP hD hS => ?_)
  have hD := (congrArg (fun w9 => va_D A w9) (cw_setI (ad := ad) (cc := cc) (S := o_4) (k := 3) (f := 10) (v := x4) (by decide) rfl hl_x1_3)).mp hD
  have hP := (congrArg (fun w9 => va_P D cls w9 H) (cw_setI (ad := ad) (cc := cc) (S := o_4) (k := 3) (f := 10) (v := x4) (by decide) rfl hl_x1_3)).mp hP
  exact Kr _ (Option.some.inj Heq).symm 17 _ _ _ d_cSt_keepString_17 hP hD hS
def m_cSt_keepString (N : Nat → Nat) (x0 : Nat) (S : CS) (x1 : Nat) (x2 : Nat) (x3 : Int32) (x4 : Int32) : Option CS := m_cSt_keepString_J0 N x0 S x1 x2 x3 x4
set_option maxHeartbeats 4000000 in
theorem g_cSt_keepString (l : Launch) (D : va_G) (sz : Nat) {ad : Nat → Nat → Nat} {cc : Nat → ClassId} {sad sav : Nat → Nat} {N : Nat → Nat} {x0 : Nat} {S : CS} {x1 : Nat} {x2 : Nat} {x3 : Int32} {x4 : Int32} {o : CS} (Heq : m_cSt_keepString N x0 S x1 x2 x3 x4 = some o) : Met l ⟨"JoinedTrees$Store", "keepString", "(LJoinedTrees$Op;LJoinedTrees$Row;II)V"⟩ (Cond.code ⟨"JoinedTrees$Store", "keepString", "(LJoinedTrees$Op;LJoinedTrees$Row;II)V"⟩ prog_10_method_5_code 5 none :: gb) ({ frames := 2, cells := 0, slots := 0, locals := 45 }) (cPc sad sav D (cw ad cc N S) (cty cc) sz [.ref (ad 8 x0), .ref (ad 3 x1), .ref (ad 5 x2), .int x3, .int x4]) (va_Qv (fun _ : Unit => True) (fun _ t => gO D (cw ad cc N o) (cty cc) (va_A (cw ad cc N S) sz) t) (va_A (cw ad cc N S) sz)) 0 0 (va_A (cw ad cc N S) sz) := by
  refine Met.ofW (cc := prog_10_method_5_code) (maxL := 5) (ret := none) (by decide) rfl ?_
  intro p e s m args below meth c s₁ B hml hv
  obtain ⟨rfl, hsz, hP, hK, hD0, hev, hE, hN⟩ := hv
  have hx := B.exec
  have hb := B.bytes
  have hr := B.returns
  have hts : ∀ w9 ∈ gb, w9.before [.ref (ad 8 x0), .ref (ad 3 x1), .ref (ad 5 x2), .int x3, .int x4].toArray s = true := fun w9 h => atoms_spec (ws := Cond.code ⟨"JoinedTrees$Store", "keepString", "(LJoinedTrees$Op;LJoinedTrees$Row;II)V"⟩ prog_10_method_5_code 5 none :: gb) B.pre w9 (List.mem_cons_of_mem _ h)
  have hown : s.vm.findClass "JoinedTrees$Store" = some m.cls := findClass_of_methodNamed B.named
  have hlocks := B.notSynchronized
  have hNS := ns_of hP
  subst hsz
  have hD := hD0.self (sz := s.heap.size)
  generalize hAe : va_A (cw ad cc N S) s.heap.size = A at hD hev hE hNS ⊢
  have hA : ∀ q : Nat, s.heap.size ≤ q → A q := fun q h => by rw [← hAe]; exact Or.inr h
  have hS : va_S A s.heap s.heap [] := va_S.rf
  obtain ⟨ls, hl, hle⟩ : ∃ ls : Array Slot, lv_has ls 5 [(0, .ref (ad 8 x0)), (1, .ref (ad 3 x1)), (2, .ref (ad 5 x2)), (3, .int x3), (4, .int x4)] ∧ entryFrame m ([.ref (ad 8 x0), .ref (ad 3 x1), .ref (ad 5 x2), .int x3, .int x4] : List Value).toArray 5 = F0 m 0 ls [] := by
    exact ⟨_, lv_entry (n := 5) _ (Nat.le_of_ble_eq_true rfl), lg_entry_eq ..⟩
  rw [hle]
  refine w_cSt_keepString_J0 ⟨hx, hb, hr, hml, hown, hts, hK, hA, hev, hE, hN, hNS⟩ Heq (fun r h pc H locs ls hd hP hD hS => ?_) _ _ _ hP hD hS (lv_sub hl [0, 1, 2, 3, 4] rfl)
  subst h
  exact W.vret hx hb hr (fun t ht hW => ⟨⟨(), rfl, trivial, by rw [ht]; exact hP, va_K.moved hW.alike hK, hD⟩, hS.F ht⟩) hS.2.2 hd
def m_cJT_giveString_J22 (N : Nat → Nat) (x0 : Nat) (S : CS) : Option CS := some S
theorem d_cJT_giveString_0 : decode prog_1_method_49_code 0 = .ok (.aload_n 1, 1) := by decide +kernel
theorem d_cJT_giveString_1 : decode prog_1_method_49_code 1 = .ok (.getfield 171, 3) := by decide +kernel
theorem d_cJT_giveString_4 : decode prog_1_method_49_code 4 = .ok (.iconst 4, 1) := by decide +kernel
theorem d_cJT_giveString_5 : decode prog_1_method_49_code 5 = .ok (.if_icmp .ne 17, 3) := by decide +kernel
theorem d_cJT_giveString_22 : decode prog_1_method_49_code 22 = .ok (.return_, 1) := by decide +kernel
set_option maxHeartbeats 4000000 in
set_option maxRecDepth 100000 in
theorem w_cJT_giveString_J22 {p : Program} {l : Launch} {e : Env} {s : State} {m : MethodId} {args : Array Value} {below : List Frame} {meth : Method} {c : Code} {A : Nat → Prop} {D : va_G} {ad : Nat → Nat → Nat} {cc : Nat → ClassId} {sad sav : Nat → Nat} {Q : State → Prop} (hC : MCc sad sav "JoinedTrees" prog_1_method_49_code 3 none p s m args meth c A D cc) {N : Nat → Nat} {x0 : Nat} {S : CS} {o : CS} (Heq : m_cJT_giveString_J22 N x0 S = some o) (Kr : ∀ r : CS, o = r → ∀ (pc : Nat) (H : Heap) (locs : List Loc) (ls : Array Slot), decode prog_1_method_49_code pc = .ok (.return_, 1) → va_P D cls (cw ad cc N r) H → va_D A (cw ad cc N r) → va_S A s.heap H locs → W p l e ({ frames := 3, cells := 0, slots := 0, locals := 69 }) s m args below meth c H locs 0 0 Q (F0 m pc ls [])) : ∀ (H : Heap) (locs : List Loc) (ls : Array Slot), va_P D cls (cw ad cc N S) H → va_D A (cw ad cc N S) → va_S A s.heap H locs → lv_has ls 3 [(0, .ref (ad 11 x0))] → W p l e ({ frames := 3, cells := 0, slots := 0, locals := 69 }) s m args below meth c H locs 0 0 Q (F0 m 22 ls []) := by
  intro H locs ls hP hD hS hl
  obtain ⟨hx, hb, hr, hml, hown, hts, hK, hA, hev, hE, hN, hNS⟩ := id hC
  unfold m_cJT_giveString_J22 at Heq
  exact Kr _ (Option.some.inj Heq).symm 22 _ _ _ d_cJT_giveString_22 hP hD hS
def m_cJT_giveString_J0 (N : Nat → Nat) (x0 : Nat) (S : CS) (x1 : Nat) (x2 : Nat) : Option CS := gl x1 (N 3) ((if S.i 3 2 x1 = 4 then gl x0 (N 11) (gl x2 (N 5) (gn (S.r 11 0 x0) (N 8) (fun j_2 => ob (m_cSt_keepString N j_2 S x1 x2 0 (S.i 5 1 x2)) (fun o_5 => m_cJT_giveString_J22 N x0 o_5)))) else m_cJT_giveString_J22 N x0 S))
theorem d_cJT_giveString_8 : decode prog_1_method_49_code 8 = .ok (.aload_n 0, 1) := by decide +kernel
theorem d_cJT_giveString_9 : decode prog_1_method_49_code 9 = .ok (.getfield 12, 3) := by decide +kernel
theorem d_cJT_giveString_12 : decode prog_1_method_49_code 12 = .ok (.aload_n 1, 1) := by decide +kernel
theorem d_cJT_giveString_13 : decode prog_1_method_49_code 13 = .ok (.aload_n 2, 1) := by decide +kernel
theorem d_cJT_giveString_14 : decode prog_1_method_49_code 14 = .ok (.iconst 0, 1) := by decide +kernel
theorem d_cJT_giveString_15 : decode prog_1_method_49_code 15 = .ok (.aload_n 2, 1) := by decide +kernel
theorem d_cJT_giveString_16 : decode prog_1_method_49_code 16 = .ok (.getfield 80, 3) := by decide +kernel
theorem d_cJT_giveString_19 : decode prog_1_method_49_code 19 = .ok (.invokevirtual 437, 3) := by decide +kernel
set_option maxHeartbeats 4000000 in
set_option maxRecDepth 100000 in
theorem w_cJT_giveString_J0 {p : Program} {l : Launch} {e : Env} {s : State} {m : MethodId} {args : Array Value} {below : List Frame} {meth : Method} {c : Code} {A : Nat → Prop} {D : va_G} {ad : Nat → Nat → Nat} {cc : Nat → ClassId} {sad sav : Nat → Nat} {Q : State → Prop} (hC : MCc sad sav "JoinedTrees" prog_1_method_49_code 3 none p s m args meth c A D cc) {N : Nat → Nat} {x0 : Nat} {S : CS} {x1 : Nat} {x2 : Nat} {o : CS} (Heq : m_cJT_giveString_J0 N x0 S x1 x2 = some o) (Kr : ∀ r : CS, o = r → ∀ (pc : Nat) (H : Heap) (locs : List Loc) (ls : Array Slot), decode prog_1_method_49_code pc = .ok (.return_, 1) → va_P D cls (cw ad cc N r) H → va_D A (cw ad cc N r) → va_S A s.heap H locs → W p l e ({ frames := 3, cells := 0, slots := 0, locals := 69 }) s m args below meth c H locs 0 0 Q (F0 m pc ls [])) : ∀ (H : Heap) (locs : List Loc) (ls : Array Slot), va_P D cls (cw ad cc N S) H → va_D A (cw ad cc N S) → va_S A s.heap H locs → lv_has ls 3 [(0, .ref (ad 11 x0)), (1, .ref (ad 3 x1)), (2, .ref (ad 5 x2))] → W p l e ({ frames := 3, cells := 0, slots := 0, locals := 69 }) s m args below meth c H locs 0 0 Q (F0 m 0 ls []) := by
  intro H locs ls hP hD hS hl
  obtain ⟨hx, hb, hr, hml, hown, hts, hK, hA, hev, hE, hN, hNS⟩ := id hC
  unfold m_cJT_giveString_J0 at Heq
  refine lv_aload_n hx hb d_cJT_giveString_0 rfl (lv_at hl 1 rfl) ?_
  obtain ⟨hl_x1_3, Heq⟩ := gl_some Heq
  refine va_get (D := D) (ci := 3) (v := .int (S.i 3 2 x1)) (C := R_Op) (T := F_Op) (N := 15) hx hb hts i_Op hown hK hP (cPos N 3 x1) (cw_obj (k := 3) (by decide) hl_x1_3) rfl 2 (by decide) (hts _ kw_62) (fun _ h9 => h9) rfl d_cJT_giveString_1 ?_
  refine lv_iconst (v := 4) hx hb d_cJT_giveString_4 (by decide) ?_
  refine lv_icmp_ne (tgt := 22) hx hb d_cJT_giveString_5 (by decide) (fun c_1 => ?_) (fun c_1 => ?_)
  · replace Heq := (if_neg c_1).symm.trans Heq
    exact w_cJT_giveString_J22 hC Heq Kr _ _ _ hP hD hS (lv_sub hl [0] rfl)
  · replace Heq := (if_pos c_1).symm.trans Heq
    refine lv_aload_n hx hb d_cJT_giveString_8 rfl (lv_at hl 0 rfl) ?_
    obtain ⟨hl_x0_11, Heq⟩ := gl_some Heq
    refine va_get (D := D) (ci := 11) (v := rv ad 8 (S.r 11 0 x0)) (C := R_JT) (T := F_JT) (N := 13) hx hb hts i_JT hown hK hP (cPos N 11 x0) (cw_obj (k := 11) (by decide) hl_x0_11) rfl 0 (by decide) (hts _ kw_421) (fun _ h9 => h9) rfl d_cJT_giveString_9 ?_
    refine lv_aload_n hx hb d_cJT_giveString_12 rfl (lv_at hl 1 rfl) ?_
    refine lv_aload_n hx hb d_cJT_giveString_13 rfl (lv_at hl 2 rfl) ?_
    refine lv_iconst (v := 0) hx hb d_cJT_giveString_14 (by decide) ?_
    refine lv_aload_n hx hb d_cJT_giveString_15 rfl (lv_at hl 2 rfl) ?_
    obtain ⟨hl_x2_5, Heq⟩ := gl_some Heq
    refine va_get (D := D) (ci := 5) (v := .int (S.i 5 1 x2)) (C := R_Rw) (T := F_Rw) (N := 3) hx hb hts i_Rw hown hK hP (cPos N 5 x2) (cw_obj (k := 5) (by decide) hl_x2_5) rfl 1 (by decide) (hts _ kw_143) (fun _ h9 => h9) rfl d_cJT_giveString_16 ?_
    obtain ⟨j_2, hj_3, hl_4, Heq⟩ := gn_some Heq
    refine w_s (st' := [.int (S.i 5 1 x2), .int 0, .ref (ad 5 x2), .ref (ad 3 x1), .ref (ad 8 j_2)]) (congrArg (fun z9 : Option Nat => [.int (S.i 5 1 x2), .int 0, .ref (ad 5 x2), .ref (ad 3 x1), rv ad 8 z9]) hj_3) ?_
    obtain ⟨o_5, h_6, Heq⟩ := ob_some Heq
    have hFc := fr_all hD hS hA
    refine va_callv (va_runV (As := [.ref (ad 3 x1), .ref (ad 5 x2), .int 0, .int (S.i 5 1 x2)]) (rest := []) ⟨hx, hb, hml, hown, hts⟩ (g_cSt_keepString l D H.size (ad := ad) (cc := cc) (sad := sad) (sav := sav) h_6) (cw_v 4 hts kw_765 kw_762 kw_763 kw_764 kw_2 rfl rfl (by decide +kernel) ⟨Nat.le_of_ble_eq_true rfl, Nat.le_of_ble_eq_true rfl⟩) ⟨c_blind, va_recv hK hP (ci := 8) (q0 := cPos N 8 j_2) rfl (cw_obj (k := 8) (by decide) hl_4), fun U hU hW => c_pre hU hW hP hK hD hev hE hN hNS hS hFc⟩ rfl rfl hl.1 rfl (lv_room (Nat.le_of_ble_eq_true rfl)) d_cJT_giveString_19 ⟨Nat.le_of_ble_eq_true rfl, Nat.le_of_ble_eq_true rfl⟩) hS (fun q _ h => hFc q h) hFc (fun u t H1 locs ht hvm hw hB hz1 hk1 hS => ?_)
    obtain ⟨hP, -, hD1⟩ := hB
    rw [ht] at hP
    have hD := hD1.weaken (fun _ q _ h => hFc q.1 h)
    generalize H1 = H at hP hS ⊢
    refine W.cs (cells' := 0) (slots' := 0) rfl rfl ?_
    exact w_cJT_giveString_J22 hC Heq Kr _ _ _ hP hD hS (lv_sub hl [0] rfl)
def m_cJT_giveString (N : Nat → Nat) (x0 : Nat) (S : CS) (x1 : Nat) (x2 : Nat) : Option CS := m_cJT_giveString_J0 N x0 S x1 x2
set_option maxHeartbeats 4000000 in
theorem g_cJT_giveString (l : Launch) (D : va_G) (sz : Nat) {ad : Nat → Nat → Nat} {cc : Nat → ClassId} {sad sav : Nat → Nat} {N : Nat → Nat} {x0 : Nat} {S : CS} {x1 : Nat} {x2 : Nat} {o : CS} (Heq : m_cJT_giveString N x0 S x1 x2 = some o) : Met l ⟨"JoinedTrees", "giveString", "(LJoinedTrees$Op;LJoinedTrees$Row;)V"⟩ (Cond.code ⟨"JoinedTrees", "giveString", "(LJoinedTrees$Op;LJoinedTrees$Row;)V"⟩ prog_1_method_49_code 3 none :: gb) ({ frames := 3, cells := 0, slots := 0, locals := 69 }) (cPc sad sav D (cw ad cc N S) (cty cc) sz [.ref (ad 11 x0), .ref (ad 3 x1), .ref (ad 5 x2)]) (va_Qv (fun _ : Unit => True) (fun _ t => gO D (cw ad cc N o) (cty cc) (va_A (cw ad cc N S) sz) t) (va_A (cw ad cc N S) sz)) 0 0 (va_A (cw ad cc N S) sz) := by
  refine Met.ofW (cc := prog_1_method_49_code) (maxL := 3) (ret := none) (by decide) rfl ?_
  intro p e s m args below meth c s₁ B hml hv
  obtain ⟨rfl, hsz, hP, hK, hD0, hev, hE, hN⟩ := hv
  have hx := B.exec
  have hb := B.bytes
  have hr := B.returns
  have hts : ∀ w9 ∈ gb, w9.before [.ref (ad 11 x0), .ref (ad 3 x1), .ref (ad 5 x2)].toArray s = true := fun w9 h => atoms_spec (ws := Cond.code ⟨"JoinedTrees", "giveString", "(LJoinedTrees$Op;LJoinedTrees$Row;)V"⟩ prog_1_method_49_code 3 none :: gb) B.pre w9 (List.mem_cons_of_mem _ h)
  have hown : s.vm.findClass "JoinedTrees" = some m.cls := findClass_of_methodNamed B.named
  have hlocks := B.notSynchronized
  have hNS := ns_of hP
  subst hsz
  have hD := hD0.self (sz := s.heap.size)
  generalize hAe : va_A (cw ad cc N S) s.heap.size = A at hD hev hE hNS ⊢
  have hA : ∀ q : Nat, s.heap.size ≤ q → A q := fun q h => by rw [← hAe]; exact Or.inr h
  have hS : va_S A s.heap s.heap [] := va_S.rf
  obtain ⟨ls, hl, hle⟩ : ∃ ls : Array Slot, lv_has ls 3 [(0, .ref (ad 11 x0)), (1, .ref (ad 3 x1)), (2, .ref (ad 5 x2))] ∧ entryFrame m ([.ref (ad 11 x0), .ref (ad 3 x1), .ref (ad 5 x2)] : List Value).toArray 3 = F0 m 0 ls [] := by
    exact ⟨_, lv_entry (n := 3) _ (Nat.le_of_ble_eq_true rfl), lg_entry_eq ..⟩
  rw [hle]
  refine w_cJT_giveString_J0 ⟨hx, hb, hr, hml, hown, hts, hK, hA, hev, hE, hN, hNS⟩ Heq (fun r h pc H locs ls hd hP hD hS => ?_) _ _ _ hP hD hS (lv_sub hl [0, 1, 2] rfl)
  subst h
  exact W.vret hx hb hr (fun t ht hW => ⟨⟨(), rfl, trivial, by rw [ht]; exact hP, va_K.moved hW.alike hK, hD⟩, hS.F ht⟩) hS.2.2 hd
def m_cVw_top_J22 (N : Nat → Nat) (x0 : Nat) (S : CS) (t0 : Option Nat) : Option (CS × Option Nat) := some (S, t0)
theorem d_cVw_top_0 : decode prog_12_method_9_code 0 = .ok (.aload_n 0, 1) := by decide +kernel
theorem d_cVw_top_1 : decode prog_12_method_9_code 1 = .ok (.aload_n 1, 1) := by decide +kernel
theorem d_cVw_top_2 : decode prog_12_method_9_code 2 = .ok (.invokevirtual 93, 3) := by decide +kernel
theorem d_cVw_top_5 : decode prog_12_method_9_code 5 = .ok (.aload_n 0, 1) := by decide +kernel
theorem d_cVw_top_6 : decode prog_12_method_9_code 6 = .ok (.getfield 66, 3) := by decide +kernel
theorem d_cVw_top_9 : decode prog_12_method_9_code 9 = .ok (.ifCond .ne 7, 3) := by decide +kernel
theorem d_cVw_top_16 : decode prog_12_method_9_code 16 = .ok (.aload_n 0, 1) := by decide +kernel
theorem d_cVw_top_17 : decode prog_12_method_9_code 17 = .ok (.getfield 17, 3) := by decide +kernel
theorem d_cVw_top_20 : decode prog_12_method_9_code 20 = .ok (.iconst 0, 1) := by decide +kernel
theorem d_cVw_top_21 : decode prog_12_method_9_code 21 = .ok (.aaload, 1) := by decide +kernel
theorem d_cVw_top_22 : decode prog_12_method_9_code 22 = .ok (.areturn, 1) := by decide +kernel
set_option maxHeartbeats 4000000 in
set_option maxRecDepth 100000 in
theorem w_cVw_top_J22 {p : Program} {l : Launch} {e : Env} {s : State} {m : MethodId} {args : Array Value} {below : List Frame} {meth : Method} {c : Code} {A : Nat → Prop} {D : va_G} {ad : Nat → Nat → Nat} {cc : Nat → ClassId} {sad sav : Nat → Nat} {Q : State → Prop} (hC : MCc sad sav "JoinedTrees$View" prog_12_method_9_code 2 (some (.object "JoinedTrees$Op")) p s m args meth c A D cc) {N : Nat → Nat} {x0 : Nat} {S : CS} {t0 : Option Nat} {o : CS × Option Nat} (Heq : m_cVw_top_J22 N x0 S t0 = some o) (Kr : ∀ r : CS × Option Nat, o = r → ∀ (pc : Nat) (H : Heap) (locs : List Loc) (ls : Array Slot), decode prog_12_method_9_code pc = .ok (.areturn, 1) → va_P D cls (cw ad cc N r.1) H → va_D A (cw ad cc N r.1) → va_S A s.heap H locs → W p l e ({ frames := 2, cells := 0, slots := 0, locals := 44 }) s m args below meth c H locs 0 0 Q (F0 m pc ls [rv ad 3 r.2])) : ∀ (H : Heap) (locs : List Loc) (ls : Array Slot), va_P D cls (cw ad cc N S) H → va_D A (cw ad cc N S) → va_S A s.heap H locs → lv_has ls 2 [(0, .ref (ad 10 x0))] → W p l e ({ frames := 2, cells := 0, slots := 0, locals := 44 }) s m args below meth c H locs 0 0 Q (F0 m 22 ls [rv ad 3 t0]) := by
  intro H locs ls hP hD hS hl
  obtain ⟨hx, hb, hr, hml, hown, hts, hK, hA, hev, hE, hN, hNS⟩ := id hC
  unfold m_cVw_top_J22 at Heq
  exact Kr _ (Option.some.inj Heq).symm 22 _ _ _ d_cVw_top_22 hP hD hS
def m_cVw_top_J0 (N : Nat → Nat) (x0 : Nat) (S : CS) (x1 : Nat) : Option (CS × Option Nat) := gl x1 (N 7) (gl x0 (N 10) (ob (m_cVw_gather N x0 S x1) (fun o_1 => (if o_1.i 10 3 x0 = 0 then m_cVw_top_J22 N x0 o_1 none else gn (o_1.r 10 2 x0) (N 15) (fun j_4 => gd 0 (o_1.z 15 j_4) (m_cVw_top_J22 N x0 o_1 (o_1.q 15 j_4 ((0 : Int32).toNatClampNeg))))))))
theorem d_cVw_top_12 : decode prog_12_method_9_code 12 = .ok (.aconst_null, 1) := by decide +kernel
theorem d_cVw_top_13 : decode prog_12_method_9_code 13 = .ok (.goto 9, 3) := by decide +kernel
set_option maxHeartbeats 4000000 in
set_option maxRecDepth 100000 in
theorem w_cVw_top_J0 {p : Program} {l : Launch} {e : Env} {s : State} {m : MethodId} {args : Array Value} {below : List Frame} {meth : Method} {c : Code} {A : Nat → Prop} {D : va_G} {ad : Nat → Nat → Nat} {cc : Nat → ClassId} {sad sav : Nat → Nat} {Q : State → Prop} (hC : MCc sad sav "JoinedTrees$View" prog_12_method_9_code 2 (some (.object "JoinedTrees$Op")) p s m args meth c A D cc) {N : Nat → Nat} {x0 : Nat} {S : CS} {x1 : Nat} {o : CS × Option Nat} (Heq : m_cVw_top_J0 N x0 S x1 = some o) (Kr : ∀ r : CS × Option Nat, o = r → ∀ (pc : Nat) (H : Heap) (locs : List Loc) (ls : Array Slot), decode prog_12_method_9_code pc = .ok (.areturn, 1) → va_P D cls (cw ad cc N r.1) H → va_D A (cw ad cc N r.1) → va_S A s.heap H locs → W p l e ({ frames := 2, cells := 0, slots := 0, locals := 44 }) s m args below meth c H locs 0 0 Q (F0 m pc ls [rv ad 3 r.2])) : ∀ (H : Heap) (locs : List Loc) (ls : Array Slot), va_P D cls (cw ad cc N S) H → va_D A (cw ad cc N S) → va_S A s.heap H locs → lv_has ls 2 [(0, .ref (ad 10 x0)), (1, .ref (ad 7 x1))] → W p l e ({ frames := 2, cells := 0, slots := 0, locals := 44 }) s m args below meth c H locs 0 0 Q (F0 m 0 ls []) := by
  intro H locs ls hP hD hS hl
  obtain ⟨hx, hb, hr, hml, hown, hts, hK, hA, hev, hE, hN, hNS⟩ := id hC
  unfold m_cVw_top_J0 at Heq
  refine lv_aload_n hx hb d_cVw_top_0 rfl (lv_at hl 0 rfl) ?_
  refine lv_aload_n hx hb d_cVw_top_1 rfl (lv_at hl 1 rfl) ?_
  obtain ⟨hl_x1_7, Heq⟩ := gl_some Heq
  obtain ⟨hl_x0_10, Heq⟩ := gl_some Heq
  obtain ⟨o_1, h_2, Heq⟩ := ob_some Heq
  have hFc := fr_all hD hS hA
  refine va_callv (va_runV (As := [.ref (ad 7 x1)]) (rest := []) ⟨hx, hb, hml, hown, hts⟩ (g_cVw_gather l D H.size (ad := ad) (cc := cc) (sad := sad) (sav := sav) h_2) (cw_v 1 hts kw_697 kw_785 kw_695 kw_696 kw_6 rfl rfl (by decide +kernel) ⟨Nat.le_of_ble_eq_true rfl, Nat.le_of_ble_eq_true rfl⟩) ⟨c_blind, va_recv hK hP (ci := 10) (q0 := cPos N 10 x0) rfl (cw_obj (k := 10) (by decide) hl_x0_10), fun U hU hW => c_pre hU hW hP hK hD hev hE hN hNS hS hFc⟩ rfl rfl hl.1 rfl (lv_room (Nat.le_of_ble_eq_true rfl)) d_cVw_top_2 ⟨Nat.le_of_ble_eq_true rfl, Nat.le_of_ble_eq_true rfl⟩) hS (fun q _ h => hFc q h) hFc (fun u t H1 locs ht hvm hw hB hz1 hk1 hS => ?_)
  obtain ⟨hP, -, hD1⟩ := hB
  rw [ht] at hP
  have hD := hD1.weaken (fun _ q _ h => hFc q.1 h)
  generalize H1 = H at hP hS ⊢
  refine W.cs (cells' := 0) (slots' := 0) rfl rfl ?_
  refine lv_aload_n hx hb d_cVw_top_5 rfl (lv_at hl 0 rfl) ?_
  refine va_get (D := D) (ci := 10) (v := .int (o_1.i 10 3 x0)) (C := R_Vw) (T := F_Vw) (N := 5) hx hb hts i_Vw hown hK hP (cPos N 10 x0) (cw_obj (k := 10) (by decide) hl_x0_10) rfl 3 (by decide) (hts _ kw_266) (fun _ h9 => h9) rfl d_cVw_top_6 ?_
  refine lv_if_ne (tgt := 16) hx hb d_cVw_top_9 (by decide) (fun c_3 => ?_) (fun c_3 => ?_)
  · replace Heq := (if_neg c_3).symm.trans Heq
    refine lv_aload_n hx hb d_cVw_top_16 rfl (lv_at hl 0 rfl) ?_
    refine va_get (D := D) (ci := 10) (v := rv ad 15 (o_1.r 10 2 x0)) (C := R_Vw) (T := F_Vw) (N := 5) hx hb hts i_Vw hown hK hP (cPos N 10 x0) (cw_obj (k := 10) (by decide) hl_x0_10) rfl 2 (by decide) (hts _ kw_264) (fun _ h9 => h9) rfl d_cVw_top_17 ?_
    refine lv_iconst (v := 0) hx hb d_cVw_top_20 (by decide) ?_
    obtain ⟨j_4, hj_5, hl_6, Heq⟩ := gn_some Heq
    refine w_s (st' := [.int 0, .ref (ad 15 j_4)]) (congrArg (fun z9 : Option Nat => [.int 0, rv ad 15 z9]) hj_5) ?_
    obtain ⟨hi_7, Heq⟩ := gd_some Heq
    refine va_aldq hx hb hK hP (cPos N 15 j_4) 3 (cw_refs (k := 15) (by decide) hl_6) rfl (i := 0) hi_7 d_cVw_top_21 ?_
    refine w_v (y := rv ad 3 (o_1.q 15 j_4 ((0 : Int32).toNatClampNeg))) (congrArg (rv ad 3) rfl) ?_
    exact w_cVw_top_J22 hC Heq Kr _ _ _ hP hD hS (lv_sub hl [0] rfl)
  · replace Heq := (if_pos c_3).symm.trans Heq
    refine lv_null hx hb d_cVw_top_12 ?_
    refine lv_goto (tgt := 22) hx hb d_cVw_top_13 (by decide) ?_
    exact w_cVw_top_J22 hC Heq Kr _ _ _ hP hD hS (lv_sub hl [0] rfl)
def m_cVw_top (N : Nat → Nat) (x0 : Nat) (S : CS) (x1 : Nat) : Option (CS × Option Nat) := m_cVw_top_J0 N x0 S x1
set_option maxHeartbeats 4000000 in
theorem g_cVw_top (l : Launch) (D : va_G) (sz : Nat) {ad : Nat → Nat → Nat} {cc : Nat → ClassId} {sad sav : Nat → Nat} {N : Nat → Nat} {x0 : Nat} {S : CS} {x1 : Nat} {o : CS × Option Nat} (Heq : m_cVw_top N x0 S x1 = some o) : Met l ⟨"JoinedTrees$View", "top", "(LJoinedTrees$Spot;)LJoinedTrees$Op;"⟩ (Cond.code ⟨"JoinedTrees$View", "top", "(LJoinedTrees$Spot;)LJoinedTrees$Op;"⟩ prog_12_method_9_code 2 (some (.object "JoinedTrees$Op")) :: gb) ({ frames := 2, cells := 0, slots := 0, locals := 44 }) (cPc sad sav D (cw ad cc N S) (cty cc) sz [.ref (ad 10 x0), .ref (ad 7 x1)]) (va_Qq (fun (r : Option Nat) (_ : Unit) => r = o.2.map (ad 3)) (fun _ t => gO D (cw ad cc N o.1) (cty cc) (va_A (cw ad cc N S) sz) t) (va_A (cw ad cc N S) sz)) 0 0 (va_A (cw ad cc N S) sz) := by
  refine Met.ofW (cc := prog_12_method_9_code) (maxL := 2) (ret := (some (.object "JoinedTrees$Op"))) (by decide) rfl ?_
  intro p e s m args below meth c s₁ B hml hv
  obtain ⟨rfl, hsz, hP, hK, hD0, hev, hE, hN⟩ := hv
  have hx := B.exec
  have hb := B.bytes
  have hr := B.returns
  have hts : ∀ w9 ∈ gb, w9.before [.ref (ad 10 x0), .ref (ad 7 x1)].toArray s = true := fun w9 h => atoms_spec (ws := Cond.code ⟨"JoinedTrees$View", "top", "(LJoinedTrees$Spot;)LJoinedTrees$Op;"⟩ prog_12_method_9_code 2 (some (.object "JoinedTrees$Op")) :: gb) B.pre w9 (List.mem_cons_of_mem _ h)
  have hown : s.vm.findClass "JoinedTrees$View" = some m.cls := findClass_of_methodNamed B.named
  have hlocks := B.notSynchronized
  have hNS := ns_of hP
  subst hsz
  have hD := hD0.self (sz := s.heap.size)
  generalize hAe : va_A (cw ad cc N S) s.heap.size = A at hD hev hE hNS ⊢
  have hA : ∀ q : Nat, s.heap.size ≤ q → A q := fun q h => by rw [← hAe]; exact Or.inr h
  have hS : va_S A s.heap s.heap [] := va_S.rf
  obtain ⟨ls, hl, hle⟩ : ∃ ls : Array Slot, lv_has ls 2 [(0, .ref (ad 10 x0)), (1, .ref (ad 7 x1))] ∧ entryFrame m ([.ref (ad 10 x0), .ref (ad 7 x1)] : List Value).toArray 2 = F0 m 0 ls [] := by
    exact ⟨_, lv_entry (n := 2) _ (Nat.le_of_ble_eq_true rfl), lg_entry_eq ..⟩
  rw [hle]
  refine w_cVw_top_J0 ⟨hx, hb, hr, hml, hown, hts, hK, hA, hev, hE, hN, hNS⟩ Heq (fun r h pc H locs ls hd hP hD hS => ?_) _ _ _ hP hD hS (lv_sub hl [0, 1] rfl)
  subst h
  exact W.aret hx hb hr (Or.inl ⟨_, rfl⟩) (va_rf_or _) (fun t ht hW => ⟨⟨_, (), rfl, rfl, by rw [ht]; exact hP, va_K.moved hW.alike hK, hD⟩, hS.F ht⟩) hS.2.2 hd
def m_cVw_spotAt_J36 (N : Nat → Nat) (x0 : Nat) (S : CS) (x3 : Int32) (x4 : Option Nat) : Option ((CS × Int32 × Option Nat) ⊕ (CS ⊕ (CS × Option Nat))) := gn x4 (N 7) (fun j_1 => some (.inl (S, x3, (S.r 7 2 j_1))))
theorem d_cVw_spotAt_0 : decode prog_12_method_13_code 0 = .ok (.iload_n 2, 1) := by decide +kernel
theorem d_cVw_spotAt_1 : decode prog_12_method_13_code 1 = .ok (.istore_n 3, 1) := by decide +kernel
theorem d_cVw_spotAt_2 : decode prog_12_method_13_code 2 = .ok (.aload_n 1, 1) := by decide +kernel
theorem d_cVw_spotAt_3 : decode prog_12_method_13_code 3 = .ok (.getfield 112, 3) := by decide +kernel
theorem d_cVw_spotAt_6 : decode prog_12_method_13_code 6 = .ok (.astore 4, 2) := by decide +kernel
theorem d_cVw_spotAt_8 : decode prog_12_method_13_code 8 = .ok (.aload 4, 2) := by decide +kernel
theorem d_cVw_spotAt_10 : decode prog_12_method_13_code 10 = .ok (.ifnull 36, 3) := by decide +kernel
theorem d_cVw_spotAt_13 : decode prog_12_method_13_code 13 = .ok (.iload_n 3, 1) := by decide +kernel
theorem d_cVw_spotAt_14 : decode prog_12_method_13_code 14 = .ok (.ifCond .lt 32, 3) := by decide +kernel
theorem d_cVw_spotAt_17 : decode prog_12_method_13_code 17 = .ok (.aload_n 0, 1) := by decide +kernel
theorem d_cVw_spotAt_18 : decode prog_12_method_13_code 18 = .ok (.aload 4, 2) := by decide +kernel
theorem d_cVw_spotAt_20 : decode prog_12_method_13_code 20 = .ok (.invokevirtual 115, 3) := by decide +kernel
theorem d_cVw_spotAt_23 : decode prog_12_method_13_code 23 = .ok (.ifnull 13, 3) := by decide +kernel
theorem d_cVw_spotAt_36 : decode prog_12_method_13_code 36 = .ok (.aload 4, 2) := by decide +kernel
theorem d_cVw_spotAt_38 : decode prog_12_method_13_code 38 = .ok (.getfield 119, 3) := by decide +kernel
theorem d_cVw_spotAt_41 : decode prog_12_method_13_code 41 = .ok (.astore 4, 2) := by decide +kernel
theorem d_cVw_spotAt_43 : decode prog_12_method_13_code 43 = .ok (.goto (-35), 3) := by decide +kernel
set_option maxHeartbeats 4000000 in
set_option maxRecDepth 100000 in
theorem w_cVw_spotAt_J36 {p : Program} {l : Launch} {e : Env} {s : State} {m : MethodId} {args : Array Value} {below : List Frame} {meth : Method} {c : Code} {A : Nat → Prop} {D : va_G} {ad : Nat → Nat → Nat} {cc : Nat → ClassId} {sad sav : Nat → Nat} {Q : State → Prop} (hC : MCc sad sav "JoinedTrees$View" prog_12_method_13_code 5 (some (.object "JoinedTrees$Spot")) p s m args meth c A D cc) {N : Nat → Nat} {x0 : Nat} {S : CS} {x3 : Int32} {x4 : Option Nat} {o : ((CS × Int32 × Option Nat) ⊕ (CS ⊕ (CS × Option Nat)))} (Heq : m_cVw_spotAt_J36 N x0 S x3 x4 = some o) (Ka : ∀ b : CS × Int32 × Option Nat, o = .inl b → ∀ (H : Heap) (locs : List Loc) (ls : Array Slot), va_P D cls (cw ad cc N b.1) H → va_D A (cw ad cc N b.1) → va_S A s.heap H locs → lv_has ls 5 [(0, .ref (ad 10 x0)), (3, .int b.2.1), (4, rv ad 7 b.2.2)] → W p l e ({ frames := 3, cells := 0, slots := 0, locals := 65 }) s m args below meth c H locs 0 0 Q (F0 m 8 ls [])) (K0 : ∀ b : CS, o = .inr (.inl b) → ∀ (H : Heap) (locs : List Loc) (ls : Array Slot), va_P D cls (cw ad cc N b) H → va_D A (cw ad cc N b) → va_S A s.heap H locs → lv_has ls 5 [(0, .ref (ad 10 x0))] → W p l e ({ frames := 3, cells := 0, slots := 0, locals := 65 }) s m args below meth c H locs 0 0 Q (F0 m 46 ls [])) (Kr : ∀ r : CS × Option Nat, o = .inr (.inr r) → ∀ (pc : Nat) (H : Heap) (locs : List Loc) (ls : Array Slot), decode prog_12_method_13_code pc = .ok (.areturn, 1) → va_P D cls (cw ad cc N r.1) H → va_D A (cw ad cc N r.1) → va_S A s.heap H locs → W p l e ({ frames := 3, cells := 0, slots := 0, locals := 65 }) s m args below meth c H locs 0 0 Q (F0 m pc ls [rv ad 7 r.2])) : ∀ (H : Heap) (locs : List Loc) (ls : Array Slot), va_P D cls (cw ad cc N S) H → va_D A (cw ad cc N S) → va_S A s.heap H locs → lv_has ls 5 [(0, .ref (ad 10 x0)), (3, .int x3), (4, rv ad 7 x4)] → W p l e ({ frames := 3, cells := 0, slots := 0, locals := 65 }) s m args below meth c H locs 0 0 Q (F0 m 36 ls []) := by
  intro H locs ls hP hD hS hl
  obtain ⟨hx, hb, hr, hml, hown, hts, hK, hA, hev, hE, hN, hNS⟩ := id hC
  unfold m_cVw_spotAt_J36 at Heq
  refine tx_aload (x := x4.map (ad 7)) hx hb d_cVw_spotAt_36 (lv_at hl 2 rfl) ?_
  refine w_v (y := rv ad 7 x4) rfl ?_
  obtain ⟨j_1, hj_2, hl_3, Heq⟩ := gn_some Heq
  refine w_s (st' := [.ref (ad 7 j_1)]) (congrArg (fun z9 : Option Nat => [rv ad 7 z9]) hj_2) ?_
  refine va_get (D := D) (ci := 7) (v := rv ad 7 (S.r 7 2 j_1)) (C := R_Sp) (T := F_Sp) (N := 3) hx hb hts i_Sp hown hK hP (cPos N 7 j_1) (cw_obj (k := 7) (by decide) hl_3) rfl 2 (by decide) (hts _ kw_748) (fun _ h9 => h9) rfl d_cVw_spotAt_38 ?_
  refine tx_astore (x := (S.r 7 2 j_1).map (ad 7)) (lv' := [(4, rv ad 7 (S.r 7 2 j_1)), (0, .ref (ad 10 x0)), (3, .int x3)]) hx hb d_cVw_spotAt_41 hl (by decide) rfl (fun ls hl => ?_)
  refine lv_goto (tgt := 8) hx hb d_cVw_spotAt_43 (by decide) ?_
  exact Ka _ (Option.some.inj Heq).symm _ _ _ hP hD hS (lv_sub hl [1, 2, 0] rfl)
def m_cVw_spotAt_B8 (N : Nat → Nat) (x0 : Nat) (S : CS) (x3 : Int32) (x4 : Option Nat) : Option ((CS × Int32 × Option Nat) ⊕ (CS ⊕ (CS × Option Nat))) := on x4 (some (.inr (.inl (S)))) (fun j_1 => (if x3 < 0 then some (.inr (.inl (S))) else gl j_1 (N 7) (gl x0 (N 10) (ob (m_cVw_top N x0 S j_1) (fun o_4 => on o_4.2 (m_cVw_spotAt_J36 N x0 o_4.1 x3 x4) (fun j_6 => (if x3 = 0 then some (.inr (.inr (o_4.1, x4))) else m_cVw_spotAt_J36 N x0 o_4.1 (x3 + (-1)) x4)))))))
theorem d_cVw_spotAt_26 : decode prog_12_method_13_code 26 = .ok (.iload_n 3, 1) := by decide +kernel
theorem d_cVw_spotAt_27 : decode prog_12_method_13_code 27 = .ok (.ifCond .ne 6, 3) := by decide +kernel
theorem d_cVw_spotAt_33 : decode prog_12_method_13_code 33 = .ok (.iinc 3 (-1), 3) := by decide +kernel
theorem d_cVw_spotAt_30 : decode prog_12_method_13_code 30 = .ok (.aload 4, 2) := by decide +kernel
theorem d_cVw_spotAt_32 : decode prog_12_method_13_code 32 = .ok (.areturn, 1) := by decide +kernel
set_option maxHeartbeats 4000000 in
set_option maxRecDepth 100000 in
theorem w_cVw_spotAt_B8 {p : Program} {l : Launch} {e : Env} {s : State} {m : MethodId} {args : Array Value} {below : List Frame} {meth : Method} {c : Code} {A : Nat → Prop} {D : va_G} {ad : Nat → Nat → Nat} {cc : Nat → ClassId} {sad sav : Nat → Nat} {Q : State → Prop} (hC : MCc sad sav "JoinedTrees$View" prog_12_method_13_code 5 (some (.object "JoinedTrees$Spot")) p s m args meth c A D cc) {N : Nat → Nat} {x0 : Nat} {S : CS} {x3 : Int32} {x4 : Option Nat} {o : ((CS × Int32 × Option Nat) ⊕ (CS ⊕ (CS × Option Nat)))} (Heq : m_cVw_spotAt_B8 N x0 S x3 x4 = some o) (Ka : ∀ b : CS × Int32 × Option Nat, o = .inl b → ∀ (H : Heap) (locs : List Loc) (ls : Array Slot), va_P D cls (cw ad cc N b.1) H → va_D A (cw ad cc N b.1) → va_S A s.heap H locs → lv_has ls 5 [(0, .ref (ad 10 x0)), (3, .int b.2.1), (4, rv ad 7 b.2.2)] → W p l e ({ frames := 3, cells := 0, slots := 0, locals := 65 }) s m args below meth c H locs 0 0 Q (F0 m 8 ls [])) (K0 : ∀ b : CS, o = .inr (.inl b) → ∀ (H : Heap) (locs : List Loc) (ls : Array Slot), va_P D cls (cw ad cc N b) H → va_D A (cw ad cc N b) → va_S A s.heap H locs → lv_has ls 5 [(0, .ref (ad 10 x0))] → W p l e ({ frames := 3, cells := 0, slots := 0, locals := 65 }) s m args below meth c H locs 0 0 Q (F0 m 46 ls [])) (Kr : ∀ r : CS × Option Nat, o = .inr (.inr r) → ∀ (pc : Nat) (H : Heap) (locs : List Loc) (ls : Array Slot), decode prog_12_method_13_code pc = .ok (.areturn, 1) → va_P D cls (cw ad cc N r.1) H → va_D A (cw ad cc N r.1) → va_S A s.heap H locs → W p l e ({ frames := 3, cells := 0, slots := 0, locals := 65 }) s m args below meth c H locs 0 0 Q (F0 m pc ls [rv ad 7 r.2])) : ∀ (H : Heap) (locs : List Loc) (ls : Array Slot), va_P D cls (cw ad cc N S) H → va_D A (cw ad cc N S) → va_S A s.heap H locs → lv_has ls 5 [(0, .ref (ad 10 x0)), (3, .int x3), (4, rv ad 7 x4)] → W p l e ({ frames := 3, cells := 0, slots := 0, locals := 65 }) s m args below meth c H locs 0 0 Q (F0 m 8 ls []) := by
  intro H locs ls hP hD hS hl
  obtain ⟨hx, hb, hr, hml, hown, hts, hK, hA, hev, hE, hN, hNS⟩ := id hC
  unfold m_cVw_spotAt_B8 at Heq
  refine tx_aload (x := x4.map (ad 7)) hx hb d_cVw_spotAt_8 (lv_at hl 2 rfl) ?_
  refine w_v (y := rv ad 7 x4) rfl ?_
  rcases on_some Heq with ⟨hj_2, Heq⟩ | ⟨j_1, hj_2, Heq⟩
  · refine w_s (st' := [.null]) (congrArg (fun z9 : Option Nat => [rv ad 7 z9]) hj_2) ?_
    refine lv_ifnullN (tgt := 46) hx hb d_cVw_spotAt_10 (by decide) ?_
    exact K0 _ (Option.some.inj Heq).symm _ _ _ hP hD hS (lv_sub hl [0] rfl)
  · refine w_s (st' := [.ref (ad 7 j_1)]) (congrArg (fun z9 : Option Nat => [rv ad 7 z9]) hj_2) ?_
    refine lv_ifnull hx hb d_cVw_spotAt_10 ?_
    refine lv_iload_n hx hb d_cVw_spotAt_13 rfl (lv_at hl 1 rfl) ?_
    refine lv_if_lt (tgt := 46) hx hb d_cVw_spotAt_14 (by decide) (fun c_3 => ?_) (fun c_3 => ?_)
    · replace Heq := (if_pos c_3).symm.trans Heq
      exact K0 _ (Option.some.inj Heq).symm _ _ _ hP hD hS (lv_sub hl [0] rfl)
    · replace Heq := (if_neg c_3).symm.trans Heq
      refine lv_aload_n hx hb d_cVw_spotAt_17 rfl (lv_at hl 0 rfl) ?_
      refine tx_aload (x := x4.map (ad 7)) hx hb d_cVw_spotAt_18 (lv_at hl 2 rfl) ?_
      refine w_v (y := rv ad 7 x4) rfl ?_
      refine w_s (st' := [.ref (ad 7 j_1), .ref (ad 10 x0)]) (congrArg (fun z9 : Option Nat => [rv ad 7 z9, .ref (ad 10 x0)]) hj_2) ?_
      obtain ⟨hl_j_1_7, Heq⟩ := gl_some Heq
      obtain ⟨hl_x0_10, Heq⟩ := gl_some Heq
      obtain ⟨o_4, h_5, Heq⟩ := ob_some Heq
      have hFc := fr_all hD hS hA
      refine va_callq (va_runV (As := [.ref (ad 7 j_1)]) (rest := []) ⟨hx, hb, hml, hown, hts⟩ (g_cVw_top l D H.size (ad := ad) (cc := cc) (sad := sad) (sav := sav) h_5) (cw_v 1 hts kw_784 kw_781 kw_782 kw_783 kw_6 rfl rfl (by decide +kernel) ⟨Nat.le_of_ble_eq_true rfl, Nat.le_of_ble_eq_true rfl⟩) ⟨c_blind, va_recv hK hP (ci := 10) (q0 := cPos N 10 x0) rfl (cw_obj (k := 10) (by decide) hl_x0_10), fun U hU hW => c_pre hU hW hP hK hD hev hE hN hNS hS hFc⟩ rfl rfl hl.1 rfl (lv_room (Nat.le_of_ble_eq_true rfl)) d_cVw_spotAt_20 ⟨Nat.le_of_ble_eq_true rfl, Nat.le_of_ble_eq_true rfl⟩) hS (fun q _ h => hFc q h) hFc (fun rz u t H1 locs ht hvm hw hB hz1 hk1 hS => ?_)
      obtain ⟨hP, -, hD1⟩ := hB
      rw [ht] at hP
      have hD := hD1.weaken (fun _ q _ h => hFc q.1 h)
      generalize H1 = H at hP hS ⊢
      refine W.cs (cells' := 0) (slots' := 0) rfl rfl ?_
      subst hw
      refine w_v (y := rv ad 3 o_4.2) rfl ?_
      rcases on_some Heq with ⟨hj_7, Heq⟩ | ⟨j_6, hj_7, Heq⟩
      · refine w_s (st' := [.null]) (congrArg (fun z9 : Option Nat => [rv ad 3 z9]) hj_7) ?_
        refine lv_ifnullN (tgt := 36) hx hb d_cVw_spotAt_23 (by decide) ?_
        exact w_cVw_spotAt_J36 hC Heq Ka K0 Kr _ _ _ hP hD hS (lv_sub hl [0, 1, 2] rfl)
      · refine w_s (st' := [.ref (ad 3 j_6)]) (congrArg (fun z9 : Option Nat => [rv ad 3 z9]) hj_7) ?_
        refine lv_ifnull hx hb d_cVw_spotAt_23 ?_
        refine lv_iload_n hx hb d_cVw_spotAt_26 rfl (lv_at hl 1 rfl) ?_
        refine lv_if_ne (tgt := 33) hx hb d_cVw_spotAt_27 (by decide) (fun c_8 => ?_) (fun c_8 => ?_)
        · replace Heq := (if_neg c_8).symm.trans Heq
          refine lv_iinc (v := x3 + (-1)) (lv' := [(3, .int (x3 + (-1))), (0, .ref (ad 10 x0)), (4, rv ad 7 x4)]) hx hb d_cVw_spotAt_33 hl (k := 1) rfl rfl (by decide) rfl (fun ls hl => ?_)
          exact w_cVw_spotAt_J36 hC Heq Ka K0 Kr _ _ _ hP hD hS (lv_sub hl [1, 0, 2] rfl)
        · replace Heq := (if_pos c_8).symm.trans Heq
          refine tx_aload (x := x4.map (ad 7)) hx hb d_cVw_spotAt_30 (lv_at hl 2 rfl) ?_
          refine w_v (y := rv ad 7 x4) rfl ?_
          exact Kr _ (Option.some.inj Heq).symm 32 _ _ _ d_cVw_spotAt_32 hP hD hS
def m_cVw_spotAt_L8 (N : Nat → Nat) (x0 : Nat) (S : CS) (x3 : Int32) (x4 : Option Nat) : Option (CS ⊕ (CS × Option Nat)) := lp (fun a : CS × Int32 × Option Nat => m_cVw_spotAt_B8 N x0 a.1 a.2.1 a.2.2) FU (S, x3, x4)
theorem w_cVw_spotAt_L8 {p : Program} {l : Launch} {e : Env} {s : State} {m : MethodId} {args : Array Value} {below : List Frame} {meth : Method} {c : Code} {A : Nat → Prop} {D : va_G} {ad : Nat → Nat → Nat} {cc : Nat → ClassId} {sad sav : Nat → Nat} {Q : State → Prop} (hC : MCc sad sav "JoinedTrees$View" prog_12_method_13_code 5 (some (.object "JoinedTrees$Spot")) p s m args meth c A D cc) {N : Nat → Nat} {x0 : Nat} {S : CS} {x3 : Int32} {x4 : Option Nat} {o : (CS ⊕ (CS × Option Nat))} (Heq : m_cVw_spotAt_L8 N x0 S x3 x4 = some o) (K0 : ∀ b : CS, o = (.inl b) → ∀ (H : Heap) (locs : List Loc) (ls : Array Slot), va_P D cls (cw ad cc N b) H → va_D A (cw ad cc N b) → va_S A s.heap H locs → lv_has ls 5 [(0, .ref (ad 10 x0))] → W p l e ({ frames := 3, cells := 0, slots := 0, locals := 65 }) s m args below meth c H locs 0 0 Q (F0 m 46 ls [])) (Kr : ∀ r : CS × Option Nat, o = (.inr r) → ∀ (pc : Nat) (H : Heap) (locs : List Loc) (ls : Array Slot), decode prog_12_method_13_code pc = .ok (.areturn, 1) → va_P D cls (cw ad cc N r.1) H → va_D A (cw ad cc N r.1) → va_S A s.heap H locs → W p l e ({ frames := 3, cells := 0, slots := 0, locals := 65 }) s m args below meth c H locs 0 0 Q (F0 m pc ls [rv ad 7 r.2])) : ∀ (H : Heap) (locs : List Loc) (ls : Array Slot), va_P D cls (cw ad cc N S) H → va_D A (cw ad cc N S) → va_S A s.heap H locs → lv_has ls 5 [(0, .ref (ad 10 x0)), (3, .int x3), (4, rv ad 7 x4)] → W p l e ({ frames := 3, cells := 0, slots := 0, locals := 65 }) s m args below meth c H locs 0 0 Q (F0 m 8 ls []) := by
  refine lp_w (G := fun a : CS × Int32 × Option Nat => ∀ (H : Heap) (locs : List Loc) (ls : Array Slot), va_P D cls (cw ad cc N a.1) H → va_D A (cw ad cc N a.1) → va_S A s.heap H locs → lv_has ls 5 [(0, .ref (ad 10 x0)), (3, .int a.2.1), (4, rv ad 7 a.2.2)] → W p l e ({ frames := 3, cells := 0, slots := 0, locals := 65 }) s m args below meth c H locs 0 0 Q (F0 m 8 ls [])) ?_ FU (S, x3, x4) Heq
  intro a o1 ho Ka Ke
  exact w_cVw_spotAt_B8 hC ho (fun b h => Ka b h) (fun b h => K0 b (Ke _ h).symm) (fun r h => Kr r (Ke _ h).symm)
def m_cVw_spotAt_J46 (N : Nat → Nat) (x0 : Nat) (S : CS) : Option (CS × Option Nat) := some (S, none)
theorem d_cVw_spotAt_46 : decode prog_12_method_13_code 46 = .ok (.aconst_null, 1) := by decide +kernel
theorem d_cVw_spotAt_47 : decode prog_12_method_13_code 47 = .ok (.areturn, 1) := by decide +kernel
set_option maxHeartbeats 4000000 in
set_option maxRecDepth 100000 in
theorem w_cVw_spotAt_J46 {p : Program} {l : Launch} {e : Env} {s : State} {m : MethodId} {args : Array Value} {below : List Frame} {meth : Method} {c : Code} {A : Nat → Prop} {D : va_G} {ad : Nat → Nat → Nat} {cc : Nat → ClassId} {sad sav : Nat → Nat} {Q : State → Prop} (hC : MCc sad sav "JoinedTrees$View" prog_12_method_13_code 5 (some (.object "JoinedTrees$Spot")) p s m args meth c A D cc) {N : Nat → Nat} {x0 : Nat} {S : CS} {o : CS × Option Nat} (Heq : m_cVw_spotAt_J46 N x0 S = some o) (Kr : ∀ r : CS × Option Nat, o = r → ∀ (pc : Nat) (H : Heap) (locs : List Loc) (ls : Array Slot), decode prog_12_method_13_code pc = .ok (.areturn, 1) → va_P D cls (cw ad cc N r.1) H → va_D A (cw ad cc N r.1) → va_S A s.heap H locs → W p l e ({ frames := 3, cells := 0, slots := 0, locals := 65 }) s m args below meth c H locs 0 0 Q (F0 m pc ls [rv ad 7 r.2])) : ∀ (H : Heap) (locs : List Loc) (ls : Array Slot), va_P D cls (cw ad cc N S) H → va_D A (cw ad cc N S) → va_S A s.heap H locs → lv_has ls 5 [(0, .ref (ad 10 x0))] → W p l e ({ frames := 3, cells := 0, slots := 0, locals := 65 }) s m args below meth c H locs 0 0 Q (F0 m 46 ls []) := by
  intro H locs ls hP hD hS hl
  obtain ⟨hx, hb, hr, hml, hown, hts, hK, hA, hev, hE, hN, hNS⟩ := id hC
  unfold m_cVw_spotAt_J46 at Heq
  refine lv_null hx hb d_cVw_spotAt_46 ?_
  exact Kr _ (Option.some.inj Heq).symm 47 _ _ _ d_cVw_spotAt_47 hP hD hS
def m_cVw_spotAt_J0 (N : Nat → Nat) (x0 : Nat) (S : CS) (x1 : Nat) (x2 : Int32) : Option (CS × Option Nat) := gl x1 (N 3) (oe (m_cVw_spotAt_L8 N x0 S x2 (S.r 3 13 x1)) (fun b_1 => m_cVw_spotAt_J46 N x0 b_1) (fun r_3 => some r_3))
set_option maxHeartbeats 4000000 in
set_option maxRecDepth 100000 in
theorem w_cVw_spotAt_J0 {p : Program} {l : Launch} {e : Env} {s : State} {m : MethodId} {args : Array Value} {below : List Frame} {meth : Method} {c : Code} {A : Nat → Prop} {D : va_G} {ad : Nat → Nat → Nat} {cc : Nat → ClassId} {sad sav : Nat → Nat} {Q : State → Prop} (hC : MCc sad sav "JoinedTrees$View" prog_12_method_13_code 5 (some (.object "JoinedTrees$Spot")) p s m args meth c A D cc) {N : Nat → Nat} {x0 : Nat} {S : CS} {x1 : Nat} {x2 : Int32} {o : CS × Option Nat} (Heq : m_cVw_spotAt_J0 N x0 S x1 x2 = some o) (Kr : ∀ r : CS × Option Nat, o = r → ∀ (pc : Nat) (H : Heap) (locs : List Loc) (ls : Array Slot), decode prog_12_method_13_code pc = .ok (.areturn, 1) → va_P D cls (cw ad cc N r.1) H → va_D A (cw ad cc N r.1) → va_S A s.heap H locs → W p l e ({ frames := 3, cells := 0, slots := 0, locals := 65 }) s m args below meth c H locs 0 0 Q (F0 m pc ls [rv ad 7 r.2])) : ∀ (H : Heap) (locs : List Loc) (ls : Array Slot), va_P D cls (cw ad cc N S) H → va_D A (cw ad cc N S) → va_S A s.heap H locs → lv_has ls 5 [(0, .ref (ad 10 x0)), (1, .ref (ad 3 x1)), (2, .int x2)] → W p l e ({ frames := 3, cells := 0, slots := 0, locals := 65 }) s m args below meth c H locs 0 0 Q (F0 m 0 ls []) := by
  intro H locs ls hP hD hS hl
  obtain ⟨hx, hb, hr, hml, hown, hts, hK, hA, hev, hE, hN, hNS⟩ := id hC
  unfold m_cVw_spotAt_J0 at Heq
  refine lv_iload_n hx hb d_cVw_spotAt_0 rfl (lv_at hl 2 rfl) ?_
  refine lv_istore_n (lv' := [(3, .int x2), (0, .ref (ad 10 x0)), (1, .ref (ad 3 x1)), (2, .int x2)]) hx hb d_cVw_spotAt_1 rfl hl (by decide) rfl (fun ls hl => ?_)
  refine lv_aload_n hx hb d_cVw_spotAt_2 rfl (lv_at hl 2 rfl) ?_
  obtain ⟨hl_x1_3, Heq⟩ := gl_some Heq
  refine va_get (D := D) (ci := 3) (v := rv ad 7 (S.r 3 13 x1)) (C := R_Op) (T := F_Op) (N := 15) hx hb hts i_Op hown hK hP (cPos N 3 x1) (cw_obj (k := 3) (by decide) hl_x1_3) rfl 13 (by decide) (hts _ kw_100) (fun _ h9 => h9) rfl d_cVw_spotAt_3 ?_
  refine tx_astore (x := (S.r 3 13 x1).map (ad 7)) (lv' := [(4, rv ad 7 (S.r 3 13 x1)), (3, .int x2), (0, .ref (ad 10 x0)), (1, .ref (ad 3 x1)), (2, .int x2)]) hx hb d_cVw_spotAt_6 hl (by decide) rfl (fun ls hl => ?_)
  rcases oe_some Heq with ⟨b_1, h_2, Heq⟩ | ⟨r_3, h_2, Heq⟩
  · refine w_cVw_spotAt_L8 hC h_2 (fun b h => ?_) (fun r h => by cases h) _ _ _ hP hD hS (lv_sub hl [2, 1, 0] rfl)
    cases h
    intro H locs ls hP hD hS hl
    exact w_cVw_spotAt_J46 hC Heq Kr _ _ _ hP hD hS (lv_sub hl [0] rfl)
  · refine w_cVw_spotAt_L8 hC h_2 (fun b h => by cases h) (fun r h => ?_) _ _ _ hP hD hS (lv_sub hl [2, 1, 0] rfl)
    cases h
    exact Kr _ (Option.some.inj Heq).symm
def m_cVw_spotAt (N : Nat → Nat) (x0 : Nat) (S : CS) (x1 : Nat) (x2 : Int32) : Option (CS × Option Nat) := m_cVw_spotAt_J0 N x0 S x1 x2
set_option maxHeartbeats 4000000 in
theorem g_cVw_spotAt (l : Launch) (D : va_G) (sz : Nat) {ad : Nat → Nat → Nat} {cc : Nat → ClassId} {sad sav : Nat → Nat} {N : Nat → Nat} {x0 : Nat} {S : CS} {x1 : Nat} {x2 : Int32} {o : CS × Option Nat} (Heq : m_cVw_spotAt N x0 S x1 x2 = some o) : Met l ⟨"JoinedTrees$View", "spotAt", "(LJoinedTrees$Op;I)LJoinedTrees$Spot;"⟩ (Cond.code ⟨"JoinedTrees$View", "spotAt", "(LJoinedTrees$Op;I)LJoinedTrees$Spot;"⟩ prog_12_method_13_code 5 (some (.object "JoinedTrees$Spot")) :: gb) ({ frames := 3, cells := 0, slots := 0, locals := 65 }) (cPc sad sav D (cw ad cc N S) (cty cc) sz [.ref (ad 10 x0), .ref (ad 3 x1), .int x2]) (va_Qq (fun (r : Option Nat) (_ : Unit) => r = o.2.map (ad 7)) (fun _ t => gO D (cw ad cc N o.1) (cty cc) (va_A (cw ad cc N S) sz) t) (va_A (cw ad cc N S) sz)) 0 0 (va_A (cw ad cc N S) sz) := by
  refine Met.ofW (cc := prog_12_method_13_code) (maxL := 5) (ret := (some (.object "JoinedTrees$Spot"))) (by decide) rfl ?_
  intro p e s m args below meth c s₁ B hml hv
  obtain ⟨rfl, hsz, hP, hK, hD0, hev, hE, hN⟩ := hv
  have hx := B.exec
  have hb := B.bytes
  have hr := B.returns
  have hts : ∀ w9 ∈ gb, w9.before [.ref (ad 10 x0), .ref (ad 3 x1), .int x2].toArray s = true := fun w9 h => atoms_spec (ws := Cond.code ⟨"JoinedTrees$View", "spotAt", "(LJoinedTrees$Op;I)LJoinedTrees$Spot;"⟩ prog_12_method_13_code 5 (some (.object "JoinedTrees$Spot")) :: gb) B.pre w9 (List.mem_cons_of_mem _ h)
  have hown : s.vm.findClass "JoinedTrees$View" = some m.cls := findClass_of_methodNamed B.named
  have hlocks := B.notSynchronized
  have hNS := ns_of hP
  subst hsz
  have hD := hD0.self (sz := s.heap.size)
  generalize hAe : va_A (cw ad cc N S) s.heap.size = A at hD hev hE hNS ⊢
  have hA : ∀ q : Nat, s.heap.size ≤ q → A q := fun q h => by rw [← hAe]; exact Or.inr h
  have hS : va_S A s.heap s.heap [] := va_S.rf
  obtain ⟨ls, hl, hle⟩ : ∃ ls : Array Slot, lv_has ls 5 [(0, .ref (ad 10 x0)), (1, .ref (ad 3 x1)), (2, .int x2)] ∧ entryFrame m ([.ref (ad 10 x0), .ref (ad 3 x1), .int x2] : List Value).toArray 5 = F0 m 0 ls [] := by
    exact ⟨_, lv_entry (n := 5) _ (Nat.le_of_ble_eq_true rfl), lg_entry_eq ..⟩
  rw [hle]
  refine w_cVw_spotAt_J0 ⟨hx, hb, hr, hml, hown, hts, hK, hA, hev, hE, hN, hNS⟩ Heq (fun r h pc H locs ls hd hP hD hS => ?_) _ _ _ hP hD hS (lv_sub hl [0, 1, 2] rfl)
  subst h
  exact W.aret hx hb hr (Or.inl ⟨_, rfl⟩) (va_rf_or _) (fun t ht hW => ⟨⟨_, (), rfl, rfl, by rw [ht]; exact hP, va_K.moved hW.alike hK, hD⟩, hS.F ht⟩) hS.2.2 hd
