def m_cVw_filledBefore_J31 (N : Nat → Nat) (x0 : Nat) (S : CS) (x1 : Option Nat) (x3 : Int32) (x4 : Option Nat) : Option ((CS × Option Nat × Int32 × Option Nat) ⊕ (CS × Int32)) := gn x4 (N 7) (fun j_1 => some (.inl (S, x1, x3, (S.r 7 2 j_1))))
theorem d_cVw_filledBefore_0 : decode prog_12_method_12_code 0 = .ok (.iconst 0, 1) := by decide +kernel
theorem d_cVw_filledBefore_1 : decode prog_12_method_12_code 1 = .ok (.istore_n 3, 1) := by decide +kernel
theorem d_cVw_filledBefore_2 : decode prog_12_method_12_code 2 = .ok (.aload_n 2, 1) := by decide +kernel
theorem d_cVw_filledBefore_3 : decode prog_12_method_12_code 3 = .ok (.getfield 112, 3) := by decide +kernel
theorem d_cVw_filledBefore_6 : decode prog_12_method_12_code 6 = .ok (.astore 4, 2) := by decide +kernel
theorem d_cVw_filledBefore_8 : decode prog_12_method_12_code 8 = .ok (.aload 4, 2) := by decide +kernel
theorem d_cVw_filledBefore_10 : decode prog_12_method_12_code 10 = .ok (.ifnull 31, 3) := by decide +kernel
theorem d_cVw_filledBefore_13 : decode prog_12_method_12_code 13 = .ok (.aload 4, 2) := by decide +kernel
theorem d_cVw_filledBefore_15 : decode prog_12_method_12_code 15 = .ok (.aload_n 1, 1) := by decide +kernel
theorem d_cVw_filledBefore_16 : decode prog_12_method_12_code 16 = .ok (.if_acmp .eq 25, 3) := by decide +kernel
theorem d_cVw_filledBefore_19 : decode prog_12_method_12_code 19 = .ok (.aload_n 0, 1) := by decide +kernel
theorem d_cVw_filledBefore_20 : decode prog_12_method_12_code 20 = .ok (.aload 4, 2) := by decide +kernel
theorem d_cVw_filledBefore_22 : decode prog_12_method_12_code 22 = .ok (.invokevirtual 115, 3) := by decide +kernel
theorem d_cVw_filledBefore_25 : decode prog_12_method_12_code 25 = .ok (.ifnull 6, 3) := by decide +kernel
theorem d_cVw_filledBefore_31 : decode prog_12_method_12_code 31 = .ok (.aload 4, 2) := by decide +kernel
theorem d_cVw_filledBefore_33 : decode prog_12_method_12_code 33 = .ok (.getfield 119, 3) := by decide +kernel
theorem d_cVw_filledBefore_36 : decode prog_12_method_12_code 36 = .ok (.astore 4, 2) := by decide +kernel
theorem d_cVw_filledBefore_38 : decode prog_12_method_12_code 38 = .ok (.goto (-30), 3) := by decide +kernel
set_option maxHeartbeats 4000000 in
set_option maxRecDepth 100000 in
theorem w_cVw_filledBefore_J31 {p : Program} {l : Launch} {e : Env} {s : State} {m : MethodId} {args : Array Value} {below : List Frame} {meth : Method} {c : Code} {A : Nat → Prop} {D : va_G} {ad : Nat → Nat → Nat} {cc : Nat → ClassId} {sad sav : Nat → Nat} {Q : State → Prop} (hC : MCc sad sav "JoinedTrees$View" prog_12_method_12_code 5 (some .int) p s m args meth c A D cc) {N : Nat → Nat} {x0 : Nat} {S : CS} {x1 : Option Nat} {x3 : Int32} {x4 : Option Nat} {o : ((CS × Option Nat × Int32 × Option Nat) ⊕ (CS × Int32))} (Heq : m_cVw_filledBefore_J31 N x0 S x1 x3 x4 = some o) (Ka : ∀ b : CS × Option Nat × Int32 × Option Nat, o = .inl b → ∀ (H : Heap) (locs : List Loc) (ls : Array Slot), va_P D cls (cw ad cc N b.1) H → va_D A (cw ad cc N b.1) → va_S A s.heap H locs → lv_has ls 5 [(0, .ref (ad 10 x0)), (1, rv ad 7 b.2.1), (3, .int b.2.2.1), (4, rv ad 7 b.2.2.2)] → W p l e ({ frames := 3, cells := 0, slots := 0, locals := 65 }) s m args below meth c H locs 0 0 Q (F0 m 8 ls [])) (K0 : ∀ b : CS × Int32, o = .inr b → ∀ (H : Heap) (locs : List Loc) (ls : Array Slot), va_P D cls (cw ad cc N b.1) H → va_D A (cw ad cc N b.1) → va_S A s.heap H locs → lv_has ls 5 [(0, .ref (ad 10 x0)), (3, .int b.2)] → W p l e ({ frames := 3, cells := 0, slots := 0, locals := 65 }) s m args below meth c H locs 0 0 Q (F0 m 41 ls [])) : ∀ (H : Heap) (locs : List Loc) (ls : Array Slot), va_P D cls (cw ad cc N S) H → va_D A (cw ad cc N S) → va_S A s.heap H locs → lv_has ls 5 [(0, .ref (ad 10 x0)), (1, rv ad 7 x1), (3, .int x3), (4, rv ad 7 x4)] → W p l e ({ frames := 3, cells := 0, slots := 0, locals := 65 }) s m args below meth c H locs 0 0 Q (F0 m 31 ls []) := by
  intro H locs ls hP hD hS hl
  obtain ⟨hx, hb, hr, hml, hown, hts, hK, hA, hev, hE, hN, hNS⟩ := id hC
  unfold m_cVw_filledBefore_J31 at Heq
  refine tx_aload (x := x4.map (ad 7)) hx hb d_cVw_filledBefore_31 (lv_at hl 3 rfl) ?_
  refine w_v (y := rv ad 7 x4) rfl ?_
  obtain ⟨j_1, hj_2, hl_3, Heq⟩ := gn_some Heq
  refine w_s (st' := [.ref (ad 7 j_1)]) (congrArg (fun z9 : Option Nat => [rv ad 7 z9]) hj_2) ?_
  refine va_get (D := D) (ci := 7) (v := rv ad 7 (S.r 7 2 j_1)) (C := R_Sp) (T := F_Sp) (N := 3) hx hb hts i_Sp hown hK hP (cPos N 7 j_1) (cw_obj (k := 7) (by decide) hl_3) rfl 2 (by decide) (hts _ kw_748) (fun _ h9 => h9) rfl d_cVw_filledBefore_33 ?_
  refine tx_astore (x := (S.r 7 2 j_1).map (ad 7)) (lv' := [(4, rv ad 7 (S.r 7 2 j_1)), (0, .ref (ad 10 x0)), (1, rv ad 7 x1), (3, .int x3)]) hx hb d_cVw_filledBefore_36 hl (by decide) rfl (fun ls hl => ?_)
  refine lv_goto (tgt := 8) hx hb d_cVw_filledBefore_38 (by decide) ?_
  exact Ka _ (Option.some.inj Heq).symm _ _ _ hP hD hS (lv_sub hl [1, 2, 3, 0] rfl)
def m_cVw_filledBefore_B8 (N : Nat → Nat) (x0 : Nat) (S : CS) (x1 : Option Nat) (x3 : Int32) (x4 : Option Nat) : Option ((CS × Option Nat × Int32 × Option Nat) ⊕ (CS × Int32)) := on x4 (some (.inr (S, x3))) (fun j_1 => gv x4 (N 7) (gv x1 (N 7) ((if x4 = x1 then some (.inr (S, x3)) else gl j_1 (N 7) (gl x0 (N 10) (ob (m_cVw_top N x0 S j_1) (fun o_6 => on o_6.2 (m_cVw_filledBefore_J31 N x0 o_6.1 x1 x3 x4) (fun j_8 => m_cVw_filledBefore_J31 N x0 o_6.1 x1 (x3 + 1) x4))))))))
theorem d_cVw_filledBefore_28 : decode prog_12_method_12_code 28 = .ok (.iinc 3 1, 3) := by decide +kernel
set_option maxHeartbeats 4000000 in
set_option maxRecDepth 100000 in
theorem w_cVw_filledBefore_B8 {p : Program} {l : Launch} {e : Env} {s : State} {m : MethodId} {args : Array Value} {below : List Frame} {meth : Method} {c : Code} {A : Nat → Prop} {D : va_G} {ad : Nat → Nat → Nat} {cc : Nat → ClassId} {sad sav : Nat → Nat} {Q : State → Prop} (hC : MCc sad sav "JoinedTrees$View" prog_12_method_12_code 5 (some .int) p s m args meth c A D cc) {N : Nat → Nat} {x0 : Nat} {S : CS} {x1 : Option Nat} {x3 : Int32} {x4 : Option Nat} {o : ((CS × Option Nat × Int32 × Option Nat) ⊕ (CS × Int32))} (Heq : m_cVw_filledBefore_B8 N x0 S x1 x3 x4 = some o) (Ka : ∀ b : CS × Option Nat × Int32 × Option Nat, o = .inl b → ∀ (H : Heap) (locs : List Loc) (ls : Array Slot), va_P D cls (cw ad cc N b.1) H → va_D A (cw ad cc N b.1) → va_S A s.heap H locs → lv_has ls 5 [(0, .ref (ad 10 x0)), (1, rv ad 7 b.2.1), (3, .int b.2.2.1), (4, rv ad 7 b.2.2.2)] → W p l e ({ frames := 3, cells := 0, slots := 0, locals := 65 }) s m args below meth c H locs 0 0 Q (F0 m 8 ls [])) (K0 : ∀ b : CS × Int32, o = .inr b → ∀ (H : Heap) (locs : List Loc) (ls : Array Slot), va_P D cls (cw ad cc N b.1) H → va_D A (cw ad cc N b.1) → va_S A s.heap H locs → lv_has ls 5 [(0, .ref (ad 10 x0)), (3, .int b.2)] → W p l e ({ frames := 3, cells := 0, slots := 0, locals := 65 }) s m args below meth c H locs 0 0 Q (F0 m 41 ls [])) : ∀ (H : Heap) (locs : List Loc) (ls : Array Slot), va_P D cls (cw ad cc N S) H → va_D A (cw ad cc N S) → va_S A s.heap H locs → lv_has ls 5 [(0, .ref (ad 10 x0)), (1, rv ad 7 x1), (3, .int x3), (4, rv ad 7 x4)] → W p l e ({ frames := 3, cells := 0, slots := 0, locals := 65 }) s m args below meth c H locs 0 0 Q (F0 m 8 ls []) := by
  intro H locs ls hP hD hS hl
  obtain ⟨hx, hb, hr, hml, hown, hts, hK, hA, hev, hE, hN, hNS⟩ := id hC
  unfold m_cVw_filledBefore_B8 at Heq
  refine tx_aload (x := x4.map (ad 7)) hx hb d_cVw_filledBefore_8 (lv_at hl 3 rfl) ?_
  refine w_v (y := rv ad 7 x4) rfl ?_
  rcases on_some Heq with ⟨hj_2, Heq⟩ | ⟨j_1, hj_2, Heq⟩
  · refine w_s (st' := [.null]) (congrArg (fun z9 : Option Nat => [rv ad 7 z9]) hj_2) ?_
    refine lv_ifnullN (tgt := 41) hx hb d_cVw_filledBefore_10 (by decide) ?_
    exact K0 _ (Option.some.inj Heq).symm _ _ _ hP hD hS (lv_sub hl [0, 2] rfl)
  · refine w_s (st' := [.ref (ad 7 j_1)]) (congrArg (fun z9 : Option Nat => [rv ad 7 z9]) hj_2) ?_
    refine lv_ifnull hx hb d_cVw_filledBefore_10 ?_
    refine tx_aload (x := x4.map (ad 7)) hx hb d_cVw_filledBefore_13 (lv_at hl 3 rfl) ?_
    refine w_v (y := rv ad 7 x4) rfl ?_
    refine tx_aload_n (x := x1.map (ad 7)) hx hb d_cVw_filledBefore_15 rfl (lv_at hl 1 rfl) ?_
    refine w_v (y := rv ad 7 x1) rfl ?_
    obtain ⟨hv_3, Heq⟩ := gv_some Heq
    obtain ⟨hv_4, Heq⟩ := gv_some Heq
    have ec_5 := rv_eq hD (k := 7) (by decide) (x := x4) (y := x1) hv_3 hv_4
    refine lv_acmp_eq (rx := x4.map (ad 7)) (ry := x1.map (ad 7)) (tgt := 41) hx hb d_cVw_filledBefore_16 (by decide) (fun c_5 => ?_) (fun c_5 => ?_)
    · replace Heq := (if_pos (ec_5.mp c_5)).symm.trans Heq
      exact K0 _ (Option.some.inj Heq).symm _ _ _ hP hD hS (lv_sub hl [0, 2] rfl)
    · replace Heq := (if_neg (fun q9 => c_5 (ec_5.mpr q9))).symm.trans Heq
      refine lv_aload_n hx hb d_cVw_filledBefore_19 rfl (lv_at hl 0 rfl) ?_
      refine tx_aload (x := x4.map (ad 7)) hx hb d_cVw_filledBefore_20 (lv_at hl 3 rfl) ?_
      refine w_v (y := rv ad 7 x4) rfl ?_
      refine w_s (st' := [.ref (ad 7 j_1), .ref (ad 10 x0)]) (congrArg (fun z9 : Option Nat => [rv ad 7 z9, .ref (ad 10 x0)]) hj_2) ?_
      obtain ⟨hl_j_1_7, Heq⟩ := gl_some Heq
      obtain ⟨hl_x0_10, Heq⟩ := gl_some Heq
      obtain ⟨o_6, h_7, Heq⟩ := ob_some Heq
      have hFc := fr_all hD hS hA
      refine va_callq (va_runV (As := [.ref (ad 7 j_1)]) (rest := []) ⟨hx, hb, hml, hown, hts⟩ (g_cVw_top l D H.size (ad := ad) (cc := cc) (sad := sad) (sav := sav) h_7) (cw_v 1 hts kw_784 kw_781 kw_782 kw_783 kw_6 rfl rfl (by decide +kernel) ⟨Nat.le_of_ble_eq_true rfl, Nat.le_of_ble_eq_true rfl⟩) ⟨c_blind, va_recv hK hP (ci := 10) (q0 := cPos N 10 x0) rfl (cw_obj (k := 10) (by decide) hl_x0_10), fun U hU hW => c_pre hU hW hP hK hD hev hE hN hNS hS hFc⟩ rfl rfl hl.1 rfl (lv_room (Nat.le_of_ble_eq_true rfl)) d_cVw_filledBefore_22 ⟨Nat.le_of_ble_eq_true rfl, Nat.le_of_ble_eq_true rfl⟩) hS (fun q _ h => hFc q h) hFc (fun rz u t H1 locs ht hvm hw hB hz1 hk1 hS => ?_)
      obtain ⟨hP, -, hD1⟩ := hB
      rw [ht] at hP
      have hD := hD1.weaken (fun _ q _ h => hFc q.1 h)
      generalize H1 = H at hP hS ⊢
      refine W.cs (cells' := 0) (slots' := 0) rfl rfl ?_
      subst hw
      refine w_v (y := rv ad 3 o_6.2) rfl ?_
      rcases on_some Heq with ⟨hj_9, Heq⟩ | ⟨j_8, hj_9, Heq⟩
      · refine w_s (st' := [.null]) (congrArg (fun z9 : Option Nat => [rv ad 3 z9]) hj_9) ?_
        refine lv_ifnullN (tgt := 31) hx hb d_cVw_filledBefore_25 (by decide) ?_
        exact w_cVw_filledBefore_J31 hC Heq Ka K0 _ _ _ hP hD hS (lv_sub hl [0, 1, 2, 3] rfl)
      · refine w_s (st' := [.ref (ad 3 j_8)]) (congrArg (fun z9 : Option Nat => [rv ad 3 z9]) hj_9) ?_
        refine lv_ifnull hx hb d_cVw_filledBefore_25 ?_
        refine lv_iinc (v := x3 + 1) (lv' := [(3, .int (x3 + 1)), (0, .ref (ad 10 x0)), (1, rv ad 7 x1), (4, rv ad 7 x4)]) hx hb d_cVw_filledBefore_28 hl (k := 2) rfl rfl (by decide) rfl (fun ls hl => ?_)
        exact w_cVw_filledBefore_J31 hC Heq Ka K0 _ _ _ hP hD hS (lv_sub hl [1, 2, 0, 3] rfl)
def m_cVw_filledBefore_L8 (N : Nat → Nat) (x0 : Nat) (S : CS) (x1 : Option Nat) (x3 : Int32) (x4 : Option Nat) : Option (CS × Int32) := lp (fun a : CS × Option Nat × Int32 × Option Nat => m_cVw_filledBefore_B8 N x0 a.1 a.2.1 a.2.2.1 a.2.2.2) FU (S, x1, x3, x4)
theorem w_cVw_filledBefore_L8 {p : Program} {l : Launch} {e : Env} {s : State} {m : MethodId} {args : Array Value} {below : List Frame} {meth : Method} {c : Code} {A : Nat → Prop} {D : va_G} {ad : Nat → Nat → Nat} {cc : Nat → ClassId} {sad sav : Nat → Nat} {Q : State → Prop} (hC : MCc sad sav "JoinedTrees$View" prog_12_method_12_code 5 (some .int) p s m args meth c A D cc) {N : Nat → Nat} {x0 : Nat} {S : CS} {x1 : Option Nat} {x3 : Int32} {x4 : Option Nat} {o : CS × Int32} (Heq : m_cVw_filledBefore_L8 N x0 S x1 x3 x4 = some o) (K0 : ∀ b : CS × Int32, o = b → ∀ (H : Heap) (locs : List Loc) (ls : Array Slot), va_P D cls (cw ad cc N b.1) H → va_D A (cw ad cc N b.1) → va_S A s.heap H locs → lv_has ls 5 [(0, .ref (ad 10 x0)), (3, .int b.2)] → W p l e ({ frames := 3, cells := 0, slots := 0, locals := 65 }) s m args below meth c H locs 0 0 Q (F0 m 41 ls [])) : ∀ (H : Heap) (locs : List Loc) (ls : Array Slot), va_P D cls (cw ad cc N S) H → va_D A (cw ad cc N S) → va_S A s.heap H locs → lv_has ls 5 [(0, .ref (ad 10 x0)), (1, rv ad 7 x1), (3, .int x3), (4, rv ad 7 x4)] → W p l e ({ frames := 3, cells := 0, slots := 0, locals := 65 }) s m args below meth c H locs 0 0 Q (F0 m 8 ls []) := by
  refine lp_w (G := fun a : CS × Option Nat × Int32 × Option Nat => ∀ (H : Heap) (locs : List Loc) (ls : Array Slot), va_P D cls (cw ad cc N a.1) H → va_D A (cw ad cc N a.1) → va_S A s.heap H locs → lv_has ls 5 [(0, .ref (ad 10 x0)), (1, rv ad 7 a.2.1), (3, .int a.2.2.1), (4, rv ad 7 a.2.2.2)] → W p l e ({ frames := 3, cells := 0, slots := 0, locals := 65 }) s m args below meth c H locs 0 0 Q (F0 m 8 ls [])) ?_ FU (S, x1, x3, x4) Heq
  intro a o1 ho Ka Ke
  exact w_cVw_filledBefore_B8 hC ho (fun b h => Ka b h) (fun b h => K0 b (Ke _ h).symm)
def m_cVw_filledBefore_J41 (N : Nat → Nat) (x0 : Nat) (S : CS) (x3 : Int32) : Option (CS × Int32) := some (S, x3)
theorem d_cVw_filledBefore_41 : decode prog_12_method_12_code 41 = .ok (.iload_n 3, 1) := by decide +kernel
theorem d_cVw_filledBefore_42 : decode prog_12_method_12_code 42 = .ok (.ireturn, 1) := by decide +kernel
set_option maxHeartbeats 4000000 in
set_option maxRecDepth 100000 in
theorem w_cVw_filledBefore_J41 {p : Program} {l : Launch} {e : Env} {s : State} {m : MethodId} {args : Array Value} {below : List Frame} {meth : Method} {c : Code} {A : Nat → Prop} {D : va_G} {ad : Nat → Nat → Nat} {cc : Nat → ClassId} {sad sav : Nat → Nat} {Q : State → Prop} (hC : MCc sad sav "JoinedTrees$View" prog_12_method_12_code 5 (some .int) p s m args meth c A D cc) {N : Nat → Nat} {x0 : Nat} {S : CS} {x3 : Int32} {o : CS × Int32} (Heq : m_cVw_filledBefore_J41 N x0 S x3 = some o) (Kr : ∀ r : CS × Int32, o = r → ∀ (pc : Nat) (H : Heap) (locs : List Loc) (ls : Array Slot), decode prog_12_method_12_code pc = .ok (.ireturn, 1) → va_P D cls (cw ad cc N r.1) H → va_D A (cw ad cc N r.1) → va_S A s.heap H locs → W p l e ({ frames := 3, cells := 0, slots := 0, locals := 65 }) s m args below meth c H locs 0 0 Q (F0 m pc ls [.int r.2])) : ∀ (H : Heap) (locs : List Loc) (ls : Array Slot), va_P D cls (cw ad cc N S) H → va_D A (cw ad cc N S) → va_S A s.heap H locs → lv_has ls 5 [(0, .ref (ad 10 x0)), (3, .int x3)] → W p l e ({ frames := 3, cells := 0, slots := 0, locals := 65 }) s m args below meth c H locs 0 0 Q (F0 m 41 ls []) := by
  intro H locs ls hP hD hS hl
  obtain ⟨hx, hb, hr, hml, hown, hts, hK, hA, hev, hE, hN, hNS⟩ := id hC
  unfold m_cVw_filledBefore_J41 at Heq
  refine lv_iload_n hx hb d_cVw_filledBefore_41 rfl (lv_at hl 1 rfl) ?_
  exact Kr _ (Option.some.inj Heq).symm 42 _ _ _ d_cVw_filledBefore_42 hP hD hS
def m_cVw_filledBefore_J0 (N : Nat → Nat) (x0 : Nat) (S : CS) (x1 : Option Nat) (x2 : Nat) : Option (CS × Int32) := gl x2 (N 3) (ob (m_cVw_filledBefore_L8 N x0 S x1 0 (S.r 3 13 x2)) (fun b_1 => m_cVw_filledBefore_J41 N x0 b_1.1 b_1.2))
set_option maxHeartbeats 4000000 in
set_option maxRecDepth 100000 in
theorem w_cVw_filledBefore_J0 {p : Program} {l : Launch} {e : Env} {s : State} {m : MethodId} {args : Array Value} {below : List Frame} {meth : Method} {c : Code} {A : Nat → Prop} {D : va_G} {ad : Nat → Nat → Nat} {cc : Nat → ClassId} {sad sav : Nat → Nat} {Q : State → Prop} (hC : MCc sad sav "JoinedTrees$View" prog_12_method_12_code 5 (some .int) p s m args meth c A D cc) {N : Nat → Nat} {x0 : Nat} {S : CS} {x1 : Option Nat} {x2 : Nat} {o : CS × Int32} (Heq : m_cVw_filledBefore_J0 N x0 S x1 x2 = some o) (Kr : ∀ r : CS × Int32, o = r → ∀ (pc : Nat) (H : Heap) (locs : List Loc) (ls : Array Slot), decode prog_12_method_12_code pc = .ok (.ireturn, 1) → va_P D cls (cw ad cc N r.1) H → va_D A (cw ad cc N r.1) → va_S A s.heap H locs → W p l e ({ frames := 3, cells := 0, slots := 0, locals := 65 }) s m args below meth c H locs 0 0 Q (F0 m pc ls [.int r.2])) : ∀ (H : Heap) (locs : List Loc) (ls : Array Slot), va_P D cls (cw ad cc N S) H → va_D A (cw ad cc N S) → va_S A s.heap H locs → lv_has ls 5 [(0, .ref (ad 10 x0)), (1, rv ad 7 x1), (2, .ref (ad 3 x2))] → W p l e ({ frames := 3, cells := 0, slots := 0, locals := 65 }) s m args below meth c H locs 0 0 Q (F0 m 0 ls []) := by
  intro H locs ls hP hD hS hl
  obtain ⟨hx, hb, hr, hml, hown, hts, hK, hA, hev, hE, hN, hNS⟩ := id hC
  unfold m_cVw_filledBefore_J0 at Heq
  refine lv_iconst (v := 0) hx hb d_cVw_filledBefore_0 (by decide) ?_
  refine lv_istore_n (lv' := [(3, .int 0), (0, .ref (ad 10 x0)), (1, rv ad 7 x1), (2, .ref (ad 3 x2))]) hx hb d_cVw_filledBefore_1 rfl hl (by decide) rfl (fun ls hl => ?_)
  refine lv_aload_n hx hb d_cVw_filledBefore_2 rfl (lv_at hl 3 rfl) ?_
  obtain ⟨hl_x2_3, Heq⟩ := gl_some Heq
  refine va_get (D := D) (ci := 3) (v := rv ad 7 (S.r 3 13 x2)) (C := R_Op) (T := F_Op) (N := 15) hx hb hts i_Op hown hK hP (cPos N 3 x2) (cw_obj (k := 3) (by decide) hl_x2_3) rfl 13 (by decide) (hts _ kw_100) (fun _ h9 => h9) rfl d_cVw_filledBefore_3 ?_
  refine tx_astore (x := (S.r 3 13 x2).map (ad 7)) (lv' := [(4, rv ad 7 (S.r 3 13 x2)), (3, .int 0), (0, .ref (ad 10 x0)), (1, rv ad 7 x1), (2, .ref (ad 3 x2))]) hx hb d_cVw_filledBefore_6 hl (by decide) rfl (fun ls hl => ?_)
  obtain ⟨b_1, h_2, Heq⟩ := ob_some Heq
  refine w_cVw_filledBefore_L8 hC h_2 (fun b h => ?_) _ _ _ hP hD hS (lv_sub hl [2, 3, 1, 0] rfl)
  subst h
  intro H locs ls hP hD hS hl
  exact w_cVw_filledBefore_J41 hC Heq Kr _ _ _ hP hD hS (lv_sub hl [0, 1] rfl)
def m_cVw_filledBefore (N : Nat → Nat) (x0 : Nat) (S : CS) (x1 : Option Nat) (x2 : Nat) : Option (CS × Int32) := m_cVw_filledBefore_J0 N x0 S x1 x2
set_option maxHeartbeats 4000000 in
theorem g_cVw_filledBefore (l : Launch) (D : va_G) (sz : Nat) {ad : Nat → Nat → Nat} {cc : Nat → ClassId} {sad sav : Nat → Nat} {N : Nat → Nat} {x0 : Nat} {S : CS} {x1 : Option Nat} {x2 : Nat} {o : CS × Int32} (Heq : m_cVw_filledBefore N x0 S x1 x2 = some o) : Met l ⟨"JoinedTrees$View", "filledBefore", "(LJoinedTrees$Spot;LJoinedTrees$Op;)I"⟩ (Cond.code ⟨"JoinedTrees$View", "filledBefore", "(LJoinedTrees$Spot;LJoinedTrees$Op;)I"⟩ prog_12_method_12_code 5 (some .int) :: gb) ({ frames := 3, cells := 0, slots := 0, locals := 65 }) (cPc sad sav D (cw ad cc N S) (cty cc) sz [.ref (ad 10 x0), rv ad 7 x1, .ref (ad 3 x2)]) (va_Qi (fun (r : Int32) (_ : Unit) => r = o.2) (fun _ t => gO D (cw ad cc N o.1) (cty cc) (va_A (cw ad cc N S) sz) t) (va_A (cw ad cc N S) sz)) 0 0 (va_A (cw ad cc N S) sz) := by
  refine Met.ofW (cc := prog_12_method_12_code) (maxL := 5) (ret := (some .int)) (by decide) rfl ?_
  intro p e s m args below meth c s₁ B hml hv
  obtain ⟨rfl, hsz, hP, hK, hD0, hev, hE, hN⟩ := hv
  have hx := B.exec
  have hb := B.bytes
  have hr := B.returns
  have hts : ∀ w9 ∈ gb, w9.before [.ref (ad 10 x0), rv ad 7 x1, .ref (ad 3 x2)].toArray s = true := fun w9 h => atoms_spec (ws := Cond.code ⟨"JoinedTrees$View", "filledBefore", "(LJoinedTrees$Spot;LJoinedTrees$Op;)I"⟩ prog_12_method_12_code 5 (some .int) :: gb) B.pre w9 (List.mem_cons_of_mem _ h)
  have hown : s.vm.findClass "JoinedTrees$View" = some m.cls := findClass_of_methodNamed B.named
  have hlocks := B.notSynchronized
  have hNS := ns_of hP
  subst hsz
  have hD := hD0.self (sz := s.heap.size)
  generalize hAe : va_A (cw ad cc N S) s.heap.size = A at hD hev hE hNS ⊢
  have hA : ∀ q : Nat, s.heap.size ≤ q → A q := fun q h => by rw [← hAe]; exact Or.inr h
  have hS : va_S A s.heap s.heap [] := va_S.rf
  obtain ⟨ls, hl, hle⟩ : ∃ ls : Array Slot, lv_has ls 5 [(0, .ref (ad 10 x0)), (1, rv ad 7 x1), (2, .ref (ad 3 x2))] ∧ entryFrame m ([.ref (ad 10 x0), rv ad 7 x1, .ref (ad 3 x2)] : List Value).toArray 5 = F0 m 0 ls [] := by
    rcases x1 with _ | x1
    all_goals exact ⟨_, lv_entry (n := 5) _ (Nat.le_of_ble_eq_true rfl), lg_entry_eq ..⟩
  rw [hle]
  refine w_cVw_filledBefore_J0 ⟨hx, hb, hr, hml, hown, hts, hK, hA, hev, hE, hN, hNS⟩ Heq (fun r h pc H locs ls hd hP hD hS => ?_) _ _ _ hP hD hS (lv_sub hl [0, 1, 2] rfl)
  subst h
  exact W.iret hx hb hr (fun t ht hW => ⟨⟨_, (), rfl, rfl, by rw [ht]; exact hP, va_K.moved hW.alike hK, hD⟩, hS.F ht⟩) hS.2.2 hd
def m_cVw_filledIn_J0 (N : Nat → Nat) (x0 : Nat) (S : CS) (x1 : Nat) : Option (CS × Int32) := gl x1 (N 3) (gl x0 (N 10) (ob (m_cVw_filledBefore N x0 S none x1) (fun o_1 => some (o_1.1, o_1.2))))
theorem d_cVw_filledIn_0 : decode prog_12_method_11_code 0 = .ok (.aload_n 0, 1) := by decide +kernel
theorem d_cVw_filledIn_1 : decode prog_12_method_11_code 1 = .ok (.aconst_null, 1) := by decide +kernel
theorem d_cVw_filledIn_2 : decode prog_12_method_11_code 2 = .ok (.aload_n 1, 1) := by decide +kernel
theorem d_cVw_filledIn_3 : decode prog_12_method_11_code 3 = .ok (.invokevirtual 108, 3) := by decide +kernel
theorem d_cVw_filledIn_6 : decode prog_12_method_11_code 6 = .ok (.ireturn, 1) := by decide +kernel
set_option maxHeartbeats 4000000 in
set_option maxRecDepth 100000 in
theorem w_cVw_filledIn_J0 {p : Program} {l : Launch} {e : Env} {s : State} {m : MethodId} {args : Array Value} {below : List Frame} {meth : Method} {c : Code} {A : Nat → Prop} {D : va_G} {ad : Nat → Nat → Nat} {cc : Nat → ClassId} {sad sav : Nat → Nat} {Q : State → Prop} (hC : MCc sad sav "JoinedTrees$View" prog_12_method_11_code 2 (some .int) p s m args meth c A D cc) {N : Nat → Nat} {x0 : Nat} {S : CS} {x1 : Nat} {o : CS × Int32} (Heq : m_cVw_filledIn_J0 N x0 S x1 = some o) (Kr : ∀ r : CS × Int32, o = r → ∀ (pc : Nat) (H : Heap) (locs : List Loc) (ls : Array Slot), decode prog_12_method_11_code pc = .ok (.ireturn, 1) → va_P D cls (cw ad cc N r.1) H → va_D A (cw ad cc N r.1) → va_S A s.heap H locs → W p l e ({ frames := 4, cells := 0, slots := 0, locals := 89 }) s m args below meth c H locs 0 0 Q (F0 m pc ls [.int r.2])) : ∀ (H : Heap) (locs : List Loc) (ls : Array Slot), va_P D cls (cw ad cc N S) H → va_D A (cw ad cc N S) → va_S A s.heap H locs → lv_has ls 2 [(0, .ref (ad 10 x0)), (1, .ref (ad 3 x1))] → W p l e ({ frames := 4, cells := 0, slots := 0, locals := 89 }) s m args below meth c H locs 0 0 Q (F0 m 0 ls []) := by
  intro H locs ls hP hD hS hl
  obtain ⟨hx, hb, hr, hml, hown, hts, hK, hA, hev, hE, hN, hNS⟩ := id hC
  unfold m_cVw_filledIn_J0 at Heq
  refine lv_aload_n hx hb d_cVw_filledIn_0 rfl (lv_at hl 0 rfl) ?_
  refine lv_null hx hb d_cVw_filledIn_1 ?_
  refine lv_aload_n hx hb d_cVw_filledIn_2 rfl (lv_at hl 1 rfl) ?_
  obtain ⟨hl_x1_3, Heq⟩ := gl_some Heq
  obtain ⟨hl_x0_10, Heq⟩ := gl_some Heq
  obtain ⟨o_1, h_2, Heq⟩ := ob_some Heq
  refine w_s (st' := [.ref (ad 3 x1), rv ad 7 none, .ref (ad 10 x0)]) rfl ?_
  have hFc := fr_all hD hS hA
  refine va_calli (va_runV (As := [rv ad 7 none, .ref (ad 3 x1)]) (rest := []) ⟨hx, hb, hml, hown, hts⟩ (g_cVw_filledBefore l D H.size (ad := ad) (cc := cc) (sad := sad) (sav := sav) h_2) (cw_v 2 hts kw_823 kw_820 kw_821 kw_822 kw_6 rfl rfl (by decide +kernel) ⟨Nat.le_of_ble_eq_true rfl, Nat.le_of_ble_eq_true rfl⟩) ⟨c_blind, va_recv hK hP (ci := 10) (q0 := cPos N 10 x0) rfl (cw_obj (k := 10) (by decide) hl_x0_10), fun U hU hW => c_pre hU hW hP hK hD hev hE hN hNS hS hFc⟩ rfl rfl hl.1 rfl (lv_room (Nat.le_of_ble_eq_true rfl)) d_cVw_filledIn_3 ⟨Nat.le_of_ble_eq_true rfl, Nat.le_of_ble_eq_true rfl⟩) hS (fun q _ h => hFc q h) hFc (fun rz u t H1 locs ht hvm hw hB hz1 hk1 hS => ?_)
  obtain ⟨hP, -, hD1⟩ := hB
  rw [ht] at hP
  have hD := hD1.weaken (fun _ q _ h => hFc q.1 h)
  generalize H1 = H at hP hS ⊢
  refine W.cs (cells' := 0) (slots' := 0) rfl rfl ?_
  subst hw
  exact Kr _ (Option.some.inj Heq).symm 6 _ _ _ d_cVw_filledIn_6 hP hD hS
def m_cVw_filledIn (N : Nat → Nat) (x0 : Nat) (S : CS) (x1 : Nat) : Option (CS × Int32) := m_cVw_filledIn_J0 N x0 S x1
set_option maxHeartbeats 4000000 in
theorem g_cVw_filledIn (l : Launch) (D : va_G) (sz : Nat) {ad : Nat → Nat → Nat} {cc : Nat → ClassId} {sad sav : Nat → Nat} {N : Nat → Nat} {x0 : Nat} {S : CS} {x1 : Nat} {o : CS × Int32} (Heq : m_cVw_filledIn N x0 S x1 = some o) : Met l ⟨"JoinedTrees$View", "filledIn", "(LJoinedTrees$Op;)I"⟩ (Cond.code ⟨"JoinedTrees$View", "filledIn", "(LJoinedTrees$Op;)I"⟩ prog_12_method_11_code 2 (some .int) :: gb) ({ frames := 4, cells := 0, slots := 0, locals := 89 }) (cPc sad sav D (cw ad cc N S) (cty cc) sz [.ref (ad 10 x0), .ref (ad 3 x1)]) (va_Qi (fun (r : Int32) (_ : Unit) => r = o.2) (fun _ t => gO D (cw ad cc N o.1) (cty cc) (va_A (cw ad cc N S) sz) t) (va_A (cw ad cc N S) sz)) 0 0 (va_A (cw ad cc N S) sz) := by
  refine Met.ofW (cc := prog_12_method_11_code) (maxL := 2) (ret := (some .int)) (by decide) rfl ?_
  intro p e s m args below meth c s₁ B hml hv
  obtain ⟨rfl, hsz, hP, hK, hD0, hev, hE, hN⟩ := hv
  have hx := B.exec
  have hb := B.bytes
  have hr := B.returns
  have hts : ∀ w9 ∈ gb, w9.before [.ref (ad 10 x0), .ref (ad 3 x1)].toArray s = true := fun w9 h => atoms_spec (ws := Cond.code ⟨"JoinedTrees$View", "filledIn", "(LJoinedTrees$Op;)I"⟩ prog_12_method_11_code 2 (some .int) :: gb) B.pre w9 (List.mem_cons_of_mem _ h)
  have hown : s.vm.findClass "JoinedTrees$View" = some m.cls := findClass_of_methodNamed B.named
  have hlocks := B.notSynchronized
  have hNS := ns_of hP
  subst hsz
  have hD := hD0.self (sz := s.heap.size)
  generalize hAe : va_A (cw ad cc N S) s.heap.size = A at hD hev hE hNS ⊢
  have hA : ∀ q : Nat, s.heap.size ≤ q → A q := fun q h => by rw [← hAe]; exact Or.inr h
  have hS : va_S A s.heap s.heap [] := va_S.rf
  obtain ⟨ls, hl, hle⟩ : ∃ ls : Array Slot, lv_has ls 2 [(0, .ref (ad 10 x0)), (1, .ref (ad 3 x1))] ∧ entryFrame m ([.ref (ad 10 x0), .ref (ad 3 x1)] : List Value).toArray 2 = F0 m 0 ls [] := by
    exact ⟨_, lv_entry (n := 2) _ (Nat.le_of_ble_eq_true rfl), lg_entry_eq ..⟩
  rw [hle]
  refine w_cVw_filledIn_J0 ⟨hx, hb, hr, hml, hown, hts, hK, hA, hev, hE, hN, hNS⟩ Heq (fun r h pc H locs ls hd hP hD hS => ?_) _ _ _ hP hD hS (lv_sub hl [0, 1] rfl)
  subst h
  exact W.iret hx hb hr (fun t ht hW => ⟨⟨_, (), rfl, rfl, by rw [ht]; exact hP, va_K.moved hW.alike hK, hD⟩, hS.F ht⟩) hS.2.2 hd
def m_cRd_isBlank_J29 (N : Nat → Nat) (S : CS) (t0 : Int32) : Option (CS × Int32) := (if t0 = 0 ∨ t0 = 1 then some (S, t0) else none)
theorem d_cRd_isBlank_0 : decode prog_3_method_4_code 0 = .ok (.iload_n 0, 1) := by decide +kernel
theorem d_cRd_isBlank_1 : decode prog_3_method_4_code 1 = .ok (.bipush 9, 2) := by decide +kernel
theorem d_cRd_isBlank_3 : decode prog_3_method_4_code 3 = .ok (.if_icmp .eq 21, 3) := by decide +kernel
theorem d_cRd_isBlank_24 : decode prog_3_method_4_code 24 = .ok (.iconst 1, 1) := by decide +kernel
theorem d_cRd_isBlank_25 : decode prog_3_method_4_code 25 = .ok (.goto 4, 3) := by decide +kernel
theorem d_cRd_isBlank_29 : decode prog_3_method_4_code 29 = .ok (.ireturn, 1) := by decide +kernel
set_option maxHeartbeats 4000000 in
set_option maxRecDepth 100000 in
theorem w_cRd_isBlank_J29 {p : Program} {l : Launch} {e : Env} {s : State} {m : MethodId} {args : Array Value} {below : List Frame} {meth : Method} {c : Code} {A : Nat → Prop} {D : va_G} {ad : Nat → Nat → Nat} {cc : Nat → ClassId} {sad sav : Nat → Nat} {Q : State → Prop} (hC : MCc sad sav "JoinedTrees$JsonReader" prog_3_method_4_code 1 (some .boolean) p s m args meth c A D cc) {N : Nat → Nat} {S : CS} {t0 : Int32} {o : CS × Int32} (Heq : m_cRd_isBlank_J29 N S t0 = some o) (Kr : ∀ r : CS × Int32, o = r → ∀ (pc : Nat) (H : Heap) (locs : List Loc) (ls : Array Slot), decode prog_3_method_4_code pc = .ok (.ireturn, 1) → (r.2 = 0 ∨ r.2 = 1) → va_P D cls (cw ad cc N r.1) H → va_D A (cw ad cc N r.1) → va_S A s.heap H locs → W p l e ({ frames := 0, cells := 0, slots := 0, locals := 0 }) s m args below meth c H locs 0 0 Q (F0 m pc ls [.int r.2])) : ∀ (H : Heap) (locs : List Loc) (ls : Array Slot), va_P D cls (cw ad cc N S) H → va_D A (cw ad cc N S) → va_S A s.heap H locs → lv_has ls 1 [] → W p l e ({ frames := 0, cells := 0, slots := 0, locals := 0 }) s m args below meth c H locs 0 0 Q (F0 m 29 ls [.int t0]) := by
  intro H locs ls hP hD hS hl
  obtain ⟨hx, hb, hr, hml, hown, hts, hK, hA, hev, hE, hN, hNS⟩ := id hC
  unfold m_cRd_isBlank_J29 at Heq
  by_cases hz_1 : t0 = 0 ∨ t0 = 1
  case neg => rw [if_neg hz_1] at Heq; cases Heq
  replace Heq := (if_pos hz_1).symm.trans Heq
  exact Kr _ (Option.some.inj Heq).symm 29 _ _ _ d_cRd_isBlank_29 hz_1 hP hD hS
def m_cRd_isBlank_J24 (N : Nat → Nat) (S : CS) : Option (CS × Int32) := m_cRd_isBlank_J29 N S 1
set_option maxHeartbeats 4000000 in
set_option maxRecDepth 100000 in
theorem w_cRd_isBlank_J24 {p : Program} {l : Launch} {e : Env} {s : State} {m : MethodId} {args : Array Value} {below : List Frame} {meth : Method} {c : Code} {A : Nat → Prop} {D : va_G} {ad : Nat → Nat → Nat} {cc : Nat → ClassId} {sad sav : Nat → Nat} {Q : State → Prop} (hC : MCc sad sav "JoinedTrees$JsonReader" prog_3_method_4_code 1 (some .boolean) p s m args meth c A D cc) {N : Nat → Nat} {S : CS} {o : CS × Int32} (Heq : m_cRd_isBlank_J24 N S = some o) (Kr : ∀ r : CS × Int32, o = r → ∀ (pc : Nat) (H : Heap) (locs : List Loc) (ls : Array Slot), decode prog_3_method_4_code pc = .ok (.ireturn, 1) → (r.2 = 0 ∨ r.2 = 1) → va_P D cls (cw ad cc N r.1) H → va_D A (cw ad cc N r.1) → va_S A s.heap H locs → W p l e ({ frames := 0, cells := 0, slots := 0, locals := 0 }) s m args below meth c H locs 0 0 Q (F0 m pc ls [.int r.2])) : ∀ (H : Heap) (locs : List Loc) (ls : Array Slot), va_P D cls (cw ad cc N S) H → va_D A (cw ad cc N S) → va_S A s.heap H locs → lv_has ls 1 [] → W p l e ({ frames := 0, cells := 0, slots := 0, locals := 0 }) s m args below meth c H locs 0 0 Q (F0 m 24 ls []) := by
  intro H locs ls hP hD hS hl
  obtain ⟨hx, hb, hr, hml, hown, hts, hK, hA, hev, hE, hN, hNS⟩ := id hC
  unfold m_cRd_isBlank_J24 at Heq
  refine lv_iconst (v := 1) hx hb d_cRd_isBlank_24 (by decide) ?_
  refine lv_goto (tgt := 29) hx hb d_cRd_isBlank_25 (by decide) ?_
  exact w_cRd_isBlank_J29 hC Heq Kr _ _ _ hP hD hS (lv_sub hl [] rfl)
def m_cRd_isBlank_J0 (N : Nat → Nat) (S : CS) (x0 : Int32) : Option (CS × Int32) := (if x0 = 9 then m_cRd_isBlank_J24 N S else (if x0 = 10 then m_cRd_isBlank_J24 N S else (if x0 = 13 then m_cRd_isBlank_J24 N S else (if x0 = 32 then m_cRd_isBlank_J24 N S else m_cRd_isBlank_J29 N S 0))))
theorem d_cRd_isBlank_6 : decode prog_3_method_4_code 6 = .ok (.iload_n 0, 1) := by decide +kernel
theorem d_cRd_isBlank_7 : decode prog_3_method_4_code 7 = .ok (.bipush 10, 2) := by decide +kernel
theorem d_cRd_isBlank_9 : decode prog_3_method_4_code 9 = .ok (.if_icmp .eq 15, 3) := by decide +kernel
theorem d_cRd_isBlank_12 : decode prog_3_method_4_code 12 = .ok (.iload_n 0, 1) := by decide +kernel
theorem d_cRd_isBlank_13 : decode prog_3_method_4_code 13 = .ok (.bipush 13, 2) := by decide +kernel
theorem d_cRd_isBlank_15 : decode prog_3_method_4_code 15 = .ok (.if_icmp .eq 9, 3) := by decide +kernel
theorem d_cRd_isBlank_18 : decode prog_3_method_4_code 18 = .ok (.iload_n 0, 1) := by decide +kernel
theorem d_cRd_isBlank_19 : decode prog_3_method_4_code 19 = .ok (.bipush 32, 2) := by decide +kernel
theorem d_cRd_isBlank_21 : decode prog_3_method_4_code 21 = .ok (.if_icmp .ne 7, 3) := by decide +kernel
theorem d_cRd_isBlank_28 : decode prog_3_method_4_code 28 = .ok (.iconst 0, 1) := by decide +kernel
set_option maxHeartbeats 4000000 in
set_option maxRecDepth 100000 in
theorem w_cRd_isBlank_J0 {p : Program} {l : Launch} {e : Env} {s : State} {m : MethodId} {args : Array Value} {below : List Frame} {meth : Method} {c : Code} {A : Nat → Prop} {D : va_G} {ad : Nat → Nat → Nat} {cc : Nat → ClassId} {sad sav : Nat → Nat} {Q : State → Prop} (hC : MCc sad sav "JoinedTrees$JsonReader" prog_3_method_4_code 1 (some .boolean) p s m args meth c A D cc) {N : Nat → Nat} {S : CS} {x0 : Int32} {o : CS × Int32} (Heq : m_cRd_isBlank_J0 N S x0 = some o) (Kr : ∀ r : CS × Int32, o = r → ∀ (pc : Nat) (H : Heap) (locs : List Loc) (ls : Array Slot), decode prog_3_method_4_code pc = .ok (.ireturn, 1) → (r.2 = 0 ∨ r.2 = 1) → va_P D cls (cw ad cc N r.1) H → va_D A (cw ad cc N r.1) → va_S A s.heap H locs → W p l e ({ frames := 0, cells := 0, slots := 0, locals := 0 }) s m args below meth c H locs 0 0 Q (F0 m pc ls [.int r.2])) : ∀ (H : Heap) (locs : List Loc) (ls : Array Slot), va_P D cls (cw ad cc N S) H → va_D A (cw ad cc N S) → va_S A s.heap H locs → lv_has ls 1 [(0, .int x0)] → W p l e ({ frames := 0, cells := 0, slots := 0, locals := 0 }) s m args below meth c H locs 0 0 Q (F0 m 0 ls []) := by
  intro H locs ls hP hD hS hl
  obtain ⟨hx, hb, hr, hml, hown, hts, hK, hA, hev, hE, hN, hNS⟩ := id hC
  unfold m_cRd_isBlank_J0 at Heq
  refine lv_iload_n hx hb d_cRd_isBlank_0 rfl (lv_at hl 0 rfl) ?_
  refine lv_bipush (v := 9) hx hb d_cRd_isBlank_1 (by decide) ?_
  refine lv_icmp_eq (tgt := 24) hx hb d_cRd_isBlank_3 (by decide) (fun c_1 => ?_) (fun c_1 => ?_)
  · replace Heq := (if_pos c_1).symm.trans Heq
    exact w_cRd_isBlank_J24 hC Heq Kr _ _ _ hP hD hS (lv_sub hl [] rfl)
  · replace Heq := (if_neg c_1).symm.trans Heq
    refine lv_iload_n hx hb d_cRd_isBlank_6 rfl (lv_at hl 0 rfl) ?_
    refine lv_bipush (v := 10) hx hb d_cRd_isBlank_7 (by decide) ?_
    refine lv_icmp_eq (tgt := 24) hx hb d_cRd_isBlank_9 (by decide) (fun c_2 => ?_) (fun c_2 => ?_)
    · replace Heq := (if_pos c_2).symm.trans Heq
      exact w_cRd_isBlank_J24 hC Heq Kr _ _ _ hP hD hS (lv_sub hl [] rfl)
    · replace Heq := (if_neg c_2).symm.trans Heq
      refine lv_iload_n hx hb d_cRd_isBlank_12 rfl (lv_at hl 0 rfl) ?_
      refine lv_bipush (v := 13) hx hb d_cRd_isBlank_13 (by decide) ?_
      refine lv_icmp_eq (tgt := 24) hx hb d_cRd_isBlank_15 (by decide) (fun c_3 => ?_) (fun c_3 => ?_)
      · replace Heq := (if_pos c_3).symm.trans Heq
        exact w_cRd_isBlank_J24 hC Heq Kr _ _ _ hP hD hS (lv_sub hl [] rfl)
      · replace Heq := (if_neg c_3).symm.trans Heq
        refine lv_iload_n hx hb d_cRd_isBlank_18 rfl (lv_at hl 0 rfl) ?_
        refine lv_bipush (v := 32) hx hb d_cRd_isBlank_19 (by decide) ?_
        refine lv_icmp_ne (tgt := 28) hx hb d_cRd_isBlank_21 (by decide) (fun c_4 => ?_) (fun c_4 => ?_)
        · replace Heq := (if_neg c_4).symm.trans Heq
          refine lv_iconst (v := 0) hx hb d_cRd_isBlank_28 (by decide) ?_
          exact w_cRd_isBlank_J29 hC Heq Kr _ _ _ hP hD hS (lv_sub hl [] rfl)
        · replace Heq := (if_pos c_4).symm.trans Heq
          exact w_cRd_isBlank_J24 hC Heq Kr _ _ _ hP hD hS (lv_sub hl [] rfl)
def m_cRd_isBlank (N : Nat → Nat) (S : CS) (x0 : Int32) : Option (CS × Int32) := m_cRd_isBlank_J0 N S x0
set_option maxHeartbeats 4000000 in
theorem g_cRd_isBlank (l : Launch) (D : va_G) (sz : Nat) {ad : Nat → Nat → Nat} {cc : Nat → ClassId} {sad sav : Nat → Nat} {N : Nat → Nat} {S : CS} {x0 : Int32} {o : CS × Int32} (Heq : m_cRd_isBlank N S x0 = some o) : Met l ⟨"JoinedTrees$JsonReader", "isBlank", "(I)Z"⟩ (Cond.code ⟨"JoinedTrees$JsonReader", "isBlank", "(I)Z"⟩ prog_3_method_4_code 1 (some .boolean) :: gb) ({ frames := 0, cells := 0, slots := 0, locals := 0 }) (cPc sad sav D (cw ad cc N S) (cty cc) sz [.int x0]) (va_Qi (fun (r : Int32) (_ : Unit) => r = o.2) (fun _ t => gO D (cw ad cc N o.1) (cty cc) (va_A (cw ad cc N S) sz) t) (va_A (cw ad cc N S) sz)) 0 0 (va_A (cw ad cc N S) sz) := by
  refine Met.ofW (cc := prog_3_method_4_code) (maxL := 1) (ret := (some .boolean)) (by decide) rfl ?_
  intro p e s m args below meth c s₁ B hml hv
  obtain ⟨rfl, hsz, hP, hK, hD0, hev, hE, hN⟩ := hv
  have hx := B.exec
  have hb := B.bytes
  have hr := B.returns
  have hts : ∀ w9 ∈ gb, w9.before [.int x0].toArray s = true := fun w9 h => atoms_spec (ws := Cond.code ⟨"JoinedTrees$JsonReader", "isBlank", "(I)Z"⟩ prog_3_method_4_code 1 (some .boolean) :: gb) B.pre w9 (List.mem_cons_of_mem _ h)
  have hown : s.vm.findClass "JoinedTrees$JsonReader" = some m.cls := findClass_of_methodNamed B.named
  have hlocks := B.notSynchronized
  have hNS := ns_of hP
  subst hsz
  have hD := hD0.self (sz := s.heap.size)
  generalize hAe : va_A (cw ad cc N S) s.heap.size = A at hD hev hE hNS ⊢
  have hA : ∀ q : Nat, s.heap.size ≤ q → A q := fun q h => by rw [← hAe]; exact Or.inr h
  have hS : va_S A s.heap s.heap [] := va_S.rf
  obtain ⟨ls, hl, hle⟩ : ∃ ls : Array Slot, lv_has ls 1 [(0, .int x0)] ∧ entryFrame m ([.int x0] : List Value).toArray 1 = F0 m 0 ls [] := by
    exact ⟨_, lv_entry (n := 1) _ (Nat.le_of_ble_eq_true rfl), lg_entry_eq ..⟩
  rw [hle]
  refine w_cRd_isBlank_J0 ⟨hx, hb, hr, hml, hown, hts, hK, hA, hev, hE, hN, hNS⟩ Heq (fun r h pc H locs ls hd hz hP hD hS => ?_) _ _ _ hP hD hS (lv_sub hl [0] rfl)
  subst h
  exact W.zret (ty := .boolean) hx hb hr (by rcases hz with hz | hz <;> rw [hz] <;> rfl) (fun t ht hW => ⟨⟨_, (), rfl, rfl, by rw [ht]; exact hP, va_K.moved hW.alike hK, hD⟩, hS.F ht⟩) hS.2.2 hd
def m_cRd_skipBlanks_B2 (N : Nat → Nat) (x0 : Nat) (S : CS) (x1 : Int32) : Option ((CS × Int32) ⊕ CS) := (if 8192 ≤ x1 then some (.inr (S)) else gl x0 (N 1) (gn (S.r 1 2 x0) (N 5) (fun j_2 => ob (m_cRw_at N j_2 S (S.i 1 4 x0)) (fun o_5 => ob (m_cRd_isBlank N o_5.1 o_5.2) (fun o_7 => (if o_7.2 = 0 then some (.inr (o_7.1)) else some (.inl ((o_7.1.setI 1 4 x0 ((o_7.1.i 1 4 x0) + 1)), (x1 + 1)))))))))
theorem d_cRd_skipBlanks_0 : decode prog_3_method_3_code 0 = .ok (.iconst 0, 1) := by decide +kernel
theorem d_cRd_skipBlanks_1 : decode prog_3_method_3_code 1 = .ok (.istore_n 1, 1) := by decide +kernel
theorem d_cRd_skipBlanks_2 : decode prog_3_method_3_code 2 = .ok (.iload_n 1, 1) := by decide +kernel
theorem d_cRd_skipBlanks_3 : decode prog_3_method_3_code 3 = .ok (.sipush 8192, 3) := by decide +kernel
theorem d_cRd_skipBlanks_6 : decode prog_3_method_3_code 6 = .ok (.if_icmp .ge 36, 3) := by decide +kernel
theorem d_cRd_skipBlanks_9 : decode prog_3_method_3_code 9 = .ok (.aload_n 0, 1) := by decide +kernel
theorem d_cRd_skipBlanks_10 : decode prog_3_method_3_code 10 = .ok (.getfield 27, 3) := by decide +kernel
theorem d_cRd_skipBlanks_13 : decode prog_3_method_3_code 13 = .ok (.aload_n 0, 1) := by decide +kernel
theorem d_cRd_skipBlanks_14 : decode prog_3_method_3_code 14 = .ok (.getfield 34, 3) := by decide +kernel
theorem d_cRd_skipBlanks_17 : decode prog_3_method_3_code 17 = .ok (.invokevirtual 70, 3) := by decide +kernel
theorem d_cRd_skipBlanks_20 : decode prog_3_method_3_code 20 = .ok (.invokestatic 73, 3) := by decide +kernel
theorem d_cRd_skipBlanks_23 : decode prog_3_method_3_code 23 = .ok (.ifCond .eq 19, 3) := by decide +kernel
theorem d_cRd_skipBlanks_26 : decode prog_3_method_3_code 26 = .ok (.aload_n 0, 1) := by decide +kernel
theorem d_cRd_skipBlanks_27 : decode prog_3_method_3_code 27 = .ok (.dup, 1) := by decide +kernel
theorem d_cRd_skipBlanks_28 : decode prog_3_method_3_code 28 = .ok (.getfield 34, 3) := by decide +kernel
theorem d_cRd_skipBlanks_31 : decode prog_3_method_3_code 31 = .ok (.iconst 1, 1) := by decide +kernel
theorem d_cRd_skipBlanks_32 : decode prog_3_method_3_code 32 = .ok (.iadd, 1) := by decide +kernel
theorem d_cRd_skipBlanks_33 : decode prog_3_method_3_code 33 = .ok (.putfield 34, 3) := by decide +kernel
theorem d_cRd_skipBlanks_36 : decode prog_3_method_3_code 36 = .ok (.iinc 1 1, 3) := by decide +kernel
theorem d_cRd_skipBlanks_39 : decode prog_3_method_3_code 39 = .ok (.goto (-37), 3) := by decide +kernel
set_option maxHeartbeats 4000000 in
set_option maxRecDepth 100000 in
theorem w_cRd_skipBlanks_B2 {p : Program} {l : Launch} {e : Env} {s : State} {m : MethodId} {args : Array Value} {below : List Frame} {meth : Method} {c : Code} {A : Nat → Prop} {D : va_G} {ad : Nat → Nat → Nat} {cc : Nat → ClassId} {sad sav : Nat → Nat} {Q : State → Prop} (hC : MCc sad sav "JoinedTrees$JsonReader" prog_3_method_3_code 2 none p s m args meth c A D cc) {N : Nat → Nat} {x0 : Nat} {S : CS} {x1 : Int32} {o : ((CS × Int32) ⊕ CS)} (Heq : m_cRd_skipBlanks_B2 N x0 S x1 = some o) (Ka : ∀ b : CS × Int32, o = .inl b → ∀ (H : Heap) (locs : List Loc) (ls : Array Slot), va_P D cls (cw ad cc N b.1) H → va_D A (cw ad cc N b.1) → va_S A s.heap H locs → lv_has ls 2 [(0, .ref (ad 1 x0)), (1, .int b.2)] → W p l e ({ frames := 1, cells := 0, slots := 0, locals := 21 }) s m args below meth c H locs 0 0 Q (F0 m 2 ls [])) (K0 : ∀ b : CS, o = .inr b → ∀ (H : Heap) (locs : List Loc) (ls : Array Slot), va_P D cls (cw ad cc N b) H → va_D A (cw ad cc N b) → va_S A s.heap H locs → lv_has ls 2 [(0, .ref (ad 1 x0))] → W p l e ({ frames := 1, cells := 0, slots := 0, locals := 21 }) s m args below meth c H locs 0 0 Q (F0 m 42 ls [])) : ∀ (H : Heap) (locs : List Loc) (ls : Array Slot), va_P D cls (cw ad cc N S) H → va_D A (cw ad cc N S) → va_S A s.heap H locs → lv_has ls 2 [(0, .ref (ad 1 x0)), (1, .int x1)] → W p l e ({ frames := 1, cells := 0, slots := 0, locals := 21 }) s m args below meth c H locs 0 0 Q (F0 m 2 ls []) := by
  intro H locs ls hP hD hS hl
  obtain ⟨hx, hb, hr, hml, hown, hts, hK, hA, hev, hE, hN, hNS⟩ := id hC
  unfold m_cRd_skipBlanks_B2 at Heq
  refine lv_iload_n hx hb d_cRd_skipBlanks_2 rfl (lv_at hl 1 rfl) ?_
  refine lv_sipush (v := 8192) hx hb d_cRd_skipBlanks_3 (by decide) ?_
  refine lv_icmp_ge (tgt := 42) hx hb d_cRd_skipBlanks_6 (by decide) (fun c_1 => ?_) (fun c_1 => ?_)
  · replace Heq := (if_pos c_1).symm.trans Heq
    exact K0 _ (Option.some.inj Heq).symm _ _ _ hP hD hS (lv_sub hl [0] rfl)
  · replace Heq := (if_neg c_1).symm.trans Heq
    refine lv_aload_n hx hb d_cRd_skipBlanks_9 rfl (lv_at hl 0 rfl) ?_
    obtain ⟨hl_x0_1, Heq⟩ := gl_some Heq
    refine va_get (D := D) (ci := 1) (v := rv ad 5 (S.r 1 2 x0)) (C := R_Rd) (T := F_Rd) (N := 10) hx hb hts i_Rd hown hK hP (cPos N 1 x0) (cw_obj (k := 1) (by decide) hl_x0_1) rfl 2 (by decide) (hts _ kw_346) (fun _ h9 => h9) rfl d_cRd_skipBlanks_10 ?_
    refine lv_aload_n hx hb d_cRd_skipBlanks_13 rfl (lv_at hl 0 rfl) ?_
    refine va_get (D := D) (ci := 1) (v := .int (S.i 1 4 x0)) (C := R_Rd) (T := F_Rd) (N := 10) hx hb hts i_Rd hown hK hP (cPos N 1 x0) (cw_obj (k := 1) (by decide) hl_x0_1) rfl 4 (by decide) (hts _ kw_349) (fun _ h9 => h9) rfl d_cRd_skipBlanks_14 ?_
    obtain ⟨j_2, hj_3, hl_4, Heq⟩ := gn_some Heq
    refine w_s (st' := [.int (S.i 1 4 x0), .ref (ad 5 j_2)]) (congrArg (fun z9 : Option Nat => [.int (S.i 1 4 x0), rv ad 5 z9]) hj_3) ?_
    obtain ⟨o_5, h_6, Heq⟩ := ob_some Heq
    have hFc := fr_all hD hS hA
    refine va_calli (va_runV (As := [.int (S.i 1 4 x0)]) (rest := []) ⟨hx, hb, hml, hown, hts⟩ (g_cRw_at l D H.size (ad := ad) (cc := cc) (sad := sad) (sav := sav) h_6) (cw_v 1 hts kw_689 kw_871 kw_687 kw_688 kw_4 rfl rfl (by decide +kernel) ⟨Nat.le_of_ble_eq_true rfl, Nat.le_of_ble_eq_true rfl⟩) ⟨c_blind, va_recv hK hP (ci := 5) (q0 := cPos N 5 j_2) rfl (cw_obj (k := 5) (by decide) hl_4), fun U hU hW => c_pre hU hW hP hK hD hev hE hN hNS hS hFc⟩ rfl rfl hl.1 rfl (lv_room (Nat.le_of_ble_eq_true rfl)) d_cRd_skipBlanks_17 ⟨Nat.le_of_ble_eq_true rfl, Nat.le_of_ble_eq_true rfl⟩) hS (fun q _ h => hFc q h) hFc (fun rz u t H1 locs ht hvm hw hB hz1 hk1 hS => ?_)
    obtain ⟨hP, -, hD1⟩ := hB
    rw [ht] at hP
    have hD := hD1.weaken (fun _ q _ h => hFc q.1 h)
    generalize H1 = H at hP hS ⊢
    refine W.cs (cells' := 0) (slots' := 0) rfl rfl ?_
    subst hw
    obtain ⟨o_7, h_8, Heq⟩ := ob_some Heq
    have hFc := fr_all hD hS hA
    refine va_calli (va_runS (As := [.int o_5.2]) (rest := []) ⟨hx, hb, hml, hown, hts⟩ (g_cRd_isBlank l D H.size (ad := ad) (cc := cc) (sad := sad) (sav := sav) h_8) (cw_s 1 hts kw_874 kw_872 kw_873 kw_7 rfl rfl (by decide +kernel) ⟨Nat.le_of_ble_eq_true rfl, Nat.le_of_ble_eq_true rfl⟩) ⟨c_blind, fun U hU hW => c_pre hU hW hP hK hD hev hE hN hNS hS hFc⟩ rfl rfl hl.1 rfl (lv_room (Nat.le_of_ble_eq_true rfl)) d_cRd_skipBlanks_20 ⟨Nat.le_of_ble_eq_true rfl, Nat.le_of_ble_eq_true rfl⟩) hS (fun q _ h => hFc q h) hFc (fun rz u t H1 locs ht hvm hw hB hz1 hk1 hS => ?_)
    obtain ⟨hP, -, hD1⟩ := hB
    rw [ht] at hP
    have hD := hD1.weaken (fun _ q _ h => hFc q.1 h)
    generalize H1 = H at hP hS ⊢
    refine W.cs (cells' := 0) (slots' := 0) rfl rfl ?_
    subst hw
    refine lv_if_eq (tgt := 42) hx hb d_cRd_skipBlanks_23 (by decide) (fun c_9 => ?_) (fun c_9 => ?_)
    · replace Heq := (if_pos c_9).symm.trans Heq
      exact K0 _ (Option.some.inj Heq).symm _ _ _ hP hD hS (lv_sub hl [0] rfl)
    · replace Heq := (if_neg c_9).symm.trans Heq
      refine lv_aload_n hx hb d_cRd_skipBlanks_26 rfl (lv_at hl 0 rfl) ?_
      refine lv_dup hx hb d_cRd_skipBlanks_27 (by first | rfl | exact rv_cat) ?_
      refine va_get (D := D) (ci := 1) (v := .int (o_7.1.i 1 4 x0)) (C := R_Rd) (T := F_Rd) (N := 10) hx hb hts i_Rd hown hK hP (cPos N 1 x0) (cw_obj (k := 1) (by decide) hl_x0_1) rfl 4 (by decide) (hts _ kw_349) (fun _ h9 => h9) rfl d_cRd_skipBlanks_28 ?_
      refine lv_iconst (v := 1) hx hb d_cRd_skipBlanks_31 (by decide) ?_
      refine lv_iadd hx hb d_cRd_skipBlanks_32 ?_
      refine w_i (y := (o_7.1.i 1 4 x0) + 1) rfl ?_
      refine va_put (D := D) (ci := 1) (v := .int ((o_7.1.i 1 4 x0) + 1)) (ty := .int) (C := R_Rd) (T := F_Rd) (N := 10) hx hb hts i_Rd t_Rd t_Rd_ok n_Rd hown hK hP hD hS (cPos N 1 x0) (cw_obj (k := 1) (by decide) hl_x0_1) rfl 4 (by decide) (hts _ kw_349) (fun _ h9 => h9) rfl (by decide +kernel) rfl rfl (Nat.le_of_ble_eq_true rfl) d_cRd_skipBlanks_33 (fun H locs hP hD hS => ?_)
      have hD := (congrArg (fun w9 => va_D A w9) (cw_setI (ad := ad) (cc := cc) (S := o_7.1) (k := 1) (f := 4) (v := (o_7.1.i 1 4 x0) + 1) (by decide) rfl hl_x0_1)).mp hD
      have hP := (congrArg (fun w9 => va_P D cls w9 H) (cw_setI (ad := ad) (cc := cc) (S := o_7.1) (k := 1) (f := 4) (v := (o_7.1.i 1 4 x0) + 1) (by decide) rfl hl_x0_1)).mp hP
      refine lv_iinc (v := x1 + 1) (lv' := [(1, .int (x1 + 1)), (0, .ref (ad 1 x0))]) hx hb d_cRd_skipBlanks_36 hl (k := 1) rfl rfl (by decide) rfl (fun ls hl => ?_)
      refine lv_goto (tgt := 2) hx hb d_cRd_skipBlanks_39 (by decide) ?_
      exact Ka _ (Option.some.inj Heq).symm _ _ _ hP hD hS (lv_sub hl [1, 0] rfl)
def m_cRd_skipBlanks_L2 (N : Nat → Nat) (x0 : Nat) (S : CS) (x1 : Int32) : Option CS := lp (fun a : CS × Int32 => m_cRd_skipBlanks_B2 N x0 a.1 a.2) FU (S, x1)
theorem w_cRd_skipBlanks_L2 {p : Program} {l : Launch} {e : Env} {s : State} {m : MethodId} {args : Array Value} {below : List Frame} {meth : Method} {c : Code} {A : Nat → Prop} {D : va_G} {ad : Nat → Nat → Nat} {cc : Nat → ClassId} {sad sav : Nat → Nat} {Q : State → Prop} (hC : MCc sad sav "JoinedTrees$JsonReader" prog_3_method_3_code 2 none p s m args meth c A D cc) {N : Nat → Nat} {x0 : Nat} {S : CS} {x1 : Int32} {o : CS} (Heq : m_cRd_skipBlanks_L2 N x0 S x1 = some o) (K0 : ∀ b : CS, o = b → ∀ (H : Heap) (locs : List Loc) (ls : Array Slot), va_P D cls (cw ad cc N b) H → va_D A (cw ad cc N b) → va_S A s.heap H locs → lv_has ls 2 [(0, .ref (ad 1 x0))] → W p l e ({ frames := 1, cells := 0, slots := 0, locals := 21 }) s m args below meth c H locs 0 0 Q (F0 m 42 ls [])) : ∀ (H : Heap) (locs : List Loc) (ls : Array Slot), va_P D cls (cw ad cc N S) H → va_D A (cw ad cc N S) → va_S A s.heap H locs → lv_has ls 2 [(0, .ref (ad 1 x0)), (1, .int x1)] → W p l e ({ frames := 1, cells := 0, slots := 0, locals := 21 }) s m args below meth c H locs 0 0 Q (F0 m 2 ls []) := by
  refine lp_w (G := fun a : CS × Int32 => ∀ (H : Heap) (locs : List Loc) (ls : Array Slot), va_P D cls (cw ad cc N a.1) H → va_D A (cw ad cc N a.1) → va_S A s.heap H locs → lv_has ls 2 [(0, .ref (ad 1 x0)), (1, .int a.2)] → W p l e ({ frames := 1, cells := 0, slots := 0, locals := 21 }) s m args below meth c H locs 0 0 Q (F0 m 2 ls [])) ?_ FU (S, x1) Heq
  intro a o1 ho Ka Ke
  exact w_cRd_skipBlanks_B2 hC ho (fun b h => Ka b h) (fun b h => K0 b (Ke _ h).symm)
def m_cRd_skipBlanks_J42 (N : Nat → Nat) (x0 : Nat) (S : CS) : Option CS := some S
theorem d_cRd_skipBlanks_42 : decode prog_3_method_3_code 42 = .ok (.return_, 1) := by decide +kernel
set_option maxHeartbeats 4000000 in
set_option maxRecDepth 100000 in
theorem w_cRd_skipBlanks_J42 {p : Program} {l : Launch} {e : Env} {s : State} {m : MethodId} {args : Array Value} {below : List Frame} {meth : Method} {c : Code} {A : Nat → Prop} {D : va_G} {ad : Nat → Nat → Nat} {cc : Nat → ClassId} {sad sav : Nat → Nat} {Q : State → Prop} (hC : MCc sad sav "JoinedTrees$JsonReader" prog_3_method_3_code 2 none p s m args meth c A D cc) {N : Nat → Nat} {x0 : Nat} {S : CS} {o : CS} (Heq : m_cRd_skipBlanks_J42 N x0 S = some o) (Kr : ∀ r : CS, o = r → ∀ (pc : Nat) (H : Heap) (locs : List Loc) (ls : Array Slot), decode prog_3_method_3_code pc = .ok (.return_, 1) → va_P D cls (cw ad cc N r) H → va_D A (cw ad cc N r) → va_S A s.heap H locs → W p l e ({ frames := 1, cells := 0, slots := 0, locals := 21 }) s m args below meth c H locs 0 0 Q (F0 m pc ls [])) : ∀ (H : Heap) (locs : List Loc) (ls : Array Slot), va_P D cls (cw ad cc N S) H → va_D A (cw ad cc N S) → va_S A s.heap H locs → lv_has ls 2 [(0, .ref (ad 1 x0))] → W p l e ({ frames := 1, cells := 0, slots := 0, locals := 21 }) s m args below meth c H locs 0 0 Q (F0 m 42 ls []) := by
  intro H locs ls hP hD hS hl
  obtain ⟨hx, hb, hr, hml, hown, hts, hK, hA, hev, hE, hN, hNS⟩ := id hC
  unfold m_cRd_skipBlanks_J42 at Heq
  exact Kr _ (Option.some.inj Heq).symm 42 _ _ _ d_cRd_skipBlanks_42 hP hD hS
def m_cRd_skipBlanks_J0 (N : Nat → Nat) (x0 : Nat) (S : CS) : Option CS := ob (m_cRd_skipBlanks_L2 N x0 S 0) (fun b_1 => m_cRd_skipBlanks_J42 N x0 b_1)
set_option maxHeartbeats 4000000 in
set_option maxRecDepth 100000 in
theorem w_cRd_skipBlanks_J0 {p : Program} {l : Launch} {e : Env} {s : State} {m : MethodId} {args : Array Value} {below : List Frame} {meth : Method} {c : Code} {A : Nat → Prop} {D : va_G} {ad : Nat → Nat → Nat} {cc : Nat → ClassId} {sad sav : Nat → Nat} {Q : State → Prop} (hC : MCc sad sav "JoinedTrees$JsonReader" prog_3_method_3_code 2 none p s m args meth c A D cc) {N : Nat → Nat} {x0 : Nat} {S : CS} {o : CS} (Heq : m_cRd_skipBlanks_J0 N x0 S = some o) (Kr : ∀ r : CS, o = r → ∀ (pc : Nat) (H : Heap) (locs : List Loc) (ls : Array Slot), decode prog_3_method_3_code pc = .ok (.return_, 1) → va_P D cls (cw ad cc N r) H → va_D A (cw ad cc N r) → va_S A s.heap H locs → W p l e ({ frames := 1, cells := 0, slots := 0, locals := 21 }) s m args below meth c H locs 0 0 Q (F0 m pc ls [])) : ∀ (H : Heap) (locs : List Loc) (ls : Array Slot), va_P D cls (cw ad cc N S) H → va_D A (cw ad cc N S) → va_S A s.heap H locs → lv_has ls 2 [(0, .ref (ad 1 x0))] → W p l e ({ frames := 1, cells := 0, slots := 0, locals := 21 }) s m args below meth c H locs 0 0 Q (F0 m 0 ls []) := by
  intro H locs ls hP hD hS hl
  obtain ⟨hx, hb, hr, hml, hown, hts, hK, hA, hev, hE, hN, hNS⟩ := id hC
  unfold m_cRd_skipBlanks_J0 at Heq
  refine lv_iconst (v := 0) hx hb d_cRd_skipBlanks_0 (by decide) ?_
  refine lv_istore_n (lv' := [(1, .int 0), (0, .ref (ad 1 x0))]) hx hb d_cRd_skipBlanks_1 rfl hl (by decide) rfl (fun ls hl => ?_)
  obtain ⟨b_1, h_2, Heq⟩ := ob_some Heq
  refine w_cRd_skipBlanks_L2 hC h_2 (fun b h => ?_) _ _ _ hP hD hS (lv_sub hl [1, 0] rfl)
  subst h
  intro H locs ls hP hD hS hl
  exact w_cRd_skipBlanks_J42 hC Heq Kr _ _ _ hP hD hS (lv_sub hl [0] rfl)
def m_cRd_skipBlanks (N : Nat → Nat) (x0 : Nat) (S : CS) : Option CS := m_cRd_skipBlanks_J0 N x0 S
set_option maxHeartbeats 4000000 in
theorem g_cRd_skipBlanks (l : Launch) (D : va_G) (sz : Nat) {ad : Nat → Nat → Nat} {cc : Nat → ClassId} {sad sav : Nat → Nat} {N : Nat → Nat} {x0 : Nat} {S : CS} {o : CS} (Heq : m_cRd_skipBlanks N x0 S = some o) : Met l ⟨"JoinedTrees$JsonReader", "skipBlanks", "()V"⟩ (Cond.code ⟨"JoinedTrees$JsonReader", "skipBlanks", "()V"⟩ prog_3_method_3_code 2 none :: gb) ({ frames := 1, cells := 0, slots := 0, locals := 21 }) (cPc sad sav D (cw ad cc N S) (cty cc) sz [.ref (ad 1 x0)]) (va_Qv (fun _ : Unit => True) (fun _ t => gO D (cw ad cc N o) (cty cc) (va_A (cw ad cc N S) sz) t) (va_A (cw ad cc N S) sz)) 0 0 (va_A (cw ad cc N S) sz) := by
  refine Met.ofW (cc := prog_3_method_3_code) (maxL := 2) (ret := none) (by decide) rfl ?_
  intro p e s m args below meth c s₁ B hml hv
  obtain ⟨rfl, hsz, hP, hK, hD0, hev, hE, hN⟩ := hv
  have hx := B.exec
  have hb := B.bytes
  have hr := B.returns
  have hts : ∀ w9 ∈ gb, w9.before [.ref (ad 1 x0)].toArray s = true := fun w9 h => atoms_spec (ws := Cond.code ⟨"JoinedTrees$JsonReader", "skipBlanks", "()V"⟩ prog_3_method_3_code 2 none :: gb) B.pre w9 (List.mem_cons_of_mem _ h)
  have hown : s.vm.findClass "JoinedTrees$JsonReader" = some m.cls := findClass_of_methodNamed B.named
  have hlocks := B.notSynchronized
  have hNS := ns_of hP
  subst hsz
  have hD := hD0.self (sz := s.heap.size)
  generalize hAe : va_A (cw ad cc N S) s.heap.size = A at hD hev hE hNS ⊢
  have hA : ∀ q : Nat, s.heap.size ≤ q → A q := fun q h => by rw [← hAe]; exact Or.inr h
  have hS : va_S A s.heap s.heap [] := va_S.rf
  obtain ⟨ls, hl, hle⟩ : ∃ ls : Array Slot, lv_has ls 2 [(0, .ref (ad 1 x0))] ∧ entryFrame m ([.ref (ad 1 x0)] : List Value).toArray 2 = F0 m 0 ls [] := by
    exact ⟨_, lv_entry (n := 2) _ (Nat.le_of_ble_eq_true rfl), lg_entry_eq ..⟩
  rw [hle]
  refine w_cRd_skipBlanks_J0 ⟨hx, hb, hr, hml, hown, hts, hK, hA, hev, hE, hN, hNS⟩ Heq (fun r h pc H locs ls hd hP hD hS => ?_) _ _ _ hP hD hS (lv_sub hl [0] rfl)
  subst h
  exact W.vret hx hb hr (fun t ht hW => ⟨⟨(), rfl, trivial, by rw [ht]; exact hP, va_K.moved hW.alike hK, hD⟩, hS.F ht⟩) hS.2.2 hd
def m_cVa_begin_J0 (N : Nat → Nat) (x0 : Nat) (S : CS) (x1 : Option Nat) (x2 : Int32) (x3 : Int32) : Option CS := gl x0 (N 9) (some (((((((((S.setR 9 2 x0 x1).setI 9 3 x0 x2).setI 9 4 x0 x3).setL 9 1 x0 0).setI 9 5 x0 0).setI 9 6 x0 0).setI 9 7 x0 0).setR 9 8 x0 none).setR 9 9 x0 none))
theorem d_cVa_begin_0 : decode prog_11_method_2_code 0 = .ok (.aload_n 0, 1) := by decide +kernel
theorem d_cVa_begin_1 : decode prog_11_method_2_code 1 = .ok (.aload_n 1, 1) := by decide +kernel
theorem d_cVa_begin_2 : decode prog_11_method_2_code 2 = .ok (.putfield 7, 3) := by decide +kernel
theorem d_cVa_begin_5 : decode prog_11_method_2_code 5 = .ok (.aload_n 0, 1) := by decide +kernel
theorem d_cVa_begin_6 : decode prog_11_method_2_code 6 = .ok (.iload_n 2, 1) := by decide +kernel
theorem d_cVa_begin_7 : decode prog_11_method_2_code 7 = .ok (.putfield 13, 3) := by decide +kernel
theorem d_cVa_begin_10 : decode prog_11_method_2_code 10 = .ok (.aload_n 0, 1) := by decide +kernel
theorem d_cVa_begin_11 : decode prog_11_method_2_code 11 = .ok (.iload_n 3, 1) := by decide +kernel
theorem d_cVa_begin_12 : decode prog_11_method_2_code 12 = .ok (.putfield 17, 3) := by decide +kernel
theorem d_cVa_begin_15 : decode prog_11_method_2_code 15 = .ok (.aload_n 0, 1) := by decide +kernel
theorem d_cVa_begin_16 : decode prog_11_method_2_code 16 = .ok (.lconst 0, 1) := by decide +kernel
theorem d_cVa_begin_17 : decode prog_11_method_2_code 17 = .ok (.putfield 20, 3) := by decide +kernel
theorem d_cVa_begin_20 : decode prog_11_method_2_code 20 = .ok (.aload_n 0, 1) := by decide +kernel
theorem d_cVa_begin_21 : decode prog_11_method_2_code 21 = .ok (.iconst 0, 1) := by decide +kernel
theorem d_cVa_begin_22 : decode prog_11_method_2_code 22 = .ok (.putfield 24, 3) := by decide +kernel
theorem d_cVa_begin_25 : decode prog_11_method_2_code 25 = .ok (.aload_n 0, 1) := by decide +kernel
theorem d_cVa_begin_26 : decode prog_11_method_2_code 26 = .ok (.iconst 0, 1) := by decide +kernel
theorem d_cVa_begin_27 : decode prog_11_method_2_code 27 = .ok (.putfield 27, 3) := by decide +kernel
theorem d_cVa_begin_30 : decode prog_11_method_2_code 30 = .ok (.aload_n 0, 1) := by decide +kernel
theorem d_cVa_begin_31 : decode prog_11_method_2_code 31 = .ok (.iconst 0, 1) := by decide +kernel
theorem d_cVa_begin_32 : decode prog_11_method_2_code 32 = .ok (.putfield 30, 3) := by decide +kernel
theorem d_cVa_begin_35 : decode prog_11_method_2_code 35 = .ok (.aload_n 0, 1) := by decide +kernel
theorem d_cVa_begin_36 : decode prog_11_method_2_code 36 = .ok (.aconst_null, 1) := by decide +kernel
theorem d_cVa_begin_37 : decode prog_11_method_2_code 37 = .ok (.putfield 34, 3) := by decide +kernel
theorem d_cVa_begin_40 : decode prog_11_method_2_code 40 = .ok (.aload_n 0, 1) := by decide +kernel
theorem d_cVa_begin_41 : decode prog_11_method_2_code 41 = .ok (.aconst_null, 1) := by decide +kernel
theorem d_cVa_begin_42 : decode prog_11_method_2_code 42 = .ok (.putfield 38, 3) := by decide +kernel
theorem d_cVa_begin_45 : decode prog_11_method_2_code 45 = .ok (.return_, 1) := by decide +kernel
set_option maxHeartbeats 4000000 in
set_option maxRecDepth 100000 in
theorem w_cVa_begin_J0 {p : Program} {l : Launch} {e : Env} {s : State} {m : MethodId} {args : Array Value} {below : List Frame} {meth : Method} {c : Code} {A : Nat → Prop} {D : va_G} {ad : Nat → Nat → Nat} {cc : Nat → ClassId} {sad sav : Nat → Nat} {Q : State → Prop} (hC : MCc sad sav "JoinedTrees$Value" prog_11_method_2_code 4 none p s m args meth c A D cc) {N : Nat → Nat} {x0 : Nat} {S : CS} {x1 : Option Nat} {x2 : Int32} {x3 : Int32} {o : CS} (Heq : m_cVa_begin_J0 N x0 S x1 x2 x3 = some o) (Kr : ∀ r : CS, o = r → ∀ (pc : Nat) (H : Heap) (locs : List Loc) (ls : Array Slot), decode prog_11_method_2_code pc = .ok (.return_, 1) → va_P D cls (cw ad cc N r) H → va_D A (cw ad cc N r) → va_S A s.heap H locs → W p l e ({ frames := 0, cells := 0, slots := 0, locals := 0 }) s m args below meth c H locs 0 0 Q (F0 m pc ls [])) : ∀ (H : Heap) (locs : List Loc) (ls : Array Slot), va_P D cls (cw ad cc N S) H → va_D A (cw ad cc N S) → va_S A s.heap H locs → lv_has ls 4 [(0, .ref (ad 9 x0)), (1, rv ad 9 x1), (2, .int x2), (3, .int x3)] → W p l e ({ frames := 0, cells := 0, slots := 0, locals := 0 }) s m args below meth c H locs 0 0 Q (F0 m 0 ls []) := by
  intro H locs ls hP hD hS hl
  obtain ⟨hx, hb, hr, hml, hown, hts, hK, hA, hev, hE, hN, hNS⟩ := id hC
  unfold m_cVa_begin_J0 at Heq
  refine lv_aload_n hx hb d_cVa_begin_0 rfl (lv_at hl 0 rfl) ?_
  refine tx_aload_n (x := x1.map (ad 9)) hx hb d_cVa_begin_1 rfl (lv_at hl 1 rfl) ?_
  refine w_v (y := rv ad 9 x1) rfl ?_
  obtain ⟨hl_x0_9, Heq⟩ := gl_some Heq
  refine w_v (y := rv ad 9 x1) rfl ?_
  refine va_put (D := D) (ci := 9) (v := rv ad 9 x1) (ty := .object "JoinedTrees$Value") (C := R_Va) (T := F_Va) (N := 10) hx hb hts i_Va t_Va t_Va_ok n_Va hown hK hP hD hS (cPos N 9 x0) (cw_obj (k := 9) (by decide) hl_x0_9) rfl 2 (by decide) (hts _ kw_300) (fun _ h9 => h9) rfl (by decide +kernel) (rv_nar (Or.inl ⟨_, rfl⟩)) (rv_fit (Or.inl ⟨_, rfl⟩)) (Nat.le_of_ble_eq_true rfl) d_cVa_begin_2 (fun H locs hP hD hS => ?_)
  have hD := (congrArg (fun w9 => va_D A w9) (cw_setR (ad := ad) (cc := cc) (S := S) (k := 9) (f := 2) (t := 9) (v := x1) (by decide) rfl hl_x0_9)).mp hD
  have hP := (congrArg (fun w9 => va_P D cls w9 H) (cw_setR (ad := ad) (cc := cc) (S := S) (k := 9) (f := 2) (t := 9) (v := x1) (by decide) rfl hl_x0_9)).mp hP
  refine lv_aload_n hx hb d_cVa_begin_5 rfl (lv_at hl 0 rfl) ?_
  refine lv_iload_n hx hb d_cVa_begin_6 rfl (lv_at hl 2 rfl) ?_
  refine va_put (D := D) (ci := 9) (v := .int x2) (ty := .int) (C := R_Va) (T := F_Va) (N := 10) hx hb hts i_Va t_Va t_Va_ok n_Va hown hK hP hD hS (cPos N 9 x0) (cw_obj (k := 9) (by decide) hl_x0_9) rfl 3 (by decide) (hts _ kw_303) (fun _ h9 => h9) rfl (by decide +kernel) rfl rfl (Nat.le_of_ble_eq_true rfl) d_cVa_begin_7 (fun H locs hP hD hS => ?_)
  have hD := (congrArg (fun w9 => va_D A w9) (cw_setI (ad := ad) (cc := cc) (S := (S.setR 9 2 x0 x1)) (k := 9) (f := 3) (v := x2) (by decide) rfl hl_x0_9)).mp hD
  have hP := (congrArg (fun w9 => va_P D cls w9 H) (cw_setI (ad := ad) (cc := cc) (S := (S.setR 9 2 x0 x1)) (k := 9) (f := 3) (v := x2) (by decide) rfl hl_x0_9)).mp hP
  refine lv_aload_n hx hb d_cVa_begin_10 rfl (lv_at hl 0 rfl) ?_
  refine lv_iload_n hx hb d_cVa_begin_11 rfl (lv_at hl 3 rfl) ?_
  refine va_put (D := D) (ci := 9) (v := .int x3) (ty := .int) (C := R_Va) (T := F_Va) (N := 10) hx hb hts i_Va t_Va t_Va_ok n_Va hown hK hP hD hS (cPos N 9 x0) (cw_obj (k := 9) (by decide) hl_x0_9) rfl 4 (by decide) (hts _ kw_306) (fun _ h9 => h9) rfl (by decide +kernel) rfl rfl (Nat.le_of_ble_eq_true rfl) d_cVa_begin_12 (fun H locs hP hD hS => ?_)
  have hD := (congrArg (fun w9 => va_D A w9) (cw_setI (ad := ad) (cc := cc) (S := ((S.setR 9 2 x0 x1).setI 9 3 x0 x2)) (k := 9) (f := 4) (v := x3) (by decide) rfl hl_x0_9)).mp hD
  have hP := (congrArg (fun w9 => va_P D cls w9 H) (cw_setI (ad := ad) (cc := cc) (S := ((S.setR 9 2 x0 x1).setI 9 3 x0 x2)) (k := 9) (f := 4) (v := x3) (by decide) rfl hl_x0_9)).mp hP
  refine lv_aload_n hx hb d_cVa_begin_15 rfl (lv_at hl 0 rfl) ?_
  refine lv_lconst (v := 0) hx hb d_cVa_begin_16 (by decide) ?_
  refine va_put (D := D) (ci := 9) (v := .long 0) (ty := .long) (C := R_Va) (T := F_Va) (N := 10) hx hb hts i_Va t_Va t_Va_ok n_Va hown hK hP hD hS (cPos N 9 x0) (cw_obj (k := 9) (by decide) hl_x0_9) rfl 1 (by decide) (hts _ kw_297) (fun _ h9 => h9) rfl (by decide +kernel) rfl rfl (Nat.le_of_ble_eq_true rfl) d_cVa_begin_17 (fun H locs hP hD hS => ?_)
  have hD := (congrArg (fun w9 => va_D A w9) (cw_setL (ad := ad) (cc := cc) (S := (((S.setR 9 2 x0 x1).setI 9 3 x0 x2).setI 9 4 x0 x3)) (k := 9) (f := 1) (v := 0) (by decide) rfl hl_x0_9)).mp hD
  have hP := (congrArg (fun w9 => va_P D cls w9 H) (cw_setL (ad := ad) (cc := cc) (S := (((S.setR 9 2 x0 x1).setI 9 3 x0 x2).setI 9 4 x0 x3)) (k := 9) (f := 1) (v := 0) (by decide) rfl hl_x0_9)).mp hP
  refine lv_aload_n hx hb d_cVa_begin_20 rfl (lv_at hl 0 rfl) ?_
  refine lv_iconst (v := 0) hx hb d_cVa_begin_21 (by decide) ?_
  refine va_put (D := D) (ci := 9) (v := .int 0) (ty := .int) (C := R_Va) (T := F_Va) (N := 10) hx hb hts i_Va t_Va t_Va_ok n_Va hown hK hP hD hS (cPos N 9 x0) (cw_obj (k := 9) (by decide) hl_x0_9) rfl 5 (by decide) (hts _ kw_309) (fun _ h9 => h9) rfl (by decide +kernel) rfl rfl (Nat.le_of_ble_eq_true rfl) d_cVa_begin_22 (fun H locs hP hD hS => ?_)
  have hD := (congrArg (fun w9 => va_D A w9) (cw_setI (ad := ad) (cc := cc) (S := ((((S.setR 9 2 x0 x1).setI 9 3 x0 x2).setI 9 4 x0 x3).setL 9 1 x0 0)) (k := 9) (f := 5) (v := 0) (by decide) rfl hl_x0_9)).mp hD
  have hP := (congrArg (fun w9 => va_P D cls w9 H) (cw_setI (ad := ad) (cc := cc) (S := ((((S.setR 9 2 x0 x1).setI 9 3 x0 x2).setI 9 4 x0 x3).setL 9 1 x0 0)) (k := 9) (f := 5) (v := 0) (by decide) rfl hl_x0_9)).mp hP
  refine lv_aload_n hx hb d_cVa_begin_25 rfl (lv_at hl 0 rfl) ?_
  refine lv_iconst (v := 0) hx hb d_cVa_begin_26 (by decide) ?_
  refine va_put (D := D) (ci := 9) (v := .int 0) (ty := .int) (C := R_Va) (T := F_Va) (N := 10) hx hb hts i_Va t_Va t_Va_ok n_Va hown hK hP hD hS (cPos N 9 x0) (cw_obj (k := 9) (by decide) hl_x0_9) rfl 6 (by decide) (hts _ kw_312) (fun _ h9 => h9) rfl (by decide +kernel) rfl rfl (Nat.le_of_ble_eq_true rfl) d_cVa_begin_27 (fun H locs hP hD hS => ?_)
  have hD := (congrArg (fun w9 => va_D A w9) (cw_setI (ad := ad) (cc := cc) (S := (((((S.setR 9 2 x0 x1).setI 9 3 x0 x2).setI 9 4 x0 x3).setL 9 1 x0 0).setI 9 5 x0 0)) (k := 9) (f := 6) (v := 0) (by decide) rfl hl_x0_9)).mp hD
  have hP := (congrArg (fun w9 => va_P D cls w9 H) (cw_setI (ad := ad) (cc := cc) (S := (((((S.setR 9 2 x0 x1).setI 9 3 x0 x2).setI 9 4 x0 x3).setL 9 1 x0 0).setI 9 5 x0 0)) (k := 9) (f := 6) (v := 0) (by decide) rfl hl_x0_9)).mp hP
  refine lv_aload_n hx hb d_cVa_begin_30 rfl (lv_at hl 0 rfl) ?_
  refine lv_iconst (v := 0) hx hb d_cVa_begin_31 (by decide) ?_
  refine va_put (D := D) (ci := 9) (v := .int 0) (ty := .boolean) (C := R_Va) (T := F_Va) (N := 10) hx hb hts i_Va t_Va t_Va_ok n_Va hown hK hP hD hS (cPos N 9 x0) (cw_obj (k := 9) (by decide) hl_x0_9) rfl 7 (by decide) (hts _ kw_315) (fun _ h9 => h9) rfl (by decide +kernel) (by decide) (by decide) (Nat.le_of_ble_eq_true rfl) d_cVa_begin_32 (fun H locs hP hD hS => ?_)
  have hD := (congrArg (fun w9 => va_D A w9) (cw_setI (ad := ad) (cc := cc) (S := ((((((S.setR 9 2 x0 x1).setI 9 3 x0 x2).setI 9 4 x0 x3).setL 9 1 x0 0).setI 9 5 x0 0).setI 9 6 x0 0)) (k := 9) (f := 7) (v := 0) (by decide) rfl hl_x0_9)).mp hD
  have hP := (congrArg (fun w9 => va_P D cls w9 H) (cw_setI (ad := ad) (cc := cc) (S := ((((((S.setR 9 2 x0 x1).setI 9 3 x0 x2).setI 9 4 x0 x3).setL 9 1 x0 0).setI 9 5 x0 0).setI 9 6 x0 0)) (k := 9) (f := 7) (v := 0) (by decide) rfl hl_x0_9)).mp hP
  refine lv_aload_n hx hb d_cVa_begin_35 rfl (lv_at hl 0 rfl) ?_
  refine lv_null hx hb d_cVa_begin_36 ?_
  refine w_v (y := rv ad 3 none) rfl ?_
  refine va_put (D := D) (ci := 9) (v := rv ad 3 none) (ty := .object "JoinedTrees$Op") (C := R_Va) (T := F_Va) (N := 10) hx hb hts i_Va t_Va t_Va_ok n_Va hown hK hP hD hS (cPos N 9 x0) (cw_obj (k := 9) (by decide) hl_x0_9) rfl 8 (by decide) (hts _ kw_317) (fun _ h9 => h9) rfl (by decide +kernel) (rv_nar (Or.inl ⟨_, rfl⟩)) (rv_fit (Or.inl ⟨_, rfl⟩)) (Nat.le_of_ble_eq_true rfl) d_cVa_begin_37 (fun H locs hP hD hS => ?_)
  have hD := (congrArg (fun w9 => va_D A w9) (cw_setR (ad := ad) (cc := cc) (S := (((((((S.setR 9 2 x0 x1).setI 9 3 x0 x2).setI 9 4 x0 x3).setL 9 1 x0 0).setI 9 5 x0 0).setI 9 6 x0 0).setI 9 7 x0 0)) (k := 9) (f := 8) (t := 3) (v := none) (by decide) rfl hl_x0_9)).mp hD
  have hP := (congrArg (fun w9 => va_P D cls w9 H) (cw_setR (ad := ad) (cc := cc) (S := (((((((S.setR 9 2 x0 x1).setI 9 3 x0 x2).setI 9 4 x0 x3).setL 9 1 x0 0).setI 9 5 x0 0).setI 9 6 x0 0).setI 9 7 x0 0)) (k := 9) (f := 8) (t := 3) (v := none) (by decide) rfl hl_x0_9)).mp hP
  refine lv_aload_n hx hb d_cVa_begin_40 rfl (lv_at hl 0 rfl) ?_
  refine lv_null hx hb d_cVa_begin_41 ?_
  refine w_v (y := rv ad 3 none) rfl ?_
  refine va_put (D := D) (ci := 9) (v := rv ad 3 none) (ty := .object "JoinedTrees$Op") (C := R_Va) (T := F_Va) (N := 10) hx hb hts i_Va t_Va t_Va_ok n_Va hown hK hP hD hS (cPos N 9 x0) (cw_obj (k := 9) (by decide) hl_x0_9) rfl 9 (by decide) (hts _ kw_319) (fun _ h9 => h9) rfl (by decide +kernel) (rv_nar (Or.inl ⟨_, rfl⟩)) (rv_fit (Or.inl ⟨_, rfl⟩)) (Nat.le_of_ble_eq_true rfl) d_cVa_begin_42 (fun H locs hP hD hS => ?_)
  have hD := (congrArg (fun w9 => va_D A w9) (cw_setR (ad := ad) (cc := cc) (S := ((((((((S.setR 9 2 x0 x1).setI 9 3 x0 x2).setI 9 4 x0 x3).setL 9 1 x0 0).setI 9 5 x0 0).setI 9 6 x0 0).setI 9 7 x0 0).setR 9 8 x0 none)) (k := 9) (f := 9) (t := 3) (v := none) (by decide) rfl hl_x0_9)).mp hD
  have hP := (congrArg (fun w9 => va_P D cls w9 H) (cw_setR (ad := ad) (cc := cc) (S := ((((((((S.setR 9 2 x0 x1).setI 9 3 x0 x2).setI 9 4 x0 x3).setL 9 1 x0 0).setI 9 5 x0 0).setI 9 6 x0 0).setI 9 7 x0 0).setR 9 8 x0 none)) (k := 9) (f := 9) (t := 3) (v := none) (by decide) rfl hl_x0_9)).mp hP
  exact Kr _ (Option.some.inj Heq).symm 45 _ _ _ d_cVa_begin_45 hP hD hS
def m_cVa_begin (N : Nat → Nat) (x0 : Nat) (S : CS) (x1 : Option Nat) (x2 : Int32) (x3 : Int32) : Option CS := m_cVa_begin_J0 N x0 S x1 x2 x3
set_option maxHeartbeats 4000000 in
theorem g_cVa_begin (l : Launch) (D : va_G) (sz : Nat) {ad : Nat → Nat → Nat} {cc : Nat → ClassId} {sad sav : Nat → Nat} {N : Nat → Nat} {x0 : Nat} {S : CS} {x1 : Option Nat} {x2 : Int32} {x3 : Int32} {o : CS} (Heq : m_cVa_begin N x0 S x1 x2 x3 = some o) : Met l ⟨"JoinedTrees$Value", "begin", "(LJoinedTrees$Value;II)V"⟩ (Cond.code ⟨"JoinedTrees$Value", "begin", "(LJoinedTrees$Value;II)V"⟩ prog_11_method_2_code 4 none :: gb) ({ frames := 0, cells := 0, slots := 0, locals := 0 }) (cPc sad sav D (cw ad cc N S) (cty cc) sz [.ref (ad 9 x0), rv ad 9 x1, .int x2, .int x3]) (va_Qv (fun _ : Unit => True) (fun _ t => gO D (cw ad cc N o) (cty cc) (va_A (cw ad cc N S) sz) t) (va_A (cw ad cc N S) sz)) 0 0 (va_A (cw ad cc N S) sz) := by
  refine Met.ofW (cc := prog_11_method_2_code) (maxL := 4) (ret := none) (by decide) rfl ?_
  intro p e s m args below meth c s₁ B hml hv
  obtain ⟨rfl, hsz, hP, hK, hD0, hev, hE, hN⟩ := hv
  have hx := B.exec
  have hb := B.bytes
  have hr := B.returns
  have hts : ∀ w9 ∈ gb, w9.before [.ref (ad 9 x0), rv ad 9 x1, .int x2, .int x3].toArray s = true := fun w9 h => atoms_spec (ws := Cond.code ⟨"JoinedTrees$Value", "begin", "(LJoinedTrees$Value;II)V"⟩ prog_11_method_2_code 4 none :: gb) B.pre w9 (List.mem_cons_of_mem _ h)
  have hown : s.vm.findClass "JoinedTrees$Value" = some m.cls := findClass_of_methodNamed B.named
  have hlocks := B.notSynchronized
  have hNS := ns_of hP
  subst hsz
  have hD := hD0.self (sz := s.heap.size)
  generalize hAe : va_A (cw ad cc N S) s.heap.size = A at hD hev hE hNS ⊢
  have hA : ∀ q : Nat, s.heap.size ≤ q → A q := fun q h => by rw [← hAe]; exact Or.inr h
  have hS : va_S A s.heap s.heap [] := va_S.rf
  obtain ⟨ls, hl, hle⟩ : ∃ ls : Array Slot, lv_has ls 4 [(0, .ref (ad 9 x0)), (1, rv ad 9 x1), (2, .int x2), (3, .int x3)] ∧ entryFrame m ([.ref (ad 9 x0), rv ad 9 x1, .int x2, .int x3] : List Value).toArray 4 = F0 m 0 ls [] := by
    rcases x1 with _ | x1
    all_goals exact ⟨_, lv_entry (n := 4) _ (Nat.le_of_ble_eq_true rfl), lg_entry_eq ..⟩
  rw [hle]
  refine w_cVa_begin_J0 ⟨hx, hb, hr, hml, hown, hts, hK, hA, hev, hE, hN, hNS⟩ Heq (fun r h pc H locs ls hd hP hD hS => ?_) _ _ _ hP hD hS (lv_sub hl [0, 1, 2, 3] rfl)
  subst h
  exact W.vret hx hb hr (fun t ht hW => ⟨⟨(), rfl, trivial, by rw [ht]; exact hP, va_K.moved hW.alike hK, hD⟩, hS.F ht⟩) hS.2.2 hd
def m_cRd_openInside_J0 (N : Nat → Nat) (x0 : Nat) (S : CS) (x1 : Nat) (x2 : Int32) : Option (CS × Int32) := gl x0 (N 1) ((if S.i 1 5 x0 = 20 then some (S, 0) else gl x1 (N 9) (some (((((S.setI 1 5 x0 ((S.i 1 5 x0) + 1)).setI 1 4 x0 ((S.i 1 4 x0) + 1)).setI 9 0 x1 x2).setR 1 6 x0 (some x1)), 1))))
theorem d_cRd_openInside_0 : decode prog_3_method_9_code 0 = .ok (.aload_n 0, 1) := by decide +kernel
theorem d_cRd_openInside_1 : decode prog_3_method_9_code 1 = .ok (.getfield 37, 3) := by decide +kernel
theorem d_cRd_openInside_4 : decode prog_3_method_9_code 4 = .ok (.bipush 20, 2) := by decide +kernel
theorem d_cRd_openInside_6 : decode prog_3_method_9_code 6 = .ok (.if_icmp .ne 5, 3) := by decide +kernel
theorem d_cRd_openInside_11 : decode prog_3_method_9_code 11 = .ok (.aload_n 0, 1) := by decide +kernel
theorem d_cRd_openInside_12 : decode prog_3_method_9_code 12 = .ok (.dup, 1) := by decide +kernel
theorem d_cRd_openInside_13 : decode prog_3_method_9_code 13 = .ok (.getfield 37, 3) := by decide +kernel
theorem d_cRd_openInside_16 : decode prog_3_method_9_code 16 = .ok (.iconst 1, 1) := by decide +kernel
theorem d_cRd_openInside_17 : decode prog_3_method_9_code 17 = .ok (.iadd, 1) := by decide +kernel
theorem d_cRd_openInside_18 : decode prog_3_method_9_code 18 = .ok (.putfield 37, 3) := by decide +kernel
theorem d_cRd_openInside_21 : decode prog_3_method_9_code 21 = .ok (.aload_n 0, 1) := by decide +kernel
theorem d_cRd_openInside_22 : decode prog_3_method_9_code 22 = .ok (.dup, 1) := by decide +kernel
theorem d_cRd_openInside_23 : decode prog_3_method_9_code 23 = .ok (.getfield 34, 3) := by decide +kernel
theorem d_cRd_openInside_26 : decode prog_3_method_9_code 26 = .ok (.iconst 1, 1) := by decide +kernel
theorem d_cRd_openInside_27 : decode prog_3_method_9_code 27 = .ok (.iadd, 1) := by decide +kernel
theorem d_cRd_openInside_28 : decode prog_3_method_9_code 28 = .ok (.putfield 34, 3) := by decide +kernel
theorem d_cRd_openInside_31 : decode prog_3_method_9_code 31 = .ok (.aload_n 1, 1) := by decide +kernel
theorem d_cRd_openInside_32 : decode prog_3_method_9_code 32 = .ok (.iload_n 2, 1) := by decide +kernel
theorem d_cRd_openInside_33 : decode prog_3_method_9_code 33 = .ok (.putfield 77, 3) := by decide +kernel
theorem d_cRd_openInside_36 : decode prog_3_method_9_code 36 = .ok (.aload_n 0, 1) := by decide +kernel
theorem d_cRd_openInside_37 : decode prog_3_method_9_code 37 = .ok (.aload_n 1, 1) := by decide +kernel
theorem d_cRd_openInside_38 : decode prog_3_method_9_code 38 = .ok (.putfield 40, 3) := by decide +kernel
theorem d_cRd_openInside_41 : decode prog_3_method_9_code 41 = .ok (.iconst 1, 1) := by decide +kernel
theorem d_cRd_openInside_42 : decode prog_3_method_9_code 42 = .ok (.ireturn, 1) := by decide +kernel
theorem d_cRd_openInside_9 : decode prog_3_method_9_code 9 = .ok (.iconst 0, 1) := by decide +kernel
theorem d_cRd_openInside_10 : decode prog_3_method_9_code 10 = .ok (.ireturn, 1) := by decide +kernel
set_option maxHeartbeats 4000000 in
set_option maxRecDepth 100000 in
theorem w_cRd_openInside_J0 {p : Program} {l : Launch} {e : Env} {s : State} {m : MethodId} {args : Array Value} {below : List Frame} {meth : Method} {c : Code} {A : Nat → Prop} {D : va_G} {ad : Nat → Nat → Nat} {cc : Nat → ClassId} {sad sav : Nat → Nat} {Q : State → Prop} (hC : MCc sad sav "JoinedTrees$JsonReader" prog_3_method_9_code 3 (some .boolean) p s m args meth c A D cc) {N : Nat → Nat} {x0 : Nat} {S : CS} {x1 : Nat} {x2 : Int32} {o : CS × Int32} (Heq : m_cRd_openInside_J0 N x0 S x1 x2 = some o) (Kr : ∀ r : CS × Int32, o = r → ∀ (pc : Nat) (H : Heap) (locs : List Loc) (ls : Array Slot), decode prog_3_method_9_code pc = .ok (.ireturn, 1) → (r.2 = 0 ∨ r.2 = 1) → va_P D cls (cw ad cc N r.1) H → va_D A (cw ad cc N r.1) → va_S A s.heap H locs → W p l e ({ frames := 0, cells := 0, slots := 0, locals := 0 }) s m args below meth c H locs 0 0 Q (F0 m pc ls [.int r.2])) : ∀ (H : Heap) (locs : List Loc) (ls : Array Slot), va_P D cls (cw ad cc N S) H → va_D A (cw ad cc N S) → va_S A s.heap H locs → lv_has ls 3 [(0, .ref (ad 1 x0)), (1, .ref (ad 9 x1)), (2, .int x2)] → W p l e ({ frames := 0, cells := 0, slots := 0, locals := 0 }) s m args below meth c H locs 0 0 Q (F0 m 0 ls []) := by
  intro H locs ls hP hD hS hl
  obtain ⟨hx, hb, hr, hml, hown, hts, hK, hA, hev, hE, hN, hNS⟩ := id hC
  unfold m_cRd_openInside_J0 at Heq
  refine lv_aload_n hx hb d_cRd_openInside_0 rfl (lv_at hl 0 rfl) ?_
  obtain ⟨hl_x0_1, Heq⟩ := gl_some Heq
  refine va_get (D := D) (ci := 1) (v := .int (S.i 1 5 x0)) (C := R_Rd) (T := F_Rd) (N := 10) hx hb hts i_Rd hown hK hP (cPos N 1 x0) (cw_obj (k := 1) (by decide) hl_x0_1) rfl 5 (by decide) (hts _ kw_351) (fun _ h9 => h9) rfl d_cRd_openInside_1 ?_
  refine lv_bipush (v := 20) hx hb d_cRd_openInside_4 (by decide) ?_
  refine lv_icmp_ne (tgt := 11) hx hb d_cRd_openInside_6 (by decide) (fun c_1 => ?_) (fun c_1 => ?_)
  · replace Heq := (if_neg c_1).symm.trans Heq
    refine lv_aload_n hx hb d_cRd_openInside_11 rfl (lv_at hl 0 rfl) ?_
    refine lv_dup hx hb d_cRd_openInside_12 (by first | rfl | exact rv_cat) ?_
    refine va_get (D := D) (ci := 1) (v := .int (S.i 1 5 x0)) (C := R_Rd) (T := F_Rd) (N := 10) hx hb hts i_Rd hown hK hP (cPos N 1 x0) (cw_obj (k := 1) (by decide) hl_x0_1) rfl 5 (by decide) (hts _ kw_351) (fun _ h9 => h9) rfl d_cRd_openInside_13 ?_
    refine lv_iconst (v := 1) hx hb d_cRd_openInside_16 (by decide) ?_
    refine lv_iadd hx hb d_cRd_openInside_17 ?_
    refine w_i (y := (S.i 1 5 x0) + 1) rfl ?_
    refine va_put (D := D) (ci := 1) (v := .int ((S.i 1 5 x0) + 1)) (ty := .int) (C := R_Rd) (T := F_Rd) (N := 10) hx hb hts i_Rd t_Rd t_Rd_ok n_Rd hown hK hP hD hS (cPos N 1 x0) (cw_obj (k := 1) (by decide) hl_x0_1) rfl 5 (by decide) (hts _ kw_351) (fun _ h9 => h9) rfl (by decide +kernel) rfl rfl (Nat.le_of_ble_eq_true rfl) d_cRd_openInside_18 (fun H locs hP hD hS => ?_)
    have hD := (congrArg (fun w9 => va_D A w9) (cw_setI (ad := ad) (cc := cc) (S := S) (k := 1) (f := 5) (v := (S.i 1 5 x0) + 1) (by decide) rfl hl_x0_1)).mp hD
    have hP := (congrArg (fun w9 => va_P D cls w9 H) (cw_setI (ad := ad) (cc := cc) (S := S) (k := 1) (f := 5) (v := (S.i 1 5 x0) + 1) (by decide) rfl hl_x0_1)).mp hP
    refine lv_aload_n hx hb d_cRd_openInside_21 rfl (lv_at hl 0 rfl) ?_
    refine lv_dup hx hb d_cRd_openInside_22 (by first | rfl | exact rv_cat) ?_
    refine va_get (D := D) (ci := 1) (v := .int ((S.setI 1 5 x0 ((S.i 1 5 x0) + 1)).i 1 4 x0)) (C := R_Rd) (T := F_Rd) (N := 10) hx hb hts i_Rd hown hK hP (cPos N 1 x0) (cw_obj (k := 1) (by decide) hl_x0_1) rfl 4 (by decide) (hts _ kw_349) (fun _ h9 => h9) rfl d_cRd_openInside_23 ?_
    refine w_i (y := S.i 1 4 x0) rfl ?_
    refine lv_iconst (v := 1) hx hb d_cRd_openInside_26 (by decide) ?_
    refine lv_iadd hx hb d_cRd_openInside_27 ?_
    refine w_i (y := (S.i 1 4 x0) + 1) rfl ?_
    refine va_put (D := D) (ci := 1) (v := .int ((S.i 1 4 x0) + 1)) (ty := .int) (C := R_Rd) (T := F_Rd) (N := 10) hx hb hts i_Rd t_Rd t_Rd_ok n_Rd hown hK hP hD hS (cPos N 1 x0) (cw_obj (k := 1) (by decide) hl_x0_1) rfl 4 (by decide) (hts _ kw_349) (fun _ h9 => h9) rfl (by decide +kernel) rfl rfl (Nat.le_of_ble_eq_true rfl) d_cRd_openInside_28 (fun H locs hP hD hS => ?_)
    have hD := (congrArg (fun w9 => va_D A w9) (cw_setI (ad := ad) (cc := cc) (S := (S.setI 1 5 x0 ((S.i 1 5 x0) + 1))) (k := 1) (f := 4) (v := (S.i 1 4 x0) + 1) (by decide) rfl hl_x0_1)).mp hD
    have hP := (congrArg (fun w9 => va_P D cls w9 H) (cw_setI (ad := ad) (cc := cc) (S := (S.setI 1 5 x0 ((S.i 1 5 x0) + 1))) (k := 1) (f := 4) (v := (S.i 1 4 x0) + 1) (by decide) rfl hl_x0_1)).mp hP
    refine lv_aload_n hx hb d_cRd_openInside_31 rfl (lv_at hl 1 rfl) ?_
    refine lv_iload_n hx hb d_cRd_openInside_32 rfl (lv_at hl 2 rfl) ?_
    obtain ⟨hl_x1_9, Heq⟩ := gl_some Heq
    refine va_put (D := D) (ci := 9) (v := .int x2) (ty := .int) (C := R_Va) (T := F_Va) (N := 10) hx hb hts i_Va t_Va t_Va_ok n_Va hown hK hP hD hS (cPos N 9 x1) (cw_obj (k := 9) (by decide) hl_x1_9) rfl 0 (by decide) (hts _ kw_295) (fun _ h9 => h9) rfl (by decide +kernel) rfl rfl (Nat.le_of_ble_eq_true rfl) d_cRd_openInside_33 (fun H locs hP hD hS => ?_)
    have hD := (congrArg (fun w9 => va_D A w9) (cw_setI (ad := ad) (cc := cc) (S := ((S.setI 1 5 x0 ((S.i 1 5 x0) + 1)).setI 1 4 x0 ((S.i 1 4 x0) + 1))) (k := 9) (f := 0) (v := x2) (by decide) rfl hl_x1_9)).mp hD
    have hP := (congrArg (fun w9 => va_P D cls w9 H) (cw_setI (ad := ad) (cc := cc) (S := ((S.setI 1 5 x0 ((S.i 1 5 x0) + 1)).setI 1 4 x0 ((S.i 1 4 x0) + 1))) (k := 9) (f := 0) (v := x2) (by decide) rfl hl_x1_9)).mp hP
    refine lv_aload_n hx hb d_cRd_openInside_36 rfl (lv_at hl 0 rfl) ?_
    refine lv_aload_n hx hb d_cRd_openInside_37 rfl (lv_at hl 1 rfl) ?_
    refine w_v (y := rv ad 9 (some x1)) rfl ?_
    refine va_put (D := D) (ci := 1) (v := rv ad 9 (some x1)) (ty := .object "JoinedTrees$Value") (C := R_Rd) (T := F_Rd) (N := 10) hx hb hts i_Rd t_Rd t_Rd_ok n_Rd hown hK hP hD hS (cPos N 1 x0) (cw_obj (k := 1) (by decide) hl_x0_1) rfl 6 (by decide) (hts _ kw_352) (fun _ h9 => h9) rfl (by decide +kernel) (rv_nar (Or.inl ⟨_, rfl⟩)) (rv_fit (Or.inl ⟨_, rfl⟩)) (Nat.le_of_ble_eq_true rfl) d_cRd_openInside_38 (fun H locs hP hD hS => ?_)
    have hD := (congrArg (fun w9 => va_D A w9) (cw_setR (ad := ad) (cc := cc) (S := (((S.setI 1 5 x0 ((S.i 1 5 x0) + 1)).setI 1 4 x0 ((S.i 1 4 x0) + 1)).setI 9 0 x1 x2)) (k := 1) (f := 6) (t := 9) (v := (some x1)) (by decide) rfl hl_x0_1)).mp hD
    have hP := (congrArg (fun w9 => va_P D cls w9 H) (cw_setR (ad := ad) (cc := cc) (S := (((S.setI 1 5 x0 ((S.i 1 5 x0) + 1)).setI 1 4 x0 ((S.i 1 4 x0) + 1)).setI 9 0 x1 x2)) (k := 1) (f := 6) (t := 9) (v := (some x1)) (by decide) rfl hl_x0_1)).mp hP
    refine lv_iconst (v := 1) hx hb d_cRd_openInside_41 (by decide) ?_
    exact Kr _ (Option.some.inj Heq).symm 42 _ _ _ d_cRd_openInside_42 (Or.inr rfl) hP hD hS
  · replace Heq := (if_pos c_1).symm.trans Heq
    refine lv_iconst (v := 0) hx hb d_cRd_openInside_9 (by decide) ?_
    exact Kr _ (Option.some.inj Heq).symm 10 _ _ _ d_cRd_openInside_10 (Or.inl rfl) hP hD hS
def m_cRd_openInside (N : Nat → Nat) (x0 : Nat) (S : CS) (x1 : Nat) (x2 : Int32) : Option (CS × Int32) := m_cRd_openInside_J0 N x0 S x1 x2
set_option maxHeartbeats 4000000 in
theorem g_cRd_openInside (l : Launch) (D : va_G) (sz : Nat) {ad : Nat → Nat → Nat} {cc : Nat → ClassId} {sad sav : Nat → Nat} {N : Nat → Nat} {x0 : Nat} {S : CS} {x1 : Nat} {x2 : Int32} {o : CS × Int32} (Heq : m_cRd_openInside N x0 S x1 x2 = some o) : Met l ⟨"JoinedTrees$JsonReader", "openInside", "(LJoinedTrees$Value;I)Z"⟩ (Cond.code ⟨"JoinedTrees$JsonReader", "openInside", "(LJoinedTrees$Value;I)Z"⟩ prog_3_method_9_code 3 (some .boolean) :: gb) ({ frames := 0, cells := 0, slots := 0, locals := 0 }) (cPc sad sav D (cw ad cc N S) (cty cc) sz [.ref (ad 1 x0), .ref (ad 9 x1), .int x2]) (va_Qi (fun (r : Int32) (_ : Unit) => r = o.2) (fun _ t => gO D (cw ad cc N o.1) (cty cc) (va_A (cw ad cc N S) sz) t) (va_A (cw ad cc N S) sz)) 0 0 (va_A (cw ad cc N S) sz) := by
  refine Met.ofW (cc := prog_3_method_9_code) (maxL := 3) (ret := (some .boolean)) (by decide) rfl ?_
  intro p e s m args below meth c s₁ B hml hv
  obtain ⟨rfl, hsz, hP, hK, hD0, hev, hE, hN⟩ := hv
  have hx := B.exec
  have hb := B.bytes
  have hr := B.returns
  have hts : ∀ w9 ∈ gb, w9.before [.ref (ad 1 x0), .ref (ad 9 x1), .int x2].toArray s = true := fun w9 h => atoms_spec (ws := Cond.code ⟨"JoinedTrees$JsonReader", "openInside", "(LJoinedTrees$Value;I)Z"⟩ prog_3_method_9_code 3 (some .boolean) :: gb) B.pre w9 (List.mem_cons_of_mem _ h)
  have hown : s.vm.findClass "JoinedTrees$JsonReader" = some m.cls := findClass_of_methodNamed B.named
  have hlocks := B.notSynchronized
  have hNS := ns_of hP
  subst hsz
  have hD := hD0.self (sz := s.heap.size)
  generalize hAe : va_A (cw ad cc N S) s.heap.size = A at hD hev hE hNS ⊢
  have hA : ∀ q : Nat, s.heap.size ≤ q → A q := fun q h => by rw [← hAe]; exact Or.inr h
  have hS : va_S A s.heap s.heap [] := va_S.rf
  obtain ⟨ls, hl, hle⟩ : ∃ ls : Array Slot, lv_has ls 3 [(0, .ref (ad 1 x0)), (1, .ref (ad 9 x1)), (2, .int x2)] ∧ entryFrame m ([.ref (ad 1 x0), .ref (ad 9 x1), .int x2] : List Value).toArray 3 = F0 m 0 ls [] := by
    exact ⟨_, lv_entry (n := 3) _ (Nat.le_of_ble_eq_true rfl), lg_entry_eq ..⟩
  rw [hle]
  refine w_cRd_openInside_J0 ⟨hx, hb, hr, hml, hown, hts, hK, hA, hev, hE, hN, hNS⟩ Heq (fun r h pc H locs ls hd hz hP hD hS => ?_) _ _ _ hP hD hS (lv_sub hl [0, 1, 2] rfl)
  subst h
  exact W.zret (ty := .boolean) hx hb hr (by rcases hz with hz | hz <;> rw [hz] <;> rfl) (fun t ht hW => ⟨⟨_, (), rfl, rfl, by rw [ht]; exact hP, va_K.moved hW.alike hK, hD⟩, hS.F ht⟩) hS.2.2 hd
def m_cRd_hexDigit_J60 (N : Nat → Nat) (S : CS) (t0 : Int32) : Option (CS × Int32) := some (S, t0)
theorem d_cRd_hexDigit_0 : decode prog_3_method_13_code 0 = .ok (.iload_n 0, 1) := by decide +kernel
theorem d_cRd_hexDigit_1 : decode prog_3_method_13_code 1 = .ok (.bipush 48, 2) := by decide +kernel
theorem d_cRd_hexDigit_3 : decode prog_3_method_13_code 3 = .ok (.if_icmp .lt 14, 3) := by decide +kernel
theorem d_cRd_hexDigit_17 : decode prog_3_method_13_code 17 = .ok (.iload_n 0, 1) := by decide +kernel
theorem d_cRd_hexDigit_18 : decode prog_3_method_13_code 18 = .ok (.bipush 97, 2) := by decide +kernel
theorem d_cRd_hexDigit_20 : decode prog_3_method_13_code 20 = .ok (.if_icmp .lt 17, 3) := by decide +kernel
theorem d_cRd_hexDigit_37 : decode prog_3_method_13_code 37 = .ok (.iload_n 0, 1) := by decide +kernel
theorem d_cRd_hexDigit_38 : decode prog_3_method_13_code 38 = .ok (.bipush 65, 2) := by decide +kernel
theorem d_cRd_hexDigit_40 : decode prog_3_method_13_code 40 = .ok (.if_icmp .lt 19, 3) := by decide +kernel
theorem d_cRd_hexDigit_59 : decode prog_3_method_13_code 59 = .ok (.iconst (-1), 1) := by decide +kernel
theorem d_cRd_hexDigit_60 : decode prog_3_method_13_code 60 = .ok (.ireturn, 1) := by decide +kernel
set_option maxHeartbeats 4000000 in
set_option maxRecDepth 100000 in
theorem w_cRd_hexDigit_J60 {p : Program} {l : Launch} {e : Env} {s : State} {m : MethodId} {args : Array Value} {below : List Frame} {meth : Method} {c : Code} {A : Nat → Prop} {D : va_G} {ad : Nat → Nat → Nat} {cc : Nat → ClassId} {sad sav : Nat → Nat} {Q : State → Prop} (hC : MCc sad sav "JoinedTrees$JsonReader" prog_3_method_13_code 1 (some .int) p s m args meth c A D cc) {N : Nat → Nat} {S : CS} {t0 : Int32} {o : CS × Int32} (Heq : m_cRd_hexDigit_J60 N S t0 = some o) (Kr : ∀ r : CS × Int32, o = r → ∀ (pc : Nat) (H : Heap) (locs : List Loc) (ls : Array Slot), decode prog_3_method_13_code pc = .ok (.ireturn, 1) → va_P D cls (cw ad cc N r.1) H → va_D A (cw ad cc N r.1) → va_S A s.heap H locs → W p l e ({ frames := 0, cells := 0, slots := 0, locals := 0 }) s m args below meth c H locs 0 0 Q (F0 m pc ls [.int r.2])) : ∀ (H : Heap) (locs : List Loc) (ls : Array Slot), va_P D cls (cw ad cc N S) H → va_D A (cw ad cc N S) → va_S A s.heap H locs → lv_has ls 1 [] → W p l e ({ frames := 0, cells := 0, slots := 0, locals := 0 }) s m args below meth c H locs 0 0 Q (F0 m 60 ls [.int t0]) := by
  intro H locs ls hP hD hS hl
  obtain ⟨hx, hb, hr, hml, hown, hts, hK, hA, hev, hE, hN, hNS⟩ := id hC
  unfold m_cRd_hexDigit_J60 at Heq
  exact Kr _ (Option.some.inj Heq).symm 60 _ _ _ d_cRd_hexDigit_60 hP hD hS
def m_cRd_hexDigit_J59 (N : Nat → Nat) (S : CS) : Option (CS × Int32) := m_cRd_hexDigit_J60 N S (-1)
set_option maxHeartbeats 4000000 in
set_option maxRecDepth 100000 in
theorem w_cRd_hexDigit_J59 {p : Program} {l : Launch} {e : Env} {s : State} {m : MethodId} {args : Array Value} {below : List Frame} {meth : Method} {c : Code} {A : Nat → Prop} {D : va_G} {ad : Nat → Nat → Nat} {cc : Nat → ClassId} {sad sav : Nat → Nat} {Q : State → Prop} (hC : MCc sad sav "JoinedTrees$JsonReader" prog_3_method_13_code 1 (some .int) p s m args meth c A D cc) {N : Nat → Nat} {S : CS} {o : CS × Int32} (Heq : m_cRd_hexDigit_J59 N S = some o) (Kr : ∀ r : CS × Int32, o = r → ∀ (pc : Nat) (H : Heap) (locs : List Loc) (ls : Array Slot), decode prog_3_method_13_code pc = .ok (.ireturn, 1) → va_P D cls (cw ad cc N r.1) H → va_D A (cw ad cc N r.1) → va_S A s.heap H locs → W p l e ({ frames := 0, cells := 0, slots := 0, locals := 0 }) s m args below meth c H locs 0 0 Q (F0 m pc ls [.int r.2])) : ∀ (H : Heap) (locs : List Loc) (ls : Array Slot), va_P D cls (cw ad cc N S) H → va_D A (cw ad cc N S) → va_S A s.heap H locs → lv_has ls 1 [] → W p l e ({ frames := 0, cells := 0, slots := 0, locals := 0 }) s m args below meth c H locs 0 0 Q (F0 m 59 ls []) := by
  intro H locs ls hP hD hS hl
  obtain ⟨hx, hb, hr, hml, hown, hts, hK, hA, hev, hE, hN, hNS⟩ := id hC
  unfold m_cRd_hexDigit_J59 at Heq
  refine lv_iconst (v := (-1)) hx hb d_cRd_hexDigit_59 (by decide) ?_
  exact w_cRd_hexDigit_J60 hC Heq Kr _ _ _ hP hD hS (lv_sub hl [] rfl)
def m_cRd_hexDigit_J37 (N : Nat → Nat) (S : CS) (x0 : Int32) : Option (CS × Int32) := (if x0 < 65 then m_cRd_hexDigit_J59 N S else (if 70 < x0 then m_cRd_hexDigit_J59 N S else m_cRd_hexDigit_J60 N S ((x0 - 65) + 10)))
theorem d_cRd_hexDigit_43 : decode prog_3_method_13_code 43 = .ok (.iload_n 0, 1) := by decide +kernel
theorem d_cRd_hexDigit_44 : decode prog_3_method_13_code 44 = .ok (.bipush 70, 2) := by decide +kernel
theorem d_cRd_hexDigit_46 : decode prog_3_method_13_code 46 = .ok (.if_icmp .gt 13, 3) := by decide +kernel
theorem d_cRd_hexDigit_49 : decode prog_3_method_13_code 49 = .ok (.iload_n 0, 1) := by decide +kernel
theorem d_cRd_hexDigit_50 : decode prog_3_method_13_code 50 = .ok (.bipush 65, 2) := by decide +kernel
theorem d_cRd_hexDigit_52 : decode prog_3_method_13_code 52 = .ok (.isub, 1) := by decide +kernel
theorem d_cRd_hexDigit_53 : decode prog_3_method_13_code 53 = .ok (.bipush 10, 2) := by decide +kernel
theorem d_cRd_hexDigit_55 : decode prog_3_method_13_code 55 = .ok (.iadd, 1) := by decide +kernel
theorem d_cRd_hexDigit_56 : decode prog_3_method_13_code 56 = .ok (.goto 4, 3) := by decide +kernel
set_option maxHeartbeats 4000000 in
set_option maxRecDepth 100000 in
theorem w_cRd_hexDigit_J37 {p : Program} {l : Launch} {e : Env} {s : State} {m : MethodId} {args : Array Value} {below : List Frame} {meth : Method} {c : Code} {A : Nat → Prop} {D : va_G} {ad : Nat → Nat → Nat} {cc : Nat → ClassId} {sad sav : Nat → Nat} {Q : State → Prop} (hC : MCc sad sav "JoinedTrees$JsonReader" prog_3_method_13_code 1 (some .int) p s m args meth c A D cc) {N : Nat → Nat} {S : CS} {x0 : Int32} {o : CS × Int32} (Heq : m_cRd_hexDigit_J37 N S x0 = some o) (Kr : ∀ r : CS × Int32, o = r → ∀ (pc : Nat) (H : Heap) (locs : List Loc) (ls : Array Slot), decode prog_3_method_13_code pc = .ok (.ireturn, 1) → va_P D cls (cw ad cc N r.1) H → va_D A (cw ad cc N r.1) → va_S A s.heap H locs → W p l e ({ frames := 0, cells := 0, slots := 0, locals := 0 }) s m args below meth c H locs 0 0 Q (F0 m pc ls [.int r.2])) : ∀ (H : Heap) (locs : List Loc) (ls : Array Slot), va_P D cls (cw ad cc N S) H → va_D A (cw ad cc N S) → va_S A s.heap H locs → lv_has ls 1 [(0, .int x0)] → W p l e ({ frames := 0, cells := 0, slots := 0, locals := 0 }) s m args below meth c H locs 0 0 Q (F0 m 37 ls []) := by
  intro H locs ls hP hD hS hl
  obtain ⟨hx, hb, hr, hml, hown, hts, hK, hA, hev, hE, hN, hNS⟩ := id hC
  unfold m_cRd_hexDigit_J37 at Heq
  refine lv_iload_n hx hb d_cRd_hexDigit_37 rfl (lv_at hl 0 rfl) ?_
  refine lv_bipush (v := 65) hx hb d_cRd_hexDigit_38 (by decide) ?_
  refine lv_icmp_lt (tgt := 59) hx hb d_cRd_hexDigit_40 (by decide) (fun c_1 => ?_) (fun c_1 => ?_)
  · replace Heq := (if_pos c_1).symm.trans Heq
    exact w_cRd_hexDigit_J59 hC Heq Kr _ _ _ hP hD hS (lv_sub hl [] rfl)
  · replace Heq := (if_neg c_1).symm.trans Heq
    refine lv_iload_n hx hb d_cRd_hexDigit_43 rfl (lv_at hl 0 rfl) ?_
    refine lv_bipush (v := 70) hx hb d_cRd_hexDigit_44 (by decide) ?_
    refine lv_icmp_gt (tgt := 59) hx hb d_cRd_hexDigit_46 (by decide) (fun c_2 => ?_) (fun c_2 => ?_)
    · replace Heq := (if_pos c_2).symm.trans Heq
      exact w_cRd_hexDigit_J59 hC Heq Kr _ _ _ hP hD hS (lv_sub hl [] rfl)
    · replace Heq := (if_neg c_2).symm.trans Heq
      refine lv_iload_n hx hb d_cRd_hexDigit_49 rfl (lv_at hl 0 rfl) ?_
      refine lv_bipush (v := 65) hx hb d_cRd_hexDigit_50 (by decide) ?_
      refine lv_isub hx hb d_cRd_hexDigit_52 ?_
      refine w_i (y := x0 - 65) rfl ?_
      refine lv_bipush (v := 10) hx hb d_cRd_hexDigit_53 (by decide) ?_
      refine lv_iadd hx hb d_cRd_hexDigit_55 ?_
      refine w_i (y := (x0 - 65) + 10) rfl ?_
      refine lv_goto (tgt := 60) hx hb d_cRd_hexDigit_56 (by decide) ?_
      exact w_cRd_hexDigit_J60 hC Heq Kr _ _ _ hP hD hS (lv_sub hl [] rfl)
def m_cRd_hexDigit_J17 (N : Nat → Nat) (S : CS) (x0 : Int32) : Option (CS × Int32) := (if x0 < 97 then m_cRd_hexDigit_J37 N S x0 else (if 102 < x0 then m_cRd_hexDigit_J37 N S x0 else some (S, (x0 - 97) + 10)))
theorem d_cRd_hexDigit_23 : decode prog_3_method_13_code 23 = .ok (.iload_n 0, 1) := by decide +kernel
theorem d_cRd_hexDigit_24 : decode prog_3_method_13_code 24 = .ok (.bipush 102, 2) := by decide +kernel
theorem d_cRd_hexDigit_26 : decode prog_3_method_13_code 26 = .ok (.if_icmp .gt 11, 3) := by decide +kernel
theorem d_cRd_hexDigit_29 : decode prog_3_method_13_code 29 = .ok (.iload_n 0, 1) := by decide +kernel
theorem d_cRd_hexDigit_30 : decode prog_3_method_13_code 30 = .ok (.bipush 97, 2) := by decide +kernel
theorem d_cRd_hexDigit_32 : decode prog_3_method_13_code 32 = .ok (.isub, 1) := by decide +kernel
theorem d_cRd_hexDigit_33 : decode prog_3_method_13_code 33 = .ok (.bipush 10, 2) := by decide +kernel
theorem d_cRd_hexDigit_35 : decode prog_3_method_13_code 35 = .ok (.iadd, 1) := by decide +kernel
theorem d_cRd_hexDigit_36 : decode prog_3_method_13_code 36 = .ok (.ireturn, 1) := by decide +kernel
set_option maxHeartbeats 4000000 in
set_option maxRecDepth 100000 in
theorem w_cRd_hexDigit_J17 {p : Program} {l : Launch} {e : Env} {s : State} {m : MethodId} {args : Array Value} {below : List Frame} {meth : Method} {c : Code} {A : Nat → Prop} {D : va_G} {ad : Nat → Nat → Nat} {cc : Nat → ClassId} {sad sav : Nat → Nat} {Q : State → Prop} (hC : MCc sad sav "JoinedTrees$JsonReader" prog_3_method_13_code 1 (some .int) p s m args meth c A D cc) {N : Nat → Nat} {S : CS} {x0 : Int32} {o : CS × Int32} (Heq : m_cRd_hexDigit_J17 N S x0 = some o) (Kr : ∀ r : CS × Int32, o = r → ∀ (pc : Nat) (H : Heap) (locs : List Loc) (ls : Array Slot), decode prog_3_method_13_code pc = .ok (.ireturn, 1) → va_P D cls (cw ad cc N r.1) H → va_D A (cw ad cc N r.1) → va_S A s.heap H locs → W p l e ({ frames := 0, cells := 0, slots := 0, locals := 0 }) s m args below meth c H locs 0 0 Q (F0 m pc ls [.int r.2])) : ∀ (H : Heap) (locs : List Loc) (ls : Array Slot), va_P D cls (cw ad cc N S) H → va_D A (cw ad cc N S) → va_S A s.heap H locs → lv_has ls 1 [(0, .int x0)] → W p l e ({ frames := 0, cells := 0, slots := 0, locals := 0 }) s m args below meth c H locs 0 0 Q (F0 m 17 ls []) := by
  intro H locs ls hP hD hS hl
  obtain ⟨hx, hb, hr, hml, hown, hts, hK, hA, hev, hE, hN, hNS⟩ := id hC
  unfold m_cRd_hexDigit_J17 at Heq
  refine lv_iload_n hx hb d_cRd_hexDigit_17 rfl (lv_at hl 0 rfl) ?_
  refine lv_bipush (v := 97) hx hb d_cRd_hexDigit_18 (by decide) ?_
  refine lv_icmp_lt (tgt := 37) hx hb d_cRd_hexDigit_20 (by decide) (fun c_1 => ?_) (fun c_1 => ?_)
  · replace Heq := (if_pos c_1).symm.trans Heq
    exact w_cRd_hexDigit_J37 hC Heq Kr _ _ _ hP hD hS (lv_sub hl [0] rfl)
  · replace Heq := (if_neg c_1).symm.trans Heq
    refine lv_iload_n hx hb d_cRd_hexDigit_23 rfl (lv_at hl 0 rfl) ?_
    refine lv_bipush (v := 102) hx hb d_cRd_hexDigit_24 (by decide) ?_
    refine lv_icmp_gt (tgt := 37) hx hb d_cRd_hexDigit_26 (by decide) (fun c_2 => ?_) (fun c_2 => ?_)
    · replace Heq := (if_pos c_2).symm.trans Heq
      exact w_cRd_hexDigit_J37 hC Heq Kr _ _ _ hP hD hS (lv_sub hl [0] rfl)
    · replace Heq := (if_neg c_2).symm.trans Heq
      refine lv_iload_n hx hb d_cRd_hexDigit_29 rfl (lv_at hl 0 rfl) ?_
      refine lv_bipush (v := 97) hx hb d_cRd_hexDigit_30 (by decide) ?_
      refine lv_isub hx hb d_cRd_hexDigit_32 ?_
      refine w_i (y := x0 - 97) rfl ?_
      refine lv_bipush (v := 10) hx hb d_cRd_hexDigit_33 (by decide) ?_
      refine lv_iadd hx hb d_cRd_hexDigit_35 ?_
      refine w_i (y := (x0 - 97) + 10) rfl ?_
      exact Kr _ (Option.some.inj Heq).symm 36 _ _ _ d_cRd_hexDigit_36 hP hD hS
def m_cRd_hexDigit_J0 (N : Nat → Nat) (S : CS) (x0 : Int32) : Option (CS × Int32) := (if x0 < 48 then m_cRd_hexDigit_J17 N S x0 else (if 57 < x0 then m_cRd_hexDigit_J17 N S x0 else some (S, x0 - 48)))
theorem d_cRd_hexDigit_6 : decode prog_3_method_13_code 6 = .ok (.iload_n 0, 1) := by decide +kernel
theorem d_cRd_hexDigit_7 : decode prog_3_method_13_code 7 = .ok (.bipush 57, 2) := by decide +kernel
theorem d_cRd_hexDigit_9 : decode prog_3_method_13_code 9 = .ok (.if_icmp .gt 8, 3) := by decide +kernel
theorem d_cRd_hexDigit_12 : decode prog_3_method_13_code 12 = .ok (.iload_n 0, 1) := by decide +kernel
theorem d_cRd_hexDigit_13 : decode prog_3_method_13_code 13 = .ok (.bipush 48, 2) := by decide +kernel
theorem d_cRd_hexDigit_15 : decode prog_3_method_13_code 15 = .ok (.isub, 1) := by decide +kernel
theorem d_cRd_hexDigit_16 : decode prog_3_method_13_code 16 = .ok (.ireturn, 1) := by decide +kernel
set_option maxHeartbeats 4000000 in
set_option maxRecDepth 100000 in
theorem w_cRd_hexDigit_J0 {p : Program} {l : Launch} {e : Env} {s : State} {m : MethodId} {args : Array Value} {below : List Frame} {meth : Method} {c : Code} {A : Nat → Prop} {D : va_G} {ad : Nat → Nat → Nat} {cc : Nat → ClassId} {sad sav : Nat → Nat} {Q : State → Prop} (hC : MCc sad sav "JoinedTrees$JsonReader" prog_3_method_13_code 1 (some .int) p s m args meth c A D cc) {N : Nat → Nat} {S : CS} {x0 : Int32} {o : CS × Int32} (Heq : m_cRd_hexDigit_J0 N S x0 = some o) (Kr : ∀ r : CS × Int32, o = r → ∀ (pc : Nat) (H : Heap) (locs : List Loc) (ls : Array Slot), decode prog_3_method_13_code pc = .ok (.ireturn, 1) → va_P D cls (cw ad cc N r.1) H → va_D A (cw ad cc N r.1) → va_S A s.heap H locs → W p l e ({ frames := 0, cells := 0, slots := 0, locals := 0 }) s m args below meth c H locs 0 0 Q (F0 m pc ls [.int r.2])) : ∀ (H : Heap) (locs : List Loc) (ls : Array Slot), va_P D cls (cw ad cc N S) H → va_D A (cw ad cc N S) → va_S A s.heap H locs → lv_has ls 1 [(0, .int x0)] → W p l e ({ frames := 0, cells := 0, slots := 0, locals := 0 }) s m args below meth c H locs 0 0 Q (F0 m 0 ls []) := by
  intro H locs ls hP hD hS hl
  obtain ⟨hx, hb, hr, hml, hown, hts, hK, hA, hev, hE, hN, hNS⟩ := id hC
  unfold m_cRd_hexDigit_J0 at Heq
  refine lv_iload_n hx hb d_cRd_hexDigit_0 rfl (lv_at hl 0 rfl) ?_
  refine lv_bipush (v := 48) hx hb d_cRd_hexDigit_1 (by decide) ?_
  refine lv_icmp_lt (tgt := 17) hx hb d_cRd_hexDigit_3 (by decide) (fun c_1 => ?_) (fun c_1 => ?_)
  · replace Heq := (if_pos c_1).symm.trans Heq
    exact w_cRd_hexDigit_J17 hC Heq Kr _ _ _ hP hD hS (lv_sub hl [0] rfl)
  · replace Heq := (if_neg c_1).symm.trans Heq
    refine lv_iload_n hx hb d_cRd_hexDigit_6 rfl (lv_at hl 0 rfl) ?_
    refine lv_bipush (v := 57) hx hb d_cRd_hexDigit_7 (by decide) ?_
    refine lv_icmp_gt (tgt := 17) hx hb d_cRd_hexDigit_9 (by decide) (fun c_2 => ?_) (fun c_2 => ?_)
    · replace Heq := (if_pos c_2).symm.trans Heq
      exact w_cRd_hexDigit_J17 hC Heq Kr _ _ _ hP hD hS (lv_sub hl [0] rfl)
    · replace Heq := (if_neg c_2).symm.trans Heq
      refine lv_iload_n hx hb d_cRd_hexDigit_12 rfl (lv_at hl 0 rfl) ?_
      refine lv_bipush (v := 48) hx hb d_cRd_hexDigit_13 (by decide) ?_
      refine lv_isub hx hb d_cRd_hexDigit_15 ?_
      refine w_i (y := x0 - 48) rfl ?_
      exact Kr _ (Option.some.inj Heq).symm 16 _ _ _ d_cRd_hexDigit_16 hP hD hS
def m_cRd_hexDigit (N : Nat → Nat) (S : CS) (x0 : Int32) : Option (CS × Int32) := m_cRd_hexDigit_J0 N S x0
set_option maxHeartbeats 4000000 in
theorem g_cRd_hexDigit (l : Launch) (D : va_G) (sz : Nat) {ad : Nat → Nat → Nat} {cc : Nat → ClassId} {sad sav : Nat → Nat} {N : Nat → Nat} {S : CS} {x0 : Int32} {o : CS × Int32} (Heq : m_cRd_hexDigit N S x0 = some o) : Met l ⟨"JoinedTrees$JsonReader", "hexDigit", "(I)I"⟩ (Cond.code ⟨"JoinedTrees$JsonReader", "hexDigit", "(I)I"⟩ prog_3_method_13_code 1 (some .int) :: gb) ({ frames := 0, cells := 0, slots := 0, locals := 0 }) (cPc sad sav D (cw ad cc N S) (cty cc) sz [.int x0]) (va_Qi (fun (r : Int32) (_ : Unit) => r = o.2) (fun _ t => gO D (cw ad cc N o.1) (cty cc) (va_A (cw ad cc N S) sz) t) (va_A (cw ad cc N S) sz)) 0 0 (va_A (cw ad cc N S) sz) := by
  refine Met.ofW (cc := prog_3_method_13_code) (maxL := 1) (ret := (some .int)) (by decide) rfl ?_
  intro p e s m args below meth c s₁ B hml hv
  obtain ⟨rfl, hsz, hP, hK, hD0, hev, hE, hN⟩ := hv
  have hx := B.exec
  have hb := B.bytes
  have hr := B.returns
  have hts : ∀ w9 ∈ gb, w9.before [.int x0].toArray s = true := fun w9 h => atoms_spec (ws := Cond.code ⟨"JoinedTrees$JsonReader", "hexDigit", "(I)I"⟩ prog_3_method_13_code 1 (some .int) :: gb) B.pre w9 (List.mem_cons_of_mem _ h)
  have hown : s.vm.findClass "JoinedTrees$JsonReader" = some m.cls := findClass_of_methodNamed B.named
  have hlocks := B.notSynchronized
  have hNS := ns_of hP
  subst hsz
  have hD := hD0.self (sz := s.heap.size)
  generalize hAe : va_A (cw ad cc N S) s.heap.size = A at hD hev hE hNS ⊢
  have hA : ∀ q : Nat, s.heap.size ≤ q → A q := fun q h => by rw [← hAe]; exact Or.inr h
  have hS : va_S A s.heap s.heap [] := va_S.rf
  obtain ⟨ls, hl, hle⟩ : ∃ ls : Array Slot, lv_has ls 1 [(0, .int x0)] ∧ entryFrame m ([.int x0] : List Value).toArray 1 = F0 m 0 ls [] := by
    exact ⟨_, lv_entry (n := 1) _ (Nat.le_of_ble_eq_true rfl), lg_entry_eq ..⟩
  rw [hle]
  refine w_cRd_hexDigit_J0 ⟨hx, hb, hr, hml, hown, hts, hK, hA, hev, hE, hN, hNS⟩ Heq (fun r h pc H locs ls hd hP hD hS => ?_) _ _ _ hP hD hS (lv_sub hl [0] rfl)
  subst h
  exact W.iret hx hb hr (fun t ht hW => ⟨⟨_, (), rfl, rfl, by rw [ht]; exact hP, va_K.moved hW.alike hK, hD⟩, hS.F ht⟩) hS.2.2 hd
def m_cRd_readEscaped_B105 (N : Nat → Nat) (x0 : Nat) (S : CS) (x2 : Int32) (x3 : Int32) (x4 : Int32) : Option ((CS × Int32 × Int32 × Int32) ⊕ ((CS × Int32) ⊕ (CS × Int32))) := (if x2 = 0 then some (.inr (.inl (S, x3))) else (if 2 ≤ x4 then some (.inr (.inl (S, x3))) else gl x0 (N 1) (gn (S.r 1 2 x0) (N 5) (fun j_3 => ob (m_cRw_at N j_3 S (S.i 1 4 x0)) (fun o_6 => ob (m_cRd_hexDigit N o_6.1 o_6.2) (fun o_8 => (if 0 ≤ o_8.2 then some (.inl ((o_8.1.setI 1 4 x0 ((o_8.1.i 1 4 x0) + 1)), x2, ((16 * x3) + o_8.2), (x4 + 1))) else some (.inr (.inr (o_8.1, 0))))))))))
theorem d_cRd_readEscaped_0 : decode prog_3_method_12_code 0 = .ok (.aload_n 0, 1) := by decide +kernel
theorem d_cRd_readEscaped_1 : decode prog_3_method_12_code 1 = .ok (.getfield 27, 3) := by decide +kernel
theorem d_cRd_readEscaped_4 : decode prog_3_method_12_code 4 = .ok (.aload_n 0, 1) := by decide +kernel
theorem d_cRd_readEscaped_5 : decode prog_3_method_12_code 5 = .ok (.getfield 34, 3) := by decide +kernel
theorem d_cRd_readEscaped_8 : decode prog_3_method_12_code 8 = .ok (.invokevirtual 70, 3) := by decide +kernel
theorem d_cRd_readEscaped_11 : decode prog_3_method_12_code 11 = .ok (.istore_n 1, 1) := by decide +kernel
theorem d_cRd_readEscaped_12 : decode prog_3_method_12_code 12 = .ok (.iload_n 1, 1) := by decide +kernel
theorem d_cRd_readEscaped_13 : decode prog_3_method_12_code 13 = .ok (.bipush 120, 2) := by decide +kernel
theorem d_cRd_readEscaped_15 : decode prog_3_method_12_code 15 = .ok (.if_icmp .ne 7, 3) := by decide +kernel
theorem d_cRd_readEscaped_22 : decode prog_3_method_12_code 22 = .ok (.iconst 0, 1) := by decide +kernel
theorem d_cRd_readEscaped_23 : decode prog_3_method_12_code 23 = .ok (.istore_n 2, 1) := by decide +kernel
theorem d_cRd_readEscaped_24 : decode prog_3_method_12_code 24 = .ok (.iload_n 2, 1) := by decide +kernel
theorem d_cRd_readEscaped_25 : decode prog_3_method_12_code 25 = .ok (.ifCond .ne 35, 3) := by decide +kernel
theorem d_cRd_readEscaped_60 : decode prog_3_method_12_code 60 = .ok (.aload_n 0, 1) := by decide +kernel
theorem d_cRd_readEscaped_61 : decode prog_3_method_12_code 61 = .ok (.dup, 1) := by decide +kernel
theorem d_cRd_readEscaped_62 : decode prog_3_method_12_code 62 = .ok (.getfield 34, 3) := by decide +kernel
theorem d_cRd_readEscaped_65 : decode prog_3_method_12_code 65 = .ok (.iconst 1, 1) := by decide +kernel
theorem d_cRd_readEscaped_66 : decode prog_3_method_12_code 66 = .ok (.iadd, 1) := by decide +kernel
theorem d_cRd_readEscaped_67 : decode prog_3_method_12_code 67 = .ok (.putfield 34, 3) := by decide +kernel
theorem d_cRd_readEscaped_70 : decode prog_3_method_12_code 70 = .ok (.iload_n 2, 1) := by decide +kernel
theorem d_cRd_readEscaped_71 : decode prog_3_method_12_code 71 = .ok (.ifCond .eq 7, 3) := by decide +kernel
theorem d_cRd_readEscaped_78 : decode prog_3_method_12_code 78 = .ok (.iload_n 1, 1) := by decide +kernel
theorem d_cRd_readEscaped_79 : decode prog_3_method_12_code 79 = .ok (.bipush 110, 2) := by decide +kernel
theorem d_cRd_readEscaped_81 : decode prog_3_method_12_code 81 = .ok (.if_icmp .ne 8, 3) := by decide +kernel
theorem d_cRd_readEscaped_89 : decode prog_3_method_12_code 89 = .ok (.iload_n 1, 1) := by decide +kernel
theorem d_cRd_readEscaped_90 : decode prog_3_method_12_code 90 = .ok (.bipush 116, 2) := by decide +kernel
theorem d_cRd_readEscaped_92 : decode prog_3_method_12_code 92 = .ok (.if_icmp .ne 8, 3) := by decide +kernel
theorem d_cRd_readEscaped_100 : decode prog_3_method_12_code 100 = .ok (.iload_n 1, 1) := by decide +kernel
theorem d_cRd_readEscaped_101 : decode prog_3_method_12_code 101 = .ok (.istore_n 3, 1) := by decide +kernel
theorem d_cRd_readEscaped_102 : decode prog_3_method_12_code 102 = .ok (.iconst 0, 1) := by decide +kernel
theorem d_cRd_readEscaped_103 : decode prog_3_method_12_code 103 = .ok (.istore 4, 2) := by decide +kernel
theorem d_cRd_readEscaped_105 : decode prog_3_method_12_code 105 = .ok (.iload_n 2, 1) := by decide +kernel
theorem d_cRd_readEscaped_106 : decode prog_3_method_12_code 106 = .ok (.ifCond .eq 56, 3) := by decide +kernel
theorem d_cRd_readEscaped_109 : decode prog_3_method_12_code 109 = .ok (.iload 4, 2) := by decide +kernel
theorem d_cRd_readEscaped_111 : decode prog_3_method_12_code 111 = .ok (.iconst 2, 1) := by decide +kernel
theorem d_cRd_readEscaped_112 : decode prog_3_method_12_code 112 = .ok (.if_icmp .ge 50, 3) := by decide +kernel
theorem d_cRd_readEscaped_115 : decode prog_3_method_12_code 115 = .ok (.aload_n 0, 1) := by decide +kernel
theorem d_cRd_readEscaped_116 : decode prog_3_method_12_code 116 = .ok (.getfield 27, 3) := by decide +kernel
theorem d_cRd_readEscaped_119 : decode prog_3_method_12_code 119 = .ok (.aload_n 0, 1) := by decide +kernel
theorem d_cRd_readEscaped_120 : decode prog_3_method_12_code 120 = .ok (.getfield 34, 3) := by decide +kernel
theorem d_cRd_readEscaped_123 : decode prog_3_method_12_code 123 = .ok (.invokevirtual 70, 3) := by decide +kernel
theorem d_cRd_readEscaped_126 : decode prog_3_method_12_code 126 = .ok (.invokestatic 136, 3) := by decide +kernel
theorem d_cRd_readEscaped_129 : decode prog_3_method_12_code 129 = .ok (.istore 5, 2) := by decide +kernel
theorem d_cRd_readEscaped_131 : decode prog_3_method_12_code 131 = .ok (.iload 5, 2) := by decide +kernel
theorem d_cRd_readEscaped_133 : decode prog_3_method_12_code 133 = .ok (.ifCond .ge 5, 3) := by decide +kernel
theorem d_cRd_readEscaped_138 : decode prog_3_method_12_code 138 = .ok (.bipush 16, 2) := by decide +kernel
theorem d_cRd_readEscaped_140 : decode prog_3_method_12_code 140 = .ok (.iload_n 3, 1) := by decide +kernel
theorem d_cRd_readEscaped_141 : decode prog_3_method_12_code 141 = .ok (.imul, 1) := by decide +kernel
theorem d_cRd_readEscaped_142 : decode prog_3_method_12_code 142 = .ok (.iload 5, 2) := by decide +kernel
theorem d_cRd_readEscaped_144 : decode prog_3_method_12_code 144 = .ok (.iadd, 1) := by decide +kernel
theorem d_cRd_readEscaped_145 : decode prog_3_method_12_code 145 = .ok (.istore_n 3, 1) := by decide +kernel
theorem d_cRd_readEscaped_146 : decode prog_3_method_12_code 146 = .ok (.aload_n 0, 1) := by decide +kernel
theorem d_cRd_readEscaped_147 : decode prog_3_method_12_code 147 = .ok (.dup, 1) := by decide +kernel
theorem d_cRd_readEscaped_148 : decode prog_3_method_12_code 148 = .ok (.getfield 34, 3) := by decide +kernel
theorem d_cRd_readEscaped_151 : decode prog_3_method_12_code 151 = .ok (.iconst 1, 1) := by decide +kernel
theorem d_cRd_readEscaped_152 : decode prog_3_method_12_code 152 = .ok (.iadd, 1) := by decide +kernel
theorem d_cRd_readEscaped_153 : decode prog_3_method_12_code 153 = .ok (.putfield 34, 3) := by decide +kernel
theorem d_cRd_readEscaped_156 : decode prog_3_method_12_code 156 = .ok (.iinc 4 1, 3) := by decide +kernel
theorem d_cRd_readEscaped_159 : decode prog_3_method_12_code 159 = .ok (.goto (-54), 3) := by decide +kernel
theorem d_cRd_readEscaped_136 : decode prog_3_method_12_code 136 = .ok (.iconst 0, 1) := by decide +kernel
theorem d_cRd_readEscaped_137 : decode prog_3_method_12_code 137 = .ok (.ireturn, 1) := by decide +kernel
set_option maxHeartbeats 4000000 in
set_option maxRecDepth 100000 in
theorem w_cRd_readEscaped_B105 {p : Program} {l : Launch} {e : Env} {s : State} {m : MethodId} {args : Array Value} {below : List Frame} {meth : Method} {c : Code} {A : Nat → Prop} {D : va_G} {ad : Nat → Nat → Nat} {cc : Nat → ClassId} {sad sav : Nat → Nat} {Q : State → Prop} (hC : MCc sad sav "JoinedTrees$JsonReader" prog_3_method_12_code 6 (some .boolean) p s m args meth c A D cc) {N : Nat → Nat} {x0 : Nat} {S : CS} {x2 : Int32} {x3 : Int32} {x4 : Int32} {o : ((CS × Int32 × Int32 × Int32) ⊕ ((CS × Int32) ⊕ (CS × Int32)))} (Heq : m_cRd_readEscaped_B105 N x0 S x2 x3 x4 = some o) (Ka : ∀ b : CS × Int32 × Int32 × Int32, o = .inl b → ∀ (H : Heap) (locs : List Loc) (ls : Array Slot), va_P D cls (cw ad cc N b.1) H → va_D A (cw ad cc N b.1) → va_S A s.heap H locs → lv_has ls 6 [(0, .ref (ad 1 x0)), (2, .int b.2.1), (3, .int b.2.2.1), (4, .int b.2.2.2)] → W p l e ({ frames := 1, cells := 0, slots := 0, locals := 21 }) s m args below meth c H locs 0 0 Q (F0 m 105 ls [])) (K0 : ∀ b : CS × Int32, o = .inr (.inl b) → ∀ (H : Heap) (locs : List Loc) (ls : Array Slot), va_P D cls (cw ad cc N b.1) H → va_D A (cw ad cc N b.1) → va_S A s.heap H locs → lv_has ls 6 [(0, .ref (ad 1 x0)), (3, .int b.2)] → W p l e ({ frames := 1, cells := 0, slots := 0, locals := 21 }) s m args below meth c H locs 0 0 Q (F0 m 162 ls [])) (Kr : ∀ r : CS × Int32, o = .inr (.inr r) → ∀ (pc : Nat) (H : Heap) (locs : List Loc) (ls : Array Slot), decode prog_3_method_12_code pc = .ok (.ireturn, 1) → (r.2 = 0 ∨ r.2 = 1) → va_P D cls (cw ad cc N r.1) H → va_D A (cw ad cc N r.1) → va_S A s.heap H locs → W p l e ({ frames := 1, cells := 0, slots := 0, locals := 21 }) s m args below meth c H locs 0 0 Q (F0 m pc ls [.int r.2])) : ∀ (H : Heap) (locs : List Loc) (ls : Array Slot), va_P D cls (cw ad cc N S) H → va_D A (cw ad cc N S) → va_S A s.heap H locs → lv_has ls 6 [(0, .ref (ad 1 x0)), (2, .int x2), (3, .int x3), (4, .int x4)] → W p l e ({ frames := 1, cells := 0, slots := 0, locals := 21 }) s m args below meth c H locs 0 0 Q (F0 m 105 ls []) := by
  intro H locs ls hP hD hS hl
  obtain ⟨hx, hb, hr, hml, hown, hts, hK, hA, hev, hE, hN, hNS⟩ := id hC
  unfold m_cRd_readEscaped_B105 at Heq
  refine lv_iload_n hx hb d_cRd_readEscaped_105 rfl (lv_at hl 1 rfl) ?_
  refine lv_if_eq (tgt := 162) hx hb d_cRd_readEscaped_106 (by decide) (fun c_1 => ?_) (fun c_1 => ?_)
  · replace Heq := (if_pos c_1).symm.trans Heq
    exact K0 _ (Option.some.inj Heq).symm _ _ _ hP hD hS (lv_sub hl [0, 2] rfl)
  · replace Heq := (if_neg c_1).symm.trans Heq
    refine lv_iload hx hb d_cRd_readEscaped_109 (lv_at hl 3 rfl) ?_
    refine lv_iconst (v := 2) hx hb d_cRd_readEscaped_111 (by decide) ?_
    refine lv_icmp_ge (tgt := 162) hx hb d_cRd_readEscaped_112 (by decide) (fun c_2 => ?_) (fun c_2 => ?_)
    · replace Heq := (if_pos c_2).symm.trans Heq
      exact K0 _ (Option.some.inj Heq).symm _ _ _ hP hD hS (lv_sub hl [0, 2] rfl)
    · replace Heq := (if_neg c_2).symm.trans Heq
      refine lv_aload_n hx hb d_cRd_readEscaped_115 rfl (lv_at hl 0 rfl) ?_
      obtain ⟨hl_x0_1, Heq⟩ := gl_some Heq
      refine va_get (D := D) (ci := 1) (v := rv ad 5 (S.r 1 2 x0)) (C := R_Rd) (T := F_Rd) (N := 10) hx hb hts i_Rd hown hK hP (cPos N 1 x0) (cw_obj (k := 1) (by decide) hl_x0_1) rfl 2 (by decide) (hts _ kw_346) (fun _ h9 => h9) rfl d_cRd_readEscaped_116 ?_
      refine lv_aload_n hx hb d_cRd_readEscaped_119 rfl (lv_at hl 0 rfl) ?_
      refine va_get (D := D) (ci := 1) (v := .int (S.i 1 4 x0)) (C := R_Rd) (T := F_Rd) (N := 10) hx hb hts i_Rd hown hK hP (cPos N 1 x0) (cw_obj (k := 1) (by decide) hl_x0_1) rfl 4 (by decide) (hts _ kw_349) (fun _ h9 => h9) rfl d_cRd_readEscaped_120 ?_
      obtain ⟨j_3, hj_4, hl_5, Heq⟩ := gn_some Heq
      refine w_s (st' := [.int (S.i 1 4 x0), .ref (ad 5 j_3)]) (congrArg (fun z9 : Option Nat => [.int (S.i 1 4 x0), rv ad 5 z9]) hj_4) ?_
      obtain ⟨o_6, h_7, Heq⟩ := ob_some Heq
      have hFc := fr_all hD hS hA
      refine va_calli (va_runV (As := [.int (S.i 1 4 x0)]) (rest := []) ⟨hx, hb, hml, hown, hts⟩ (g_cRw_at l D H.size (ad := ad) (cc := cc) (sad := sad) (sav := sav) h_7) (cw_v 1 hts kw_689 kw_871 kw_687 kw_688 kw_4 rfl rfl (by decide +kernel) ⟨Nat.le_of_ble_eq_true rfl, Nat.le_of_ble_eq_true rfl⟩) ⟨c_blind, va_recv hK hP (ci := 5) (q0 := cPos N 5 j_3) rfl (cw_obj (k := 5) (by decide) hl_5), fun U hU hW => c_pre hU hW hP hK hD hev hE hN hNS hS hFc⟩ rfl rfl hl.1 rfl (lv_room (Nat.le_of_ble_eq_true rfl)) d_cRd_readEscaped_123 ⟨Nat.le_of_ble_eq_true rfl, Nat.le_of_ble_eq_true rfl⟩) hS (fun q _ h => hFc q h) hFc (fun rz u t H1 locs ht hvm hw hB hz1 hk1 hS => ?_)
      obtain ⟨hP, -, hD1⟩ := hB
      rw [ht] at hP
      have hD := hD1.weaken (fun _ q _ h => hFc q.1 h)
      generalize H1 = H at hP hS ⊢
      refine W.cs (cells' := 0) (slots' := 0) rfl rfl ?_
      subst hw
      obtain ⟨o_8, h_9, Heq⟩ := ob_some Heq
      have hFc := fr_all hD hS hA
      refine va_calli (va_runS (As := [.int o_6.2]) (rest := []) ⟨hx, hb, hml, hown, hts⟩ (g_cRd_hexDigit l D H.size (ad := ad) (cc := cc) (sad := sad) (sav := sav) h_9) (cw_s 1 hts kw_902 kw_900 kw_901 kw_7 rfl rfl (by decide +kernel) ⟨Nat.le_of_ble_eq_true rfl, Nat.le_of_ble_eq_true rfl⟩) ⟨c_blind, fun U hU hW => c_pre hU hW hP hK hD hev hE hN hNS hS hFc⟩ rfl rfl hl.1 rfl (lv_room (Nat.le_of_ble_eq_true rfl)) d_cRd_readEscaped_126 ⟨Nat.le_of_ble_eq_true rfl, Nat.le_of_ble_eq_true rfl⟩) hS (fun q _ h => hFc q h) hFc (fun rz u t H1 locs ht hvm hw hB hz1 hk1 hS => ?_)
      obtain ⟨hP, -, hD1⟩ := hB
      rw [ht] at hP
      have hD := hD1.weaken (fun _ q _ h => hFc q.1 h)
      generalize H1 = H at hP hS ⊢
      refine W.cs (cells' := 0) (slots' := 0) rfl rfl ?_
      subst hw
      refine lv_istore (lv' := [(5, .int o_8.2), (0, .ref (ad 1 x0)), (2, .int x2), (3, .int x3), (4, .int x4)]) hx hb d_cRd_readEscaped_129 hl (by decide) rfl (fun ls hl => ?_)
      refine lv_iload hx hb d_cRd_readEscaped_131 (lv_at hl 0 rfl) ?_
      refine lv_if_ge (tgt := 138) hx hb d_cRd_readEscaped_133 (by decide) (fun c_10 => ?_) (fun c_10 => ?_)
      · replace Heq := (if_pos c_10).symm.trans Heq
        refine lv_bipush (v := 16) hx hb d_cRd_readEscaped_138 (by decide) ?_
        refine lv_iload_n hx hb d_cRd_readEscaped_140 rfl (lv_at hl 3 rfl) ?_
        refine lv_imul hx hb d_cRd_readEscaped_141 ?_
        refine w_i (y := 16 * x3) rfl ?_
        refine lv_iload hx hb d_cRd_readEscaped_142 (lv_at hl 0 rfl) ?_
        refine lv_iadd hx hb d_cRd_readEscaped_144 ?_
        refine w_i (y := (16 * x3) + o_8.2) rfl ?_
        refine lv_istore_n (lv' := [(3, .int ((16 * x3) + o_8.2)), (5, .int o_8.2), (0, .ref (ad 1 x0)), (2, .int x2), (4, .int x4)]) hx hb d_cRd_readEscaped_145 rfl hl (by decide) rfl (fun ls hl => ?_)
        refine lv_aload_n hx hb d_cRd_readEscaped_146 rfl (lv_at hl 2 rfl) ?_
        refine lv_dup hx hb d_cRd_readEscaped_147 (by first | rfl | exact rv_cat) ?_
        refine va_get (D := D) (ci := 1) (v := .int (o_8.1.i 1 4 x0)) (C := R_Rd) (T := F_Rd) (N := 10) hx hb hts i_Rd hown hK hP (cPos N 1 x0) (cw_obj (k := 1) (by decide) hl_x0_1) rfl 4 (by decide) (hts _ kw_349) (fun _ h9 => h9) rfl d_cRd_readEscaped_148 ?_
        refine lv_iconst (v := 1) hx hb d_cRd_readEscaped_151 (by decide) ?_
        refine lv_iadd hx hb d_cRd_readEscaped_152 ?_
        refine w_i (y := (o_8.1.i 1 4 x0) + 1) rfl ?_
        refine va_put (D := D) (ci := 1) (v := .int ((o_8.1.i 1 4 x0) + 1)) (ty := .int) (C := R_Rd) (T := F_Rd) (N := 10) hx hb hts i_Rd t_Rd t_Rd_ok n_Rd hown hK hP hD hS (cPos N 1 x0) (cw_obj (k := 1) (by decide) hl_x0_1) rfl 4 (by decide) (hts _ kw_349) (fun _ h9 => h9) rfl (by decide +kernel) rfl rfl (Nat.le_of_ble_eq_true rfl) d_cRd_readEscaped_153 (fun H locs hP hD hS => ?_)
        have hD := (congrArg (fun w9 => va_D A w9) (cw_setI (ad := ad) (cc := cc) (S := o_8.1) (k := 1) (f := 4) (v := (o_8.1.i 1 4 x0) + 1) (by decide) rfl hl_x0_1)).mp hD
        have hP := (congrArg (fun w9 => va_P D cls w9 H) (cw_setI (ad := ad) (cc := cc) (S := o_8.1) (k := 1) (f := 4) (v := (o_8.1.i 1 4 x0) + 1) (by decide) rfl hl_x0_1)).mp hP
        refine lv_iinc (v := x4 + 1) (lv' := [(4, .int (x4 + 1)), (3, .int ((16 * x3) + o_8.2)), (5, .int o_8.2), (0, .ref (ad 1 x0)), (2, .int x2)]) hx hb d_cRd_readEscaped_156 hl (k := 4) rfl rfl (by decide) rfl (fun ls hl => ?_)
        refine lv_goto (tgt := 105) hx hb d_cRd_readEscaped_159 (by decide) ?_
        exact Ka _ (Option.some.inj Heq).symm _ _ _ hP hD hS (lv_sub hl [3, 4, 1, 0] rfl)
      · replace Heq := (if_neg c_10).symm.trans Heq
        refine lv_iconst (v := 0) hx hb d_cRd_readEscaped_136 (by decide) ?_
        exact Kr _ (Option.some.inj Heq).symm 137 _ _ _ d_cRd_readEscaped_137 (Or.inl rfl) hP hD hS
def m_cRd_readEscaped_L105 (N : Nat → Nat) (x0 : Nat) (S : CS) (x2 : Int32) (x3 : Int32) (x4 : Int32) : Option ((CS × Int32) ⊕ (CS × Int32)) := lp (fun a : CS × Int32 × Int32 × Int32 => m_cRd_readEscaped_B105 N x0 a.1 a.2.1 a.2.2.1 a.2.2.2) FU (S, x2, x3, x4)
theorem w_cRd_readEscaped_L105 {p : Program} {l : Launch} {e : Env} {s : State} {m : MethodId} {args : Array Value} {below : List Frame} {meth : Method} {c : Code} {A : Nat → Prop} {D : va_G} {ad : Nat → Nat → Nat} {cc : Nat → ClassId} {sad sav : Nat → Nat} {Q : State → Prop} (hC : MCc sad sav "JoinedTrees$JsonReader" prog_3_method_12_code 6 (some .boolean) p s m args meth c A D cc) {N : Nat → Nat} {x0 : Nat} {S : CS} {x2 : Int32} {x3 : Int32} {x4 : Int32} {o : ((CS × Int32) ⊕ (CS × Int32))} (Heq : m_cRd_readEscaped_L105 N x0 S x2 x3 x4 = some o) (K0 : ∀ b : CS × Int32, o = (.inl b) → ∀ (H : Heap) (locs : List Loc) (ls : Array Slot), va_P D cls (cw ad cc N b.1) H → va_D A (cw ad cc N b.1) → va_S A s.heap H locs → lv_has ls 6 [(0, .ref (ad 1 x0)), (3, .int b.2)] → W p l e ({ frames := 1, cells := 0, slots := 0, locals := 21 }) s m args below meth c H locs 0 0 Q (F0 m 162 ls [])) (Kr : ∀ r : CS × Int32, o = (.inr r) → ∀ (pc : Nat) (H : Heap) (locs : List Loc) (ls : Array Slot), decode prog_3_method_12_code pc = .ok (.ireturn, 1) → (r.2 = 0 ∨ r.2 = 1) → va_P D cls (cw ad cc N r.1) H → va_D A (cw ad cc N r.1) → va_S A s.heap H locs → W p l e ({ frames := 1, cells := 0, slots := 0, locals := 21 }) s m args below meth c H locs 0 0 Q (F0 m pc ls [.int r.2])) : ∀ (H : Heap) (locs : List Loc) (ls : Array Slot), va_P D cls (cw ad cc N S) H → va_D A (cw ad cc N S) → va_S A s.heap H locs → lv_has ls 6 [(0, .ref (ad 1 x0)), (2, .int x2), (3, .int x3), (4, .int x4)] → W p l e ({ frames := 1, cells := 0, slots := 0, locals := 21 }) s m args below meth c H locs 0 0 Q (F0 m 105 ls []) := by
  refine lp_w (G := fun a : CS × Int32 × Int32 × Int32 => ∀ (H : Heap) (locs : List Loc) (ls : Array Slot), va_P D cls (cw ad cc N a.1) H → va_D A (cw ad cc N a.1) → va_S A s.heap H locs → lv_has ls 6 [(0, .ref (ad 1 x0)), (2, .int a.2.1), (3, .int a.2.2.1), (4, .int a.2.2.2)] → W p l e ({ frames := 1, cells := 0, slots := 0, locals := 21 }) s m args below meth c H locs 0 0 Q (F0 m 105 ls [])) ?_ FU (S, x2, x3, x4) Heq
  intro a o1 ho Ka Ke
  exact w_cRd_readEscaped_B105 hC ho (fun b h => Ka b h) (fun b h => K0 b (Ke _ h).symm) (fun r h => Kr r (Ke _ h).symm)
def m_cRd_readEscaped_J162 (N : Nat → Nat) (x0 : Nat) (S : CS) (x3 : Int32) : Option (CS × Int32) := gl x0 (N 1) (gn (S.r 1 1 x0) (N 5) (fun j_1 => ob (m_cRw_write N j_1 S x3) (fun o_4 => some (o_4, 1))))
theorem d_cRd_readEscaped_162 : decode prog_3_method_12_code 162 = .ok (.aload_n 0, 1) := by decide +kernel
theorem d_cRd_readEscaped_163 : decode prog_3_method_12_code 163 = .ok (.getfield 22, 3) := by decide +kernel
theorem d_cRd_readEscaped_166 : decode prog_3_method_12_code 166 = .ok (.iload_n 3, 1) := by decide +kernel
theorem d_cRd_readEscaped_167 : decode prog_3_method_12_code 167 = .ok (.invokevirtual 130, 3) := by decide +kernel
theorem d_cRd_readEscaped_170 : decode prog_3_method_12_code 170 = .ok (.iconst 1, 1) := by decide +kernel
theorem d_cRd_readEscaped_171 : decode prog_3_method_12_code 171 = .ok (.ireturn, 1) := by decide +kernel
set_option maxHeartbeats 4000000 in
set_option maxRecDepth 100000 in
theorem w_cRd_readEscaped_J162 {p : Program} {l : Launch} {e : Env} {s : State} {m : MethodId} {args : Array Value} {below : List Frame} {meth : Method} {c : Code} {A : Nat → Prop} {D : va_G} {ad : Nat → Nat → Nat} {cc : Nat → ClassId} {sad sav : Nat → Nat} {Q : State → Prop} (hC : MCc sad sav "JoinedTrees$JsonReader" prog_3_method_12_code 6 (some .boolean) p s m args meth c A D cc) {N : Nat → Nat} {x0 : Nat} {S : CS} {x3 : Int32} {o : CS × Int32} (Heq : m_cRd_readEscaped_J162 N x0 S x3 = some o) (Kr : ∀ r : CS × Int32, o = r → ∀ (pc : Nat) (H : Heap) (locs : List Loc) (ls : Array Slot), decode prog_3_method_12_code pc = .ok (.ireturn, 1) → (r.2 = 0 ∨ r.2 = 1) → va_P D cls (cw ad cc N r.1) H → va_D A (cw ad cc N r.1) → va_S A s.heap H locs → W p l e ({ frames := 1, cells := 0, slots := 0, locals := 21 }) s m args below meth c H locs 0 0 Q (F0 m pc ls [.int r.2])) : ∀ (H : Heap) (locs : List Loc) (ls : Array Slot), va_P D cls (cw ad cc N S) H → va_D A (cw ad cc N S) → va_S A s.heap H locs → lv_has ls 6 [(0, .ref (ad 1 x0)), (3, .int x3)] → W p l e ({ frames := 1, cells := 0, slots := 0, locals := 21 }) s m args below meth c H locs 0 0 Q (F0 m 162 ls []) := by
  intro H locs ls hP hD hS hl
  obtain ⟨hx, hb, hr, hml, hown, hts, hK, hA, hev, hE, hN, hNS⟩ := id hC
  unfold m_cRd_readEscaped_J162 at Heq
  refine lv_aload_n hx hb d_cRd_readEscaped_162 rfl (lv_at hl 0 rfl) ?_
  obtain ⟨hl_x0_1, Heq⟩ := gl_some Heq
  refine va_get (D := D) (ci := 1) (v := rv ad 5 (S.r 1 1 x0)) (C := R_Rd) (T := F_Rd) (N := 10) hx hb hts i_Rd hown hK hP (cPos N 1 x0) (cw_obj (k := 1) (by decide) hl_x0_1) rfl 1 (by decide) (hts _ kw_344) (fun _ h9 => h9) rfl d_cRd_readEscaped_163 ?_
  refine lv_iload_n hx hb d_cRd_readEscaped_166 rfl (lv_at hl 1 rfl) ?_
  obtain ⟨j_1, hj_2, hl_3, Heq⟩ := gn_some Heq
  refine w_s (st' := [.int x3, .ref (ad 5 j_1)]) (congrArg (fun z9 : Option Nat => [.int x3, rv ad 5 z9]) hj_2) ?_
  obtain ⟨o_4, h_5, Heq⟩ := ob_some Heq
  have hFc := fr_all hD hS hA
  refine va_callv (va_runV (As := [.int x3]) (rest := []) ⟨hx, hb, hml, hown, hts⟩ (g_cRw_write l D H.size (ad := ad) (cc := cc) (sad := sad) (sav := sav) h_5) (cw_v 1 hts kw_549 kw_895 kw_547 kw_548 kw_4 rfl rfl (by decide +kernel) ⟨Nat.le_of_ble_eq_true rfl, Nat.le_of_ble_eq_true rfl⟩) ⟨c_blind, va_recv hK hP (ci := 5) (q0 := cPos N 5 j_1) rfl (cw_obj (k := 5) (by decide) hl_3), fun U hU hW => c_pre hU hW hP hK hD hev hE hN hNS hS hFc⟩ rfl rfl hl.1 rfl (lv_room (Nat.le_of_ble_eq_true rfl)) d_cRd_readEscaped_167 ⟨Nat.le_of_ble_eq_true rfl, Nat.le_of_ble_eq_true rfl⟩) hS (fun q _ h => hFc q h) hFc (fun u t H1 locs ht hvm hw hB hz1 hk1 hS => ?_)
  obtain ⟨hP, -, hD1⟩ := hB
  rw [ht] at hP
  have hD := hD1.weaken (fun _ q _ h => hFc q.1 h)
  generalize H1 = H at hP hS ⊢
  refine W.cs (cells' := 0) (slots' := 0) rfl rfl ?_
  refine lv_iconst (v := 1) hx hb d_cRd_readEscaped_170 (by decide) ?_
  exact Kr _ (Option.some.inj Heq).symm 171 _ _ _ d_cRd_readEscaped_171 (Or.inr rfl) hP hD hS
def m_cRd_readEscaped_J101 (N : Nat → Nat) (x0 : Nat) (S : CS) (x2 : Int32) (t0 : Int32) : Option (CS × Int32) := oe (m_cRd_readEscaped_L105 N x0 S x2 t0 0) (fun b_1 => m_cRd_readEscaped_J162 N x0 b_1.1 b_1.2) (fun r_3 => some r_3)
set_option maxHeartbeats 4000000 in
set_option maxRecDepth 100000 in
theorem w_cRd_readEscaped_J101 {p : Program} {l : Launch} {e : Env} {s : State} {m : MethodId} {args : Array Value} {below : List Frame} {meth : Method} {c : Code} {A : Nat → Prop} {D : va_G} {ad : Nat → Nat → Nat} {cc : Nat → ClassId} {sad sav : Nat → Nat} {Q : State → Prop} (hC : MCc sad sav "JoinedTrees$JsonReader" prog_3_method_12_code 6 (some .boolean) p s m args meth c A D cc) {N : Nat → Nat} {x0 : Nat} {S : CS} {x2 : Int32} {t0 : Int32} {o : CS × Int32} (Heq : m_cRd_readEscaped_J101 N x0 S x2 t0 = some o) (Kr : ∀ r : CS × Int32, o = r → ∀ (pc : Nat) (H : Heap) (locs : List Loc) (ls : Array Slot), decode prog_3_method_12_code pc = .ok (.ireturn, 1) → (r.2 = 0 ∨ r.2 = 1) → va_P D cls (cw ad cc N r.1) H → va_D A (cw ad cc N r.1) → va_S A s.heap H locs → W p l e ({ frames := 1, cells := 0, slots := 0, locals := 21 }) s m args below meth c H locs 0 0 Q (F0 m pc ls [.int r.2])) : ∀ (H : Heap) (locs : List Loc) (ls : Array Slot), va_P D cls (cw ad cc N S) H → va_D A (cw ad cc N S) → va_S A s.heap H locs → lv_has ls 6 [(0, .ref (ad 1 x0)), (2, .int x2)] → W p l e ({ frames := 1, cells := 0, slots := 0, locals := 21 }) s m args below meth c H locs 0 0 Q (F0 m 101 ls [.int t0]) := by
  intro H locs ls hP hD hS hl
  obtain ⟨hx, hb, hr, hml, hown, hts, hK, hA, hev, hE, hN, hNS⟩ := id hC
  unfold m_cRd_readEscaped_J101 at Heq
  refine lv_istore_n (lv' := [(3, .int t0), (0, .ref (ad 1 x0)), (2, .int x2)]) hx hb d_cRd_readEscaped_101 rfl hl (by decide) rfl (fun ls hl => ?_)
  refine lv_iconst (v := 0) hx hb d_cRd_readEscaped_102 (by decide) ?_
  refine lv_istore (lv' := [(4, .int 0), (3, .int t0), (0, .ref (ad 1 x0)), (2, .int x2)]) hx hb d_cRd_readEscaped_103 hl (by decide) rfl (fun ls hl => ?_)
  rcases oe_some Heq with ⟨b_1, h_2, Heq⟩ | ⟨r_3, h_2, Heq⟩
  · refine w_cRd_readEscaped_L105 hC h_2 (fun b h => ?_) (fun r h => by cases h) _ _ _ hP hD hS (lv_sub hl [2, 3, 1, 0] rfl)
    cases h
    intro H locs ls hP hD hS hl
    exact w_cRd_readEscaped_J162 hC Heq Kr _ _ _ hP hD hS (lv_sub hl [0, 1] rfl)
  · refine w_cRd_readEscaped_L105 hC h_2 (fun b h => by cases h) (fun r h => ?_) _ _ _ hP hD hS (lv_sub hl [2, 3, 1, 0] rfl)
    cases h
    exact Kr _ (Option.some.inj Heq).symm
def m_cRd_readEscaped_J60 (N : Nat → Nat) (x0 : Nat) (S : CS) (x1 : Int32) (x2 : Int32) : Option (CS × Int32) := gl x0 (N 1) ((if x2 = 0 then (if x1 = 110 then m_cRd_readEscaped_J101 N x0 (S.setI 1 4 x0 ((S.i 1 4 x0) + 1)) x2 10 else (if x1 = 116 then m_cRd_readEscaped_J101 N x0 (S.setI 1 4 x0 ((S.i 1 4 x0) + 1)) x2 9 else m_cRd_readEscaped_J101 N x0 (S.setI 1 4 x0 ((S.i 1 4 x0) + 1)) x2 x1)) else m_cRd_readEscaped_J101 N x0 (S.setI 1 4 x0 ((S.i 1 4 x0) + 1)) x2 0))
theorem d_cRd_readEscaped_95 : decode prog_3_method_12_code 95 = .ok (.bipush 9, 2) := by decide +kernel
theorem d_cRd_readEscaped_97 : decode prog_3_method_12_code 97 = .ok (.goto 4, 3) := by decide +kernel
theorem d_cRd_readEscaped_84 : decode prog_3_method_12_code 84 = .ok (.bipush 10, 2) := by decide +kernel
theorem d_cRd_readEscaped_86 : decode prog_3_method_12_code 86 = .ok (.goto 15, 3) := by decide +kernel
theorem d_cRd_readEscaped_74 : decode prog_3_method_12_code 74 = .ok (.iconst 0, 1) := by decide +kernel
theorem d_cRd_readEscaped_75 : decode prog_3_method_12_code 75 = .ok (.goto 26, 3) := by decide +kernel
set_option maxHeartbeats 4000000 in
set_option maxRecDepth 100000 in
theorem w_cRd_readEscaped_J60 {p : Program} {l : Launch} {e : Env} {s : State} {m : MethodId} {args : Array Value} {below : List Frame} {meth : Method} {c : Code} {A : Nat → Prop} {D : va_G} {ad : Nat → Nat → Nat} {cc : Nat → ClassId} {sad sav : Nat → Nat} {Q : State → Prop} (hC : MCc sad sav "JoinedTrees$JsonReader" prog_3_method_12_code 6 (some .boolean) p s m args meth c A D cc) {N : Nat → Nat} {x0 : Nat} {S : CS} {x1 : Int32} {x2 : Int32} {o : CS × Int32} (Heq : m_cRd_readEscaped_J60 N x0 S x1 x2 = some o) (Kr : ∀ r : CS × Int32, o = r → ∀ (pc : Nat) (H : Heap) (locs : List Loc) (ls : Array Slot), decode prog_3_method_12_code pc = .ok (.ireturn, 1) → (r.2 = 0 ∨ r.2 = 1) → va_P D cls (cw ad cc N r.1) H → va_D A (cw ad cc N r.1) → va_S A s.heap H locs → W p l e ({ frames := 1, cells := 0, slots := 0, locals := 21 }) s m args below meth c H locs 0 0 Q (F0 m pc ls [.int r.2])) : ∀ (H : Heap) (locs : List Loc) (ls : Array Slot), va_P D cls (cw ad cc N S) H → va_D A (cw ad cc N S) → va_S A s.heap H locs → lv_has ls 6 [(0, .ref (ad 1 x0)), (1, .int x1), (2, .int x2)] → W p l e ({ frames := 1, cells := 0, slots := 0, locals := 21 }) s m args below meth c H locs 0 0 Q (F0 m 60 ls []) := by
  intro H locs ls hP hD hS hl
  obtain ⟨hx, hb, hr, hml, hown, hts, hK, hA, hev, hE, hN, hNS⟩ := id hC
  unfold m_cRd_readEscaped_J60 at Heq
  refine lv_aload_n hx hb d_cRd_readEscaped_60 rfl (lv_at hl 0 rfl) ?_
  refine lv_dup hx hb d_cRd_readEscaped_61 (by first | rfl | exact rv_cat) ?_
  obtain ⟨hl_x0_1, Heq⟩ := gl_some Heq
  refine va_get (D := D) (ci := 1) (v := .int (S.i 1 4 x0)) (C := R_Rd) (T := F_Rd) (N := 10) hx hb hts i_Rd hown hK hP (cPos N 1 x0) (cw_obj (k := 1) (by decide) hl_x0_1) rfl 4 (by decide) (hts _ kw_349) (fun _ h9 => h9) rfl d_cRd_readEscaped_62 ?_
  refine lv_iconst (v := 1) hx hb d_cRd_readEscaped_65 (by decide) ?_
  refine lv_iadd hx hb d_cRd_readEscaped_66 ?_
  refine w_i (y := (S.i 1 4 x0) + 1) rfl ?_
  refine va_put (D := D) (ci := 1) (v := .int ((S.i 1 4 x0) + 1)) (ty := .int) (C := R_Rd) (T := F_Rd) (N := 10) hx hb hts i_Rd t_Rd t_Rd_ok n_Rd hown hK hP hD hS (cPos N 1 x0) (cw_obj (k := 1) (by decide) hl_x0_1) rfl 4 (by decide) (hts _ kw_349) (fun _ h9 => h9) rfl (by decide +kernel) rfl rfl (Nat.le_of_ble_eq_true rfl) d_cRd_readEscaped_67 (fun H locs hP hD hS => ?_)
  have hD := (congrArg (fun w9 => va_D A w9) (cw_setI (ad := ad) (cc := cc) (S := S) (k := 1) (f := 4) (v := (S.i 1 4 x0) + 1) (by decide) rfl hl_x0_1)).mp hD
  have hP := (congrArg (fun w9 => va_P D cls w9 H) (cw_setI (ad := ad) (cc := cc) (S := S) (k := 1) (f := 4) (v := (S.i 1 4 x0) + 1) (by decide) rfl hl_x0_1)).mp hP
  refine lv_iload_n hx hb d_cRd_readEscaped_70 rfl (lv_at hl 2 rfl) ?_
  refine lv_if_eq (tgt := 78) hx hb d_cRd_readEscaped_71 (by decide) (fun c_1 => ?_) (fun c_1 => ?_)
  · replace Heq := (if_pos c_1).symm.trans Heq
    refine lv_iload_n hx hb d_cRd_readEscaped_78 rfl (lv_at hl 1 rfl) ?_
    refine lv_bipush (v := 110) hx hb d_cRd_readEscaped_79 (by decide) ?_
    refine lv_icmp_ne (tgt := 89) hx hb d_cRd_readEscaped_81 (by decide) (fun c_2 => ?_) (fun c_2 => ?_)
    · replace Heq := (if_neg c_2).symm.trans Heq
      refine lv_iload_n hx hb d_cRd_readEscaped_89 rfl (lv_at hl 1 rfl) ?_
      refine lv_bipush (v := 116) hx hb d_cRd_readEscaped_90 (by decide) ?_
      refine lv_icmp_ne (tgt := 100) hx hb d_cRd_readEscaped_92 (by decide) (fun c_3 => ?_) (fun c_3 => ?_)
      · replace Heq := (if_neg c_3).symm.trans Heq
        refine lv_iload_n hx hb d_cRd_readEscaped_100 rfl (lv_at hl 1 rfl) ?_
        exact w_cRd_readEscaped_J101 hC Heq Kr _ _ _ hP hD hS (lv_sub hl [0, 2] rfl)
      · replace Heq := (if_pos c_3).symm.trans Heq
        refine lv_bipush (v := 9) hx hb d_cRd_readEscaped_95 (by decide) ?_
        refine lv_goto (tgt := 101) hx hb d_cRd_readEscaped_97 (by decide) ?_
        exact w_cRd_readEscaped_J101 hC Heq Kr _ _ _ hP hD hS (lv_sub hl [0, 2] rfl)
    · replace Heq := (if_pos c_2).symm.trans Heq
      refine lv_bipush (v := 10) hx hb d_cRd_readEscaped_84 (by decide) ?_
      refine lv_goto (tgt := 101) hx hb d_cRd_readEscaped_86 (by decide) ?_
      exact w_cRd_readEscaped_J101 hC Heq Kr _ _ _ hP hD hS (lv_sub hl [0, 2] rfl)
  · replace Heq := (if_neg c_1).symm.trans Heq
    refine lv_iconst (v := 0) hx hb d_cRd_readEscaped_74 (by decide) ?_
    refine lv_goto (tgt := 101) hx hb d_cRd_readEscaped_75 (by decide) ?_
    exact w_cRd_readEscaped_J101 hC Heq Kr _ _ _ hP hD hS (lv_sub hl [0, 2] rfl)
def m_cRd_readEscaped_J23 (N : Nat → Nat) (x0 : Nat) (S : CS) (x1 : Int32) (t0 : Int32) : Option (CS × Int32) := (if t0 = 0 then (if x1 = 110 then m_cRd_readEscaped_J60 N x0 S x1 t0 else (if x1 = 116 then m_cRd_readEscaped_J60 N x0 S x1 t0 else (if x1 = 34 then m_cRd_readEscaped_J60 N x0 S x1 t0 else (if x1 = 92 then m_cRd_readEscaped_J60 N x0 S x1 t0 else (if x1 = 47 then m_cRd_readEscaped_J60 N x0 S x1 t0 else some (S, 0)))))) else m_cRd_readEscaped_J60 N x0 S x1 t0)
theorem d_cRd_readEscaped_28 : decode prog_3_method_12_code 28 = .ok (.iload_n 1, 1) := by decide +kernel
theorem d_cRd_readEscaped_29 : decode prog_3_method_12_code 29 = .ok (.bipush 110, 2) := by decide +kernel
theorem d_cRd_readEscaped_31 : decode prog_3_method_12_code 31 = .ok (.if_icmp .eq 29, 3) := by decide +kernel
theorem d_cRd_readEscaped_34 : decode prog_3_method_12_code 34 = .ok (.iload_n 1, 1) := by decide +kernel
theorem d_cRd_readEscaped_35 : decode prog_3_method_12_code 35 = .ok (.bipush 116, 2) := by decide +kernel
theorem d_cRd_readEscaped_37 : decode prog_3_method_12_code 37 = .ok (.if_icmp .eq 23, 3) := by decide +kernel
theorem d_cRd_readEscaped_40 : decode prog_3_method_12_code 40 = .ok (.iload_n 1, 1) := by decide +kernel
theorem d_cRd_readEscaped_41 : decode prog_3_method_12_code 41 = .ok (.bipush 34, 2) := by decide +kernel
theorem d_cRd_readEscaped_43 : decode prog_3_method_12_code 43 = .ok (.if_icmp .eq 17, 3) := by decide +kernel
theorem d_cRd_readEscaped_46 : decode prog_3_method_12_code 46 = .ok (.iload_n 1, 1) := by decide +kernel
theorem d_cRd_readEscaped_47 : decode prog_3_method_12_code 47 = .ok (.bipush 92, 2) := by decide +kernel
theorem d_cRd_readEscaped_49 : decode prog_3_method_12_code 49 = .ok (.if_icmp .eq 11, 3) := by decide +kernel
theorem d_cRd_readEscaped_52 : decode prog_3_method_12_code 52 = .ok (.iload_n 1, 1) := by decide +kernel
theorem d_cRd_readEscaped_53 : decode prog_3_method_12_code 53 = .ok (.bipush 47, 2) := by decide +kernel
theorem d_cRd_readEscaped_55 : decode prog_3_method_12_code 55 = .ok (.if_icmp .eq 5, 3) := by decide +kernel
theorem d_cRd_readEscaped_58 : decode prog_3_method_12_code 58 = .ok (.iconst 0, 1) := by decide +kernel
theorem d_cRd_readEscaped_59 : decode prog_3_method_12_code 59 = .ok (.ireturn, 1) := by decide +kernel
set_option maxHeartbeats 4000000 in
set_option maxRecDepth 100000 in
theorem w_cRd_readEscaped_J23 {p : Program} {l : Launch} {e : Env} {s : State} {m : MethodId} {args : Array Value} {below : List Frame} {meth : Method} {c : Code} {A : Nat → Prop} {D : va_G} {ad : Nat → Nat → Nat} {cc : Nat → ClassId} {sad sav : Nat → Nat} {Q : State → Prop} (hC : MCc sad sav "JoinedTrees$JsonReader" prog_3_method_12_code 6 (some .boolean) p s m args meth c A D cc) {N : Nat → Nat} {x0 : Nat} {S : CS} {x1 : Int32} {t0 : Int32} {o : CS × Int32} (Heq : m_cRd_readEscaped_J23 N x0 S x1 t0 = some o) (Kr : ∀ r : CS × Int32, o = r → ∀ (pc : Nat) (H : Heap) (locs : List Loc) (ls : Array Slot), decode prog_3_method_12_code pc = .ok (.ireturn, 1) → (r.2 = 0 ∨ r.2 = 1) → va_P D cls (cw ad cc N r.1) H → va_D A (cw ad cc N r.1) → va_S A s.heap H locs → W p l e ({ frames := 1, cells := 0, slots := 0, locals := 21 }) s m args below meth c H locs 0 0 Q (F0 m pc ls [.int r.2])) : ∀ (H : Heap) (locs : List Loc) (ls : Array Slot), va_P D cls (cw ad cc N S) H → va_D A (cw ad cc N S) → va_S A s.heap H locs → lv_has ls 6 [(0, .ref (ad 1 x0)), (1, .int x1)] → W p l e ({ frames := 1, cells := 0, slots := 0, locals := 21 }) s m args below meth c H locs 0 0 Q (F0 m 23 ls [.int t0]) := by
  intro H locs ls hP hD hS hl
  obtain ⟨hx, hb, hr, hml, hown, hts, hK, hA, hev, hE, hN, hNS⟩ := id hC
  unfold m_cRd_readEscaped_J23 at Heq
  refine lv_istore_n (lv' := [(2, .int t0), (0, .ref (ad 1 x0)), (1, .int x1)]) hx hb d_cRd_readEscaped_23 rfl hl (by decide) rfl (fun ls hl => ?_)
  refine lv_iload_n hx hb d_cRd_readEscaped_24 rfl (lv_at hl 0 rfl) ?_
  refine lv_if_ne (tgt := 60) hx hb d_cRd_readEscaped_25 (by decide) (fun c_1 => ?_) (fun c_1 => ?_)
  · replace Heq := (if_neg c_1).symm.trans Heq
    exact w_cRd_readEscaped_J60 hC Heq Kr _ _ _ hP hD hS (lv_sub hl [1, 2, 0] rfl)
  · replace Heq := (if_pos c_1).symm.trans Heq
    refine lv_iload_n hx hb d_cRd_readEscaped_28 rfl (lv_at hl 2 rfl) ?_
    refine lv_bipush (v := 110) hx hb d_cRd_readEscaped_29 (by decide) ?_
    refine lv_icmp_eq (tgt := 60) hx hb d_cRd_readEscaped_31 (by decide) (fun c_2 => ?_) (fun c_2 => ?_)
    · replace Heq := (if_pos c_2).symm.trans Heq
      exact w_cRd_readEscaped_J60 hC Heq Kr _ _ _ hP hD hS (lv_sub hl [1, 2, 0] rfl)
    · replace Heq := (if_neg c_2).symm.trans Heq
      refine lv_iload_n hx hb d_cRd_readEscaped_34 rfl (lv_at hl 2 rfl) ?_
      refine lv_bipush (v := 116) hx hb d_cRd_readEscaped_35 (by decide) ?_
      refine lv_icmp_eq (tgt := 60) hx hb d_cRd_readEscaped_37 (by decide) (fun c_3 => ?_) (fun c_3 => ?_)
      · replace Heq := (if_pos c_3).symm.trans Heq
        exact w_cRd_readEscaped_J60 hC Heq Kr _ _ _ hP hD hS (lv_sub hl [1, 2, 0] rfl)
      · replace Heq := (if_neg c_3).symm.trans Heq
        refine lv_iload_n hx hb d_cRd_readEscaped_40 rfl (lv_at hl 2 rfl) ?_
        refine lv_bipush (v := 34) hx hb d_cRd_readEscaped_41 (by decide) ?_
        refine lv_icmp_eq (tgt := 60) hx hb d_cRd_readEscaped_43 (by decide) (fun c_4 => ?_) (fun c_4 => ?_)
        · replace Heq := (if_pos c_4).symm.trans Heq
          exact w_cRd_readEscaped_J60 hC Heq Kr _ _ _ hP hD hS (lv_sub hl [1, 2, 0] rfl)
        · replace Heq := (if_neg c_4).symm.trans Heq
          refine lv_iload_n hx hb d_cRd_readEscaped_46 rfl (lv_at hl 2 rfl) ?_
          refine lv_bipush (v := 92) hx hb d_cRd_readEscaped_47 (by decide) ?_
          refine lv_icmp_eq (tgt := 60) hx hb d_cRd_readEscaped_49 (by decide) (fun c_5 => ?_) (fun c_5 => ?_)
          · replace Heq := (if_pos c_5).symm.trans Heq
            exact w_cRd_readEscaped_J60 hC Heq Kr _ _ _ hP hD hS (lv_sub hl [1, 2, 0] rfl)
          · replace Heq := (if_neg c_5).symm.trans Heq
            refine lv_iload_n hx hb d_cRd_readEscaped_52 rfl (lv_at hl 2 rfl) ?_
            refine lv_bipush (v := 47) hx hb d_cRd_readEscaped_53 (by decide) ?_
            refine lv_icmp_eq (tgt := 60) hx hb d_cRd_readEscaped_55 (by decide) (fun c_6 => ?_) (fun c_6 => ?_)
            · replace Heq := (if_pos c_6).symm.trans Heq
              exact w_cRd_readEscaped_J60 hC Heq Kr _ _ _ hP hD hS (lv_sub hl [1, 2, 0] rfl)
            · replace Heq := (if_neg c_6).symm.trans Heq
              refine lv_iconst (v := 0) hx hb d_cRd_readEscaped_58 (by decide) ?_
              exact Kr _ (Option.some.inj Heq).symm 59 _ _ _ d_cRd_readEscaped_59 (Or.inl rfl) hP hD hS
def m_cRd_readEscaped_J0 (N : Nat → Nat) (x0 : Nat) (S : CS) : Option (CS × Int32) := gl x0 (N 1) (gn (S.r 1 2 x0) (N 5) (fun j_1 => ob (m_cRw_at N j_1 S (S.i 1 4 x0)) (fun o_4 => (if o_4.2 = 120 then m_cRd_readEscaped_J23 N x0 o_4.1 o_4.2 1 else m_cRd_readEscaped_J23 N x0 o_4.1 o_4.2 0))))
theorem d_cRd_readEscaped_18 : decode prog_3_method_12_code 18 = .ok (.iconst 1, 1) := by decide +kernel
theorem d_cRd_readEscaped_19 : decode prog_3_method_12_code 19 = .ok (.goto 4, 3) := by decide +kernel
set_option maxHeartbeats 4000000 in
set_option maxRecDepth 100000 in
theorem w_cRd_readEscaped_J0 {p : Program} {l : Launch} {e : Env} {s : State} {m : MethodId} {args : Array Value} {below : List Frame} {meth : Method} {c : Code} {A : Nat → Prop} {D : va_G} {ad : Nat → Nat → Nat} {cc : Nat → ClassId} {sad sav : Nat → Nat} {Q : State → Prop} (hC : MCc sad sav "JoinedTrees$JsonReader" prog_3_method_12_code 6 (some .boolean) p s m args meth c A D cc) {N : Nat → Nat} {x0 : Nat} {S : CS} {o : CS × Int32} (Heq : m_cRd_readEscaped_J0 N x0 S = some o) (Kr : ∀ r : CS × Int32, o = r → ∀ (pc : Nat) (H : Heap) (locs : List Loc) (ls : Array Slot), decode prog_3_method_12_code pc = .ok (.ireturn, 1) → (r.2 = 0 ∨ r.2 = 1) → va_P D cls (cw ad cc N r.1) H → va_D A (cw ad cc N r.1) → va_S A s.heap H locs → W p l e ({ frames := 1, cells := 0, slots := 0, locals := 21 }) s m args below meth c H locs 0 0 Q (F0 m pc ls [.int r.2])) : ∀ (H : Heap) (locs : List Loc) (ls : Array Slot), va_P D cls (cw ad cc N S) H → va_D A (cw ad cc N S) → va_S A s.heap H locs → lv_has ls 6 [(0, .ref (ad 1 x0))] → W p l e ({ frames := 1, cells := 0, slots := 0, locals := 21 }) s m args below meth c H locs 0 0 Q (F0 m 0 ls []) := by
  intro H locs ls hP hD hS hl
  obtain ⟨hx, hb, hr, hml, hown, hts, hK, hA, hev, hE, hN, hNS⟩ := id hC
  unfold m_cRd_readEscaped_J0 at Heq
  refine lv_aload_n hx hb d_cRd_readEscaped_0 rfl (lv_at hl 0 rfl) ?_
  obtain ⟨hl_x0_1, Heq⟩ := gl_some Heq
  refine va_get (D := D) (ci := 1) (v := rv ad 5 (S.r 1 2 x0)) (C := R_Rd) (T := F_Rd) (N := 10) hx hb hts i_Rd hown hK hP (cPos N 1 x0) (cw_obj (k := 1) (by decide) hl_x0_1) rfl 2 (by decide) (hts _ kw_346) (fun _ h9 => h9) rfl d_cRd_readEscaped_1 ?_
  refine lv_aload_n hx hb d_cRd_readEscaped_4 rfl (lv_at hl 0 rfl) ?_
  refine va_get (D := D) (ci := 1) (v := .int (S.i 1 4 x0)) (C := R_Rd) (T := F_Rd) (N := 10) hx hb hts i_Rd hown hK hP (cPos N 1 x0) (cw_obj (k := 1) (by decide) hl_x0_1) rfl 4 (by decide) (hts _ kw_349) (fun _ h9 => h9) rfl d_cRd_readEscaped_5 ?_
  obtain ⟨j_1, hj_2, hl_3, Heq⟩ := gn_some Heq
  refine w_s (st' := [.int (S.i 1 4 x0), .ref (ad 5 j_1)]) (congrArg (fun z9 : Option Nat => [.int (S.i 1 4 x0), rv ad 5 z9]) hj_2) ?_
  obtain ⟨o_4, h_5, Heq⟩ := ob_some Heq
  have hFc := fr_all hD hS hA
  refine va_calli (va_runV (As := [.int (S.i 1 4 x0)]) (rest := []) ⟨hx, hb, hml, hown, hts⟩ (g_cRw_at l D H.size (ad := ad) (cc := cc) (sad := sad) (sav := sav) h_5) (cw_v 1 hts kw_689 kw_871 kw_687 kw_688 kw_4 rfl rfl (by decide +kernel) ⟨Nat.le_of_ble_eq_true rfl, Nat.le_of_ble_eq_true rfl⟩) ⟨c_blind, va_recv hK hP (ci := 5) (q0 := cPos N 5 j_1) rfl (cw_obj (k := 5) (by decide) hl_3), fun U hU hW => c_pre hU hW hP hK hD hev hE hN hNS hS hFc⟩ rfl rfl hl.1 rfl (lv_room (Nat.le_of_ble_eq_true rfl)) d_cRd_readEscaped_8 ⟨Nat.le_of_ble_eq_true rfl, Nat.le_of_ble_eq_true rfl⟩) hS (fun q _ h => hFc q h) hFc (fun rz u t H1 locs ht hvm hw hB hz1 hk1 hS => ?_)
  obtain ⟨hP, -, hD1⟩ := hB
  rw [ht] at hP
  have hD := hD1.weaken (fun _ q _ h => hFc q.1 h)
  generalize H1 = H at hP hS ⊢
  refine W.cs (cells' := 0) (slots' := 0) rfl rfl ?_
  subst hw
  refine lv_istore_n (lv' := [(1, .int o_4.2), (0, .ref (ad 1 x0))]) hx hb d_cRd_readEscaped_11 rfl hl (by decide) rfl (fun ls hl => ?_)
  refine lv_iload_n hx hb d_cRd_readEscaped_12 rfl (lv_at hl 0 rfl) ?_
  refine lv_bipush (v := 120) hx hb d_cRd_readEscaped_13 (by decide) ?_
  refine lv_icmp_ne (tgt := 22) hx hb d_cRd_readEscaped_15 (by decide) (fun c_6 => ?_) (fun c_6 => ?_)
  · replace Heq := (if_neg c_6).symm.trans Heq
    refine lv_iconst (v := 0) hx hb d_cRd_readEscaped_22 (by decide) ?_
    exact w_cRd_readEscaped_J23 hC Heq Kr _ _ _ hP hD hS (lv_sub hl [1, 0] rfl)
  · replace Heq := (if_pos c_6).symm.trans Heq
    refine lv_iconst (v := 1) hx hb d_cRd_readEscaped_18 (by decide) ?_
    refine lv_goto (tgt := 23) hx hb d_cRd_readEscaped_19 (by decide) ?_
    exact w_cRd_readEscaped_J23 hC Heq Kr _ _ _ hP hD hS (lv_sub hl [1, 0] rfl)
def m_cRd_readEscaped (N : Nat → Nat) (x0 : Nat) (S : CS) : Option (CS × Int32) := m_cRd_readEscaped_J0 N x0 S
set_option maxHeartbeats 4000000 in
theorem g_cRd_readEscaped (l : Launch) (D : va_G) (sz : Nat) {ad : Nat → Nat → Nat} {cc : Nat → ClassId} {sad sav : Nat → Nat} {N : Nat → Nat} {x0 : Nat} {S : CS} {o : CS × Int32} (Heq : m_cRd_readEscaped N x0 S = some o) : Met l ⟨"JoinedTrees$JsonReader", "readEscaped", "()Z"⟩ (Cond.code ⟨"JoinedTrees$JsonReader", "readEscaped", "()Z"⟩ prog_3_method_12_code 6 (some .boolean) :: gb) ({ frames := 1, cells := 0, slots := 0, locals := 21 }) (cPc sad sav D (cw ad cc N S) (cty cc) sz [.ref (ad 1 x0)]) (va_Qi (fun (r : Int32) (_ : Unit) => r = o.2) (fun _ t => gO D (cw ad cc N o.1) (cty cc) (va_A (cw ad cc N S) sz) t) (va_A (cw ad cc N S) sz)) 0 0 (va_A (cw ad cc N S) sz) := by
  refine Met.ofW (cc := prog_3_method_12_code) (maxL := 6) (ret := (some .boolean)) (by decide) rfl ?_
  intro p e s m args below meth c s₁ B hml hv
  obtain ⟨rfl, hsz, hP, hK, hD0, hev, hE, hN⟩ := hv
  have hx := B.exec
  have hb := B.bytes
  have hr := B.returns
  have hts : ∀ w9 ∈ gb, w9.before [.ref (ad 1 x0)].toArray s = true := fun w9 h => atoms_spec (ws := Cond.code ⟨"JoinedTrees$JsonReader", "readEscaped", "()Z"⟩ prog_3_method_12_code 6 (some .boolean) :: gb) B.pre w9 (List.mem_cons_of_mem _ h)
  have hown : s.vm.findClass "JoinedTrees$JsonReader" = some m.cls := findClass_of_methodNamed B.named
  have hlocks := B.notSynchronized
  have hNS := ns_of hP
  subst hsz
  have hD := hD0.self (sz := s.heap.size)
  generalize hAe : va_A (cw ad cc N S) s.heap.size = A at hD hev hE hNS ⊢
  have hA : ∀ q : Nat, s.heap.size ≤ q → A q := fun q h => by rw [← hAe]; exact Or.inr h
  have hS : va_S A s.heap s.heap [] := va_S.rf
  obtain ⟨ls, hl, hle⟩ : ∃ ls : Array Slot, lv_has ls 6 [(0, .ref (ad 1 x0))] ∧ entryFrame m ([.ref (ad 1 x0)] : List Value).toArray 6 = F0 m 0 ls [] := by
    exact ⟨_, lv_entry (n := 6) _ (Nat.le_of_ble_eq_true rfl), lg_entry_eq ..⟩
  rw [hle]
  refine w_cRd_readEscaped_J0 ⟨hx, hb, hr, hml, hown, hts, hK, hA, hev, hE, hN, hNS⟩ Heq (fun r h pc H locs ls hd hz hP hD hS => ?_) _ _ _ hP hD hS (lv_sub hl [0] rfl)
  subst h
  exact W.zret (ty := .boolean) hx hb hr (by rcases hz with hz | hz <;> rw [hz] <;> rfl) (fun t ht hW => ⟨⟨_, (), rfl, rfl, by rw [ht]; exact hP, va_K.moved hW.alike hK, hD⟩, hS.F ht⟩) hS.2.2 hd
