def m_cVw_numberOf_J73 (N : Nat → Nat) (x0 : Nat) (S : CS) (x2 : Int64) : Option (CS × Int64) := some (S, x2)
theorem d_cVw_numberOf_0 : decode prog_12_method_10_code 0 = .ok (.aload_n 1, 1) := by decide +kernel
theorem d_cVw_numberOf_1 : decode prog_12_method_10_code 1 = .ok (.getfield 97, 3) := by decide +kernel
theorem d_cVw_numberOf_4 : decode prog_12_method_10_code 4 = .ok (.lstore_n 2, 1) := by decide +kernel
theorem d_cVw_numberOf_5 : decode prog_12_method_10_code 5 = .ok (.aload_n 1, 1) := by decide +kernel
theorem d_cVw_numberOf_6 : decode prog_12_method_10_code 6 = .ok (.getfield 77, 3) := by decide +kernel
theorem d_cVw_numberOf_9 : decode prog_12_method_10_code 9 = .ok (.iconst 5, 1) := by decide +kernel
theorem d_cVw_numberOf_10 : decode prog_12_method_10_code 10 = .ok (.if_icmp .ne 63, 3) := by decide +kernel
theorem d_cVw_numberOf_73 : decode prog_12_method_10_code 73 = .ok (.lload_n 2, 1) := by decide +kernel
theorem d_cVw_numberOf_74 : decode prog_12_method_10_code 74 = .ok (.lreturn, 1) := by decide +kernel
set_option maxHeartbeats 4000000 in
set_option maxRecDepth 100000 in
theorem w_cVw_numberOf_J73 {p : Program} {l : Launch} {e : Env} {s : State} {m : MethodId} {args : Array Value} {below : List Frame} {meth : Method} {c : Code} {A : Nat → Prop} {D : va_G} {ad : Nat → Nat → Nat} {cc : Nat → ClassId} {sad sav : Nat → Nat} {Q : State → Prop} (hC : MCc sad sav "JoinedTrees$View" prog_12_method_10_code 5 (some .long) p s m args meth c A D cc) {N : Nat → Nat} {x0 : Nat} {S : CS} {x2 : Int64} {o : CS × Int64} (Heq : m_cVw_numberOf_J73 N x0 S x2 = some o) (Kr : ∀ r : CS × Int64, o = r → ∀ (pc : Nat) (H : Heap) (locs : List Loc) (ls : Array Slot), decode prog_12_method_10_code pc = .ok (.lreturn, 1) → va_P D cls (cw ad cc N r.1) H → va_D A (cw ad cc N r.1) → va_S A s.heap H locs → W p l e ({ frames := 1, cells := 0, slots := 0, locals := 22 }) s m args below meth c H locs 0 0 Q (F0 m pc ls [.long r.2])) : ∀ (H : Heap) (locs : List Loc) (ls : Array Slot), va_P D cls (cw ad cc N S) H → va_D A (cw ad cc N S) → va_S A s.heap H locs → lv_has ls 5 [(0, .ref (ad 10 x0)), (2, .long x2)] → W p l e ({ frames := 1, cells := 0, slots := 0, locals := 22 }) s m args below meth c H locs 0 0 Q (F0 m 73 ls []) := by
  intro H locs ls hP hD hS hl
  obtain ⟨hx, hb, hr, hml, hown, hts, hK, hA, hev, hE, hN, hNS⟩ := id hC
  unfold m_cVw_numberOf_J73 at Heq
  refine lv_lload_n hx hb d_cVw_numberOf_73 rfl (lv_at hl 1 rfl) ?_
  exact Kr _ (Option.some.inj Heq).symm 74 _ _ _ d_cVw_numberOf_74 hP hD hS
def m_cVw_numberOf_J63 (N : Nat → Nat) (x0 : Nat) (S : CS) (x1 : Option Nat) (x2 : Int64) (x4 : Option Nat) : Option ((CS × Option Nat × Int64 × Option Nat) ⊕ (CS × Int64)) := gn x4 (N 3) (fun j_1 => some (.inl (S, x1, x2, (S.r 3 12 j_1))))
theorem d_cVw_numberOf_13 : decode prog_12_method_10_code 13 = .ok (.aload_n 1, 1) := by decide +kernel
theorem d_cVw_numberOf_14 : decode prog_12_method_10_code 14 = .ok (.getfield 101, 3) := by decide +kernel
theorem d_cVw_numberOf_17 : decode prog_12_method_10_code 17 = .ok (.getfield 72, 3) := by decide +kernel
theorem d_cVw_numberOf_20 : decode prog_12_method_10_code 20 = .ok (.astore 4, 2) := by decide +kernel
theorem d_cVw_numberOf_22 : decode prog_12_method_10_code 22 = .ok (.aload 4, 2) := by decide +kernel
theorem d_cVw_numberOf_24 : decode prog_12_method_10_code 24 = .ok (.ifnull 49, 3) := by decide +kernel
theorem d_cVw_numberOf_27 : decode prog_12_method_10_code 27 = .ok (.aload 4, 2) := by decide +kernel
theorem d_cVw_numberOf_29 : decode prog_12_method_10_code 29 = .ok (.getfield 77, 3) := by decide +kernel
theorem d_cVw_numberOf_32 : decode prog_12_method_10_code 32 = .ok (.bipush 10, 2) := by decide +kernel
theorem d_cVw_numberOf_34 : decode prog_12_method_10_code 34 = .ok (.if_icmp .ne 29, 3) := by decide +kernel
theorem d_cVw_numberOf_63 : decode prog_12_method_10_code 63 = .ok (.aload 4, 2) := by decide +kernel
theorem d_cVw_numberOf_65 : decode prog_12_method_10_code 65 = .ok (.getfield 87, 3) := by decide +kernel
theorem d_cVw_numberOf_68 : decode prog_12_method_10_code 68 = .ok (.astore 4, 2) := by decide +kernel
theorem d_cVw_numberOf_70 : decode prog_12_method_10_code 70 = .ok (.goto (-48), 3) := by decide +kernel
set_option maxHeartbeats 4000000 in
set_option maxRecDepth 100000 in
theorem w_cVw_numberOf_J63 {p : Program} {l : Launch} {e : Env} {s : State} {m : MethodId} {args : Array Value} {below : List Frame} {meth : Method} {c : Code} {A : Nat → Prop} {D : va_G} {ad : Nat → Nat → Nat} {cc : Nat → ClassId} {sad sav : Nat → Nat} {Q : State → Prop} (hC : MCc sad sav "JoinedTrees$View" prog_12_method_10_code 5 (some .long) p s m args meth c A D cc) {N : Nat → Nat} {x0 : Nat} {S : CS} {x1 : Option Nat} {x2 : Int64} {x4 : Option Nat} {o : ((CS × Option Nat × Int64 × Option Nat) ⊕ (CS × Int64))} (Heq : m_cVw_numberOf_J63 N x0 S x1 x2 x4 = some o) (Ka : ∀ b : CS × Option Nat × Int64 × Option Nat, o = .inl b → ∀ (H : Heap) (locs : List Loc) (ls : Array Slot), va_P D cls (cw ad cc N b.1) H → va_D A (cw ad cc N b.1) → va_S A s.heap H locs → lv_has ls 5 [(0, .ref (ad 10 x0)), (1, rv ad 3 b.2.1), (2, .long b.2.2.1), (4, rv ad 3 b.2.2.2)] → W p l e ({ frames := 1, cells := 0, slots := 0, locals := 22 }) s m args below meth c H locs 0 0 Q (F0 m 22 ls [])) (K0 : ∀ b : CS × Int64, o = .inr b → ∀ (H : Heap) (locs : List Loc) (ls : Array Slot), va_P D cls (cw ad cc N b.1) H → va_D A (cw ad cc N b.1) → va_S A s.heap H locs → lv_has ls 5 [(0, .ref (ad 10 x0)), (2, .long b.2)] → W p l e ({ frames := 1, cells := 0, slots := 0, locals := 22 }) s m args below meth c H locs 0 0 Q (F0 m 73 ls [])) : ∀ (H : Heap) (locs : List Loc) (ls : Array Slot), va_P D cls (cw ad cc N S) H → va_D A (cw ad cc N S) → va_S A s.heap H locs → lv_has ls 5 [(0, .ref (ad 10 x0)), (1, rv ad 3 x1), (2, .long x2), (4, rv ad 3 x4)] → W p l e ({ frames := 1, cells := 0, slots := 0, locals := 22 }) s m args below meth c H locs 0 0 Q (F0 m 63 ls []) := by
  intro H locs ls hP hD hS hl
  obtain ⟨hx, hb, hr, hml, hown, hts, hK, hA, hev, hE, hN, hNS⟩ := id hC
  unfold m_cVw_numberOf_J63 at Heq
  refine tx_aload (x := x4.map (ad 3)) hx hb d_cVw_numberOf_63 (lv_at hl 3 rfl) ?_
  refine w_v (y := rv ad 3 x4) rfl ?_
  obtain ⟨j_1, hj_2, hl_3, Heq⟩ := gn_some Heq
  refine w_s (st' := [.ref (ad 3 j_1)]) (congrArg (fun z9 : Option Nat => [rv ad 3 z9]) hj_2) ?_
  refine va_get (D := D) (ci := 3) (v := rv ad 3 (S.r 3 12 j_1)) (C := R_Op) (T := F_Op) (N := 15) hx hb hts i_Op hown hK hP (cPos N 3 j_1) (cw_obj (k := 3) (by decide) hl_3) rfl 12 (by decide) (hts _ kw_97) (fun _ h9 => h9) rfl d_cVw_numberOf_65 ?_
  refine tx_astore (x := (S.r 3 12 j_1).map (ad 3)) (lv' := [(4, rv ad 3 (S.r 3 12 j_1)), (0, .ref (ad 10 x0)), (1, rv ad 3 x1), (2, .long x2)]) hx hb d_cVw_numberOf_68 hl (by decide) rfl (fun ls hl => ?_)
  refine lv_goto (tgt := 22) hx hb d_cVw_numberOf_70 (by decide) ?_
  exact Ka _ (Option.some.inj Heq).symm _ _ _ hP hD hS (lv_sub hl [1, 2, 3, 0] rfl)
def m_cVw_numberOf_B22 (N : Nat → Nat) (x0 : Nat) (S : CS) (x1 : Option Nat) (x2 : Int64) (x4 : Option Nat) : Option ((CS × Option Nat × Int64 × Option Nat) ⊕ (CS × Int64)) := on x4 (some (.inr (S, x2))) (fun j_1 => gl j_1 (N 3) ((if S.i 3 2 j_1 = 10 then gl x0 (N 10) (ob (m_cVw_shows N x0 S j_1) (fun o_4 => (if o_4.2 = 0 then m_cVw_numberOf_J63 N x0 o_4.1 x1 x2 x4 else gn x1 (N 3) (fun j_7 => ob (m_cOp_hasPred N j_1 o_4.1 j_7) (fun o_10 => (if o_10.2 = 0 then m_cVw_numberOf_J63 N x0 o_10.1 x1 x2 x4 else m_cVw_numberOf_J63 N x0 o_10.1 x1 (x2 + (o_10.1.l 3 3 j_1)) x4)))))) else m_cVw_numberOf_J63 N x0 S x1 x2 x4)))
theorem d_cVw_numberOf_37 : decode prog_12_method_10_code 37 = .ok (.aload_n 0, 1) := by decide +kernel
theorem d_cVw_numberOf_38 : decode prog_12_method_10_code 38 = .ok (.aload 4, 2) := by decide +kernel
theorem d_cVw_numberOf_40 : decode prog_12_method_10_code 40 = .ok (.invokevirtual 62, 3) := by decide +kernel
theorem d_cVw_numberOf_43 : decode prog_12_method_10_code 43 = .ok (.ifCond .eq 20, 3) := by decide +kernel
theorem d_cVw_numberOf_46 : decode prog_12_method_10_code 46 = .ok (.aload 4, 2) := by decide +kernel
theorem d_cVw_numberOf_48 : decode prog_12_method_10_code 48 = .ok (.aload_n 1, 1) := by decide +kernel
theorem d_cVw_numberOf_49 : decode prog_12_method_10_code 49 = .ok (.invokevirtual 105, 3) := by decide +kernel
theorem d_cVw_numberOf_52 : decode prog_12_method_10_code 52 = .ok (.ifCond .eq 11, 3) := by decide +kernel
theorem d_cVw_numberOf_55 : decode prog_12_method_10_code 55 = .ok (.lload_n 2, 1) := by decide +kernel
theorem d_cVw_numberOf_56 : decode prog_12_method_10_code 56 = .ok (.aload 4, 2) := by decide +kernel
theorem d_cVw_numberOf_58 : decode prog_12_method_10_code 58 = .ok (.getfield 97, 3) := by decide +kernel
theorem d_cVw_numberOf_61 : decode prog_12_method_10_code 61 = .ok (.ladd, 1) := by decide +kernel
theorem d_cVw_numberOf_62 : decode prog_12_method_10_code 62 = .ok (.lstore_n 2, 1) := by decide +kernel
set_option maxHeartbeats 4000000 in
set_option maxRecDepth 100000 in
theorem w_cVw_numberOf_B22 {p : Program} {l : Launch} {e : Env} {s : State} {m : MethodId} {args : Array Value} {below : List Frame} {meth : Method} {c : Code} {A : Nat → Prop} {D : va_G} {ad : Nat → Nat → Nat} {cc : Nat → ClassId} {sad sav : Nat → Nat} {Q : State → Prop} (hC : MCc sad sav "JoinedTrees$View" prog_12_method_10_code 5 (some .long) p s m args meth c A D cc) {N : Nat → Nat} {x0 : Nat} {S : CS} {x1 : Option Nat} {x2 : Int64} {x4 : Option Nat} {o : ((CS × Option Nat × Int64 × Option Nat) ⊕ (CS × Int64))} (Heq : m_cVw_numberOf_B22 N x0 S x1 x2 x4 = some o) (Ka : ∀ b : CS × Option Nat × Int64 × Option Nat, o = .inl b → ∀ (H : Heap) (locs : List Loc) (ls : Array Slot), va_P D cls (cw ad cc N b.1) H → va_D A (cw ad cc N b.1) → va_S A s.heap H locs → lv_has ls 5 [(0, .ref (ad 10 x0)), (1, rv ad 3 b.2.1), (2, .long b.2.2.1), (4, rv ad 3 b.2.2.2)] → W p l e ({ frames := 1, cells := 0, slots := 0, locals := 22 }) s m args below meth c H locs 0 0 Q (F0 m 22 ls [])) (K0 : ∀ b : CS × Int64, o = .inr b → ∀ (H : Heap) (locs : List Loc) (ls : Array Slot), va_P D cls (cw ad cc N b.1) H → va_D A (cw ad cc N b.1) → va_S A s.heap H locs → lv_has ls 5 [(0, .ref (ad 10 x0)), (2, .long b.2)] → W p l e ({ frames := 1, cells := 0, slots := 0, locals := 22 }) s m args below meth c H locs 0 0 Q (F0 m 73 ls [])) : ∀ (H : Heap) (locs : List Loc) (ls : Array Slot), va_P D cls (cw ad cc N S) H → va_D A (cw ad cc N S) → va_S A s.heap H locs → lv_has ls 5 [(0, .ref (ad 10 x0)), (1, rv ad 3 x1), (2, .long x2), (4, rv ad 3 x4)] → W p l e ({ frames := 1, cells := 0, slots := 0, locals := 22 }) s m args below meth c H locs 0 0 Q (F0 m 22 ls []) := by
  intro H locs ls hP hD hS hl
  obtain ⟨hx, hb, hr, hml, hown, hts, hK, hA, hev, hE, hN, hNS⟩ := id hC
  unfold m_cVw_numberOf_B22 at Heq
  refine tx_aload (x := x4.map (ad 3)) hx hb d_cVw_numberOf_22 (lv_at hl 3 rfl) ?_
  refine w_v (y := rv ad 3 x4) rfl ?_
  rcases on_some Heq with ⟨hj_2, Heq⟩ | ⟨j_1, hj_2, Heq⟩
  · refine w_s (st' := [.null]) (congrArg (fun z9 : Option Nat => [rv ad 3 z9]) hj_2) ?_
    refine lv_ifnullN (tgt := 73) hx hb d_cVw_numberOf_24 (by decide) ?_
    exact K0 _ (Option.some.inj Heq).symm _ _ _ hP hD hS (lv_sub hl [0, 2] rfl)
  · refine w_s (st' := [.ref (ad 3 j_1)]) (congrArg (fun z9 : Option Nat => [rv ad 3 z9]) hj_2) ?_
    refine lv_ifnull hx hb d_cVw_numberOf_24 ?_
    refine tx_aload (x := x4.map (ad 3)) hx hb d_cVw_numberOf_27 (lv_at hl 3 rfl) ?_
    refine w_v (y := rv ad 3 x4) rfl ?_
    refine w_s (st' := [.ref (ad 3 j_1)]) (congrArg (fun z9 : Option Nat => [rv ad 3 z9]) hj_2) ?_
    obtain ⟨hl_j_1_3, Heq⟩ := gl_some Heq
    refine va_get (D := D) (ci := 3) (v := .int (S.i 3 2 j_1)) (C := R_Op) (T := F_Op) (N := 15) hx hb hts i_Op hown hK hP (cPos N 3 j_1) (cw_obj (k := 3) (by decide) hl_j_1_3) rfl 2 (by decide) (hts _ kw_61) (fun _ h9 => h9) rfl d_cVw_numberOf_29 ?_
    refine lv_bipush (v := 10) hx hb d_cVw_numberOf_32 (by decide) ?_
    refine lv_icmp_ne (tgt := 63) hx hb d_cVw_numberOf_34 (by decide) (fun c_3 => ?_) (fun c_3 => ?_)
    · replace Heq := (if_neg c_3).symm.trans Heq
      exact w_cVw_numberOf_J63 hC Heq Ka K0 _ _ _ hP hD hS (lv_sub hl [0, 1, 2, 3] rfl)
    · replace Heq := (if_pos c_3).symm.trans Heq
      refine lv_aload_n hx hb d_cVw_numberOf_37 rfl (lv_at hl 0 rfl) ?_
      refine tx_aload (x := x4.map (ad 3)) hx hb d_cVw_numberOf_38 (lv_at hl 3 rfl) ?_
      refine w_v (y := rv ad 3 x4) rfl ?_
      refine w_s (st' := [.ref (ad 3 j_1), .ref (ad 10 x0)]) (congrArg (fun z9 : Option Nat => [rv ad 3 z9, .ref (ad 10 x0)]) hj_2) ?_
      obtain ⟨hl_x0_10, Heq⟩ := gl_some Heq
      obtain ⟨o_4, h_5, Heq⟩ := ob_some Heq
      have hFc := fr_all hD hS hA
      refine va_calli (va_runV (As := [.ref (ad 3 j_1)]) (rest := []) ⟨hx, hb, hml, hown, hts⟩ (g_cVw_shows l D H.size (ad := ad) (cc := cc) (sad := sad) (sav := sav) h_5) (cw_v 1 hts kw_624 kw_621 kw_622 kw_623 kw_6 rfl rfl (by decide +kernel) ⟨Nat.le_of_ble_eq_true rfl, Nat.le_of_ble_eq_true rfl⟩) ⟨c_blind, va_recv hK hP (ci := 10) (q0 := cPos N 10 x0) rfl (cw_obj (k := 10) (by decide) hl_x0_10), fun U hU hW => c_pre hU hW hP hK hD hev hE hN hNS hS hFc⟩ rfl rfl hl.1 rfl (lv_room (Nat.le_of_ble_eq_true rfl)) d_cVw_numberOf_40 ⟨Nat.le_of_ble_eq_true rfl, Nat.le_of_ble_eq_true rfl⟩) hS (fun q _ h => hFc q h) hFc (fun rz u t H1 locs ht hvm hw hB hz1 hk1 hS => ?_)
      obtain ⟨hP, -, hD1⟩ := hB
      rw [ht] at hP
      have hD := hD1.weaken (fun _ q _ h => hFc q.1 h)
      generalize H1 = H at hP hS ⊢
      refine W.cs (cells' := 0) (slots' := 0) rfl rfl ?_
      subst hw
      refine lv_if_eq (tgt := 63) hx hb d_cVw_numberOf_43 (by decide) (fun c_6 => ?_) (fun c_6 => ?_)
      · replace Heq := (if_pos c_6).symm.trans Heq
        exact w_cVw_numberOf_J63 hC Heq Ka K0 _ _ _ hP hD hS (lv_sub hl [0, 1, 2, 3] rfl)
      · replace Heq := (if_neg c_6).symm.trans Heq
        refine tx_aload (x := x4.map (ad 3)) hx hb d_cVw_numberOf_46 (lv_at hl 3 rfl) ?_
        refine w_v (y := rv ad 3 x4) rfl ?_
        refine tx_aload_n (x := x1.map (ad 3)) hx hb d_cVw_numberOf_48 rfl (lv_at hl 1 rfl) ?_
        refine w_v (y := rv ad 3 x1) rfl ?_
        obtain ⟨j_7, hj_8, hl_9, Heq⟩ := gn_some Heq
        refine w_s (st' := [.ref (ad 3 j_7), rv ad 3 x4]) (congrArg (fun z9 : Option Nat => [rv ad 3 z9, rv ad 3 x4]) hj_8) ?_
        refine w_s (st' := [.ref (ad 3 j_7), .ref (ad 3 j_1)]) (congrArg (fun z9 : Option Nat => [.ref (ad 3 j_7), rv ad 3 z9]) hj_2) ?_
        obtain ⟨o_10, h_11, Heq⟩ := ob_some Heq
        have hFc := fr_all hD hS hA
        refine va_calli (va_runV (As := [.ref (ad 3 j_7)]) (rest := []) ⟨hx, hb, hml, hown, hts⟩ (g_cOp_hasPred l D H.size (ad := ad) (cc := cc) (sad := sad) (sav := sav) h_11) (cw_v 1 hts kw_1151 kw_1148 kw_1149 kw_1150 kw_3 rfl rfl (by decide +kernel) ⟨Nat.le_of_ble_eq_true rfl, Nat.le_of_ble_eq_true rfl⟩) ⟨c_blind, va_recv hK hP (ci := 3) (q0 := cPos N 3 j_1) rfl (cw_obj (k := 3) (by decide) hl_j_1_3), fun U hU hW => c_pre hU hW hP hK hD hev hE hN hNS hS hFc⟩ rfl rfl hl.1 rfl (lv_room (Nat.le_of_ble_eq_true rfl)) d_cVw_numberOf_49 ⟨Nat.le_of_ble_eq_true rfl, Nat.le_of_ble_eq_true rfl⟩) hS (fun q _ h => hFc q h) hFc (fun rz u t H1 locs ht hvm hw hB hz1 hk1 hS => ?_)
        obtain ⟨hP, -, hD1⟩ := hB
        rw [ht] at hP
        have hD := hD1.weaken (fun _ q _ h => hFc q.1 h)
        generalize H1 = H at hP hS ⊢
        refine W.cs (cells' := 0) (slots' := 0) rfl rfl ?_
        subst hw
        refine lv_if_eq (tgt := 63) hx hb d_cVw_numberOf_52 (by decide) (fun c_12 => ?_) (fun c_12 => ?_)
        · replace Heq := (if_pos c_12).symm.trans Heq
          exact w_cVw_numberOf_J63 hC Heq Ka K0 _ _ _ hP hD hS (lv_sub hl [0, 1, 2, 3] rfl)
        · replace Heq := (if_neg c_12).symm.trans Heq
          refine lv_lload_n hx hb d_cVw_numberOf_55 rfl (lv_at hl 2 rfl) ?_
          refine tx_aload (x := x4.map (ad 3)) hx hb d_cVw_numberOf_56 (lv_at hl 3 rfl) ?_
          refine w_v (y := rv ad 3 x4) rfl ?_
          refine w_s (st' := [.ref (ad 3 j_1), .long x2]) (congrArg (fun z9 : Option Nat => [rv ad 3 z9, .long x2]) hj_2) ?_
          refine va_get (D := D) (ci := 3) (v := .long (o_10.1.l 3 3 j_1)) (C := R_Op) (T := F_Op) (N := 15) hx hb hts i_Op hown hK hP (cPos N 3 j_1) (cw_obj (k := 3) (by decide) hl_j_1_3) rfl 3 (by decide) (hts _ kw_66) (fun _ h9 => h9) rfl d_cVw_numberOf_58 ?_
          refine lv_ladd hx hb d_cVw_numberOf_61 ?_
          refine w_l (y := x2 + (o_10.1.l 3 3 j_1)) rfl ?_
          refine lv_lstore_n (i := 2) (lv' := [(2, .long (x2 + (o_10.1.l 3 3 j_1))), (0, .ref (ad 10 x0)), (1, rv ad 3 x1), (4, rv ad 3 x4)]) hx hb d_cVw_numberOf_62 rfl hl (by decide) (by simp [rv, rf_cat]) (fun ls hl => ?_)
          exact w_cVw_numberOf_J63 hC Heq Ka K0 _ _ _ hP hD hS (lv_sub hl [1, 2, 0, 3] rfl)
def m_cVw_numberOf_L22 (N : Nat → Nat) (x0 : Nat) (S : CS) (x1 : Option Nat) (x2 : Int64) (x4 : Option Nat) : Option (CS × Int64) := lp (fun a : CS × Option Nat × Int64 × Option Nat => m_cVw_numberOf_B22 N x0 a.1 a.2.1 a.2.2.1 a.2.2.2) FU (S, x1, x2, x4)
theorem w_cVw_numberOf_L22 {p : Program} {l : Launch} {e : Env} {s : State} {m : MethodId} {args : Array Value} {below : List Frame} {meth : Method} {c : Code} {A : Nat → Prop} {D : va_G} {ad : Nat → Nat → Nat} {cc : Nat → ClassId} {sad sav : Nat → Nat} {Q : State → Prop} (hC : MCc sad sav "JoinedTrees$View" prog_12_method_10_code 5 (some .long) p s m args meth c A D cc) {N : Nat → Nat} {x0 : Nat} {S : CS} {x1 : Option Nat} {x2 : Int64} {x4 : Option Nat} {o : CS × Int64} (Heq : m_cVw_numberOf_L22 N x0 S x1 x2 x4 = some o) (K0 : ∀ b : CS × Int64, o = b → ∀ (H : Heap) (locs : List Loc) (ls : Array Slot), va_P D cls (cw ad cc N b.1) H → va_D A (cw ad cc N b.1) → va_S A s.heap H locs → lv_has ls 5 [(0, .ref (ad 10 x0)), (2, .long b.2)] → W p l e ({ frames := 1, cells := 0, slots := 0, locals := 22 }) s m args below meth c H locs 0 0 Q (F0 m 73 ls [])) : ∀ (H : Heap) (locs : List Loc) (ls : Array Slot), va_P D cls (cw ad cc N S) H → va_D A (cw ad cc N S) → va_S A s.heap H locs → lv_has ls 5 [(0, .ref (ad 10 x0)), (1, rv ad 3 x1), (2, .long x2), (4, rv ad 3 x4)] → W p l e ({ frames := 1, cells := 0, slots := 0, locals := 22 }) s m args below meth c H locs 0 0 Q (F0 m 22 ls []) := by
  refine lp_w (G := fun a : CS × Option Nat × Int64 × Option Nat => ∀ (H : Heap) (locs : List Loc) (ls : Array Slot), va_P D cls (cw ad cc N a.1) H → va_D A (cw ad cc N a.1) → va_S A s.heap H locs → lv_has ls 5 [(0, .ref (ad 10 x0)), (1, rv ad 3 a.2.1), (2, .long a.2.2.1), (4, rv ad 3 a.2.2.2)] → W p l e ({ frames := 1, cells := 0, slots := 0, locals := 22 }) s m args below meth c H locs 0 0 Q (F0 m 22 ls [])) ?_ FU (S, x1, x2, x4) Heq
  intro a o1 ho Ka Ke
  exact w_cVw_numberOf_B22 hC ho (fun b h => Ka b h) (fun b h => K0 b (Ke _ h).symm)
def m_cVw_numberOf_J0 (N : Nat → Nat) (x0 : Nat) (S : CS) (x1 : Nat) : Option (CS × Int64) := gl x1 (N 3) ((if S.i 3 2 x1 = 5 then gn (S.r 3 11 x1) (N 7) (fun j_2 => ob (m_cVw_numberOf_L22 N x0 S (some x1) (S.l 3 3 x1) (S.r 7 1 j_2)) (fun b_5 => m_cVw_numberOf_J73 N x0 b_5.1 b_5.2)) else m_cVw_numberOf_J73 N x0 S (S.l 3 3 x1)))
set_option maxHeartbeats 4000000 in
set_option maxRecDepth 100000 in
theorem w_cVw_numberOf_J0 {p : Program} {l : Launch} {e : Env} {s : State} {m : MethodId} {args : Array Value} {below : List Frame} {meth : Method} {c : Code} {A : Nat → Prop} {D : va_G} {ad : Nat → Nat → Nat} {cc : Nat → ClassId} {sad sav : Nat → Nat} {Q : State → Prop} (hC : MCc sad sav "JoinedTrees$View" prog_12_method_10_code 5 (some .long) p s m args meth c A D cc) {N : Nat → Nat} {x0 : Nat} {S : CS} {x1 : Nat} {o : CS × Int64} (Heq : m_cVw_numberOf_J0 N x0 S x1 = some o) (Kr : ∀ r : CS × Int64, o = r → ∀ (pc : Nat) (H : Heap) (locs : List Loc) (ls : Array Slot), decode prog_12_method_10_code pc = .ok (.lreturn, 1) → va_P D cls (cw ad cc N r.1) H → va_D A (cw ad cc N r.1) → va_S A s.heap H locs → W p l e ({ frames := 1, cells := 0, slots := 0, locals := 22 }) s m args below meth c H locs 0 0 Q (F0 m pc ls [.long r.2])) : ∀ (H : Heap) (locs : List Loc) (ls : Array Slot), va_P D cls (cw ad cc N S) H → va_D A (cw ad cc N S) → va_S A s.heap H locs → lv_has ls 5 [(0, .ref (ad 10 x0)), (1, .ref (ad 3 x1))] → W p l e ({ frames := 1, cells := 0, slots := 0, locals := 22 }) s m args below meth c H locs 0 0 Q (F0 m 0 ls []) := by
  intro H locs ls hP hD hS hl
  obtain ⟨hx, hb, hr, hml, hown, hts, hK, hA, hev, hE, hN, hNS⟩ := id hC
  unfold m_cVw_numberOf_J0 at Heq
  refine lv_aload_n hx hb d_cVw_numberOf_0 rfl (lv_at hl 1 rfl) ?_
  obtain ⟨hl_x1_3, Heq⟩ := gl_some Heq
  refine va_get (D := D) (ci := 3) (v := .long (S.l 3 3 x1)) (C := R_Op) (T := F_Op) (N := 15) hx hb hts i_Op hown hK hP (cPos N 3 x1) (cw_obj (k := 3) (by decide) hl_x1_3) rfl 3 (by decide) (hts _ kw_66) (fun _ h9 => h9) rfl d_cVw_numberOf_1 ?_
  refine lv_lstore_n (lv' := [(2, .long (S.l 3 3 x1)), (0, .ref (ad 10 x0)), (1, .ref (ad 3 x1))]) hx hb d_cVw_numberOf_4 rfl hl (by decide) rfl (fun ls hl => ?_)
  refine lv_aload_n hx hb d_cVw_numberOf_5 rfl (lv_at hl 2 rfl) ?_
  refine va_get (D := D) (ci := 3) (v := .int (S.i 3 2 x1)) (C := R_Op) (T := F_Op) (N := 15) hx hb hts i_Op hown hK hP (cPos N 3 x1) (cw_obj (k := 3) (by decide) hl_x1_3) rfl 2 (by decide) (hts _ kw_61) (fun _ h9 => h9) rfl d_cVw_numberOf_6 ?_
  refine lv_iconst (v := 5) hx hb d_cVw_numberOf_9 (by decide) ?_
  refine lv_icmp_ne (tgt := 73) hx hb d_cVw_numberOf_10 (by decide) (fun c_1 => ?_) (fun c_1 => ?_)
  · replace Heq := (if_neg c_1).symm.trans Heq
    exact w_cVw_numberOf_J73 hC Heq Kr _ _ _ hP hD hS (lv_sub hl [1, 0] rfl)
  · replace Heq := (if_pos c_1).symm.trans Heq
    refine lv_aload_n hx hb d_cVw_numberOf_13 rfl (lv_at hl 2 rfl) ?_
    refine va_get (D := D) (ci := 3) (v := rv ad 7 (S.r 3 11 x1)) (C := R_Op) (T := F_Op) (N := 15) hx hb hts i_Op hown hK hP (cPos N 3 x1) (cw_obj (k := 3) (by decide) hl_x1_3) rfl 11 (by decide) (hts _ kw_94) (fun _ h9 => h9) rfl d_cVw_numberOf_14 ?_
    obtain ⟨j_2, hj_3, hl_4, Heq⟩ := gn_some Heq
    refine w_s (st' := [.ref (ad 7 j_2)]) (congrArg (fun z9 : Option Nat => [rv ad 7 z9]) hj_3) ?_
    refine va_get (D := D) (ci := 7) (v := rv ad 3 (S.r 7 1 j_2)) (C := R_Sp) (T := F_Sp) (N := 3) hx hb hts i_Sp hown hK hP (cPos N 7 j_2) (cw_obj (k := 7) (by decide) hl_4) rfl 1 (by decide) (hts _ kw_745) (fun _ h9 => h9) rfl d_cVw_numberOf_17 ?_
    refine tx_astore (x := (S.r 7 1 j_2).map (ad 3)) (lv' := [(4, rv ad 3 (S.r 7 1 j_2)), (2, .long (S.l 3 3 x1)), (0, .ref (ad 10 x0)), (1, .ref (ad 3 x1))]) hx hb d_cVw_numberOf_20 hl (by decide) rfl (fun ls hl => ?_)
    obtain ⟨b_5, h_6, Heq⟩ := ob_some Heq
    refine w_cVw_numberOf_L22 hC h_6 (fun b h => ?_) _ _ _ hP hD hS (lv_sub hl [2, 3, 1, 0] rfl)
    subst h
    intro H locs ls hP hD hS hl
    exact w_cVw_numberOf_J73 hC Heq Kr _ _ _ hP hD hS (lv_sub hl [0, 1] rfl)
def m_cVw_numberOf (N : Nat → Nat) (x0 : Nat) (S : CS) (x1 : Nat) : Option (CS × Int64) := m_cVw_numberOf_J0 N x0 S x1
set_option maxHeartbeats 4000000 in
theorem g_cVw_numberOf (l : Launch) (D : va_G) (sz : Nat) {ad : Nat → Nat → Nat} {cc : Nat → ClassId} {sad sav : Nat → Nat} {N : Nat → Nat} {x0 : Nat} {S : CS} {x1 : Nat} {o : CS × Int64} (Heq : m_cVw_numberOf N x0 S x1 = some o) : Met l ⟨"JoinedTrees$View", "numberOf", "(LJoinedTrees$Op;)J"⟩ (Cond.code ⟨"JoinedTrees$View", "numberOf", "(LJoinedTrees$Op;)J"⟩ prog_12_method_10_code 5 (some .long) :: gb) ({ frames := 1, cells := 0, slots := 0, locals := 22 }) (cPc sad sav D (cw ad cc N S) (cty cc) sz [.ref (ad 10 x0), .ref (ad 3 x1)]) (va_Ql (fun (r : Int64) (_ : Unit) => r = o.2) (fun _ t => gO D (cw ad cc N o.1) (cty cc) (va_A (cw ad cc N S) sz) t) (va_A (cw ad cc N S) sz)) 0 0 (va_A (cw ad cc N S) sz) := by
  refine Met.ofW (cc := prog_12_method_10_code) (maxL := 5) (ret := (some .long)) (by decide) rfl ?_
  intro p e s m args below meth c s₁ B hml hv
  obtain ⟨rfl, hsz, hP, hK, hD0, hev, hE, hN⟩ := hv
  have hx := B.exec
  have hb := B.bytes
  have hr := B.returns
  have hts : ∀ w9 ∈ gb, w9.before [.ref (ad 10 x0), .ref (ad 3 x1)].toArray s = true := fun w9 h => atoms_spec (ws := Cond.code ⟨"JoinedTrees$View", "numberOf", "(LJoinedTrees$Op;)J"⟩ prog_12_method_10_code 5 (some .long) :: gb) B.pre w9 (List.mem_cons_of_mem _ h)
  have hown : s.vm.findClass "JoinedTrees$View" = some m.cls := findClass_of_methodNamed B.named
  have hlocks := B.notSynchronized
  have hNS := ns_of hP
  subst hsz
  have hD := hD0.self (sz := s.heap.size)
  generalize hAe : va_A (cw ad cc N S) s.heap.size = A at hD hev hE hNS ⊢
  have hA : ∀ q : Nat, s.heap.size ≤ q → A q := fun q h => by rw [← hAe]; exact Or.inr h
  have hS : va_S A s.heap s.heap [] := va_S.rf
  obtain ⟨ls, hl, hle⟩ : ∃ ls : Array Slot, lv_has ls 5 [(0, .ref (ad 10 x0)), (1, .ref (ad 3 x1))] ∧ entryFrame m ([.ref (ad 10 x0), .ref (ad 3 x1)] : List Value).toArray 5 = F0 m 0 ls [] := by
    exact ⟨_, lv_entry (n := 5) _ (Nat.le_of_ble_eq_true rfl), lg_entry_eq ..⟩
  rw [hle]
  refine w_cVw_numberOf_J0 ⟨hx, hb, hr, hml, hown, hts, hK, hA, hev, hE, hN, hNS⟩ Heq (fun r h pc H locs ls hd hP hD hS => ?_) _ _ _ hP hD hS (lv_sub hl [0, 1] rfl)
  subst h
  exact W.lret hx hb hr (fun t ht hW => ⟨⟨_, (), rfl, rfl, by rw [ht]; exact hP, va_K.moved hW.alike hK, hD⟩, hS.F ht⟩) hS.2.2 hd
def m_cJT_isPathSign_J42 (N : Nat → Nat) (S : CS) (t0 : Int32) : Option (CS × Int32) := (if t0 = 0 ∨ t0 = 1 then some (S, t0) else none)
theorem d_cJT_isPathSign_0 : decode prog_1_method_57_code 0 = .ok (.iload_n 0, 1) := by decide +kernel
theorem d_cJT_isPathSign_1 : decode prog_1_method_57_code 1 = .ok (.invokestatic 480, 3) := by decide +kernel
theorem d_cJT_isPathSign_4 : decode prog_1_method_57_code 4 = .ok (.ifCond .ne 33, 3) := by decide +kernel
theorem d_cJT_isPathSign_37 : decode prog_1_method_57_code 37 = .ok (.iconst 1, 1) := by decide +kernel
theorem d_cJT_isPathSign_38 : decode prog_1_method_57_code 38 = .ok (.goto 4, 3) := by decide +kernel
theorem d_cJT_isPathSign_42 : decode prog_1_method_57_code 42 = .ok (.ireturn, 1) := by decide +kernel
set_option maxHeartbeats 4000000 in
set_option maxRecDepth 100000 in
theorem w_cJT_isPathSign_J42 {p : Program} {l : Launch} {e : Env} {s : State} {m : MethodId} {args : Array Value} {below : List Frame} {meth : Method} {c : Code} {A : Nat → Prop} {D : va_G} {ad : Nat → Nat → Nat} {cc : Nat → ClassId} {sad sav : Nat → Nat} {Q : State → Prop} (hC : MCc sad sav "JoinedTrees" prog_1_method_57_code 1 (some .boolean) p s m args meth c A D cc) {N : Nat → Nat} {S : CS} {t0 : Int32} {o : CS × Int32} (Heq : m_cJT_isPathSign_J42 N S t0 = some o) (Kr : ∀ r : CS × Int32, o = r → ∀ (pc : Nat) (H : Heap) (locs : List Loc) (ls : Array Slot), decode prog_1_method_57_code pc = .ok (.ireturn, 1) → (r.2 = 0 ∨ r.2 = 1) → va_P D cls (cw ad cc N r.1) H → va_D A (cw ad cc N r.1) → va_S A s.heap H locs → W p l e ({ frames := 1, cells := 0, slots := 0, locals := 20 }) s m args below meth c H locs 0 0 Q (F0 m pc ls [.int r.2])) : ∀ (H : Heap) (locs : List Loc) (ls : Array Slot), va_P D cls (cw ad cc N S) H → va_D A (cw ad cc N S) → va_S A s.heap H locs → lv_has ls 1 [] → W p l e ({ frames := 1, cells := 0, slots := 0, locals := 20 }) s m args below meth c H locs 0 0 Q (F0 m 42 ls [.int t0]) := by
  intro H locs ls hP hD hS hl
  obtain ⟨hx, hb, hr, hml, hown, hts, hK, hA, hev, hE, hN, hNS⟩ := id hC
  unfold m_cJT_isPathSign_J42 at Heq
  by_cases hz_1 : t0 = 0 ∨ t0 = 1
  case neg => rw [if_neg hz_1] at Heq; cases Heq
  replace Heq := (if_pos hz_1).symm.trans Heq
  exact Kr _ (Option.some.inj Heq).symm 42 _ _ _ d_cJT_isPathSign_42 hz_1 hP hD hS
def m_cJT_isPathSign_J37 (N : Nat → Nat) (S : CS) : Option (CS × Int32) := m_cJT_isPathSign_J42 N S 1
set_option maxHeartbeats 4000000 in
set_option maxRecDepth 100000 in
theorem w_cJT_isPathSign_J37 {p : Program} {l : Launch} {e : Env} {s : State} {m : MethodId} {args : Array Value} {below : List Frame} {meth : Method} {c : Code} {A : Nat → Prop} {D : va_G} {ad : Nat → Nat → Nat} {cc : Nat → ClassId} {sad sav : Nat → Nat} {Q : State → Prop} (hC : MCc sad sav "JoinedTrees" prog_1_method_57_code 1 (some .boolean) p s m args meth c A D cc) {N : Nat → Nat} {S : CS} {o : CS × Int32} (Heq : m_cJT_isPathSign_J37 N S = some o) (Kr : ∀ r : CS × Int32, o = r → ∀ (pc : Nat) (H : Heap) (locs : List Loc) (ls : Array Slot), decode prog_1_method_57_code pc = .ok (.ireturn, 1) → (r.2 = 0 ∨ r.2 = 1) → va_P D cls (cw ad cc N r.1) H → va_D A (cw ad cc N r.1) → va_S A s.heap H locs → W p l e ({ frames := 1, cells := 0, slots := 0, locals := 20 }) s m args below meth c H locs 0 0 Q (F0 m pc ls [.int r.2])) : ∀ (H : Heap) (locs : List Loc) (ls : Array Slot), va_P D cls (cw ad cc N S) H → va_D A (cw ad cc N S) → va_S A s.heap H locs → lv_has ls 1 [] → W p l e ({ frames := 1, cells := 0, slots := 0, locals := 20 }) s m args below meth c H locs 0 0 Q (F0 m 37 ls []) := by
  intro H locs ls hP hD hS hl
  obtain ⟨hx, hb, hr, hml, hown, hts, hK, hA, hev, hE, hN, hNS⟩ := id hC
  unfold m_cJT_isPathSign_J37 at Heq
  refine lv_iconst (v := 1) hx hb d_cJT_isPathSign_37 (by decide) ?_
  refine lv_goto (tgt := 42) hx hb d_cJT_isPathSign_38 (by decide) ?_
  exact w_cJT_isPathSign_J42 hC Heq Kr _ _ _ hP hD hS (lv_sub hl [] rfl)
def m_cJT_isPathSign_J41 (N : Nat → Nat) (S : CS) : Option (CS × Int32) := m_cJT_isPathSign_J42 N S 0
theorem d_cJT_isPathSign_7 : decode prog_1_method_57_code 7 = .ok (.iload_n 0, 1) := by decide +kernel
theorem d_cJT_isPathSign_8 : decode prog_1_method_57_code 8 = .ok (.bipush 95, 2) := by decide +kernel
theorem d_cJT_isPathSign_10 : decode prog_1_method_57_code 10 = .ok (.if_icmp .eq 27, 3) := by decide +kernel
theorem d_cJT_isPathSign_13 : decode prog_1_method_57_code 13 = .ok (.iload_n 0, 1) := by decide +kernel
theorem d_cJT_isPathSign_14 : decode prog_1_method_57_code 14 = .ok (.bipush 97, 2) := by decide +kernel
theorem d_cJT_isPathSign_16 : decode prog_1_method_57_code 16 = .ok (.if_icmp .lt 9, 3) := by decide +kernel
theorem d_cJT_isPathSign_25 : decode prog_1_method_57_code 25 = .ok (.iload_n 0, 1) := by decide +kernel
theorem d_cJT_isPathSign_26 : decode prog_1_method_57_code 26 = .ok (.bipush 65, 2) := by decide +kernel
theorem d_cJT_isPathSign_28 : decode prog_1_method_57_code 28 = .ok (.if_icmp .lt 13, 3) := by decide +kernel
theorem d_cJT_isPathSign_41 : decode prog_1_method_57_code 41 = .ok (.iconst 0, 1) := by decide +kernel
set_option maxHeartbeats 4000000 in
set_option maxRecDepth 100000 in
theorem w_cJT_isPathSign_J41 {p : Program} {l : Launch} {e : Env} {s : State} {m : MethodId} {args : Array Value} {below : List Frame} {meth : Method} {c : Code} {A : Nat → Prop} {D : va_G} {ad : Nat → Nat → Nat} {cc : Nat → ClassId} {sad sav : Nat → Nat} {Q : State → Prop} (hC : MCc sad sav "JoinedTrees" prog_1_method_57_code 1 (some .boolean) p s m args meth c A D cc) {N : Nat → Nat} {S : CS} {o : CS × Int32} (Heq : m_cJT_isPathSign_J41 N S = some o) (Kr : ∀ r : CS × Int32, o = r → ∀ (pc : Nat) (H : Heap) (locs : List Loc) (ls : Array Slot), decode prog_1_method_57_code pc = .ok (.ireturn, 1) → (r.2 = 0 ∨ r.2 = 1) → va_P D cls (cw ad cc N r.1) H → va_D A (cw ad cc N r.1) → va_S A s.heap H locs → W p l e ({ frames := 1, cells := 0, slots := 0, locals := 20 }) s m args below meth c H locs 0 0 Q (F0 m pc ls [.int r.2])) : ∀ (H : Heap) (locs : List Loc) (ls : Array Slot), va_P D cls (cw ad cc N S) H → va_D A (cw ad cc N S) → va_S A s.heap H locs → lv_has ls 1 [] → W p l e ({ frames := 1, cells := 0, slots := 0, locals := 20 }) s m args below meth c H locs 0 0 Q (F0 m 41 ls []) := by
  intro H locs ls hP hD hS hl
  obtain ⟨hx, hb, hr, hml, hown, hts, hK, hA, hev, hE, hN, hNS⟩ := id hC
  unfold m_cJT_isPathSign_J41 at Heq
  refine lv_iconst (v := 0) hx hb d_cJT_isPathSign_41 (by decide) ?_
  exact w_cJT_isPathSign_J42 hC Heq Kr _ _ _ hP hD hS (lv_sub hl [] rfl)
def m_cJT_isPathSign_J25 (N : Nat → Nat) (S : CS) (x0 : Int32) : Option (CS × Int32) := (if x0 < 65 then m_cJT_isPathSign_J41 N S else (if 90 < x0 then m_cJT_isPathSign_J41 N S else m_cJT_isPathSign_J37 N S))
theorem d_cJT_isPathSign_31 : decode prog_1_method_57_code 31 = .ok (.iload_n 0, 1) := by decide +kernel
theorem d_cJT_isPathSign_32 : decode prog_1_method_57_code 32 = .ok (.bipush 90, 2) := by decide +kernel
theorem d_cJT_isPathSign_34 : decode prog_1_method_57_code 34 = .ok (.if_icmp .gt 7, 3) := by decide +kernel
set_option maxHeartbeats 4000000 in
set_option maxRecDepth 100000 in
theorem w_cJT_isPathSign_J25 {p : Program} {l : Launch} {e : Env} {s : State} {m : MethodId} {args : Array Value} {below : List Frame} {meth : Method} {c : Code} {A : Nat → Prop} {D : va_G} {ad : Nat → Nat → Nat} {cc : Nat → ClassId} {sad sav : Nat → Nat} {Q : State → Prop} (hC : MCc sad sav "JoinedTrees" prog_1_method_57_code 1 (some .boolean) p s m args meth c A D cc) {N : Nat → Nat} {S : CS} {x0 : Int32} {o : CS × Int32} (Heq : m_cJT_isPathSign_J25 N S x0 = some o) (Kr : ∀ r : CS × Int32, o = r → ∀ (pc : Nat) (H : Heap) (locs : List Loc) (ls : Array Slot), decode prog_1_method_57_code pc = .ok (.ireturn, 1) → (r.2 = 0 ∨ r.2 = 1) → va_P D cls (cw ad cc N r.1) H → va_D A (cw ad cc N r.1) → va_S A s.heap H locs → W p l e ({ frames := 1, cells := 0, slots := 0, locals := 20 }) s m args below meth c H locs 0 0 Q (F0 m pc ls [.int r.2])) : ∀ (H : Heap) (locs : List Loc) (ls : Array Slot), va_P D cls (cw ad cc N S) H → va_D A (cw ad cc N S) → va_S A s.heap H locs → lv_has ls 1 [(0, .int x0)] → W p l e ({ frames := 1, cells := 0, slots := 0, locals := 20 }) s m args below meth c H locs 0 0 Q (F0 m 25 ls []) := by
  intro H locs ls hP hD hS hl
  obtain ⟨hx, hb, hr, hml, hown, hts, hK, hA, hev, hE, hN, hNS⟩ := id hC
  unfold m_cJT_isPathSign_J25 at Heq
  refine lv_iload_n hx hb d_cJT_isPathSign_25 rfl (lv_at hl 0 rfl) ?_
  refine lv_bipush (v := 65) hx hb d_cJT_isPathSign_26 (by decide) ?_
  refine lv_icmp_lt (tgt := 41) hx hb d_cJT_isPathSign_28 (by decide) (fun c_1 => ?_) (fun c_1 => ?_)
  · replace Heq := (if_pos c_1).symm.trans Heq
    exact w_cJT_isPathSign_J41 hC Heq Kr _ _ _ hP hD hS (lv_sub hl [] rfl)
  · replace Heq := (if_neg c_1).symm.trans Heq
    refine lv_iload_n hx hb d_cJT_isPathSign_31 rfl (lv_at hl 0 rfl) ?_
    refine lv_bipush (v := 90) hx hb d_cJT_isPathSign_32 (by decide) ?_
    refine lv_icmp_gt (tgt := 41) hx hb d_cJT_isPathSign_34 (by decide) (fun c_2 => ?_) (fun c_2 => ?_)
    · replace Heq := (if_pos c_2).symm.trans Heq
      exact w_cJT_isPathSign_J41 hC Heq Kr _ _ _ hP hD hS (lv_sub hl [] rfl)
    · replace Heq := (if_neg c_2).symm.trans Heq
      exact w_cJT_isPathSign_J37 hC Heq Kr _ _ _ hP hD hS (lv_sub hl [] rfl)
def m_cJT_isPathSign_J0 (N : Nat → Nat) (S : CS) (x0 : Int32) : Option (CS × Int32) := ob (m_cJT_isDigit N S x0) (fun o_1 => (if o_1.2 = 0 then (if x0 = 95 then m_cJT_isPathSign_J37 N o_1.1 else (if x0 < 97 then m_cJT_isPathSign_J25 N o_1.1 x0 else (if x0 ≤ 122 then m_cJT_isPathSign_J37 N o_1.1 else m_cJT_isPathSign_J25 N o_1.1 x0))) else m_cJT_isPathSign_J37 N o_1.1))
theorem d_cJT_isPathSign_19 : decode prog_1_method_57_code 19 = .ok (.iload_n 0, 1) := by decide +kernel
theorem d_cJT_isPathSign_20 : decode prog_1_method_57_code 20 = .ok (.bipush 122, 2) := by decide +kernel
theorem d_cJT_isPathSign_22 : decode prog_1_method_57_code 22 = .ok (.if_icmp .le 15, 3) := by decide +kernel
set_option maxHeartbeats 4000000 in
set_option maxRecDepth 100000 in
theorem w_cJT_isPathSign_J0 {p : Program} {l : Launch} {e : Env} {s : State} {m : MethodId} {args : Array Value} {below : List Frame} {meth : Method} {c : Code} {A : Nat → Prop} {D : va_G} {ad : Nat → Nat → Nat} {cc : Nat → ClassId} {sad sav : Nat → Nat} {Q : State → Prop} (hC : MCc sad sav "JoinedTrees" prog_1_method_57_code 1 (some .boolean) p s m args meth c A D cc) {N : Nat → Nat} {S : CS} {x0 : Int32} {o : CS × Int32} (Heq : m_cJT_isPathSign_J0 N S x0 = some o) (Kr : ∀ r : CS × Int32, o = r → ∀ (pc : Nat) (H : Heap) (locs : List Loc) (ls : Array Slot), decode prog_1_method_57_code pc = .ok (.ireturn, 1) → (r.2 = 0 ∨ r.2 = 1) → va_P D cls (cw ad cc N r.1) H → va_D A (cw ad cc N r.1) → va_S A s.heap H locs → W p l e ({ frames := 1, cells := 0, slots := 0, locals := 20 }) s m args below meth c H locs 0 0 Q (F0 m pc ls [.int r.2])) : ∀ (H : Heap) (locs : List Loc) (ls : Array Slot), va_P D cls (cw ad cc N S) H → va_D A (cw ad cc N S) → va_S A s.heap H locs → lv_has ls 1 [(0, .int x0)] → W p l e ({ frames := 1, cells := 0, slots := 0, locals := 20 }) s m args below meth c H locs 0 0 Q (F0 m 0 ls []) := by
  intro H locs ls hP hD hS hl
  obtain ⟨hx, hb, hr, hml, hown, hts, hK, hA, hev, hE, hN, hNS⟩ := id hC
  unfold m_cJT_isPathSign_J0 at Heq
  refine lv_iload_n hx hb d_cJT_isPathSign_0 rfl (lv_at hl 0 rfl) ?_
  obtain ⟨o_1, h_2, Heq⟩ := ob_some Heq
  have hFc := fr_all hD hS hA
  refine va_calli (va_runS (As := [.int x0]) (rest := []) ⟨hx, hb, hml, hown, hts⟩ (g_cJT_isDigit l D H.size (ad := ad) (cc := cc) (sad := sad) (sav := sav) h_2) (cw_s 1 hts kw_964 kw_1196 kw_963 kw_1 rfl rfl (by decide +kernel) ⟨Nat.le_of_ble_eq_true rfl, Nat.le_of_ble_eq_true rfl⟩) ⟨c_blind, fun U hU hW => c_pre hU hW hP hK hD hev hE hN hNS hS hFc⟩ rfl rfl hl.1 rfl (lv_room (Nat.le_of_ble_eq_true rfl)) d_cJT_isPathSign_1 ⟨Nat.le_of_ble_eq_true rfl, Nat.le_of_ble_eq_true rfl⟩) hS (fun q _ h => hFc q h) hFc (fun rz u t H1 locs ht hvm hw hB hz1 hk1 hS => ?_)
  obtain ⟨hP, -, hD1⟩ := hB
  rw [ht] at hP
  have hD := hD1.weaken (fun _ q _ h => hFc q.1 h)
  generalize H1 = H at hP hS ⊢
  refine W.cs (cells' := 0) (slots' := 0) rfl rfl ?_
  subst hw
  refine lv_if_ne (tgt := 37) hx hb d_cJT_isPathSign_4 (by decide) (fun c_3 => ?_) (fun c_3 => ?_)
  · replace Heq := (if_neg c_3).symm.trans Heq
    exact w_cJT_isPathSign_J37 hC Heq Kr _ _ _ hP hD hS (lv_sub hl [] rfl)
  · replace Heq := (if_pos c_3).symm.trans Heq
    refine lv_iload_n hx hb d_cJT_isPathSign_7 rfl (lv_at hl 0 rfl) ?_
    refine lv_bipush (v := 95) hx hb d_cJT_isPathSign_8 (by decide) ?_
    refine lv_icmp_eq (tgt := 37) hx hb d_cJT_isPathSign_10 (by decide) (fun c_4 => ?_) (fun c_4 => ?_)
    · replace Heq := (if_pos c_4).symm.trans Heq
      exact w_cJT_isPathSign_J37 hC Heq Kr _ _ _ hP hD hS (lv_sub hl [] rfl)
    · replace Heq := (if_neg c_4).symm.trans Heq
      refine lv_iload_n hx hb d_cJT_isPathSign_13 rfl (lv_at hl 0 rfl) ?_
      refine lv_bipush (v := 97) hx hb d_cJT_isPathSign_14 (by decide) ?_
      refine lv_icmp_lt (tgt := 25) hx hb d_cJT_isPathSign_16 (by decide) (fun c_5 => ?_) (fun c_5 => ?_)
      · replace Heq := (if_pos c_5).symm.trans Heq
        exact w_cJT_isPathSign_J25 hC Heq Kr _ _ _ hP hD hS (lv_sub hl [0] rfl)
      · replace Heq := (if_neg c_5).symm.trans Heq
        refine lv_iload_n hx hb d_cJT_isPathSign_19 rfl (lv_at hl 0 rfl) ?_
        refine lv_bipush (v := 122) hx hb d_cJT_isPathSign_20 (by decide) ?_
        refine lv_icmp_le (tgt := 37) hx hb d_cJT_isPathSign_22 (by decide) (fun c_6 => ?_) (fun c_6 => ?_)
        · replace Heq := (if_pos c_6).symm.trans Heq
          exact w_cJT_isPathSign_J37 hC Heq Kr _ _ _ hP hD hS (lv_sub hl [] rfl)
        · replace Heq := (if_neg c_6).symm.trans Heq
          exact w_cJT_isPathSign_J25 hC Heq Kr _ _ _ hP hD hS (lv_sub hl [0] rfl)
def m_cJT_isPathSign (N : Nat → Nat) (S : CS) (x0 : Int32) : Option (CS × Int32) := m_cJT_isPathSign_J0 N S x0
set_option maxHeartbeats 4000000 in
theorem g_cJT_isPathSign (l : Launch) (D : va_G) (sz : Nat) {ad : Nat → Nat → Nat} {cc : Nat → ClassId} {sad sav : Nat → Nat} {N : Nat → Nat} {S : CS} {x0 : Int32} {o : CS × Int32} (Heq : m_cJT_isPathSign N S x0 = some o) : Met l ⟨"JoinedTrees", "isPathSign", "(I)Z"⟩ (Cond.code ⟨"JoinedTrees", "isPathSign", "(I)Z"⟩ prog_1_method_57_code 1 (some .boolean) :: gb) ({ frames := 1, cells := 0, slots := 0, locals := 20 }) (cPc sad sav D (cw ad cc N S) (cty cc) sz [.int x0]) (va_Qi (fun (r : Int32) (_ : Unit) => r = o.2) (fun _ t => gO D (cw ad cc N o.1) (cty cc) (va_A (cw ad cc N S) sz) t) (va_A (cw ad cc N S) sz)) 0 0 (va_A (cw ad cc N S) sz) := by
  refine Met.ofW (cc := prog_1_method_57_code) (maxL := 1) (ret := (some .boolean)) (by decide) rfl ?_
  intro p e s m args below meth c s₁ B hml hv
  obtain ⟨rfl, hsz, hP, hK, hD0, hev, hE, hN⟩ := hv
  have hx := B.exec
  have hb := B.bytes
  have hr := B.returns
  have hts : ∀ w9 ∈ gb, w9.before [.int x0].toArray s = true := fun w9 h => atoms_spec (ws := Cond.code ⟨"JoinedTrees", "isPathSign", "(I)Z"⟩ prog_1_method_57_code 1 (some .boolean) :: gb) B.pre w9 (List.mem_cons_of_mem _ h)
  have hown : s.vm.findClass "JoinedTrees" = some m.cls := findClass_of_methodNamed B.named
  have hlocks := B.notSynchronized
  have hNS := ns_of hP
  subst hsz
  have hD := hD0.self (sz := s.heap.size)
  generalize hAe : va_A (cw ad cc N S) s.heap.size = A at hD hev hE hNS ⊢
  have hA : ∀ q : Nat, s.heap.size ≤ q → A q := fun q h => by rw [← hAe]; exact Or.inr h
  have hS : va_S A s.heap s.heap [] := va_S.rf
  obtain ⟨ls, hl, hle⟩ : ∃ ls : Array Slot, lv_has ls 1 [(0, .int x0)] ∧ entryFrame m ([.int x0] : List Value).toArray 1 = F0 m 0 ls [] := by
    exact ⟨_, lv_entry (n := 1) _ (Nat.le_of_ble_eq_true rfl), lg_entry_eq ..⟩
  rw [hle]
  refine w_cJT_isPathSign_J0 ⟨hx, hb, hr, hml, hown, hts, hK, hA, hev, hE, hN, hNS⟩ Heq (fun r h pc H locs ls hd hz hP hD hS => ?_) _ _ _ hP hD hS (lv_sub hl [0] rfl)
  subst h
  exact W.zret (ty := .boolean) hx hb hr (by rcases hz with hz | hz <;> rw [hz] <;> rfl) (fun t ht hW => ⟨⟨_, (), rfl, rfl, by rw [ht]; exact hP, va_K.moved hW.alike hK, hD⟩, hS.F ht⟩) hS.2.2 hd
def m_cJT_keyEnd_B4 (N : Nat → Nat) (x0 : Nat) (S : CS) (x1 : Int32) (x2 : Int32) (x3 : Int32) : Option ((CS × Int32 × Int32 × Int32) ⊕ (CS × Int32 × Int32)) := (if 64 < x3 then some (.inr (S, x1, x2)) else gl x0 (N 11) (gn (S.r 11 9 x0) (N 5) (fun j_2 => ob (m_cRw_at N j_2 S x2) (fun o_5 => ob (m_cJT_isPathSign N o_5.1 o_5.2) (fun o_7 => (if o_7.2 = 0 then some (.inr (o_7.1, x1, x2)) else some (.inl (o_7.1, x1, (x2 + 1), (x3 + 1)))))))))
theorem d_cJT_keyEnd_0 : decode prog_1_method_55_code 0 = .ok (.iload_n 1, 1) := by decide +kernel
theorem d_cJT_keyEnd_1 : decode prog_1_method_55_code 1 = .ok (.istore_n 2, 1) := by decide +kernel
theorem d_cJT_keyEnd_2 : decode prog_1_method_55_code 2 = .ok (.iconst 0, 1) := by decide +kernel
theorem d_cJT_keyEnd_3 : decode prog_1_method_55_code 3 = .ok (.istore_n 3, 1) := by decide +kernel
theorem d_cJT_keyEnd_4 : decode prog_1_method_55_code 4 = .ok (.iload_n 3, 1) := by decide +kernel
theorem d_cJT_keyEnd_5 : decode prog_1_method_55_code 5 = .ok (.bipush 64, 2) := by decide +kernel
theorem d_cJT_keyEnd_7 : decode prog_1_method_55_code 7 = .ok (.if_icmp .gt 26, 3) := by decide +kernel
theorem d_cJT_keyEnd_10 : decode prog_1_method_55_code 10 = .ok (.aload_n 0, 1) := by decide +kernel
theorem d_cJT_keyEnd_11 : decode prog_1_method_55_code 11 = .ok (.getfield 70, 3) := by decide +kernel
theorem d_cJT_keyEnd_14 : decode prog_1_method_55_code 14 = .ok (.iload_n 2, 1) := by decide +kernel
theorem d_cJT_keyEnd_15 : decode prog_1_method_55_code 15 = .ok (.invokevirtual 293, 3) := by decide +kernel
theorem d_cJT_keyEnd_18 : decode prog_1_method_55_code 18 = .ok (.invokestatic 476, 3) := by decide +kernel
theorem d_cJT_keyEnd_21 : decode prog_1_method_55_code 21 = .ok (.ifCond .eq 12, 3) := by decide +kernel
theorem d_cJT_keyEnd_24 : decode prog_1_method_55_code 24 = .ok (.iinc 2 1, 3) := by decide +kernel
theorem d_cJT_keyEnd_27 : decode prog_1_method_55_code 27 = .ok (.iinc 3 1, 3) := by decide +kernel
theorem d_cJT_keyEnd_30 : decode prog_1_method_55_code 30 = .ok (.goto (-26), 3) := by decide +kernel
set_option maxHeartbeats 4000000 in
set_option maxRecDepth 100000 in
theorem w_cJT_keyEnd_B4 {p : Program} {l : Launch} {e : Env} {s : State} {m : MethodId} {args : Array Value} {below : List Frame} {meth : Method} {c : Code} {A : Nat → Prop} {D : va_G} {ad : Nat → Nat → Nat} {cc : Nat → ClassId} {sad sav : Nat → Nat} {Q : State → Prop} (hC : MCc sad sav "JoinedTrees" prog_1_method_55_code 4 (some .int) p s m args meth c A D cc) {N : Nat → Nat} {x0 : Nat} {S : CS} {x1 : Int32} {x2 : Int32} {x3 : Int32} {o : ((CS × Int32 × Int32 × Int32) ⊕ (CS × Int32 × Int32))} (Heq : m_cJT_keyEnd_B4 N x0 S x1 x2 x3 = some o) (Ka : ∀ b : CS × Int32 × Int32 × Int32, o = .inl b → ∀ (H : Heap) (locs : List Loc) (ls : Array Slot), va_P D cls (cw ad cc N b.1) H → va_D A (cw ad cc N b.1) → va_S A s.heap H locs → lv_has ls 4 [(0, .ref (ad 11 x0)), (1, .int b.2.1), (2, .int b.2.2.1), (3, .int b.2.2.2)] → W p l e ({ frames := 2, cells := 0, slots := 0, locals := 40 }) s m args below meth c H locs 0 0 Q (F0 m 4 ls [])) (K0 : ∀ b : CS × Int32 × Int32, o = .inr b → ∀ (H : Heap) (locs : List Loc) (ls : Array Slot), va_P D cls (cw ad cc N b.1) H → va_D A (cw ad cc N b.1) → va_S A s.heap H locs → lv_has ls 4 [(0, .ref (ad 11 x0)), (1, .int b.2.1), (2, .int b.2.2)] → W p l e ({ frames := 2, cells := 0, slots := 0, locals := 40 }) s m args below meth c H locs 0 0 Q (F0 m 33 ls [])) : ∀ (H : Heap) (locs : List Loc) (ls : Array Slot), va_P D cls (cw ad cc N S) H → va_D A (cw ad cc N S) → va_S A s.heap H locs → lv_has ls 4 [(0, .ref (ad 11 x0)), (1, .int x1), (2, .int x2), (3, .int x3)] → W p l e ({ frames := 2, cells := 0, slots := 0, locals := 40 }) s m args below meth c H locs 0 0 Q (F0 m 4 ls []) := by
  intro H locs ls hP hD hS hl
  obtain ⟨hx, hb, hr, hml, hown, hts, hK, hA, hev, hE, hN, hNS⟩ := id hC
  unfold m_cJT_keyEnd_B4 at Heq
  refine lv_iload_n hx hb d_cJT_keyEnd_4 rfl (lv_at hl 3 rfl) ?_
  refine lv_bipush (v := 64) hx hb d_cJT_keyEnd_5 (by decide) ?_
  refine lv_icmp_gt (tgt := 33) hx hb d_cJT_keyEnd_7 (by decide) (fun c_1 => ?_) (fun c_1 => ?_)
  · replace Heq := (if_pos c_1).symm.trans Heq
    exact K0 _ (Option.some.inj Heq).symm _ _ _ hP hD hS (lv_sub hl [0, 1, 2] rfl)
  · replace Heq := (if_neg c_1).symm.trans Heq
    refine lv_aload_n hx hb d_cJT_keyEnd_10 rfl (lv_at hl 0 rfl) ?_
    obtain ⟨hl_x0_11, Heq⟩ := gl_some Heq
    refine va_get (D := D) (ci := 11) (v := rv ad 5 (S.r 11 9 x0)) (C := R_JT) (T := F_JT) (N := 13) hx hb hts i_JT hown hK hP (cPos N 11 x0) (cw_obj (k := 11) (by decide) hl_x0_11) rfl 9 (by decide) (hts _ kw_430) (fun _ h9 => h9) rfl d_cJT_keyEnd_11 ?_
    refine lv_iload_n hx hb d_cJT_keyEnd_14 rfl (lv_at hl 2 rfl) ?_
    obtain ⟨j_2, hj_3, hl_4, Heq⟩ := gn_some Heq
    refine w_s (st' := [.int x2, .ref (ad 5 j_2)]) (congrArg (fun z9 : Option Nat => [.int x2, rv ad 5 z9]) hj_3) ?_
    obtain ⟨o_5, h_6, Heq⟩ := ob_some Heq
    have hFc := fr_all hD hS hA
    refine va_calli (va_runV (As := [.int x2]) (rest := []) ⟨hx, hb, hml, hown, hts⟩ (g_cRw_at l D H.size (ad := ad) (cc := cc) (sad := sad) (sav := sav) h_6) (cw_v 1 hts kw_689 kw_1136 kw_687 kw_688 kw_4 rfl rfl (by decide +kernel) ⟨Nat.le_of_ble_eq_true rfl, Nat.le_of_ble_eq_true rfl⟩) ⟨c_blind, va_recv hK hP (ci := 5) (q0 := cPos N 5 j_2) rfl (cw_obj (k := 5) (by decide) hl_4), fun U hU hW => c_pre hU hW hP hK hD hev hE hN hNS hS hFc⟩ rfl rfl hl.1 rfl (lv_room (Nat.le_of_ble_eq_true rfl)) d_cJT_keyEnd_15 ⟨Nat.le_of_ble_eq_true rfl, Nat.le_of_ble_eq_true rfl⟩) hS (fun q _ h => hFc q h) hFc (fun rz u t H1 locs ht hvm hw hB hz1 hk1 hS => ?_)
    obtain ⟨hP, -, hD1⟩ := hB
    rw [ht] at hP
    have hD := hD1.weaken (fun _ q _ h => hFc q.1 h)
    generalize H1 = H at hP hS ⊢
    refine W.cs (cells' := 0) (slots' := 0) rfl rfl ?_
    subst hw
    obtain ⟨o_7, h_8, Heq⟩ := ob_some Heq
    have hFc := fr_all hD hS hA
    refine va_calli (va_runS (As := [.int o_5.2]) (rest := []) ⟨hx, hb, hml, hown, hts⟩ (g_cJT_isPathSign l D H.size (ad := ad) (cc := cc) (sad := sad) (sav := sav) h_8) (cw_s 1 hts kw_1195 kw_1193 kw_1194 kw_1 rfl rfl (by decide +kernel) ⟨Nat.le_of_ble_eq_true rfl, Nat.le_of_ble_eq_true rfl⟩) ⟨c_blind, fun U hU hW => c_pre hU hW hP hK hD hev hE hN hNS hS hFc⟩ rfl rfl hl.1 rfl (lv_room (Nat.le_of_ble_eq_true rfl)) d_cJT_keyEnd_18 ⟨Nat.le_of_ble_eq_true rfl, Nat.le_of_ble_eq_true rfl⟩) hS (fun q _ h => hFc q h) hFc (fun rz u t H1 locs ht hvm hw hB hz1 hk1 hS => ?_)
    obtain ⟨hP, -, hD1⟩ := hB
    rw [ht] at hP
    have hD := hD1.weaken (fun _ q _ h => hFc q.1 h)
    generalize H1 = H at hP hS ⊢
    refine W.cs (cells' := 0) (slots' := 0) rfl rfl ?_
    subst hw
    refine lv_if_eq (tgt := 33) hx hb d_cJT_keyEnd_21 (by decide) (fun c_9 => ?_) (fun c_9 => ?_)
    · replace Heq := (if_pos c_9).symm.trans Heq
      exact K0 _ (Option.some.inj Heq).symm _ _ _ hP hD hS (lv_sub hl [0, 1, 2] rfl)
    · replace Heq := (if_neg c_9).symm.trans Heq
      refine lv_iinc (v := x2 + 1) (lv' := [(2, .int (x2 + 1)), (0, .ref (ad 11 x0)), (1, .int x1), (3, .int x3)]) hx hb d_cJT_keyEnd_24 hl (k := 2) rfl rfl (by decide) rfl (fun ls hl => ?_)
      refine lv_iinc (v := x3 + 1) (lv' := [(3, .int (x3 + 1)), (2, .int (x2 + 1)), (0, .ref (ad 11 x0)), (1, .int x1)]) hx hb d_cJT_keyEnd_27 hl (k := 3) rfl rfl (by decide) rfl (fun ls hl => ?_)
      refine lv_goto (tgt := 4) hx hb d_cJT_keyEnd_30 (by decide) ?_
      exact Ka _ (Option.some.inj Heq).symm _ _ _ hP hD hS (lv_sub hl [2, 3, 1, 0] rfl)
def m_cJT_keyEnd_L4 (N : Nat → Nat) (x0 : Nat) (S : CS) (x1 : Int32) (x2 : Int32) (x3 : Int32) : Option (CS × Int32 × Int32) := lp (fun a : CS × Int32 × Int32 × Int32 => m_cJT_keyEnd_B4 N x0 a.1 a.2.1 a.2.2.1 a.2.2.2) FU (S, x1, x2, x3)
theorem w_cJT_keyEnd_L4 {p : Program} {l : Launch} {e : Env} {s : State} {m : MethodId} {args : Array Value} {below : List Frame} {meth : Method} {c : Code} {A : Nat → Prop} {D : va_G} {ad : Nat → Nat → Nat} {cc : Nat → ClassId} {sad sav : Nat → Nat} {Q : State → Prop} (hC : MCc sad sav "JoinedTrees" prog_1_method_55_code 4 (some .int) p s m args meth c A D cc) {N : Nat → Nat} {x0 : Nat} {S : CS} {x1 : Int32} {x2 : Int32} {x3 : Int32} {o : CS × Int32 × Int32} (Heq : m_cJT_keyEnd_L4 N x0 S x1 x2 x3 = some o) (K0 : ∀ b : CS × Int32 × Int32, o = b → ∀ (H : Heap) (locs : List Loc) (ls : Array Slot), va_P D cls (cw ad cc N b.1) H → va_D A (cw ad cc N b.1) → va_S A s.heap H locs → lv_has ls 4 [(0, .ref (ad 11 x0)), (1, .int b.2.1), (2, .int b.2.2)] → W p l e ({ frames := 2, cells := 0, slots := 0, locals := 40 }) s m args below meth c H locs 0 0 Q (F0 m 33 ls [])) : ∀ (H : Heap) (locs : List Loc) (ls : Array Slot), va_P D cls (cw ad cc N S) H → va_D A (cw ad cc N S) → va_S A s.heap H locs → lv_has ls 4 [(0, .ref (ad 11 x0)), (1, .int x1), (2, .int x2), (3, .int x3)] → W p l e ({ frames := 2, cells := 0, slots := 0, locals := 40 }) s m args below meth c H locs 0 0 Q (F0 m 4 ls []) := by
  refine lp_w (G := fun a : CS × Int32 × Int32 × Int32 => ∀ (H : Heap) (locs : List Loc) (ls : Array Slot), va_P D cls (cw ad cc N a.1) H → va_D A (cw ad cc N a.1) → va_S A s.heap H locs → lv_has ls 4 [(0, .ref (ad 11 x0)), (1, .int a.2.1), (2, .int a.2.2.1), (3, .int a.2.2.2)] → W p l e ({ frames := 2, cells := 0, slots := 0, locals := 40 }) s m args below meth c H locs 0 0 Q (F0 m 4 ls [])) ?_ FU (S, x1, x2, x3) Heq
  intro a o1 ho Ka Ke
  exact w_cJT_keyEnd_B4 hC ho (fun b h => Ka b h) (fun b h => K0 b (Ke _ h).symm)
def m_cJT_keyEnd_J51 (N : Nat → Nat) (x0 : Nat) (S : CS) (t0 : Int32) : Option (CS × Int32) := some (S, t0)
theorem d_cJT_keyEnd_33 : decode prog_1_method_55_code 33 = .ok (.iload_n 2, 1) := by decide +kernel
theorem d_cJT_keyEnd_34 : decode prog_1_method_55_code 34 = .ok (.iload_n 1, 1) := by decide +kernel
theorem d_cJT_keyEnd_35 : decode prog_1_method_55_code 35 = .ok (.if_icmp .eq 11, 3) := by decide +kernel
theorem d_cJT_keyEnd_46 : decode prog_1_method_55_code 46 = .ok (.iconst (-1), 1) := by decide +kernel
theorem d_cJT_keyEnd_47 : decode prog_1_method_55_code 47 = .ok (.goto 4, 3) := by decide +kernel
theorem d_cJT_keyEnd_51 : decode prog_1_method_55_code 51 = .ok (.ireturn, 1) := by decide +kernel
set_option maxHeartbeats 4000000 in
set_option maxRecDepth 100000 in
theorem w_cJT_keyEnd_J51 {p : Program} {l : Launch} {e : Env} {s : State} {m : MethodId} {args : Array Value} {below : List Frame} {meth : Method} {c : Code} {A : Nat → Prop} {D : va_G} {ad : Nat → Nat → Nat} {cc : Nat → ClassId} {sad sav : Nat → Nat} {Q : State → Prop} (hC : MCc sad sav "JoinedTrees" prog_1_method_55_code 4 (some .int) p s m args meth c A D cc) {N : Nat → Nat} {x0 : Nat} {S : CS} {t0 : Int32} {o : CS × Int32} (Heq : m_cJT_keyEnd_J51 N x0 S t0 = some o) (Kr : ∀ r : CS × Int32, o = r → ∀ (pc : Nat) (H : Heap) (locs : List Loc) (ls : Array Slot), decode prog_1_method_55_code pc = .ok (.ireturn, 1) → va_P D cls (cw ad cc N r.1) H → va_D A (cw ad cc N r.1) → va_S A s.heap H locs → W p l e ({ frames := 2, cells := 0, slots := 0, locals := 40 }) s m args below meth c H locs 0 0 Q (F0 m pc ls [.int r.2])) : ∀ (H : Heap) (locs : List Loc) (ls : Array Slot), va_P D cls (cw ad cc N S) H → va_D A (cw ad cc N S) → va_S A s.heap H locs → lv_has ls 4 [(0, .ref (ad 11 x0))] → W p l e ({ frames := 2, cells := 0, slots := 0, locals := 40 }) s m args below meth c H locs 0 0 Q (F0 m 51 ls [.int t0]) := by
  intro H locs ls hP hD hS hl
  obtain ⟨hx, hb, hr, hml, hown, hts, hK, hA, hev, hE, hN, hNS⟩ := id hC
  unfold m_cJT_keyEnd_J51 at Heq
  exact Kr _ (Option.some.inj Heq).symm 51 _ _ _ d_cJT_keyEnd_51 hP hD hS
def m_cJT_keyEnd_J46 (N : Nat → Nat) (x0 : Nat) (S : CS) : Option (CS × Int32) := m_cJT_keyEnd_J51 N x0 S (-1)
set_option maxHeartbeats 4000000 in
set_option maxRecDepth 100000 in
theorem w_cJT_keyEnd_J46 {p : Program} {l : Launch} {e : Env} {s : State} {m : MethodId} {args : Array Value} {below : List Frame} {meth : Method} {c : Code} {A : Nat → Prop} {D : va_G} {ad : Nat → Nat → Nat} {cc : Nat → ClassId} {sad sav : Nat → Nat} {Q : State → Prop} (hC : MCc sad sav "JoinedTrees" prog_1_method_55_code 4 (some .int) p s m args meth c A D cc) {N : Nat → Nat} {x0 : Nat} {S : CS} {o : CS × Int32} (Heq : m_cJT_keyEnd_J46 N x0 S = some o) (Kr : ∀ r : CS × Int32, o = r → ∀ (pc : Nat) (H : Heap) (locs : List Loc) (ls : Array Slot), decode prog_1_method_55_code pc = .ok (.ireturn, 1) → va_P D cls (cw ad cc N r.1) H → va_D A (cw ad cc N r.1) → va_S A s.heap H locs → W p l e ({ frames := 2, cells := 0, slots := 0, locals := 40 }) s m args below meth c H locs 0 0 Q (F0 m pc ls [.int r.2])) : ∀ (H : Heap) (locs : List Loc) (ls : Array Slot), va_P D cls (cw ad cc N S) H → va_D A (cw ad cc N S) → va_S A s.heap H locs → lv_has ls 4 [(0, .ref (ad 11 x0))] → W p l e ({ frames := 2, cells := 0, slots := 0, locals := 40 }) s m args below meth c H locs 0 0 Q (F0 m 46 ls []) := by
  intro H locs ls hP hD hS hl
  obtain ⟨hx, hb, hr, hml, hown, hts, hK, hA, hev, hE, hN, hNS⟩ := id hC
  unfold m_cJT_keyEnd_J46 at Heq
  refine lv_iconst (v := (-1)) hx hb d_cJT_keyEnd_46 (by decide) ?_
  refine lv_goto (tgt := 51) hx hb d_cJT_keyEnd_47 (by decide) ?_
  exact w_cJT_keyEnd_J51 hC Heq Kr _ _ _ hP hD hS (lv_sub hl [0] rfl)
def m_cJT_keyEnd_J33 (N : Nat → Nat) (x0 : Nat) (S : CS) (x1 : Int32) (x2 : Int32) : Option (CS × Int32) := (if x2 = x1 then m_cJT_keyEnd_J46 N x0 S else (if x2 - x1 ≤ 64 then m_cJT_keyEnd_J51 N x0 S x2 else m_cJT_keyEnd_J46 N x0 S))
theorem d_cJT_keyEnd_38 : decode prog_1_method_55_code 38 = .ok (.iload_n 2, 1) := by decide +kernel
theorem d_cJT_keyEnd_39 : decode prog_1_method_55_code 39 = .ok (.iload_n 1, 1) := by decide +kernel
theorem d_cJT_keyEnd_40 : decode prog_1_method_55_code 40 = .ok (.isub, 1) := by decide +kernel
theorem d_cJT_keyEnd_41 : decode prog_1_method_55_code 41 = .ok (.bipush 64, 2) := by decide +kernel
theorem d_cJT_keyEnd_43 : decode prog_1_method_55_code 43 = .ok (.if_icmp .le 7, 3) := by decide +kernel
theorem d_cJT_keyEnd_50 : decode prog_1_method_55_code 50 = .ok (.iload_n 2, 1) := by decide +kernel
set_option maxHeartbeats 4000000 in
set_option maxRecDepth 100000 in
theorem w_cJT_keyEnd_J33 {p : Program} {l : Launch} {e : Env} {s : State} {m : MethodId} {args : Array Value} {below : List Frame} {meth : Method} {c : Code} {A : Nat → Prop} {D : va_G} {ad : Nat → Nat → Nat} {cc : Nat → ClassId} {sad sav : Nat → Nat} {Q : State → Prop} (hC : MCc sad sav "JoinedTrees" prog_1_method_55_code 4 (some .int) p s m args meth c A D cc) {N : Nat → Nat} {x0 : Nat} {S : CS} {x1 : Int32} {x2 : Int32} {o : CS × Int32} (Heq : m_cJT_keyEnd_J33 N x0 S x1 x2 = some o) (Kr : ∀ r : CS × Int32, o = r → ∀ (pc : Nat) (H : Heap) (locs : List Loc) (ls : Array Slot), decode prog_1_method_55_code pc = .ok (.ireturn, 1) → va_P D cls (cw ad cc N r.1) H → va_D A (cw ad cc N r.1) → va_S A s.heap H locs → W p l e ({ frames := 2, cells := 0, slots := 0, locals := 40 }) s m args below meth c H locs 0 0 Q (F0 m pc ls [.int r.2])) : ∀ (H : Heap) (locs : List Loc) (ls : Array Slot), va_P D cls (cw ad cc N S) H → va_D A (cw ad cc N S) → va_S A s.heap H locs → lv_has ls 4 [(0, .ref (ad 11 x0)), (1, .int x1), (2, .int x2)] → W p l e ({ frames := 2, cells := 0, slots := 0, locals := 40 }) s m args below meth c H locs 0 0 Q (F0 m 33 ls []) := by
  intro H locs ls hP hD hS hl
  obtain ⟨hx, hb, hr, hml, hown, hts, hK, hA, hev, hE, hN, hNS⟩ := id hC
  unfold m_cJT_keyEnd_J33 at Heq
  refine lv_iload_n hx hb d_cJT_keyEnd_33 rfl (lv_at hl 2 rfl) ?_
  refine lv_iload_n hx hb d_cJT_keyEnd_34 rfl (lv_at hl 1 rfl) ?_
  refine lv_icmp_eq (tgt := 46) hx hb d_cJT_keyEnd_35 (by decide) (fun c_1 => ?_) (fun c_1 => ?_)
  · replace Heq := (if_pos c_1).symm.trans Heq
    exact w_cJT_keyEnd_J46 hC Heq Kr _ _ _ hP hD hS (lv_sub hl [0] rfl)
  · replace Heq := (if_neg c_1).symm.trans Heq
    refine lv_iload_n hx hb d_cJT_keyEnd_38 rfl (lv_at hl 2 rfl) ?_
    refine lv_iload_n hx hb d_cJT_keyEnd_39 rfl (lv_at hl 1 rfl) ?_
    refine lv_isub hx hb d_cJT_keyEnd_40 ?_
    refine w_i (y := x2 - x1) rfl ?_
    refine lv_bipush (v := 64) hx hb d_cJT_keyEnd_41 (by decide) ?_
    refine lv_icmp_le (tgt := 50) hx hb d_cJT_keyEnd_43 (by decide) (fun c_2 => ?_) (fun c_2 => ?_)
    · replace Heq := (if_pos c_2).symm.trans Heq
      refine lv_iload_n hx hb d_cJT_keyEnd_50 rfl (lv_at hl 2 rfl) ?_
      exact w_cJT_keyEnd_J51 hC Heq Kr _ _ _ hP hD hS (lv_sub hl [0] rfl)
    · replace Heq := (if_neg c_2).symm.trans Heq
      exact w_cJT_keyEnd_J46 hC Heq Kr _ _ _ hP hD hS (lv_sub hl [0] rfl)
def m_cJT_keyEnd_J0 (N : Nat → Nat) (x0 : Nat) (S : CS) (x1 : Int32) : Option (CS × Int32) := ob (m_cJT_keyEnd_L4 N x0 S x1 x1 0) (fun b_1 => m_cJT_keyEnd_J33 N x0 b_1.1 b_1.2.1 b_1.2.2)
set_option maxHeartbeats 4000000 in
set_option maxRecDepth 100000 in
theorem w_cJT_keyEnd_J0 {p : Program} {l : Launch} {e : Env} {s : State} {m : MethodId} {args : Array Value} {below : List Frame} {meth : Method} {c : Code} {A : Nat → Prop} {D : va_G} {ad : Nat → Nat → Nat} {cc : Nat → ClassId} {sad sav : Nat → Nat} {Q : State → Prop} (hC : MCc sad sav "JoinedTrees" prog_1_method_55_code 4 (some .int) p s m args meth c A D cc) {N : Nat → Nat} {x0 : Nat} {S : CS} {x1 : Int32} {o : CS × Int32} (Heq : m_cJT_keyEnd_J0 N x0 S x1 = some o) (Kr : ∀ r : CS × Int32, o = r → ∀ (pc : Nat) (H : Heap) (locs : List Loc) (ls : Array Slot), decode prog_1_method_55_code pc = .ok (.ireturn, 1) → va_P D cls (cw ad cc N r.1) H → va_D A (cw ad cc N r.1) → va_S A s.heap H locs → W p l e ({ frames := 2, cells := 0, slots := 0, locals := 40 }) s m args below meth c H locs 0 0 Q (F0 m pc ls [.int r.2])) : ∀ (H : Heap) (locs : List Loc) (ls : Array Slot), va_P D cls (cw ad cc N S) H → va_D A (cw ad cc N S) → va_S A s.heap H locs → lv_has ls 4 [(0, .ref (ad 11 x0)), (1, .int x1)] → W p l e ({ frames := 2, cells := 0, slots := 0, locals := 40 }) s m args below meth c H locs 0 0 Q (F0 m 0 ls []) := by
  intro H locs ls hP hD hS hl
  obtain ⟨hx, hb, hr, hml, hown, hts, hK, hA, hev, hE, hN, hNS⟩ := id hC
  unfold m_cJT_keyEnd_J0 at Heq
  refine lv_iload_n hx hb d_cJT_keyEnd_0 rfl (lv_at hl 1 rfl) ?_
  refine lv_istore_n (lv' := [(2, .int x1), (0, .ref (ad 11 x0)), (1, .int x1)]) hx hb d_cJT_keyEnd_1 rfl hl (by decide) rfl (fun ls hl => ?_)
  refine lv_iconst (v := 0) hx hb d_cJT_keyEnd_2 (by decide) ?_
  refine lv_istore_n (lv' := [(3, .int 0), (2, .int x1), (0, .ref (ad 11 x0)), (1, .int x1)]) hx hb d_cJT_keyEnd_3 rfl hl (by decide) rfl (fun ls hl => ?_)
  obtain ⟨b_1, h_2, Heq⟩ := ob_some Heq
  refine w_cJT_keyEnd_L4 hC h_2 (fun b h => ?_) _ _ _ hP hD hS (lv_sub hl [2, 3, 1, 0] rfl)
  subst h
  intro H locs ls hP hD hS hl
  exact w_cJT_keyEnd_J33 hC Heq Kr _ _ _ hP hD hS (lv_sub hl [0, 1, 2] rfl)
def m_cJT_keyEnd (N : Nat → Nat) (x0 : Nat) (S : CS) (x1 : Int32) : Option (CS × Int32) := m_cJT_keyEnd_J0 N x0 S x1
set_option maxHeartbeats 4000000 in
theorem g_cJT_keyEnd (l : Launch) (D : va_G) (sz : Nat) {ad : Nat → Nat → Nat} {cc : Nat → ClassId} {sad sav : Nat → Nat} {N : Nat → Nat} {x0 : Nat} {S : CS} {x1 : Int32} {o : CS × Int32} (Heq : m_cJT_keyEnd N x0 S x1 = some o) : Met l ⟨"JoinedTrees", "keyEnd", "(I)I"⟩ (Cond.code ⟨"JoinedTrees", "keyEnd", "(I)I"⟩ prog_1_method_55_code 4 (some .int) :: gb) ({ frames := 2, cells := 0, slots := 0, locals := 40 }) (cPc sad sav D (cw ad cc N S) (cty cc) sz [.ref (ad 11 x0), .int x1]) (va_Qi (fun (r : Int32) (_ : Unit) => r = o.2) (fun _ t => gO D (cw ad cc N o.1) (cty cc) (va_A (cw ad cc N S) sz) t) (va_A (cw ad cc N S) sz)) 0 0 (va_A (cw ad cc N S) sz) := by
  refine Met.ofW (cc := prog_1_method_55_code) (maxL := 4) (ret := (some .int)) (by decide) rfl ?_
  intro p e s m args below meth c s₁ B hml hv
  obtain ⟨rfl, hsz, hP, hK, hD0, hev, hE, hN⟩ := hv
  have hx := B.exec
  have hb := B.bytes
  have hr := B.returns
  have hts : ∀ w9 ∈ gb, w9.before [.ref (ad 11 x0), .int x1].toArray s = true := fun w9 h => atoms_spec (ws := Cond.code ⟨"JoinedTrees", "keyEnd", "(I)I"⟩ prog_1_method_55_code 4 (some .int) :: gb) B.pre w9 (List.mem_cons_of_mem _ h)
  have hown : s.vm.findClass "JoinedTrees" = some m.cls := findClass_of_methodNamed B.named
  have hlocks := B.notSynchronized
  have hNS := ns_of hP
  subst hsz
  have hD := hD0.self (sz := s.heap.size)
  generalize hAe : va_A (cw ad cc N S) s.heap.size = A at hD hev hE hNS ⊢
  have hA : ∀ q : Nat, s.heap.size ≤ q → A q := fun q h => by rw [← hAe]; exact Or.inr h
  have hS : va_S A s.heap s.heap [] := va_S.rf
  obtain ⟨ls, hl, hle⟩ : ∃ ls : Array Slot, lv_has ls 4 [(0, .ref (ad 11 x0)), (1, .int x1)] ∧ entryFrame m ([.ref (ad 11 x0), .int x1] : List Value).toArray 4 = F0 m 0 ls [] := by
    exact ⟨_, lv_entry (n := 4) _ (Nat.le_of_ble_eq_true rfl), lg_entry_eq ..⟩
  rw [hle]
  refine w_cJT_keyEnd_J0 ⟨hx, hb, hr, hml, hown, hts, hK, hA, hev, hE, hN, hNS⟩ Heq (fun r h pc H locs ls hd hP hD hS => ?_) _ _ _ hP hD hS (lv_sub hl [0, 1] rfl)
  subst h
  exact W.iret hx hb hr (fun t ht hW => ⟨⟨_, (), rfl, rfl, by rw [ht]; exact hP, va_K.moved hW.alike hK, hD⟩, hS.F ht⟩) hS.2.2 hd
def m_cJT_indexEnd_B4 (N : Nat → Nat) (x0 : Nat) (S : CS) (x1 : Int32) (x2 : Int32) (x3 : Int32) : Option ((CS × Int32 × Int32 × Int32) ⊕ (CS × Int32 × Int32)) := (if 6 ≤ x3 then some (.inr (S, x1, x2)) else gl x0 (N 11) (gn (S.r 11 9 x0) (N 5) (fun j_2 => ob (m_cRw_at N j_2 S x2) (fun o_5 => ob (m_cJT_isDigit N o_5.1 o_5.2) (fun o_7 => (if o_7.2 = 0 then some (.inr (o_7.1, x1, x2)) else some (.inl (o_7.1, x1, (x2 + 1), (x3 + 1)))))))))
theorem d_cJT_indexEnd_0 : decode prog_1_method_56_code 0 = .ok (.iload_n 1, 1) := by decide +kernel
theorem d_cJT_indexEnd_1 : decode prog_1_method_56_code 1 = .ok (.istore_n 2, 1) := by decide +kernel
theorem d_cJT_indexEnd_2 : decode prog_1_method_56_code 2 = .ok (.iconst 0, 1) := by decide +kernel
theorem d_cJT_indexEnd_3 : decode prog_1_method_56_code 3 = .ok (.istore_n 3, 1) := by decide +kernel
theorem d_cJT_indexEnd_4 : decode prog_1_method_56_code 4 = .ok (.iload_n 3, 1) := by decide +kernel
theorem d_cJT_indexEnd_5 : decode prog_1_method_56_code 5 = .ok (.bipush 6, 2) := by decide +kernel
theorem d_cJT_indexEnd_7 : decode prog_1_method_56_code 7 = .ok (.if_icmp .ge 26, 3) := by decide +kernel
theorem d_cJT_indexEnd_10 : decode prog_1_method_56_code 10 = .ok (.aload_n 0, 1) := by decide +kernel
theorem d_cJT_indexEnd_11 : decode prog_1_method_56_code 11 = .ok (.getfield 70, 3) := by decide +kernel
theorem d_cJT_indexEnd_14 : decode prog_1_method_56_code 14 = .ok (.iload_n 2, 1) := by decide +kernel
theorem d_cJT_indexEnd_15 : decode prog_1_method_56_code 15 = .ok (.invokevirtual 293, 3) := by decide +kernel
theorem d_cJT_indexEnd_18 : decode prog_1_method_56_code 18 = .ok (.invokestatic 480, 3) := by decide +kernel
theorem d_cJT_indexEnd_21 : decode prog_1_method_56_code 21 = .ok (.ifCond .eq 12, 3) := by decide +kernel
theorem d_cJT_indexEnd_24 : decode prog_1_method_56_code 24 = .ok (.iinc 2 1, 3) := by decide +kernel
theorem d_cJT_indexEnd_27 : decode prog_1_method_56_code 27 = .ok (.iinc 3 1, 3) := by decide +kernel
theorem d_cJT_indexEnd_30 : decode prog_1_method_56_code 30 = .ok (.goto (-26), 3) := by decide +kernel
set_option maxHeartbeats 4000000 in
set_option maxRecDepth 100000 in
theorem w_cJT_indexEnd_B4 {p : Program} {l : Launch} {e : Env} {s : State} {m : MethodId} {args : Array Value} {below : List Frame} {meth : Method} {c : Code} {A : Nat → Prop} {D : va_G} {ad : Nat → Nat → Nat} {cc : Nat → ClassId} {sad sav : Nat → Nat} {Q : State → Prop} (hC : MCc sad sav "JoinedTrees" prog_1_method_56_code 4 (some .int) p s m args meth c A D cc) {N : Nat → Nat} {x0 : Nat} {S : CS} {x1 : Int32} {x2 : Int32} {x3 : Int32} {o : ((CS × Int32 × Int32 × Int32) ⊕ (CS × Int32 × Int32))} (Heq : m_cJT_indexEnd_B4 N x0 S x1 x2 x3 = some o) (Ka : ∀ b : CS × Int32 × Int32 × Int32, o = .inl b → ∀ (H : Heap) (locs : List Loc) (ls : Array Slot), va_P D cls (cw ad cc N b.1) H → va_D A (cw ad cc N b.1) → va_S A s.heap H locs → lv_has ls 4 [(0, .ref (ad 11 x0)), (1, .int b.2.1), (2, .int b.2.2.1), (3, .int b.2.2.2)] → W p l e ({ frames := 1, cells := 0, slots := 0, locals := 21 }) s m args below meth c H locs 0 0 Q (F0 m 4 ls [])) (K0 : ∀ b : CS × Int32 × Int32, o = .inr b → ∀ (H : Heap) (locs : List Loc) (ls : Array Slot), va_P D cls (cw ad cc N b.1) H → va_D A (cw ad cc N b.1) → va_S A s.heap H locs → lv_has ls 4 [(0, .ref (ad 11 x0)), (1, .int b.2.1), (2, .int b.2.2)] → W p l e ({ frames := 1, cells := 0, slots := 0, locals := 21 }) s m args below meth c H locs 0 0 Q (F0 m 33 ls [])) : ∀ (H : Heap) (locs : List Loc) (ls : Array Slot), va_P D cls (cw ad cc N S) H → va_D A (cw ad cc N S) → va_S A s.heap H locs → lv_has ls 4 [(0, .ref (ad 11 x0)), (1, .int x1), (2, .int x2), (3, .int x3)] → W p l e ({ frames := 1, cells := 0, slots := 0, locals := 21 }) s m args below meth c H locs 0 0 Q (F0 m 4 ls []) := by
  intro H locs ls hP hD hS hl
  obtain ⟨hx, hb, hr, hml, hown, hts, hK, hA, hev, hE, hN, hNS⟩ := id hC
  unfold m_cJT_indexEnd_B4 at Heq
  refine lv_iload_n hx hb d_cJT_indexEnd_4 rfl (lv_at hl 3 rfl) ?_
  refine lv_bipush (v := 6) hx hb d_cJT_indexEnd_5 (by decide) ?_
  refine lv_icmp_ge (tgt := 33) hx hb d_cJT_indexEnd_7 (by decide) (fun c_1 => ?_) (fun c_1 => ?_)
  · replace Heq := (if_pos c_1).symm.trans Heq
    exact K0 _ (Option.some.inj Heq).symm _ _ _ hP hD hS (lv_sub hl [0, 1, 2] rfl)
  · replace Heq := (if_neg c_1).symm.trans Heq
    refine lv_aload_n hx hb d_cJT_indexEnd_10 rfl (lv_at hl 0 rfl) ?_
    obtain ⟨hl_x0_11, Heq⟩ := gl_some Heq
    refine va_get (D := D) (ci := 11) (v := rv ad 5 (S.r 11 9 x0)) (C := R_JT) (T := F_JT) (N := 13) hx hb hts i_JT hown hK hP (cPos N 11 x0) (cw_obj (k := 11) (by decide) hl_x0_11) rfl 9 (by decide) (hts _ kw_430) (fun _ h9 => h9) rfl d_cJT_indexEnd_11 ?_
    refine lv_iload_n hx hb d_cJT_indexEnd_14 rfl (lv_at hl 2 rfl) ?_
    obtain ⟨j_2, hj_3, hl_4, Heq⟩ := gn_some Heq
    refine w_s (st' := [.int x2, .ref (ad 5 j_2)]) (congrArg (fun z9 : Option Nat => [.int x2, rv ad 5 z9]) hj_3) ?_
    obtain ⟨o_5, h_6, Heq⟩ := ob_some Heq
    have hFc := fr_all hD hS hA
    refine va_calli (va_runV (As := [.int x2]) (rest := []) ⟨hx, hb, hml, hown, hts⟩ (g_cRw_at l D H.size (ad := ad) (cc := cc) (sad := sad) (sav := sav) h_6) (cw_v 1 hts kw_689 kw_1136 kw_687 kw_688 kw_4 rfl rfl (by decide +kernel) ⟨Nat.le_of_ble_eq_true rfl, Nat.le_of_ble_eq_true rfl⟩) ⟨c_blind, va_recv hK hP (ci := 5) (q0 := cPos N 5 j_2) rfl (cw_obj (k := 5) (by decide) hl_4), fun U hU hW => c_pre hU hW hP hK hD hev hE hN hNS hS hFc⟩ rfl rfl hl.1 rfl (lv_room (Nat.le_of_ble_eq_true rfl)) d_cJT_indexEnd_15 ⟨Nat.le_of_ble_eq_true rfl, Nat.le_of_ble_eq_true rfl⟩) hS (fun q _ h => hFc q h) hFc (fun rz u t H1 locs ht hvm hw hB hz1 hk1 hS => ?_)
    obtain ⟨hP, -, hD1⟩ := hB
    rw [ht] at hP
    have hD := hD1.weaken (fun _ q _ h => hFc q.1 h)
    generalize H1 = H at hP hS ⊢
    refine W.cs (cells' := 0) (slots' := 0) rfl rfl ?_
    subst hw
    obtain ⟨o_7, h_8, Heq⟩ := ob_some Heq
    have hFc := fr_all hD hS hA
    refine va_calli (va_runS (As := [.int o_5.2]) (rest := []) ⟨hx, hb, hml, hown, hts⟩ (g_cJT_isDigit l D H.size (ad := ad) (cc := cc) (sad := sad) (sav := sav) h_8) (cw_s 1 hts kw_964 kw_1196 kw_963 kw_1 rfl rfl (by decide +kernel) ⟨Nat.le_of_ble_eq_true rfl, Nat.le_of_ble_eq_true rfl⟩) ⟨c_blind, fun U hU hW => c_pre hU hW hP hK hD hev hE hN hNS hS hFc⟩ rfl rfl hl.1 rfl (lv_room (Nat.le_of_ble_eq_true rfl)) d_cJT_indexEnd_18 ⟨Nat.le_of_ble_eq_true rfl, Nat.le_of_ble_eq_true rfl⟩) hS (fun q _ h => hFc q h) hFc (fun rz u t H1 locs ht hvm hw hB hz1 hk1 hS => ?_)
    obtain ⟨hP, -, hD1⟩ := hB
    rw [ht] at hP
    have hD := hD1.weaken (fun _ q _ h => hFc q.1 h)
    generalize H1 = H at hP hS ⊢
    refine W.cs (cells' := 0) (slots' := 0) rfl rfl ?_
    subst hw
    refine lv_if_eq (tgt := 33) hx hb d_cJT_indexEnd_21 (by decide) (fun c_9 => ?_) (fun c_9 => ?_)
    · replace Heq := (if_pos c_9).symm.trans Heq
      exact K0 _ (Option.some.inj Heq).symm _ _ _ hP hD hS (lv_sub hl [0, 1, 2] rfl)
    · replace Heq := (if_neg c_9).symm.trans Heq
      refine lv_iinc (v := x2 + 1) (lv' := [(2, .int (x2 + 1)), (0, .ref (ad 11 x0)), (1, .int x1), (3, .int x3)]) hx hb d_cJT_indexEnd_24 hl (k := 2) rfl rfl (by decide) rfl (fun ls hl => ?_)
      refine lv_iinc (v := x3 + 1) (lv' := [(3, .int (x3 + 1)), (2, .int (x2 + 1)), (0, .ref (ad 11 x0)), (1, .int x1)]) hx hb d_cJT_indexEnd_27 hl (k := 3) rfl rfl (by decide) rfl (fun ls hl => ?_)
      refine lv_goto (tgt := 4) hx hb d_cJT_indexEnd_30 (by decide) ?_
      exact Ka _ (Option.some.inj Heq).symm _ _ _ hP hD hS (lv_sub hl [2, 3, 1, 0] rfl)
def m_cJT_indexEnd_L4 (N : Nat → Nat) (x0 : Nat) (S : CS) (x1 : Int32) (x2 : Int32) (x3 : Int32) : Option (CS × Int32 × Int32) := lp (fun a : CS × Int32 × Int32 × Int32 => m_cJT_indexEnd_B4 N x0 a.1 a.2.1 a.2.2.1 a.2.2.2) FU (S, x1, x2, x3)
theorem w_cJT_indexEnd_L4 {p : Program} {l : Launch} {e : Env} {s : State} {m : MethodId} {args : Array Value} {below : List Frame} {meth : Method} {c : Code} {A : Nat → Prop} {D : va_G} {ad : Nat → Nat → Nat} {cc : Nat → ClassId} {sad sav : Nat → Nat} {Q : State → Prop} (hC : MCc sad sav "JoinedTrees" prog_1_method_56_code 4 (some .int) p s m args meth c A D cc) {N : Nat → Nat} {x0 : Nat} {S : CS} {x1 : Int32} {x2 : Int32} {x3 : Int32} {o : CS × Int32 × Int32} (Heq : m_cJT_indexEnd_L4 N x0 S x1 x2 x3 = some o) (K0 : ∀ b : CS × Int32 × Int32, o = b → ∀ (H : Heap) (locs : List Loc) (ls : Array Slot), va_P D cls (cw ad cc N b.1) H → va_D A (cw ad cc N b.1) → va_S A s.heap H locs → lv_has ls 4 [(0, .ref (ad 11 x0)), (1, .int b.2.1), (2, .int b.2.2)] → W p l e ({ frames := 1, cells := 0, slots := 0, locals := 21 }) s m args below meth c H locs 0 0 Q (F0 m 33 ls [])) : ∀ (H : Heap) (locs : List Loc) (ls : Array Slot), va_P D cls (cw ad cc N S) H → va_D A (cw ad cc N S) → va_S A s.heap H locs → lv_has ls 4 [(0, .ref (ad 11 x0)), (1, .int x1), (2, .int x2), (3, .int x3)] → W p l e ({ frames := 1, cells := 0, slots := 0, locals := 21 }) s m args below meth c H locs 0 0 Q (F0 m 4 ls []) := by
  refine lp_w (G := fun a : CS × Int32 × Int32 × Int32 => ∀ (H : Heap) (locs : List Loc) (ls : Array Slot), va_P D cls (cw ad cc N a.1) H → va_D A (cw ad cc N a.1) → va_S A s.heap H locs → lv_has ls 4 [(0, .ref (ad 11 x0)), (1, .int a.2.1), (2, .int a.2.2.1), (3, .int a.2.2.2)] → W p l e ({ frames := 1, cells := 0, slots := 0, locals := 21 }) s m args below meth c H locs 0 0 Q (F0 m 4 ls [])) ?_ FU (S, x1, x2, x3) Heq
  intro a o1 ho Ka Ke
  exact w_cJT_indexEnd_B4 hC ho (fun b h => Ka b h) (fun b h => K0 b (Ke _ h).symm)
def m_cJT_indexEnd_J58 (N : Nat → Nat) (x0 : Nat) (S : CS) (t0 : Int32) : Option (CS × Int32) := some (S, t0)
theorem d_cJT_indexEnd_33 : decode prog_1_method_56_code 33 = .ok (.iload_n 2, 1) := by decide +kernel
theorem d_cJT_indexEnd_34 : decode prog_1_method_56_code 34 = .ok (.iload_n 1, 1) := by decide +kernel
theorem d_cJT_indexEnd_35 : decode prog_1_method_56_code 35 = .ok (.if_icmp .eq 16, 3) := by decide +kernel
theorem d_cJT_indexEnd_51 : decode prog_1_method_56_code 51 = .ok (.iconst (-1), 1) := by decide +kernel
theorem d_cJT_indexEnd_52 : decode prog_1_method_56_code 52 = .ok (.goto 6, 3) := by decide +kernel
theorem d_cJT_indexEnd_58 : decode prog_1_method_56_code 58 = .ok (.ireturn, 1) := by decide +kernel
set_option maxHeartbeats 4000000 in
set_option maxRecDepth 100000 in
theorem w_cJT_indexEnd_J58 {p : Program} {l : Launch} {e : Env} {s : State} {m : MethodId} {args : Array Value} {below : List Frame} {meth : Method} {c : Code} {A : Nat → Prop} {D : va_G} {ad : Nat → Nat → Nat} {cc : Nat → ClassId} {sad sav : Nat → Nat} {Q : State → Prop} (hC : MCc sad sav "JoinedTrees" prog_1_method_56_code 4 (some .int) p s m args meth c A D cc) {N : Nat → Nat} {x0 : Nat} {S : CS} {t0 : Int32} {o : CS × Int32} (Heq : m_cJT_indexEnd_J58 N x0 S t0 = some o) (Kr : ∀ r : CS × Int32, o = r → ∀ (pc : Nat) (H : Heap) (locs : List Loc) (ls : Array Slot), decode prog_1_method_56_code pc = .ok (.ireturn, 1) → va_P D cls (cw ad cc N r.1) H → va_D A (cw ad cc N r.1) → va_S A s.heap H locs → W p l e ({ frames := 1, cells := 0, slots := 0, locals := 21 }) s m args below meth c H locs 0 0 Q (F0 m pc ls [.int r.2])) : ∀ (H : Heap) (locs : List Loc) (ls : Array Slot), va_P D cls (cw ad cc N S) H → va_D A (cw ad cc N S) → va_S A s.heap H locs → lv_has ls 4 [(0, .ref (ad 11 x0))] → W p l e ({ frames := 1, cells := 0, slots := 0, locals := 21 }) s m args below meth c H locs 0 0 Q (F0 m 58 ls [.int t0]) := by
  intro H locs ls hP hD hS hl
  obtain ⟨hx, hb, hr, hml, hown, hts, hK, hA, hev, hE, hN, hNS⟩ := id hC
  unfold m_cJT_indexEnd_J58 at Heq
  exact Kr _ (Option.some.inj Heq).symm 58 _ _ _ d_cJT_indexEnd_58 hP hD hS
def m_cJT_indexEnd_J51 (N : Nat → Nat) (x0 : Nat) (S : CS) : Option (CS × Int32) := m_cJT_indexEnd_J58 N x0 S (-1)
set_option maxHeartbeats 4000000 in
set_option maxRecDepth 100000 in
theorem w_cJT_indexEnd_J51 {p : Program} {l : Launch} {e : Env} {s : State} {m : MethodId} {args : Array Value} {below : List Frame} {meth : Method} {c : Code} {A : Nat → Prop} {D : va_G} {ad : Nat → Nat → Nat} {cc : Nat → ClassId} {sad sav : Nat → Nat} {Q : State → Prop} (hC : MCc sad sav "JoinedTrees" prog_1_method_56_code 4 (some .int) p s m args meth c A D cc) {N : Nat → Nat} {x0 : Nat} {S : CS} {o : CS × Int32} (Heq : m_cJT_indexEnd_J51 N x0 S = some o) (Kr : ∀ r : CS × Int32, o = r → ∀ (pc : Nat) (H : Heap) (locs : List Loc) (ls : Array Slot), decode prog_1_method_56_code pc = .ok (.ireturn, 1) → va_P D cls (cw ad cc N r.1) H → va_D A (cw ad cc N r.1) → va_S A s.heap H locs → W p l e ({ frames := 1, cells := 0, slots := 0, locals := 21 }) s m args below meth c H locs 0 0 Q (F0 m pc ls [.int r.2])) : ∀ (H : Heap) (locs : List Loc) (ls : Array Slot), va_P D cls (cw ad cc N S) H → va_D A (cw ad cc N S) → va_S A s.heap H locs → lv_has ls 4 [(0, .ref (ad 11 x0))] → W p l e ({ frames := 1, cells := 0, slots := 0, locals := 21 }) s m args below meth c H locs 0 0 Q (F0 m 51 ls []) := by
  intro H locs ls hP hD hS hl
  obtain ⟨hx, hb, hr, hml, hown, hts, hK, hA, hev, hE, hN, hNS⟩ := id hC
  unfold m_cJT_indexEnd_J51 at Heq
  refine lv_iconst (v := (-1)) hx hb d_cJT_indexEnd_51 (by decide) ?_
  refine lv_goto (tgt := 58) hx hb d_cJT_indexEnd_52 (by decide) ?_
  exact w_cJT_indexEnd_J58 hC Heq Kr _ _ _ hP hD hS (lv_sub hl [0] rfl)
def m_cJT_indexEnd_J33 (N : Nat → Nat) (x0 : Nat) (S : CS) (x1 : Int32) (x2 : Int32) : Option (CS × Int32) := (if x2 = x1 then m_cJT_indexEnd_J51 N x0 S else gl x0 (N 11) (gn (S.r 11 9 x0) (N 5) (fun j_2 => ob (m_cRw_at N j_2 S x2) (fun o_5 => (if o_5.2 = 93 then m_cJT_indexEnd_J58 N x0 o_5.1 (x2 + 1) else m_cJT_indexEnd_J51 N x0 o_5.1)))))
theorem d_cJT_indexEnd_38 : decode prog_1_method_56_code 38 = .ok (.aload_n 0, 1) := by decide +kernel
theorem d_cJT_indexEnd_39 : decode prog_1_method_56_code 39 = .ok (.getfield 70, 3) := by decide +kernel
theorem d_cJT_indexEnd_42 : decode prog_1_method_56_code 42 = .ok (.iload_n 2, 1) := by decide +kernel
theorem d_cJT_indexEnd_43 : decode prog_1_method_56_code 43 = .ok (.invokevirtual 293, 3) := by decide +kernel
theorem d_cJT_indexEnd_46 : decode prog_1_method_56_code 46 = .ok (.bipush 93, 2) := by decide +kernel
theorem d_cJT_indexEnd_48 : decode prog_1_method_56_code 48 = .ok (.if_icmp .eq 7, 3) := by decide +kernel
theorem d_cJT_indexEnd_55 : decode prog_1_method_56_code 55 = .ok (.iload_n 2, 1) := by decide +kernel
theorem d_cJT_indexEnd_56 : decode prog_1_method_56_code 56 = .ok (.iconst 1, 1) := by decide +kernel
theorem d_cJT_indexEnd_57 : decode prog_1_method_56_code 57 = .ok (.iadd, 1) := by decide +kernel
set_option maxHeartbeats 4000000 in
set_option maxRecDepth 100000 in
theorem w_cJT_indexEnd_J33 {p : Program} {l : Launch} {e : Env} {s : State} {m : MethodId} {args : Array Value} {below : List Frame} {meth : Method} {c : Code} {A : Nat → Prop} {D : va_G} {ad : Nat → Nat → Nat} {cc : Nat → ClassId} {sad sav : Nat → Nat} {Q : State → Prop} (hC : MCc sad sav "JoinedTrees" prog_1_method_56_code 4 (some .int) p s m args meth c A D cc) {N : Nat → Nat} {x0 : Nat} {S : CS} {x1 : Int32} {x2 : Int32} {o : CS × Int32} (Heq : m_cJT_indexEnd_J33 N x0 S x1 x2 = some o) (Kr : ∀ r : CS × Int32, o = r → ∀ (pc : Nat) (H : Heap) (locs : List Loc) (ls : Array Slot), decode prog_1_method_56_code pc = .ok (.ireturn, 1) → va_P D cls (cw ad cc N r.1) H → va_D A (cw ad cc N r.1) → va_S A s.heap H locs → W p l e ({ frames := 1, cells := 0, slots := 0, locals := 21 }) s m args below meth c H locs 0 0 Q (F0 m pc ls [.int r.2])) : ∀ (H : Heap) (locs : List Loc) (ls : Array Slot), va_P D cls (cw ad cc N S) H → va_D A (cw ad cc N S) → va_S A s.heap H locs → lv_has ls 4 [(0, .ref (ad 11 x0)), (1, .int x1), (2, .int x2)] → W p l e ({ frames := 1, cells := 0, slots := 0, locals := 21 }) s m args below meth c H locs 0 0 Q (F0 m 33 ls []) := by
  intro H locs ls hP hD hS hl
  obtain ⟨hx, hb, hr, hml, hown, hts, hK, hA, hev, hE, hN, hNS⟩ := id hC
  unfold m_cJT_indexEnd_J33 at Heq
  refine lv_iload_n hx hb d_cJT_indexEnd_33 rfl (lv_at hl 2 rfl) ?_
  refine lv_iload_n hx hb d_cJT_indexEnd_34 rfl (lv_at hl 1 rfl) ?_
  refine lv_icmp_eq (tgt := 51) hx hb d_cJT_indexEnd_35 (by decide) (fun c_1 => ?_) (fun c_1 => ?_)
  · replace Heq := (if_pos c_1).symm.trans Heq
    exact w_cJT_indexEnd_J51 hC Heq Kr _ _ _ hP hD hS (lv_sub hl [0] rfl)
  · replace Heq := (if_neg c_1).symm.trans Heq
    refine lv_aload_n hx hb d_cJT_indexEnd_38 rfl (lv_at hl 0 rfl) ?_
    obtain ⟨hl_x0_11, Heq⟩ := gl_some Heq
    refine va_get (D := D) (ci := 11) (v := rv ad 5 (S.r 11 9 x0)) (C := R_JT) (T := F_JT) (N := 13) hx hb hts i_JT hown hK hP (cPos N 11 x0) (cw_obj (k := 11) (by decide) hl_x0_11) rfl 9 (by decide) (hts _ kw_430) (fun _ h9 => h9) rfl d_cJT_indexEnd_39 ?_
    refine lv_iload_n hx hb d_cJT_indexEnd_42 rfl (lv_at hl 2 rfl) ?_
    obtain ⟨j_2, hj_3, hl_4, Heq⟩ := gn_some Heq
    refine w_s (st' := [.int x2, .ref (ad 5 j_2)]) (congrArg (fun z9 : Option Nat => [.int x2, rv ad 5 z9]) hj_3) ?_
    obtain ⟨o_5, h_6, Heq⟩ := ob_some Heq
    have hFc := fr_all hD hS hA
    refine va_calli (va_runV (As := [.int x2]) (rest := []) ⟨hx, hb, hml, hown, hts⟩ (g_cRw_at l D H.size (ad := ad) (cc := cc) (sad := sad) (sav := sav) h_6) (cw_v 1 hts kw_689 kw_1136 kw_687 kw_688 kw_4 rfl rfl (by decide +kernel) ⟨Nat.le_of_ble_eq_true rfl, Nat.le_of_ble_eq_true rfl⟩) ⟨c_blind, va_recv hK hP (ci := 5) (q0 := cPos N 5 j_2) rfl (cw_obj (k := 5) (by decide) hl_4), fun U hU hW => c_pre hU hW hP hK hD hev hE hN hNS hS hFc⟩ rfl rfl hl.1 rfl (lv_room (Nat.le_of_ble_eq_true rfl)) d_cJT_indexEnd_43 ⟨Nat.le_of_ble_eq_true rfl, Nat.le_of_ble_eq_true rfl⟩) hS (fun q _ h => hFc q h) hFc (fun rz u t H1 locs ht hvm hw hB hz1 hk1 hS => ?_)
    obtain ⟨hP, -, hD1⟩ := hB
    rw [ht] at hP
    have hD := hD1.weaken (fun _ q _ h => hFc q.1 h)
    generalize H1 = H at hP hS ⊢
    refine W.cs (cells' := 0) (slots' := 0) rfl rfl ?_
    subst hw
    refine lv_bipush (v := 93) hx hb d_cJT_indexEnd_46 (by decide) ?_
    refine lv_icmp_eq (tgt := 55) hx hb d_cJT_indexEnd_48 (by decide) (fun c_7 => ?_) (fun c_7 => ?_)
    · replace Heq := (if_pos c_7).symm.trans Heq
      refine lv_iload_n hx hb d_cJT_indexEnd_55 rfl (lv_at hl 2 rfl) ?_
      refine lv_iconst (v := 1) hx hb d_cJT_indexEnd_56 (by decide) ?_
      refine lv_iadd hx hb d_cJT_indexEnd_57 ?_
      refine w_i (y := x2 + 1) rfl ?_
      exact w_cJT_indexEnd_J58 hC Heq Kr _ _ _ hP hD hS (lv_sub hl [0] rfl)
    · replace Heq := (if_neg c_7).symm.trans Heq
      exact w_cJT_indexEnd_J51 hC Heq Kr _ _ _ hP hD hS (lv_sub hl [0] rfl)
def m_cJT_indexEnd_J0 (N : Nat → Nat) (x0 : Nat) (S : CS) (x1 : Int32) : Option (CS × Int32) := ob (m_cJT_indexEnd_L4 N x0 S x1 x1 0) (fun b_1 => m_cJT_indexEnd_J33 N x0 b_1.1 b_1.2.1 b_1.2.2)
set_option maxHeartbeats 4000000 in
set_option maxRecDepth 100000 in
theorem w_cJT_indexEnd_J0 {p : Program} {l : Launch} {e : Env} {s : State} {m : MethodId} {args : Array Value} {below : List Frame} {meth : Method} {c : Code} {A : Nat → Prop} {D : va_G} {ad : Nat → Nat → Nat} {cc : Nat → ClassId} {sad sav : Nat → Nat} {Q : State → Prop} (hC : MCc sad sav "JoinedTrees" prog_1_method_56_code 4 (some .int) p s m args meth c A D cc) {N : Nat → Nat} {x0 : Nat} {S : CS} {x1 : Int32} {o : CS × Int32} (Heq : m_cJT_indexEnd_J0 N x0 S x1 = some o) (Kr : ∀ r : CS × Int32, o = r → ∀ (pc : Nat) (H : Heap) (locs : List Loc) (ls : Array Slot), decode prog_1_method_56_code pc = .ok (.ireturn, 1) → va_P D cls (cw ad cc N r.1) H → va_D A (cw ad cc N r.1) → va_S A s.heap H locs → W p l e ({ frames := 1, cells := 0, slots := 0, locals := 21 }) s m args below meth c H locs 0 0 Q (F0 m pc ls [.int r.2])) : ∀ (H : Heap) (locs : List Loc) (ls : Array Slot), va_P D cls (cw ad cc N S) H → va_D A (cw ad cc N S) → va_S A s.heap H locs → lv_has ls 4 [(0, .ref (ad 11 x0)), (1, .int x1)] → W p l e ({ frames := 1, cells := 0, slots := 0, locals := 21 }) s m args below meth c H locs 0 0 Q (F0 m 0 ls []) := by
  intro H locs ls hP hD hS hl
  obtain ⟨hx, hb, hr, hml, hown, hts, hK, hA, hev, hE, hN, hNS⟩ := id hC
  unfold m_cJT_indexEnd_J0 at Heq
  refine lv_iload_n hx hb d_cJT_indexEnd_0 rfl (lv_at hl 1 rfl) ?_
  refine lv_istore_n (lv' := [(2, .int x1), (0, .ref (ad 11 x0)), (1, .int x1)]) hx hb d_cJT_indexEnd_1 rfl hl (by decide) rfl (fun ls hl => ?_)
  refine lv_iconst (v := 0) hx hb d_cJT_indexEnd_2 (by decide) ?_
  refine lv_istore_n (lv' := [(3, .int 0), (2, .int x1), (0, .ref (ad 11 x0)), (1, .int x1)]) hx hb d_cJT_indexEnd_3 rfl hl (by decide) rfl (fun ls hl => ?_)
  obtain ⟨b_1, h_2, Heq⟩ := ob_some Heq
  refine w_cJT_indexEnd_L4 hC h_2 (fun b h => ?_) _ _ _ hP hD hS (lv_sub hl [2, 3, 1, 0] rfl)
  subst h
  intro H locs ls hP hD hS hl
  exact w_cJT_indexEnd_J33 hC Heq Kr _ _ _ hP hD hS (lv_sub hl [0, 1, 2] rfl)
def m_cJT_indexEnd (N : Nat → Nat) (x0 : Nat) (S : CS) (x1 : Int32) : Option (CS × Int32) := m_cJT_indexEnd_J0 N x0 S x1
set_option maxHeartbeats 4000000 in
theorem g_cJT_indexEnd (l : Launch) (D : va_G) (sz : Nat) {ad : Nat → Nat → Nat} {cc : Nat → ClassId} {sad sav : Nat → Nat} {N : Nat → Nat} {x0 : Nat} {S : CS} {x1 : Int32} {o : CS × Int32} (Heq : m_cJT_indexEnd N x0 S x1 = some o) : Met l ⟨"JoinedTrees", "indexEnd", "(I)I"⟩ (Cond.code ⟨"JoinedTrees", "indexEnd", "(I)I"⟩ prog_1_method_56_code 4 (some .int) :: gb) ({ frames := 1, cells := 0, slots := 0, locals := 21 }) (cPc sad sav D (cw ad cc N S) (cty cc) sz [.ref (ad 11 x0), .int x1]) (va_Qi (fun (r : Int32) (_ : Unit) => r = o.2) (fun _ t => gO D (cw ad cc N o.1) (cty cc) (va_A (cw ad cc N S) sz) t) (va_A (cw ad cc N S) sz)) 0 0 (va_A (cw ad cc N S) sz) := by
  refine Met.ofW (cc := prog_1_method_56_code) (maxL := 4) (ret := (some .int)) (by decide) rfl ?_
  intro p e s m args below meth c s₁ B hml hv
  obtain ⟨rfl, hsz, hP, hK, hD0, hev, hE, hN⟩ := hv
  have hx := B.exec
  have hb := B.bytes
  have hr := B.returns
  have hts : ∀ w9 ∈ gb, w9.before [.ref (ad 11 x0), .int x1].toArray s = true := fun w9 h => atoms_spec (ws := Cond.code ⟨"JoinedTrees", "indexEnd", "(I)I"⟩ prog_1_method_56_code 4 (some .int) :: gb) B.pre w9 (List.mem_cons_of_mem _ h)
  have hown : s.vm.findClass "JoinedTrees" = some m.cls := findClass_of_methodNamed B.named
  have hlocks := B.notSynchronized
  have hNS := ns_of hP
  subst hsz
  have hD := hD0.self (sz := s.heap.size)
  generalize hAe : va_A (cw ad cc N S) s.heap.size = A at hD hev hE hNS ⊢
  have hA : ∀ q : Nat, s.heap.size ≤ q → A q := fun q h => by rw [← hAe]; exact Or.inr h
  have hS : va_S A s.heap s.heap [] := va_S.rf
  obtain ⟨ls, hl, hle⟩ : ∃ ls : Array Slot, lv_has ls 4 [(0, .ref (ad 11 x0)), (1, .int x1)] ∧ entryFrame m ([.ref (ad 11 x0), .int x1] : List Value).toArray 4 = F0 m 0 ls [] := by
    exact ⟨_, lv_entry (n := 4) _ (Nat.le_of_ble_eq_true rfl), lg_entry_eq ..⟩
  rw [hle]
  refine w_cJT_indexEnd_J0 ⟨hx, hb, hr, hml, hown, hts, hK, hA, hev, hE, hN, hNS⟩ Heq (fun r h pc H locs ls hd hP hD hS => ?_) _ _ _ hP hD hS (lv_sub hl [0, 1] rfl)
  subst h
  exact W.iret hx hb hr (fun t ht hW => ⟨⟨_, (), rfl, rfl, by rw [ht]; exact hP, va_K.moved hW.alike hK, hD⟩, hS.F ht⟩) hS.2.2 hd
def m_cJT_stepEnd_J52 (N : Nat → Nat) (x0 : Nat) (S : CS) (t0 : Int32) : Option (CS × Int32) := some (S, t0)
theorem d_cJT_stepEnd_0 : decode prog_1_method_54_code 0 = .ok (.iload_n 1, 1) := by decide +kernel
theorem d_cJT_stepEnd_1 : decode prog_1_method_54_code 1 = .ok (.ifCond .ne 9, 3) := by decide +kernel
theorem d_cJT_stepEnd_10 : decode prog_1_method_54_code 10 = .ok (.aload_n 0, 1) := by decide +kernel
theorem d_cJT_stepEnd_11 : decode prog_1_method_54_code 11 = .ok (.getfield 70, 3) := by decide +kernel
theorem d_cJT_stepEnd_14 : decode prog_1_method_54_code 14 = .ok (.iload_n 1, 1) := by decide +kernel
theorem d_cJT_stepEnd_15 : decode prog_1_method_54_code 15 = .ok (.invokevirtual 293, 3) := by decide +kernel
theorem d_cJT_stepEnd_18 : decode prog_1_method_54_code 18 = .ok (.istore_n 2, 1) := by decide +kernel
theorem d_cJT_stepEnd_19 : decode prog_1_method_54_code 19 = .ok (.iload_n 2, 1) := by decide +kernel
theorem d_cJT_stepEnd_20 : decode prog_1_method_54_code 20 = .ok (.bipush 46, 2) := by decide +kernel
theorem d_cJT_stepEnd_22 : decode prog_1_method_54_code 22 = .ok (.if_icmp .ne 13, 3) := by decide +kernel
theorem d_cJT_stepEnd_35 : decode prog_1_method_54_code 35 = .ok (.iload_n 2, 1) := by decide +kernel
theorem d_cJT_stepEnd_36 : decode prog_1_method_54_code 36 = .ok (.bipush 91, 2) := by decide +kernel
theorem d_cJT_stepEnd_38 : decode prog_1_method_54_code 38 = .ok (.if_icmp .ne 13, 3) := by decide +kernel
theorem d_cJT_stepEnd_51 : decode prog_1_method_54_code 51 = .ok (.iconst (-1), 1) := by decide +kernel
theorem d_cJT_stepEnd_52 : decode prog_1_method_54_code 52 = .ok (.ireturn, 1) := by decide +kernel
set_option maxHeartbeats 4000000 in
set_option maxRecDepth 100000 in
theorem w_cJT_stepEnd_J52 {p : Program} {l : Launch} {e : Env} {s : State} {m : MethodId} {args : Array Value} {below : List Frame} {meth : Method} {c : Code} {A : Nat → Prop} {D : va_G} {ad : Nat → Nat → Nat} {cc : Nat → ClassId} {sad sav : Nat → Nat} {Q : State → Prop} (hC : MCc sad sav "JoinedTrees" prog_1_method_54_code 3 (some .int) p s m args meth c A D cc) {N : Nat → Nat} {x0 : Nat} {S : CS} {t0 : Int32} {o : CS × Int32} (Heq : m_cJT_stepEnd_J52 N x0 S t0 = some o) (Kr : ∀ r : CS × Int32, o = r → ∀ (pc : Nat) (H : Heap) (locs : List Loc) (ls : Array Slot), decode prog_1_method_54_code pc = .ok (.ireturn, 1) → va_P D cls (cw ad cc N r.1) H → va_D A (cw ad cc N r.1) → va_S A s.heap H locs → W p l e ({ frames := 3, cells := 0, slots := 0, locals := 63 }) s m args below meth c H locs 0 0 Q (F0 m pc ls [.int r.2])) : ∀ (H : Heap) (locs : List Loc) (ls : Array Slot), va_P D cls (cw ad cc N S) H → va_D A (cw ad cc N S) → va_S A s.heap H locs → lv_has ls 3 [(0, .ref (ad 11 x0))] → W p l e ({ frames := 3, cells := 0, slots := 0, locals := 63 }) s m args below meth c H locs 0 0 Q (F0 m 52 ls [.int t0]) := by
  intro H locs ls hP hD hS hl
  obtain ⟨hx, hb, hr, hml, hown, hts, hK, hA, hev, hE, hN, hNS⟩ := id hC
  unfold m_cJT_stepEnd_J52 at Heq
  exact Kr _ (Option.some.inj Heq).symm 52 _ _ _ d_cJT_stepEnd_52 hP hD hS
def m_cJT_stepEnd_J0 (N : Nat → Nat) (x0 : Nat) (S : CS) (x1 : Int32) : Option (CS × Int32) := (if x1 = 0 then gl x0 (N 11) (ob (m_cJT_keyEnd N x0 S 0) (fun o_13 => some (o_13.1, o_13.2))) else gl x0 (N 11) (gn (S.r 11 9 x0) (N 5) (fun j_2 => ob (m_cRw_at N j_2 S x1) (fun o_5 => (if o_5.2 = 46 then ob (m_cJT_keyEnd N x0 o_5.1 (x1 + 1)) (fun o_11 => m_cJT_stepEnd_J52 N x0 o_11.1 o_11.2) else (if o_5.2 = 91 then ob (m_cJT_indexEnd N x0 o_5.1 (x1 + 1)) (fun o_9 => m_cJT_stepEnd_J52 N x0 o_9.1 o_9.2) else m_cJT_stepEnd_J52 N x0 o_5.1 (-1)))))))
theorem d_cJT_stepEnd_41 : decode prog_1_method_54_code 41 = .ok (.aload_n 0, 1) := by decide +kernel
theorem d_cJT_stepEnd_42 : decode prog_1_method_54_code 42 = .ok (.iload_n 1, 1) := by decide +kernel
theorem d_cJT_stepEnd_43 : decode prog_1_method_54_code 43 = .ok (.iconst 1, 1) := by decide +kernel
theorem d_cJT_stepEnd_44 : decode prog_1_method_54_code 44 = .ok (.iadd, 1) := by decide +kernel
theorem d_cJT_stepEnd_45 : decode prog_1_method_54_code 45 = .ok (.invokevirtual 473, 3) := by decide +kernel
theorem d_cJT_stepEnd_48 : decode prog_1_method_54_code 48 = .ok (.goto 4, 3) := by decide +kernel
theorem d_cJT_stepEnd_25 : decode prog_1_method_54_code 25 = .ok (.aload_n 0, 1) := by decide +kernel
theorem d_cJT_stepEnd_26 : decode prog_1_method_54_code 26 = .ok (.iload_n 1, 1) := by decide +kernel
theorem d_cJT_stepEnd_27 : decode prog_1_method_54_code 27 = .ok (.iconst 1, 1) := by decide +kernel
theorem d_cJT_stepEnd_28 : decode prog_1_method_54_code 28 = .ok (.iadd, 1) := by decide +kernel
theorem d_cJT_stepEnd_29 : decode prog_1_method_54_code 29 = .ok (.invokevirtual 470, 3) := by decide +kernel
theorem d_cJT_stepEnd_32 : decode prog_1_method_54_code 32 = .ok (.goto 20, 3) := by decide +kernel
theorem d_cJT_stepEnd_4 : decode prog_1_method_54_code 4 = .ok (.aload_n 0, 1) := by decide +kernel
theorem d_cJT_stepEnd_5 : decode prog_1_method_54_code 5 = .ok (.iconst 0, 1) := by decide +kernel
theorem d_cJT_stepEnd_6 : decode prog_1_method_54_code 6 = .ok (.invokevirtual 470, 3) := by decide +kernel
theorem d_cJT_stepEnd_9 : decode prog_1_method_54_code 9 = .ok (.ireturn, 1) := by decide +kernel
set_option maxHeartbeats 4000000 in
set_option maxRecDepth 100000 in
theorem w_cJT_stepEnd_J0 {p : Program} {l : Launch} {e : Env} {s : State} {m : MethodId} {args : Array Value} {below : List Frame} {meth : Method} {c : Code} {A : Nat → Prop} {D : va_G} {ad : Nat → Nat → Nat} {cc : Nat → ClassId} {sad sav : Nat → Nat} {Q : State → Prop} (hC : MCc sad sav "JoinedTrees" prog_1_method_54_code 3 (some .int) p s m args meth c A D cc) {N : Nat → Nat} {x0 : Nat} {S : CS} {x1 : Int32} {o : CS × Int32} (Heq : m_cJT_stepEnd_J0 N x0 S x1 = some o) (Kr : ∀ r : CS × Int32, o = r → ∀ (pc : Nat) (H : Heap) (locs : List Loc) (ls : Array Slot), decode prog_1_method_54_code pc = .ok (.ireturn, 1) → va_P D cls (cw ad cc N r.1) H → va_D A (cw ad cc N r.1) → va_S A s.heap H locs → W p l e ({ frames := 3, cells := 0, slots := 0, locals := 63 }) s m args below meth c H locs 0 0 Q (F0 m pc ls [.int r.2])) : ∀ (H : Heap) (locs : List Loc) (ls : Array Slot), va_P D cls (cw ad cc N S) H → va_D A (cw ad cc N S) → va_S A s.heap H locs → lv_has ls 3 [(0, .ref (ad 11 x0)), (1, .int x1)] → W p l e ({ frames := 3, cells := 0, slots := 0, locals := 63 }) s m args below meth c H locs 0 0 Q (F0 m 0 ls []) := by
  intro H locs ls hP hD hS hl
  obtain ⟨hx, hb, hr, hml, hown, hts, hK, hA, hev, hE, hN, hNS⟩ := id hC
  unfold m_cJT_stepEnd_J0 at Heq
  refine lv_iload_n hx hb d_cJT_stepEnd_0 rfl (lv_at hl 1 rfl) ?_
  refine lv_if_ne (tgt := 10) hx hb d_cJT_stepEnd_1 (by decide) (fun c_1 => ?_) (fun c_1 => ?_)
  · replace Heq := (if_neg c_1).symm.trans Heq
    refine lv_aload_n hx hb d_cJT_stepEnd_10 rfl (lv_at hl 0 rfl) ?_
    obtain ⟨hl_x0_11, Heq⟩ := gl_some Heq
    refine va_get (D := D) (ci := 11) (v := rv ad 5 (S.r 11 9 x0)) (C := R_JT) (T := F_JT) (N := 13) hx hb hts i_JT hown hK hP (cPos N 11 x0) (cw_obj (k := 11) (by decide) hl_x0_11) rfl 9 (by decide) (hts _ kw_430) (fun _ h9 => h9) rfl d_cJT_stepEnd_11 ?_
    refine lv_iload_n hx hb d_cJT_stepEnd_14 rfl (lv_at hl 1 rfl) ?_
    obtain ⟨j_2, hj_3, hl_4, Heq⟩ := gn_some Heq
    refine w_s (st' := [.int x1, .ref (ad 5 j_2)]) (congrArg (fun z9 : Option Nat => [.int x1, rv ad 5 z9]) hj_3) ?_
    obtain ⟨o_5, h_6, Heq⟩ := ob_some Heq
    have hFc := fr_all hD hS hA
    refine va_calli (va_runV (As := [.int x1]) (rest := []) ⟨hx, hb, hml, hown, hts⟩ (g_cRw_at l D H.size (ad := ad) (cc := cc) (sad := sad) (sav := sav) h_6) (cw_v 1 hts kw_689 kw_1136 kw_687 kw_688 kw_4 rfl rfl (by decide +kernel) ⟨Nat.le_of_ble_eq_true rfl, Nat.le_of_ble_eq_true rfl⟩) ⟨c_blind, va_recv hK hP (ci := 5) (q0 := cPos N 5 j_2) rfl (cw_obj (k := 5) (by decide) hl_4), fun U hU hW => c_pre hU hW hP hK hD hev hE hN hNS hS hFc⟩ rfl rfl hl.1 rfl (lv_room (Nat.le_of_ble_eq_true rfl)) d_cJT_stepEnd_15 ⟨Nat.le_of_ble_eq_true rfl, Nat.le_of_ble_eq_true rfl⟩) hS (fun q _ h => hFc q h) hFc (fun rz u t H1 locs ht hvm hw hB hz1 hk1 hS => ?_)
    obtain ⟨hP, -, hD1⟩ := hB
    rw [ht] at hP
    have hD := hD1.weaken (fun _ q _ h => hFc q.1 h)
    generalize H1 = H at hP hS ⊢
    refine W.cs (cells' := 0) (slots' := 0) rfl rfl ?_
    subst hw
    refine lv_istore_n (lv' := [(2, .int o_5.2), (0, .ref (ad 11 x0)), (1, .int x1)]) hx hb d_cJT_stepEnd_18 rfl hl (by decide) rfl (fun ls hl => ?_)
    refine lv_iload_n hx hb d_cJT_stepEnd_19 rfl (lv_at hl 0 rfl) ?_
    refine lv_bipush (v := 46) hx hb d_cJT_stepEnd_20 (by decide) ?_
    refine lv_icmp_ne (tgt := 35) hx hb d_cJT_stepEnd_22 (by decide) (fun c_7 => ?_) (fun c_7 => ?_)
    · replace Heq := (if_neg c_7).symm.trans Heq
      refine lv_iload_n hx hb d_cJT_stepEnd_35 rfl (lv_at hl 0 rfl) ?_
      refine lv_bipush (v := 91) hx hb d_cJT_stepEnd_36 (by decide) ?_
      refine lv_icmp_ne (tgt := 51) hx hb d_cJT_stepEnd_38 (by decide) (fun c_8 => ?_) (fun c_8 => ?_)
      · replace Heq := (if_neg c_8).symm.trans Heq
        refine lv_iconst (v := (-1)) hx hb d_cJT_stepEnd_51 (by decide) ?_
        exact w_cJT_stepEnd_J52 hC Heq Kr _ _ _ hP hD hS (lv_sub hl [1] rfl)
      · replace Heq := (if_pos c_8).symm.trans Heq
        refine lv_aload_n hx hb d_cJT_stepEnd_41 rfl (lv_at hl 1 rfl) ?_
        refine lv_iload_n hx hb d_cJT_stepEnd_42 rfl (lv_at hl 2 rfl) ?_
        refine lv_iconst (v := 1) hx hb d_cJT_stepEnd_43 (by decide) ?_
        refine lv_iadd hx hb d_cJT_stepEnd_44 ?_
        refine w_i (y := x1 + 1) rfl ?_
        obtain ⟨o_9, h_10, Heq⟩ := ob_some Heq
        have hFc := fr_all hD hS hA
        refine va_calli (va_runV (As := [.int (x1 + 1)]) (rest := []) ⟨hx, hb, hml, hown, hts⟩ (g_cJT_indexEnd l D H.size (ad := ad) (cc := cc) (sad := sad) (sav := sav) h_10) (cw_v 1 hts kw_1200 kw_1197 kw_1199 kp_26 kw_1 rfl rfl (by decide +kernel) ⟨Nat.le_of_ble_eq_true rfl, Nat.le_of_ble_eq_true rfl⟩) ⟨c_blind, va_recv hK hP (ci := 11) (q0 := cPos N 11 x0) rfl (cw_obj (k := 11) (by decide) hl_x0_11), fun U hU hW => c_pre hU hW hP hK hD hev hE hN hNS hS hFc⟩ rfl rfl hl.1 rfl (lv_room (Nat.le_of_ble_eq_true rfl)) d_cJT_stepEnd_45 ⟨Nat.le_of_ble_eq_true rfl, Nat.le_of_ble_eq_true rfl⟩) hS (fun q _ h => hFc q h) hFc (fun rz u t H1 locs ht hvm hw hB hz1 hk1 hS => ?_)
        obtain ⟨hP, -, hD1⟩ := hB
        rw [ht] at hP
        have hD := hD1.weaken (fun _ q _ h => hFc q.1 h)
        generalize H1 = H at hP hS ⊢
        refine W.cs (cells' := 0) (slots' := 0) rfl rfl ?_
        subst hw
        refine lv_goto (tgt := 52) hx hb d_cJT_stepEnd_48 (by decide) ?_
        exact w_cJT_stepEnd_J52 hC Heq Kr _ _ _ hP hD hS (lv_sub hl [1] rfl)
    · replace Heq := (if_pos c_7).symm.trans Heq
      refine lv_aload_n hx hb d_cJT_stepEnd_25 rfl (lv_at hl 1 rfl) ?_
      refine lv_iload_n hx hb d_cJT_stepEnd_26 rfl (lv_at hl 2 rfl) ?_
      refine lv_iconst (v := 1) hx hb d_cJT_stepEnd_27 (by decide) ?_
      refine lv_iadd hx hb d_cJT_stepEnd_28 ?_
      refine w_i (y := x1 + 1) rfl ?_
      obtain ⟨o_11, h_12, Heq⟩ := ob_some Heq
      have hFc := fr_all hD hS hA
      refine va_calli (va_runV (As := [.int (x1 + 1)]) (rest := []) ⟨hx, hb, hml, hown, hts⟩ (g_cJT_keyEnd l D H.size (ad := ad) (cc := cc) (sad := sad) (sav := sav) h_12) (cw_v 1 hts kw_1192 kw_1189 kw_1191 kp_25 kw_1 rfl rfl (by decide +kernel) ⟨Nat.le_of_ble_eq_true rfl, Nat.le_of_ble_eq_true rfl⟩) ⟨c_blind, va_recv hK hP (ci := 11) (q0 := cPos N 11 x0) rfl (cw_obj (k := 11) (by decide) hl_x0_11), fun U hU hW => c_pre hU hW hP hK hD hev hE hN hNS hS hFc⟩ rfl rfl hl.1 rfl (lv_room (Nat.le_of_ble_eq_true rfl)) d_cJT_stepEnd_29 ⟨Nat.le_of_ble_eq_true rfl, Nat.le_of_ble_eq_true rfl⟩) hS (fun q _ h => hFc q h) hFc (fun rz u t H1 locs ht hvm hw hB hz1 hk1 hS => ?_)
      obtain ⟨hP, -, hD1⟩ := hB
      rw [ht] at hP
      have hD := hD1.weaken (fun _ q _ h => hFc q.1 h)
      generalize H1 = H at hP hS ⊢
      refine W.cs (cells' := 0) (slots' := 0) rfl rfl ?_
      subst hw
      refine lv_goto (tgt := 52) hx hb d_cJT_stepEnd_32 (by decide) ?_
      exact w_cJT_stepEnd_J52 hC Heq Kr _ _ _ hP hD hS (lv_sub hl [1] rfl)
  · replace Heq := (if_pos c_1).symm.trans Heq
    refine lv_aload_n hx hb d_cJT_stepEnd_4 rfl (lv_at hl 0 rfl) ?_
    refine lv_iconst (v := 0) hx hb d_cJT_stepEnd_5 (by decide) ?_
    obtain ⟨hl_x0_11, Heq⟩ := gl_some Heq
    obtain ⟨o_13, h_14, Heq⟩ := ob_some Heq
    have hFc := fr_all hD hS hA
    refine va_calli (va_runV (As := [.int 0]) (rest := []) ⟨hx, hb, hml, hown, hts⟩ (g_cJT_keyEnd l D H.size (ad := ad) (cc := cc) (sad := sad) (sav := sav) h_14) (cw_v 1 hts kw_1192 kw_1189 kw_1191 kp_25 kw_1 rfl rfl (by decide +kernel) ⟨Nat.le_of_ble_eq_true rfl, Nat.le_of_ble_eq_true rfl⟩) ⟨c_blind, va_recv hK hP (ci := 11) (q0 := cPos N 11 x0) rfl (cw_obj (k := 11) (by decide) hl_x0_11), fun U hU hW => c_pre hU hW hP hK hD hev hE hN hNS hS hFc⟩ rfl rfl hl.1 rfl (lv_room (Nat.le_of_ble_eq_true rfl)) d_cJT_stepEnd_6 ⟨Nat.le_of_ble_eq_true rfl, Nat.le_of_ble_eq_true rfl⟩) hS (fun q _ h => hFc q h) hFc (fun rz u t H1 locs ht hvm hw hB hz1 hk1 hS => ?_)
    obtain ⟨hP, -, hD1⟩ := hB
    rw [ht] at hP
    have hD := hD1.weaken (fun _ q _ h => hFc q.1 h)
    generalize H1 = H at hP hS ⊢
    refine W.cs (cells' := 0) (slots' := 0) rfl rfl ?_
    subst hw
    exact Kr _ (Option.some.inj Heq).symm 9 _ _ _ d_cJT_stepEnd_9 hP hD hS
def m_cJT_stepEnd (N : Nat → Nat) (x0 : Nat) (S : CS) (x1 : Int32) : Option (CS × Int32) := m_cJT_stepEnd_J0 N x0 S x1
set_option maxHeartbeats 4000000 in
theorem g_cJT_stepEnd (l : Launch) (D : va_G) (sz : Nat) {ad : Nat → Nat → Nat} {cc : Nat → ClassId} {sad sav : Nat → Nat} {N : Nat → Nat} {x0 : Nat} {S : CS} {x1 : Int32} {o : CS × Int32} (Heq : m_cJT_stepEnd N x0 S x1 = some o) : Met l ⟨"JoinedTrees", "stepEnd", "(I)I"⟩ (Cond.code ⟨"JoinedTrees", "stepEnd", "(I)I"⟩ prog_1_method_54_code 3 (some .int) :: gb) ({ frames := 3, cells := 0, slots := 0, locals := 63 }) (cPc sad sav D (cw ad cc N S) (cty cc) sz [.ref (ad 11 x0), .int x1]) (va_Qi (fun (r : Int32) (_ : Unit) => r = o.2) (fun _ t => gO D (cw ad cc N o.1) (cty cc) (va_A (cw ad cc N S) sz) t) (va_A (cw ad cc N S) sz)) 0 0 (va_A (cw ad cc N S) sz) := by
  refine Met.ofW (cc := prog_1_method_54_code) (maxL := 3) (ret := (some .int)) (by decide) rfl ?_
  intro p e s m args below meth c s₁ B hml hv
  obtain ⟨rfl, hsz, hP, hK, hD0, hev, hE, hN⟩ := hv
  have hx := B.exec
  have hb := B.bytes
  have hr := B.returns
  have hts : ∀ w9 ∈ gb, w9.before [.ref (ad 11 x0), .int x1].toArray s = true := fun w9 h => atoms_spec (ws := Cond.code ⟨"JoinedTrees", "stepEnd", "(I)I"⟩ prog_1_method_54_code 3 (some .int) :: gb) B.pre w9 (List.mem_cons_of_mem _ h)
  have hown : s.vm.findClass "JoinedTrees" = some m.cls := findClass_of_methodNamed B.named
  have hlocks := B.notSynchronized
  have hNS := ns_of hP
  subst hsz
  have hD := hD0.self (sz := s.heap.size)
  generalize hAe : va_A (cw ad cc N S) s.heap.size = A at hD hev hE hNS ⊢
  have hA : ∀ q : Nat, s.heap.size ≤ q → A q := fun q h => by rw [← hAe]; exact Or.inr h
  have hS : va_S A s.heap s.heap [] := va_S.rf
  obtain ⟨ls, hl, hle⟩ : ∃ ls : Array Slot, lv_has ls 3 [(0, .ref (ad 11 x0)), (1, .int x1)] ∧ entryFrame m ([.ref (ad 11 x0), .int x1] : List Value).toArray 3 = F0 m 0 ls [] := by
    exact ⟨_, lv_entry (n := 3) _ (Nat.le_of_ble_eq_true rfl), lg_entry_eq ..⟩
  rw [hle]
  refine w_cJT_stepEnd_J0 ⟨hx, hb, hr, hml, hown, hts, hK, hA, hev, hE, hN, hNS⟩ Heq (fun r h pc H locs ls hd hP hD hS => ?_) _ _ _ hP hD hS (lv_sub hl [0, 1] rfl)
  subst h
  exact W.iret hx hb hr (fun t ht hW => ⟨⟨_, (), rfl, rfl, by rw [ht]; exact hP, va_K.moved hW.alike hK, hD⟩, hS.F ht⟩) hS.2.2 hd
