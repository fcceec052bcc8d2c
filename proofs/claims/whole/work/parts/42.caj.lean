def m_cJT_keyEnd_B4 (N : Nat → Nat) (x0 : Nat) (S : CS) (x1 : Int32) (x2 : Int32) (x3 : Int32) : Option ((CS × Int32 × Int32 × Int32) ⊕ (CS × Int32 × Int32)) := (if 64 < x3 then some (.inr (S, x1, x2)) else gl x0 (N 11) (gn (S.r 11 9 x0) (N 5) (fun j_2 => ob (m_cRw_at N j_2 S x2) (fun o_5 => ob (m_cJT_isPathSign N o_5.1 o_5.2) (fun o_7 => (if o_7.2 = 0 then some (.inr (o_7.1, x1, x2)) else some (.inl (o_7.1, x1, (x2 + 1), (x3 + 1)))))))))
theorem d_cJT_keyEnd_0 : decode prog_1_method_55_code 0 = .ok (.iload_n 1, 1) := by decide +kernel
theorem d_cJT_keyEnd_1 : decode prog_1_method_55_code 1 = .ok (.istore_n 2, 1) := by decide +kernel
theorem d_cJT_keyEnd_2 : decode prog_1_method_55_code 2 = .ok (.iconst 0, 1) := by decide +kernel
theorem d_cJT_keyEnd_3 : decode prog_1_method_55_code 3 = .ok (.istore_n 3, 1) := by decide +kernel
theorem d_cJT_keyEnd_4 : decode prog_1_method_55_code 4 = .ok (.iload_n 3, 1) := by decide +kernel
theorem d_cJT_keyEnd_5 : decode prog_1_method_55_code 5 = .ok (.bipush 64, 2) := by decide +kernel
theorem d_cJT_keyEnd_7 : decode prog_1_method_55_code 7 = .ok (.if_icmp .gt 26, 3) := by decide +kernel
theorem d_cJT_keyEnd_10 : decode prog_1_method_55_code 10 = .ok (.aload_n 0, 1) := by decide +kernel
theorem d_cJT_keyEnd_11 : decode prog_1_method_55_code 11 = .ok (.getfield 70, 3) := by decide +kernel
theorem d_cJT_keyEnd_14 : decode prog_1_method_55_code 14 = .ok (.iload_n 2, 1) := by decide +kernel
theorem d_cJT_keyEnd_15 : decode prog_1_method_55_code 15 = .ok (.invokevirtual 293, 3) := by decide +kernel
theorem d_cJT_keyEnd_18 : decode prog_1_method_55_code 18 = .ok (.invokestatic 476, 3) := by decide +kernel
theorem d_cJT_keyEnd_21 : decode prog_1_method_55_code 21 = .ok (.ifCond .eq 12, 3) := by decide +kernel
theorem d_cJT_keyEnd_24 : decode prog_1_method_55_code 24 = .ok (.iinc 2 1, 3) := by decide +kernel
theorem d_cJT_keyEnd_27 : decode prog_1_method_55_code 27 = .ok (.iinc 3 1, 3) := by decide +kernel
theorem d_cJT_keyEnd_30 : decode prog_1_method_55_code 30 = .ok (.goto (-26), 3) := by decide +kernel
set_option maxHeartbeats 4000000 in
set_option maxRecDepth 100000 in
theorem w_cJT_keyEnd_B4 {p : Program} {l : Launch} {e : Env} {s : State} {m : MethodId} {args : Array Value} {below : List Frame} {meth : Method} {c : Code} {A : Nat → Prop} {D : va_G} {ad : Nat → Nat → Nat} {cc : Nat → ClassId} {sad sav : Nat → Nat} {Q : State → Prop} (hC : MCc sad sav "JoinedTrees" prog_1_method_55_code 4 (some .int) p s m args meth c A D cc) {N : Nat → Nat} {x0 : Nat} {S : CS} {x1 : Int32} {x2 : Int32} {x3 : Int32} {o : ((CS × Int32 × Int32 × Int32) ⊕ (CS × Int32 × Int32))} (Heq : m_cJT_keyEnd_B4 N x0 S x1 x2 x3 = some o) (Ka : ∀ b : CS × Int32 × Int32 × Int32, o = .inl b → ∀ (H : Heap) (locs : List Loc) (ls : Array Slot), va_P D cls (cw ad cc N b.1) H → va_D A (cw ad cc N b.1) → va_S A s.heap H locs → lv_has ls 4 [(0, .ref (ad 11 x0)), (1, .int b.2.1), (2, .int b.2.2.1), (3, .int b.2.2.2)] → W p l e ({ frames := 2, cells := 0, slots := 0, locals := 40 }) s m args below meth c H locs 0 0 Q (F0 m 4 ls [])) (K0 : ∀ b : CS × Int32 × Int32, o = .inr b → ∀ (H : Heap) (locs : List Loc) (ls : Array Slot), va_P D cls (cw ad cc N b.1) H → va_D A (cw ad cc N b.1) → va_S A s.heap H locs → lv_has ls 4 [(0, .ref (ad 11 x0)), (1, .int b.2.1), (2, .int b.2.2)] → W p l e ({ frames := 2, cells := 0, slots := 0, locals := 40 }) s m args below meth c H locs 0 0 Q (F0 m 33 ls [])) : ∀ (H : Heap) (locs : List Loc) (ls : Array Slot), va_P D cls (cw ad cc N S) H → va_D A (cw ad cc N S) → va_S A s.heap H locs → lv_has ls 4 [(0, .ref (ad 11 x0)), (1, .int x1), (2, .int x2), (3, .int x3)] → W p l e ({ frames := 2, cells := 0, slots := 0, locals := 40 }) s m args below meth c H locs 0 0 Q (F0 m 4 ls []) := by
  intro H locs ls hP hD hS hl
  obtain ⟨hx, hb, hr, hml, hown, hts, hK, hA, hev, hE, hN, hNS⟩ := id hC
  unfold m_cJT_keyEnd_B4 at Heq
  refine lv_iload_n hx hb d_cJT_keyEnd_4 rfl (lv_at hl 3 rfl) ?_
  refine lv_bipush (v := 64) hx hb d_cJT_keyEnd_5 (by decide) ?_
  refine lv_icmp_gt (tgt := 33) hx hb d_cJT_keyEnd_7 (by decide) (fun c_1 => ?_) (fun c_1 => ?_)
  · replace Heq := (if_pos c_1).symm.trans Heq
    exact K0 _ (Option.some.inj Heq).symm _ _ _ hP hD hS (lv_sub hl [0, 1, 2] rfl)
  · replace Heq := (if_neg c_1).symm.trans Heq
    refine lv_aload_n hx hb d_cJT_keyEnd_10 rfl (lv_at hl 0 rfl) ?_
    obtain ⟨hl_x0_11, Heq⟩ := gl_some Heq
    refine va_get (D := D) (ci := 11) (v := rv ad 5 (S.r 11 9 x0)) (C := R_JT) (T := F_JT) (N := 13) hx hb hts i_JT hown hK hP (cPos N 11 x0) (cw_obj (k := 11) (by decide) hl_x0_11) rfl 9 (by decide) (hts _ kw_430) (fun _ h9 => h9) rfl d_cJT_keyEnd_11 ?_
    refine lv_iload_n hx hb d_cJT_keyEnd_14 rfl (lv_at hl 2 rfl) ?_
    obtain ⟨j_2, hj_3, hl_4, Heq⟩ := gn_some Heq
    refine w_s (st' := [.int x2, .ref (ad 5 j_2)]) (congrArg (fun z9 : Option Nat => [.int x2, rv ad 5 z9]) hj_3) ?_
    obtain ⟨o_5, h_6, Heq⟩ := ob_some Heq
    have hFc := fr_all hD hS hA
    refine va_calli (va_runV (As := [.int x2]) (rest := []) ⟨hx, hb, hml, hown, hts⟩ (g_cRw_at l D H.size (ad := ad) (cc := cc) (sad := sad) (sav := sav) h_6) (cw_v 1 hts kw_689 kw_1136 kw_687 kw_688 kw_4 rfl rfl (by decide +kernel) ⟨Nat.le_of_ble_eq_true rfl, Nat.le_of_ble_eq_true rfl⟩) ⟨c_blind, va_recv hK hP (ci := 5) (q0 := cPos N 5 j_2) rfl (cw_obj (k := 5) (by decide) hl_4), fun U hU hW => c_pre hU hW hP hK hD hev hE hN hNS hS hFc⟩ rfl rfl hl.1 rfl (lv_room (Nat.le_of_ble_eq_true rfl)) d_cJT_keyEnd_15 ⟨Nat.le_of_ble_eq_true rfl, Nat.le_of_ble_eq_true rfl⟩) hS (fun q _ h => hFc q h) hFc (fun rz u t H1 locs ht hvm hw hB hz1 hk1 hS => ?_)
    obtain ⟨hP, -, hD1⟩ := hB
    rw [ht] at hP
    have hD := hD1.weaken (fun _ q _ h => hFc q.1 h)
    generalize H1 = H at hP hS ⊢
    refine W.cs (cells' := 0) (slots' := 0) rfl rfl ?_
    subst hw
    obtain ⟨o_7, h_8, Heq⟩ := ob_some Heq
    have hFc := fr_all hD hS hA
    refine va_calli (va_runS (As := [.int o_5.2]) (rest := []) ⟨hx, hb, hml, hown, hts⟩ (g_cJT_isPathSign l D H.size (ad := ad) (cc := cc) (sad := sad) (sav := sav) h_8) (cw_s 1 hts kw_1195 kw_1193 kw_1194 kw_1 rfl rfl (by decide +kernel) ⟨Nat.le_of_ble_eq_true rfl, Nat.le_of_ble_eq_true rfl⟩) ⟨c_blind, fun U hU hW => c_pre hU hW hP hK hD hev hE hN hNS hS hFc⟩ rfl rfl hl.1 rfl (lv_room (Nat.le_of_ble_eq_true rfl)) d_cJT_keyEnd_18 ⟨Nat.le_of_ble_eq_true rfl, Nat.le_of_ble_eq_true rfl⟩) hS (fun q _ h => hFc q h) hFc (fun rz u t H1 locs ht hvm hw hB hz1 hk1 hS => ?_)
    obtain ⟨hP, -, hD1⟩ := hB
    rw [ht] at hP
    have hD := hD1.weaken (fun _ q _ h => hFc q.1 h)
    generalize H1 = H at hP hS ⊢
    refine W.cs (cells' := 0) (slots' := 0) rfl rfl ?_
    subst hw
    refine lv_if_eq (tgt := 33) hx hb d_cJT_keyEnd_21 (by decide) (fun c_9 => ?_) (fun c_9 => ?_)
    · replace Heq := (if_pos c_9).symm.trans Heq
      exact K0 _ (Option.some.inj Heq).symm _ _ _ hP hD hS (lv_sub hl [0, 1, 2] rfl)
    · replace Heq := (if_neg c_9).symm.trans Heq
      refine lv_iinc (v := x2 + 1) (lv' := [(2, .int (x2 + 1)), (0, .ref (ad 11 x0)), (1, .int x1), (3, .int x3)]) hx hb d_cJT_keyEnd_24 hl (k := 2) rfl rfl (by decide) rfl (fun ls hl => ?_)
      refine lv_iinc (v := x3 + 1) (lv' := [(3, .int (x3 + 1)), (2, .int (x2 + 1)), (0, .ref (ad 11 x0)), (1, .int x1)]) hx hb d_cJT_keyEnd_27 hl (k := 3) rfl rfl (by decide) rfl (fun ls hl => ?_)
      refine lv_goto (tgt := 4) hx hb d_cJT_keyEnd_30 (by decide) ?_
      exact Ka _ (Option.some.inj Heq).symm _ _ _ hP hD hS (lv_sub hl [2, 3, 1, 0] rfl)
def m_cJT_keyEnd_L4 (N : Nat → Nat) (x0 : Nat) (S : CS) (x1 : Int32) (x2 : Int32) (x3 : Int32) : Option (CS × Int32 × Int32) := lp (fun a : CS × Int32 × Int32 × Int32 => m_cJT_keyEnd_B4 N x0 a.1 a.2.1 a.2.2.1 a.2.2.2) FU (S, x1, x2, x3)
theorem w_cJT_keyEnd_L4 {p : Program} {l : Launch} {e : Env} {s : State} {m : MethodId} {args : Array Value} {below : List Frame} {meth : Method} {c : Code} {A : Nat → Prop} {D : va_G} {ad : Nat → Nat → Nat} {cc : Nat → ClassId} {sad sav : Nat → Nat} {Q : State → Prop} (hC : MCc sad sav "JoinedTrees" prog_1_method_55_code 4 (some .int) p s m args meth c A D cc) {N : Nat → Nat} {x0 : Nat} {S : CS} {x1 : Int32} {x2 : Int32} {x3 : Int32} {o : CS × Int32 × Int32} (Heq : m_cJT_keyEnd_L4 N x0 S x1 x2 x3 = some o) (K0 : ∀ b : CS × Int32 × Int32, o = b → ∀ (H : Heap) (locs : List Loc) (ls : Array Slot), va_P D cls (cw ad cc N b.1) H → va_D A (cw ad cc N b.1) → va_S A s.heap H locs → lv_has ls 4 [(0, .ref (ad 11 x0)), (1, .int b.2.1), (2, .int b.2.2)] → W p l e ({ frames := 2, cells := 0, slots := 0, locals := 40 }) s m args below meth c H locs 0 0 Q (F0 m 33 ls [])) : ∀ (H : Heap) (locs : List Loc) (ls : Array Slot), va_P D cls (cw ad cc N S) H → va_D A (cw ad cc N S) → va_S A s.heap H locs → lv_has ls 4 [(0, .ref (ad 11 x0)), (1, .int x1), (2, .int x2), (3, .int x3)] → W p l e ({ frames := 2, cells := 0, slots := 0, locals := 40 }) s m args below meth c H locs 0 0 Q (F0 m 4 ls []) := by
  refine lp_w (G := fun a : CS × Int32 × Int32 × Int32 => ∀ (H : Heap) (locs : List Loc) (ls : Array Slot), va_P D cls (cw ad cc N a.1) H → va_D A (cw ad cc N a.1) → va_S A s.heap H locs → lv_has ls 4 [(0, .ref (ad 11 x0)), (1, .int a.2.1), (2, .int a.2.2.1), (3, .int a.2.2.2)] → W p l e ({ frames := 2, cells := 0, slots := 0, locals := 40 }) s m args below meth c H locs 0 0 Q (F0 m 4 ls [])) ?_ FU (S, x1, x2, x3) Heq
  intro a o1 ho Ka Ke
  exact w_cJT_keyEnd_B4 hC ho (fun b h => Ka b h) (fun b h => K0 b (Ke _ h).symm)
def m_cJT_keyEnd_J51 (N : Nat → Nat) (x0 : Nat) (S : CS) (t0 : Int32) : Option (CS × Int32) := some (S, t0)
theorem d_cJT_keyEnd_33 : decode prog_1_method_55_code 33 = .ok (.iload_n 2, 1) := by decide +kernel
theorem d_cJT_keyEnd_34 : decode prog_1_method_55_code 34 = .ok (.iload_n 1, 1) := by decide +kernel
theorem d_cJT_keyEnd_35 : decode prog_1_method_55_code 35 = .ok (.if_icmp .eq 11, 3) := by decide +kernel
theorem d_cJT_keyEnd_46 : decode prog_1_method_55_code 46 = .ok (.iconst (-1), 1) := by decide +kernel
theorem d_cJT_keyEnd_47 : decode prog_1_method_55_code 47 = .ok (.goto 4, 3) := by decide +kernel
theorem d_cJT_keyEnd_51 : decode prog_1_method_55_code 51 = .ok (.ireturn, 1) := by decide +kernel
set_option maxHeartbeats 4000000 in
set_option maxRecDepth 100000 in
theorem w_cJT_keyEnd_J51 {p : Program} {l : Launch} {e : Env} {s : State} {m : MethodId} {args : Array Value} {below : List Frame} {meth : Method} {c : Code} {A : Nat → Prop} {D : va_G} {ad : Nat → Nat → Nat} {cc : Nat → ClassId} {sad sav : Nat → Nat} {Q : State → Prop} (hC : MCc sad sav "JoinedTrees" prog_1_method_55_code 4 (some .int) p s m args meth c A D cc) {N : Nat → Nat} {x0 : Nat} {S : CS} {t0 : Int32} {o : CS × Int32} (Heq : m_cJT_keyEnd_J51 N x0 S t0 = some o) (Kr : ∀ r : CS × Int32, o = r → ∀ (pc : Nat) (H : Heap) (locs : List Loc) (ls : Array Slot), decode prog_1_method_55_code pc = .ok (.ireturn, 1) → va_P D cls (cw ad cc N r.1) H → va_D A (cw ad cc N r.1) → va_S A s.heap H locs → W p l e ({ frames := 2, cells := 0, slots := 0, locals := 40 }) s m args below meth c H locs 0 0 Q (F0 m pc ls [.int r.2])) : ∀ (H : Heap) (locs : List Loc) (ls : Array Slot), va_P D cls (cw ad cc N S) H → va_D A (cw ad cc N S) → va_S A s.heap H locs → lv_has ls 4 [(0, .ref (ad 11 x0))] → W p l e ({ frames := 2, cells := 0, slots := 0, locals := 40 }) s m args below meth c H locs 0 0 Q (F0 m 51 ls [.int t0]) := by
  intro H locs ls hP hD hS hl
  obtain ⟨hx, hb, hr, hml, hown, hts, hK, hA, hev, hE, hN, hNS⟩ := id hC
  unfold m_cJT_keyEnd_J51 at Heq
  exact Kr _ (Option.some.inj Heq).symm 51 _ _ _ d_cJT_keyEnd_51 hP hD hS
def m_cJT_keyEnd_J46 (N : Nat → Nat) (x0 : Nat) (S : CS) : Option (CS × Int32) := m_cJT_keyEnd_J51 N x0 S (-1)
set_option maxHeartbeats 4000000 in
set_option maxRecDepth 100000 in
theorem w_cJT_keyEnd_J46 {p : Program} {l : Launch} {e : Env} {s : State} {m : MethodId} {args : Array Value} {below : List Frame} {meth : Method} {c : Code} {A : Nat → Prop} {D : va_G} {ad : Nat → Nat → Nat} {cc : Nat → ClassId} {sad sav : Nat → Nat} {Q : State → Prop} (hC : MCc sad sav "JoinedTrees" prog_1_method_55_code 4 (some .int) p s m args meth c A D cc) {N : Nat → Nat} {x0 : Nat} {S : CS} {o : CS × Int32} (Heq : m_cJT_keyEnd_J46 N x0 S = some o) (Kr : ∀ r : CS × Int32, o = r → ∀ (pc : Nat) (H : Heap) (locs : List Loc) (ls : Array Slot), decode prog_1_method_55_code pc = .ok (.ireturn, 1) → va_P D cls (cw ad cc N r.1) H → va_D A (cw ad cc N r.1) → va_S A s.heap H locs → W p l e ({ frames := 2, cells := 0, slots := 0, locals := 40 }) s m args below meth c H locs 0 0 Q (F0 m pc ls [.int r.2])) : ∀ (H : Heap) (locs : List Loc) (ls : Array Slot), va_P D cls (cw ad cc N S) H → va_D A (cw ad cc N S) → va_S A s.heap H locs → lv_has ls 4 [(0, .ref (ad 11 x0))] → W p l e ({ frames := 2, cells := 0, slots := 0, locals := 40 }) s m args below meth c H locs 0 0 Q (F0 m 46 ls []) := by
  intro H locs ls hP hD hS hl
  obtain ⟨hx, hb, hr, hml, hown, hts, hK, hA, hev, hE, hN, hNS⟩ := id hC
  unfold m_cJT_keyEnd_J46 at Heq
  refine lv_iconst (v := (-1)) hx hb d_cJT_keyEnd_46 (by decide) ?_
  refine lv_goto (tgt := 51) hx hb d_cJT_keyEnd_47 (by decide) ?_
  exact w_cJT_keyEnd_J51 hC Heq Kr _ _ _ hP hD hS (lv_sub hl [0] rfl)
def m_cJT_keyEnd_J33 (N : Nat → Nat) (x0 : Nat) (S : CS) (x1 : Int32) (x2 : Int32) : Option (CS × Int32) := (if x2 = x1 then m_cJT_keyEnd_J46 N x0 S else (if x2 - x1 ≤ 64 then m_cJT_keyEnd_J51 N x0 S x2 else m_cJT_keyEnd_J46 N x0 S))
theorem d_cJT_keyEnd_38 : decode prog_1_method_55_code 38 = .ok (.iload_n 2, 1) := by decide +kernel
theorem d_cJT_keyEnd_39 : decode prog_1_method_55_code 39 = .ok (.iload_n 1, 1) := by decide +kernel
theorem d_cJT_keyEnd_40 : decode prog_1_method_55_code 40 = .ok (.isub, 1) := by decide +kernel
theorem d_cJT_keyEnd_41 : decode prog_1_method_55_code 41 = .ok (.bipush 64, 2) := by decide +kernel
theorem d_cJT_keyEnd_43 : decode prog_1_method_55_code 43 = .ok (.if_icmp .le 7, 3) := by decide +kernel
theorem d_cJT_keyEnd_50 : decode prog_1_method_55_code 50 = .ok (.iload_n 2, 1) := by decide +kernel
set_option maxHeartbeats 4000000 in
set_option maxRecDepth 100000 in
theorem w_cJT_keyEnd_J33 {p : Program} {l : Launch} {e : Env} {s : State} {m : MethodId} {args : Array Value} {below : List Frame} {meth : Method} {c : Code} {A : Nat → Prop} {D : va_G} {ad : Nat → Nat → Nat} {cc : Nat → ClassId} {sad sav : Nat → Nat} {Q : State → Prop} (hC : MCc sad sav "JoinedTrees" prog_1_method_55_code 4 (some .int) p s m args meth c A D cc) {N : Nat → Nat} {x0 : Nat} {S : CS} {x1 : Int32} {x2 : Int32} {o : CS × Int32} (Heq : m_cJT_keyEnd_J33 N x0 S x1 x2 = some o) (Kr : ∀ r : CS × Int32, o = r → ∀ (pc : Nat) (H : Heap) (locs : List Loc) (ls : Array Slot), decode prog_1_method_55_code pc = .ok (.ireturn, 1) → va_P D cls (cw ad cc N r.1) H → va_D A (cw ad cc N r.1) → va_S A s.heap H locs → W p l e ({ frames := 2, cells := 0, slots := 0, locals := 40 }) s m args below meth c H locs 0 0 Q (F0 m pc ls [.int r.2])) : ∀ (H : Heap) (locs : List Loc) (ls : Array Slot), va_P D cls (cw ad cc N S) H → va_D A (cw ad cc N S) → va_S A s.heap H locs → lv_has ls 4 [(0, .ref (ad 11 x0)), (1, .int x1), (2, .int x2)] → W p l e ({ frames := 2, cells := 0, slots := 0, locals := 40 }) s m args below meth c H locs 0 0 Q (F0 m 33 ls []) := by
  intro H locs ls hP hD hS hl
  obtain ⟨hx, hb, hr, hml, hown, hts, hK, hA, hev, hE, hN, hNS⟩ := id hC
  unfold m_cJT_keyEnd_J33 at Heq
  refine lv_iload_n hx hb d_cJT_keyEnd_33 rfl (lv_at hl 2 rfl) ?_
  refine lv_iload_n hx hb d_cJT_keyEnd_34 rfl (lv_at hl 1 rfl) ?_
  refine lv_icmp_eq (tgt := 46) hx hb d_cJT_keyEnd_35 (by decide) (fun c_1 => ?_) (fun c_1 => ?_)
  · replace Heq := (if_pos c_1).symm.trans Heq
    exact w_cJT_keyEnd_J46 hC Heq Kr _ _ _ hP hD hS (lv_sub hl [0] rfl)
  · replace Heq := (if_neg c_1).symm.trans Heq
    refine lv_iload_n hx hb d_cJT_keyEnd_38 rfl (lv_at hl 2 rfl) ?_
    refine lv_iload_n hx hb d_cJT_keyEnd_39 rfl (lv_at hl 1 rfl) ?_
    refine lv_isub hx hb d_cJT_keyEnd_40 ?_
    refine w_i (y := x2 - x1) rfl ?_
    refine lv_bipush (v := 64) hx hb d_cJT_keyEnd_41 (by decide) ?_
    refine lv_icmp_le (tgt := 50) hx hb d_cJT_keyEnd_43 (by decide) (fun c_2 => ?_) (fun c_2 => ?_)
    · replace Heq := (if_pos c_2).symm.trans Heq
      refine lv_iload_n hx hb d_cJT_keyEnd_50 rfl (lv_at hl 2 rfl) ?_
      exact w_cJT_keyEnd_J51 hC Heq Kr _ _ _ hP hD hS (lv_sub hl [0] rfl)
    · replace Heq := (if_neg c_2).symm.trans Heq
      exact w_cJT_keyEnd_J46 hC Heq Kr _ _ _ hP hD hS (lv_sub hl [0] rfl)
def m_cJT_keyEnd_J0 (N : Nat → Nat) (x0 : Nat) (S : CS) (x1 : Int32) : Option (CS × Int32) := ob (m_cJT_keyEnd_L4 N x0 S x1 x1 0) (fun b_1 => m_cJT_keyEnd_J33 N x0 b_1.1 b_1.2.1 b_1.2.2)
set_option maxHeartbeats 4000000 in
set_option maxRecDepth 100000 in
theorem w_cJT_keyEnd_J0 {p : Program} {l : Launch} {e : Env} {s : State} {m : MethodId} {args : Array Value} {below : List Frame} {meth : Method} {c : Code} {A : Nat → Prop} {D : va_G} {ad : Nat → Nat → Nat} {cc : Nat → ClassId} {sad sav : Nat → Nat} {Q : State → Prop} (hC : MCc sad sav "JoinedTrees" prog_1_method_55_code 4 (some .int) p s m args meth c A D cc) {N : Nat → Nat} {x0 : Nat} {S : CS} {x1 : Int32} {o : CS × Int32} (Heq : m_cJT_keyEnd_J0 N x0 S x1 = some o) (Kr : ∀ r : CS × Int32, o = r → ∀ (pc : Nat) (H : Heap) (locs : List Loc) (ls : Array Slot), decode prog_1_method_55_code pc = .ok (.ireturn, 1) → va_P D cls (cw ad cc N r.1) H → va_D A (cw ad cc N r.1) → va_S A s.heap H locs → W p l e ({ frames := 2, cells := 0, slots := 0, locals := 40 }) s m args below meth c H locs 0 0 Q (F0 m pc ls [.int r.2])) : ∀ (H : Heap) (locs : List Loc) (ls : Array Slot), va_P D cls (cw ad cc N S) H → va_D A (cw ad cc N S) → va_S A s.heap H locs → lv_has ls 4 [(0, .ref (ad 11 x0)), (1, .int x1)] → W p l e ({ frames := 2, cells := 0, slots := 0, locals := 40 }) s m args below meth c H locs 0 0 Q (F0 m 0 ls []) := by
  intro H locs ls hP hD hS hl
  obtain ⟨hx, hb, hr, hml, hown, hts, hK, hA, hev, hE, hN, hNS⟩ := id hC
  unfold m_cJT_keyEnd_J0 at Heq
  refine lv_iload_n hx hb d_cJT_keyEnd_0 rfl (lv_at hl 1 rfl) ?_
  refine lv_istore_n (lv' := [(2, .int x1), (0, .ref (ad 11 x0)), (1, .int x1)]) hx hb d_cJT_keyEnd_1 rfl hl (by decide) rfl (fun ls hl => ?_)
  refine lv_iconst (v := 0) hx hb d_cJT_keyEnd_2 (by decide) ?_
  refine lv_istore_n (lv' := [(3, .int 0), (2, .int x1), (0, .ref (ad 11 x0)), (1, .int x1)]) hx hb d_cJT_keyEnd_3 rfl hl (by decide) rfl (fun ls hl => ?_)
  obtain ⟨b_1, h_2, Heq⟩ := ob_some Heq
  refine w_cJT_keyEnd_L4 hC h_2 (fun b h => ?_) _ _ _ hP hD hS (lv_sub hl [2, 3, 1, 0] rfl)
  subst h
  intro H locs ls hP hD hS hl
  exact w_cJT_keyEnd_J33 hC Heq Kr _ _ _ hP hD hS (lv_sub hl [0, 1, 2] rfl)
def m_cJT_keyEnd (N : Nat → Nat) (x0 : Nat) (S : CS) (x1 : Int32) : Option (CS × Int32) := m_cJT_keyEnd_J0 N x0 S x1
set_option maxHeartbeats 4000000 in
theorem g_cJT_keyEnd (l : Launch) (D : va_G) (sz : Nat) {ad : Nat → Nat → Nat} {cc : Nat → ClassId} {sad sav : Nat → Nat} {N : Nat → Nat} {x0 : Nat} {S : CS} {x1 : Int32} {o : CS × Int32} (Heq : m_cJT_keyEnd N x0 S x1 = some o) : Met l ⟨"JoinedTrees", "keyEnd", "(I)I"⟩ (Cond.code ⟨"JoinedTrees", "keyEnd", "(I)I"⟩ prog_1_method_55_code 4 (some .int) :: gb) ({ frames := 2, cells := 0, slots := 0, locals := 40 }) (cPc sad sav D (cw ad cc N S) (cty cc) sz [.ref (ad 11 x0), .int x1]) (va_Qi (fun (r : Int32) (_ : Unit) => r = o.2) (fun _ t => gO D (cw ad cc N o.1) (cty cc) (va_A (cw ad cc N S) sz) t) (va_A (cw ad cc N S) sz)) 0 0 (va_A (cw ad cc N S) sz) := by
  refine Met.ofW (cc := prog_1_method_55_code) (maxL := 4) (ret := (some .int)) (by decide) rfl ?_
  intro p e s m args below meth c s₁ B hml hv
  obtain ⟨rfl, hsz, hP, hK, hD0, hev, hE, hN⟩ := hv
  have hx := B.exec
  have hb := B.bytes
  have hr := B.returns
  have hts : ∀ w9 ∈ gb, w9.before [.ref (ad 11 x0), .int x1].toArray s = true := fun w9 h => atoms_spec (ws := Cond.code ⟨"JoinedTrees", "keyEnd", "(I)I"⟩ prog_1_method_55_code 4 (some .int) :: gb) B.pre w9 (List.mem_cons_of_mem _ h)
  have hown : s.vm.findClass "JoinedTrees" = some m.cls := findClass_of_methodNamed B.named
  have hlocks := B.notSynchronized
  have hNS := ns_of hP
  subst hsz
  have hD := hD0.self (sz := s.heap.size)
  generalize hAe : va_A (cw ad cc N S) s.heap.size = A at hD hev hE hNS ⊢
  have hA : ∀ q : Nat, s.heap.size ≤ q → A q := fun q h => by rw [← hAe]; exact Or.inr h
  have hS : va_S A s.heap s.heap [] := va_S.rf
  obtain ⟨ls, hl, hle⟩ : ∃ ls : Array Slot, lv_has ls 4 [(0, .ref (ad 11 x0)), (1, .int x1)] ∧ entryFrame m ([.ref (ad 11 x0), .int x1] : List Value).toArray 4 = F0 m 0 ls [] := by
    exact ⟨_, lv_entry (n := 4) _ (Nat.le_of_ble_eq_true rfl), lg_entry_eq ..⟩
  rw [hle]
  refine w_cJT_keyEnd_J0 ⟨hx, hb, hr, hml, hown, hts, hK, hA, hev, hE, hN, hNS⟩ Heq (fun r h pc H locs ls hd hP hD hS => ?_) _ _ _ hP hD hS (lv_sub hl [0, 1] rfl)
  subst h
  exact W.iret hx hb hr (fun t ht hW => ⟨⟨_, (), rfl, rfl, by rw [ht]; exact hP, va_K.moved hW.alike hK, hD⟩, hS.F ht⟩) hS.2.2 hd
def m_cJT_indexEnd_B4 (N : Nat → Nat) (x0 : Nat) (S : CS) (x1 : Int32) (x2 : Int32) (x3 : Int32) : Option ((CS × Int32 × Int32 × Int32) ⊕ (CS × Int32 × Int32)) := (if 6 ≤ x3 then some (.inr (S, x1, x2)) else gl x0 (N 11) (gn (S.r 11 9 x0) (N 5) (fun j_2 => ob (m_cRw_at N j_2 S x2) (fun o_5 => ob (m_cJT_isDigit N o_5.1 o_5.2) (fun o_7 => (if o_7.2 = 0 then some (.inr (o_7.1, x1, x2)) else some (.inl (o_7.1, x1, (x2 + 1), (x3 + 1)))))))))
theorem d_cJT_indexEnd_0 : decode prog_1_method_56_code 0 = .ok (.iload_n 1, 1) := by decide +kernel
theorem d_cJT_indexEnd_1 : decode prog_1_method_56_code 1 = .ok (.istore_n 2, 1) := by decide +kernel
theorem d_cJT_indexEnd_2 : decode prog_1_method_56_code 2 = .ok (.iconst 0, 1) := by decide +kernel
theorem d_cJT_indexEnd_3 : decode prog_1_method_56_code 3 = .ok (.istore_n 3, 1) := by decide +kernel
theorem d_cJT_indexEnd_4 : decode prog_1_method_56_code 4 = .ok (.iload_n 3, 1) := by decide +kernel
theorem d_cJT_indexEnd_5 : decode prog_1_method_56_code 5 = .ok (.bipush 6, 2) := by decide +kernel
theorem d_cJT_indexEnd_7 : decode prog_1_method_56_code 7 = .ok (.if_icmp .ge 26, 3) := by decide +kernel
theorem d_cJT_indexEnd_10 : decode prog_1_method_56_code 10 = .ok (.aload_n 0, 1) := by decide +kernel
theorem d_cJT_indexEnd_11 : decode prog_1_method_56_code 11 = .ok (.getfield 70, 3) := by decide +kernel
theorem d_cJT_indexEnd_14 : decode prog_1_method_56_code 14 = .ok (.iload_n 2, 1) := by decide +kernel
theorem d_cJT_indexEnd_15 : decode prog_1_method_56_code 15 = .ok (.invokevirtual 293, 3) := by decide +kernel
theorem d_cJT_indexEnd_18 : decode prog_1_method_56_code 18 = .ok (.invokestatic 480, 3) := by decide +kernel
theorem d_cJT_indexEnd_21 : decode prog_1_method_56_code 21 = .ok (.ifCond .eq 12, 3) := by decide +kernel
theorem d_cJT_indexEnd_24 : decode prog_1_method_56_code 24 = .ok (.iinc 2 1, 3) := by decide +kernel
theorem d_cJT_indexEnd_27 : decode prog_1_method_56_code 27 = .ok (.iinc 3 1, 3) := by decide +kernel
theorem d_cJT_indexEnd_30 : decode prog_1_method_56_code 30 = .ok (.goto (-26), 3) := by decide +kernel
set_option maxHeartbeats 4000000 in
set_option maxRecDepth 100000 in
theorem w_cJT_indexEnd_B4 {p : Program} {l : Launch} {e : Env} {s : State} {m : MethodId} {args : Array Value} {below : List Frame} {meth : Method} {c : Code} {A : Nat → Prop} {D : va_G} {ad : Nat → Nat → Nat} {cc : Nat → ClassId} {sad sav : Nat → Nat} {Q : State → Prop} (hC : MCc sad sav "JoinedTrees" prog_1_method_56_code 4 (some .int) p s m args meth c A D cc) {N : Nat → Nat} {x0 : Nat} {S : CS} {x1 : Int32} {x2 : Int32} {x3 : Int32} {o : ((CS × Int32 × Int32 × Int32) ⊕ (CS × Int32 × Int32))} (Heq : m_cJT_indexEnd_B4 N x0 S x1 x2 x3 = some o) (Ka : ∀ b : CS × Int32 × Int32 × Int32, o = .inl b → ∀ (H : Heap) (locs : List Loc) (ls : Array Slot), va_P D cls (cw ad cc N b.1) H → va_D A (cw ad cc N b.1) → va_S A s.heap H locs → lv_has ls 4 [(0, .ref (ad 11 x0)), (1, .int b.2.1), (2, .int b.2.2.1), (3, .int b.2.2.2)] → W p l e ({ frames := 1, cells := 0, slots := 0, locals := 21 }) s m args below meth c H locs 0 0 Q (F0 m 4 ls [])) (K0 : ∀ b : CS × Int32 × Int32, o = .inr b → ∀ (H : Heap) (locs : List Loc) (ls : Array Slot), va_P D cls (cw ad cc N b.1) H → va_D A (cw ad cc N b.1) → va_S A s.heap H locs → lv_has ls 4 [(0, .ref (ad 11 x0)), (1, .int b.2.1), (2, .int b.2.2)] → W p l e ({ frames := 1, cells := 0, slots := 0, locals := 21 }) s m args below meth c H locs 0 0 Q (F0 m 33 ls [])) : ∀ (H : Heap) (locs : List Loc) (ls : Array Slot), va_P D cls (cw ad cc N S) H → va_D A (cw ad cc N S) → va_S A s.heap H locs → lv_has ls 4 [(0, .ref (ad 11 x0)), (1, .int x1), (2, .int x2), (3, .int x3)] → W p l e ({ frames := 1, cells := 0, slots := 0, locals := 21 }) s m args below meth c H locs 0 0 Q (F0 m 4 ls []) := by
  intro H locs ls hP hD hS hl
  obtain ⟨hx, hb, hr, hml, hown, hts, hK, hA, hev, hE, hN, hNS⟩ := id hC
  unfold m_cJT_indexEnd_B4 at Heq
  refine lv_iload_n hx hb d_cJT_indexEnd_4 rfl (lv_at hl 3 rfl) ?_
  refine lv_bipush (v := 6) hx hb d_cJT_indexEnd_5 (by decide) ?_
  refine lv_icmp_ge (tgt := 33) hx hb d_cJT_indexEnd_7 (by decide) (fun c_1 => ?_) (fun c_1 => ?_)
  · replace Heq := (if_pos c_1).symm.trans Heq
    exact K0 _ (Option.some.inj Heq).symm _ _ _ hP hD hS (lv_sub hl [0, 1, 2] rfl)
  · replace Heq := (if_neg c_1).symm.trans Heq
    refine lv_aload_n hx hb d_cJT_indexEnd_10 rfl (lv_at hl 0 rfl) ?_
    obtain ⟨hl_x0_11, Heq⟩ := gl_some Heq
    refine va_get (D := D) (ci := 11) (v := rv ad 5 (S.r 11 9 x0)) (C := R_JT) (T := F_JT) (N := 13) hx hb hts i_JT hown hK hP (cPos N 11 x0) (cw_obj (k := 11) (by decide) hl_x0_11) rfl 9 (by decide) (hts _ kw_430) (fun _ h9 => h9) rfl d_cJT_indexEnd_11 ?_
    refine lv_iload_n hx hb d_cJT_indexEnd_14 rfl (lv_at hl 2 rfl) ?_
    obtain ⟨j_2, hj_3, hl_4, Heq⟩ := gn_some Heq
    refine w_s (st' := [.int x2, .ref (ad 5 j_2)]) (congrArg (fun z9 : Option Nat => [.int x2, rv ad 5 z9]) hj_3) ?_
    obtain ⟨o_5, h_6, Heq⟩ := ob_some Heq
    have hFc := fr_all hD hS hA
    refine va_calli (va_runV (As := [.int x2]) (rest := []) ⟨hx, hb, hml, hown, hts⟩ (g_cRw_at l D H.size (ad := ad) (cc := cc) (sad := sad) (sav := sav) h_6) (cw_v 1 hts kw_689 kw_1136 kw_687 kw_688 kw_4 rfl rfl (by decide +kernel) ⟨Nat.le_of_ble_eq_true rfl, Nat.le_of_ble_eq_true rfl⟩) ⟨c_blind, va_recv hK hP (ci := 5) (q0 := cPos N 5 j_2) rfl (cw_obj (k := 5) (by decide) hl_4), fun U hU hW => c_pre hU hW hP hK hD hev hE hN hNS hS hFc⟩ rfl rfl hl.1 rfl (lv_room (Nat.le_of_ble_eq_true rfl)) d_cJT_indexEnd_15 ⟨Nat.le_of_ble_eq_true rfl, Nat.le_of_ble_eq_true rfl⟩) hS (fun q _ h => hFc q h) hFc (fun rz u t H1 locs ht hvm hw hB hz1 hk1 hS => ?_)
    obtain ⟨hP, -, hD1⟩ := hB
    rw [ht] at hP
    have hD := hD1.weaken (fun _ q _ h => hFc q.1 h)
    generalize H1 = H at hP hS ⊢
    refine W.cs (cells' := 0) (slots' := 0) rfl rfl ?_
    subst hw
    obtain ⟨o_7, h_8, Heq⟩ := ob_some Heq
    have hFc := fr_all hD hS hA
    refine va_calli (va_runS (As := [.int o_5.2]) (rest := []) ⟨hx, hb, hml, hown, hts⟩ (g_cJT_isDigit l D H.size (ad := ad) (cc := cc) (sad := sad) (sav := sav) h_8) (cw_s 1 hts kw_964 kw_1196 kw_963 kw_1 rfl rfl (by decide +kernel) ⟨Nat.le_of_ble_eq_true rfl, Nat.le_of_ble_eq_true rfl⟩) ⟨c_blind, fun U hU hW => c_pre hU hW hP hK hD hev hE hN hNS hS hFc⟩ rfl rfl hl.1 rfl (lv_room (Nat.le_of_ble_eq_true rfl)) d_cJT_indexEnd_18 ⟨Nat.le_of_ble_eq_true rfl, Nat.le_of_ble_eq_true rfl⟩) hS (fun q _ h => hFc q h) hFc (fun rz u t H1 locs ht hvm hw hB hz1 hk1 hS => ?_)
    obtain ⟨hP, -, hD1⟩ := hB
    rw [ht] at hP
    have hD := hD1.weaken (fun _ q _ h => hFc q.1 h)
    generalize H1 = H at hP hS ⊢
    refine W.cs (cells' := 0) (slots' := 0) rfl rfl ?_
    subst hw
    refine lv_if_eq (tgt := 33) hx hb d_cJT_indexEnd_21 (by decide) (fun c_9 => ?_) (fun c_9 => ?_)
    · replace Heq := (if_pos c_9).symm.trans Heq
      exact K0 _ (Option.some.inj Heq).symm _ _ _ hP hD hS (lv_sub hl [0, 1, 2] rfl)
    · replace Heq := (if_neg c_9).symm.trans Heq
      refine lv_iinc (v := x2 + 1) (lv' := [(2, .int (x2 + 1)), (0, .ref (ad 11 x0)), (1, .int x1), (3, .int x3)]) hx hb d_cJT_indexEnd_24 hl (k := 2) rfl rfl (by decide) rfl (fun ls hl => ?_)
      refine lv_iinc (v := x3 + 1) (lv' := [(3, .int (x3 + 1)), (2, .int (x2 + 1)), (0, .ref (ad 11 x0)), (1, .int x1)]) hx hb d_cJT_indexEnd_27 hl (k := 3) rfl rfl (by decide) rfl (fun ls hl => ?_)
      refine lv_goto (tgt := 4) hx hb d_cJT_indexEnd_30 (by decide) ?_
      exact Ka _ (Option.some.inj Heq).symm _ _ _ hP hD hS (lv_sub hl [2, 3, 1, 0] rfl)
def m_cJT_indexEnd_L4 (N : Nat → Nat) (x0 : Nat) (S : CS) (x1 : Int32) (x2 : Int32) (x3 : Int32) : Option (CS × Int32 × Int32) := lp (fun a : CS × Int32 × Int32 × Int32 => m_cJT_indexEnd_B4 N x0 a.1 a.2.1 a.2.2.1 a.2.2.2) FU (S, x1, x2, x3)
theorem w_cJT_indexEnd_L4 {p : Program} {l : Launch} {e : Env} {s : State} {m : MethodId} {args : Array Value} {below : List Frame} {meth : Method} {c : Code} {A : Nat → Prop} {D : va_G} {ad : Nat → Nat → Nat} {cc : Nat → ClassId} {sad sav : Nat → Nat} {Q : State → Prop} (hC : MCc sad sav "JoinedTrees" prog_1_method_56_code 4 (some .int) p s m args meth c A D cc) {N : Nat → Nat} {x0 : Nat} {S : CS} {x1 : Int32} {x2 : Int32} {x3 : Int32} {o : CS × Int32 × Int32} (Heq : m_cJT_indexEnd_L4 N x0 S x1 x2 x3 = some o) (K0 : ∀ b : CS × Int32 × Int32, o = b → ∀ (H : Heap) (locs : List Loc) (ls : Array Slot), va_P D cls (cw ad cc N b.1) H → va_D A (cw ad cc N b.1) → va_S A s.heap H locs → lv_has ls 4 [(0, .ref (ad 11 x0)), (1, .int b.2.1), (2, .int b.2.2)] → W p l e ({ frames := 1, cells := 0, slots := 0, locals := 21 }) s m args below meth c H locs 0 0 Q (F0 m 33 ls [])) : ∀ (H : Heap) (locs : List Loc) (ls : Array Slot), va_P D cls (cw ad cc N S) H → va_D A (cw ad cc N S) → va_S A s.heap H locs → lv_has ls 4 [(0, .ref (ad 11 x0)), (1, .int x1), (2, .int x2), (3, .int x3)] → W p l e ({ frames := 1, cells := 0, slots := 0, locals := 21 }) s m args below meth c H locs 0 0 Q (F0 m 4 ls []) := by
  refine lp_w (G := fun a : CS × Int32 × Int32 × Int32 => ∀ (H : Heap) (locs : List Loc) (ls : Array Slot), va_P D cls (cw ad cc N a.1) H → va_D A (cw ad cc N a.1) → va_S A s.heap H locs → lv_has ls 4 [(0, .ref (ad 11 x0)), (1, .int a.2.1), (2, .int a.2.2.1), (3, .int a.2.2.2)] → W p l e ({ frames := 1, cells := 0, slots := 0, locals := 21 }) s m args below meth c H locs 0 0 Q (F0 m 4 ls [])) ?_ FU (S, x1, x2, x3) Heq
  intro a o1 ho Ka Ke
  exact w_cJT_indexEnd_B4 hC ho (fun b h => Ka b h) (fun b h => K0 b (Ke _ h).symm)
def m_cJT_indexEnd_J58 (N : Nat → Nat) (x0 : Nat) (S : CS) (t0 : Int32) : Option (CS × Int32) := some (S, t0)
theorem d_cJT_indexEnd_33 : decode prog_1_method_56_code 33 = .ok (.iload_n 2, 1) := by decide +kernel
theorem d_cJT_indexEnd_34 : decode prog_1_method_56_code 34 = .ok (.iload_n 1, 1) := by decide +kernel
theorem d_cJT_indexEnd_35 : decode prog_1_method_56_code 35 = .ok (.if_icmp .eq 16, 3) := by decide +kernel
theorem d_cJT_indexEnd_51 : decode prog_1_method_56_code 51 = .ok (.iconst (-1), 1) := by decide +kernel
theorem d_cJT_indexEnd_52 : decode prog_1_method_56_code 52 = .ok (.goto 6, 3) := by decide +kernel
theorem d_cJT_indexEnd_58 : decode prog_1_method_56_code 58 = .ok (.ireturn, 1) := by decide +kernel
set_option maxHeartbeats 4000000 in
set_option maxRecDepth 100000 in
theorem w_cJT_indexEnd_J58 {p : Program} {l : Launch} {e : Env} {s : State} {m : MethodId} {args : Array Value} {below : List Frame} {meth : Method} {c : Code} {A : Nat → Prop} {D : va_G} {ad : Nat → Nat → Nat} {cc : Nat → ClassId} {sad sav : Nat → Nat} {Q : State → Prop} (hC : MCc sad sav "JoinedTrees" prog_1_method_56_code 4 (some .int) p s m args meth c A D cc) {N : Nat → Nat} {x0 : Nat} {S : CS} {t0 : Int32} {o : CS × Int32} (Heq : m_cJT_indexEnd_J58 N x0 S t0 = some o) (Kr : ∀ r : CS × Int32, o = r → ∀ (pc : Nat) (H : Heap) (locs : List Loc) (ls : Array Slot), decode prog_1_method_56_code pc = .ok (.ireturn, 1) → va_P D cls (cw ad cc N r.1) H → va_D A (cw ad cc N r.1) → va_S A s.heap H locs → W p l e ({ frames := 1, cells := 0, slots := 0, locals := 21 }) s m args below meth c H locs 0 0 Q (F0 m pc ls [.int r.2])) : ∀ (H : Heap) (locs : List Loc) (ls : Array Slot), va_P D cls (cw ad cc N S) H → va_D A (cw ad cc N S) → va_S A s.heap H locs → lv_has ls 4 [(0, .ref (ad 11 x0))] → W p l e ({ frames := 1, cells := 0, slots := 0, locals := 21 }) s m args below meth c H locs 0 0 Q (F0 m 58 ls [.int t0]) := by
  intro H locs ls hP hD hS hl
  obtain ⟨hx, hb, hr, hml, hown, hts, hK, hA, hev, hE, hN, hNS⟩ := id hC
  unfold m_cJT_indexEnd_J58 at Heq
  exact Kr _ (Option.some.inj Heq).symm 58 _ _ _ d_cJT_indexEnd_58 hP hD hS
def m_cJT_indexEnd_J51 (N : Nat → Nat) (x0 : Nat) (S : CS) : Option (CS × Int32) := m_cJT_indexEnd_J58 N x0 S (-1)
set_option maxHeartbeats 4000000 in
set_option maxRecDepth 100000 in
theorem w_cJT_indexEnd_J51 {p : Program} {l : Launch} {e : Env} {s : State} {m : MethodId} {args : Array Value} {below : List Frame} {meth : Method} {c : Code} {A : Nat → Prop} {D : va_G} {ad : Nat → Nat → Nat} {cc : Nat → ClassId} {sad sav : Nat → Nat} {Q : State → Prop} (hC : MCc sad sav "JoinedTrees" prog_1_method_56_code 4 (some .int) p s m args meth c A D cc) {N : Nat → Nat} {x0 : Nat} {S : CS} {o : CS × Int32} (Heq : m_cJT_indexEnd_J51 N x0 S = some o) (Kr : ∀ r : CS × Int32, o = r → ∀ (pc : Nat) (H : Heap) (locs : List Loc) (ls : Array Slot), decode prog_1_method_56_code pc = .ok (.ireturn, 1) → va_P D cls (cw ad cc N r.1) H → va_D A (cw ad cc N r.1) → va_S A s.heap H locs → W p l e ({ frames := 1, cells := 0, slots := 0, locals := 21 }) s m args below meth c H locs 0 0 Q (F0 m pc ls [.int r.2])) : ∀ (H : Heap) (locs : List Loc) (ls : Array Slot), va_P D cls (cw ad cc N S) H → va_D A (cw ad cc N S) → va_S A s.heap H locs → lv_has ls 4 [(0, .ref (ad 11 x0))] → W p l e ({ frames := 1, cells := 0, slots := 0, locals := 21 }) s m args below meth c H locs 0 0 Q (F0 m 51 ls []) := by
  intro H locs ls hP hD hS hl
  obtain ⟨hx, hb, hr, hml, hown, hts, hK, hA, hev, hE, hN, hNS⟩ := id hC
  unfold m_cJT_indexEnd_J51 at Heq
  refine lv_iconst (v := (-1)) hx hb d_cJT_indexEnd_51 (by decide) ?_
  refine lv_goto (tgt := 58) hx hb d_cJT_indexEnd_52 (by decide) ?_
  exact w_cJT_indexEnd_J58 hC Heq Kr _ _ _ hP hD hS (lv_sub hl [0] rfl)
def m_cJT_indexEnd_J33 (N : Nat → Nat) (x0 : Nat) (S : CS) (x1 : Int32) (x2 : Int32) : Option (CS × Int32) := (if x2 = x1 then m_cJT_indexEnd_J51 N x0 S else gl x0 (N 11) (gn (S.r 11 9 x0) (N 5) (fun j_2 => ob (m_cRw_at N j_2 S x2) (fun o_5 => (if o_5.2 = 93 then m_cJT_indexEnd_J58 N x0 o_5.1 (x2 + 1) else m_cJT_indexEnd_J51 N x0 o_5.1)))))
theorem d_cJT_indexEnd_38 : decode prog_1_method_56_code 38 = .ok (.aload_n 0, 1) := by decide +kernel
theorem d_cJT_indexEnd_39 : decode prog_1_method_56_code 39 = .ok (.getfield 70, 3) := by decide +kernel
theorem d_cJT_indexEnd_42 : decode prog_1_method_56_code 42 = .ok (.iload_n 2, 1) := by decide +kernel
theorem d_cJT_indexEnd_43 : decode prog_1_method_56_code 43 = .ok (.invokevirtual 293, 3) := by decide +kernel
theorem d_cJT_indexEnd_46 : decode prog_1_method_56_code 46 = .ok (.bipush 93, 2) := by decide +kernel
theorem d_cJT_indexEnd_48 : decode prog_1_method_56_code 48 = .ok (.if_icmp .eq 7, 3) := by decide +kernel
theorem d_cJT_indexEnd_55 : decode prog_1_method_56_code 55 = .ok (.iload_n 2, 1) := by decide +kernel
theorem d_cJT_indexEnd_56 : decode prog_1_method_56_code 56 = .ok (.iconst 1, 1) := by decide +kernel
theorem d_cJT_indexEnd_57 : decode prog_1_method_56_code 57 = .ok (.iadd, 1) := by decide +kernel
set_option maxHeartbeats 4000000 in
set_option maxRecDepth 100000 in
theorem w_cJT_indexEnd_J33 {p : Program} {l : Launch} {e : Env} {s : State} {m : MethodId} {args : Array Value} {below : List Frame} {meth : Method} {c : Code} {A : Nat → Prop} {D : va_G} {ad : Nat → Nat → Nat} {cc : Nat → ClassId} {sad sav : Nat → Nat} {Q : State → Prop} (hC : MCc sad sav "JoinedTrees" prog_1_method_56_code 4 (some .int) p s m args meth c A D cc) {N : Nat → Nat} {x0 : Nat} {S : CS} {x1 : Int32} {x2 : Int32} {o : CS × Int32} (Heq : m_cJT_indexEnd_J33 N x0 S x1 x2 = some o) (Kr : ∀ r : CS × Int32, o = r → ∀ (pc : Nat) (H : Heap) (locs : List Loc) (ls : Array Slot), decode prog_1_method_56_code pc = .ok (.ireturn, 1) → va_P D cls (cw ad cc N r.1) H → va_D A (cw ad cc N r.1) → va_S A s.heap H locs → W p l e ({ frames := 1, cells := 0, slots := 0, locals := 21 }) s m args below meth c H locs 0 0 Q (F0 m pc ls [.int r.2])) : ∀ (H : Heap) (locs : List Loc) (ls : Array Slot), va_P D cls (cw ad cc N S) H → va_D A (cw ad cc N S) → va_S A s.heap H locs → lv_has ls 4 [(0, .ref (ad 11 x0)), (1, .int x1), (2, .int x2)] → W p l e ({ frames := 1, cells := 0, slots := 0, locals := 21 }) s m args below meth c H locs 0 0 Q (F0 m 33 ls []) := by
  intro H locs ls hP hD hS hl
  obtain ⟨hx, hb, hr, hml, hown, hts, hK, hA, hev, hE, hN, hNS⟩ := id hC
  unfold m_cJT_indexEnd_J33 at Heq
  refine lv_iload_n hx hb d_cJT_indexEnd_33 rfl (lv_at hl 2 rfl) ?_
  refine lv_iload_n hx hb d_cJT_indexEnd_34 rfl (lv_at hl 1 rfl) ?_
  refine lv_icmp_eq (tgt := 51) hx hb d_cJT_indexEnd_35 (by decide) (fun c_1 => ?_) (fun c_1 => ?_)
  · replace Heq := (if_pos c_1).symm.trans Heq
    exact w_cJT_indexEnd_J51 hC Heq Kr _ _ _ hP hD hS (lv_sub hl [0] rfl)
  · replace Heq := (if_neg c_1).symm.trans Heq
    refine lv_aload_n hx hb d_cJT_indexEnd_38 rfl (lv_at hl 0 rfl) ?_
    obtain ⟨hl_x0_11, Heq⟩ := gl_some Heq
    refine va_get (D := D) (ci := 11) (v := rv ad 5 (S.r 11 9 x0)) (C := R_JT) (T := F_JT) (N := 13) hx hb hts i_JT hown hK hP (cPos N 11 x0) (cw_obj (k := 11) (by decide) hl_x0_11) rfl 9 (by decide) (hts _ kw_430) (fun _ h9 => h9) rfl d_cJT_indexEnd_39 ?_
    refine lv_iload_n hx hb d_cJT_indexEnd_42 rfl (lv_at hl 2 rfl) ?_
    obtain ⟨j_2, hj_3, hl_4, Heq⟩ := gn_some Heq
    refine w_s (st' := [.int x2, .ref (ad 5 j_2)]) (congrArg (fun z9 : Option Nat => [.int x2, rv ad 5 z9]) hj_3) ?_
    obtain ⟨o_5, h_6, Heq⟩ := ob_some Heq
    have hFc := fr_all hD hS hA
    refine va_calli (va_runV (As := [.int x2]) (rest := []) ⟨hx, hb, hml, hown, hts⟩ (g_cRw_at l D H.size (ad := ad) (cc := cc) (sad := sad) (sav := sav) h_6) (cw_v 1 hts kw_689 kw_1136 kw_687 kw_688 kw_4 rfl rfl (by decide +kernel) ⟨Nat.le_of_ble_eq_true rfl, Nat.le_of_ble_eq_true rfl⟩) ⟨c_blind, va_recv hK hP (ci := 5) (q0 := cPos N 5 j_2) rfl (cw_obj (k := 5) (by decide) hl_4), fun U hU hW => c_pre hU hW hP hK hD hev hE hN hNS hS hFc⟩ rfl rfl hl.1 rfl (lv_room (Nat.le_of_ble_eq_true rfl)) d_cJT_indexEnd_43 ⟨Nat.le_of_ble_eq_true rfl, Nat.le_of_ble_eq_true rfl⟩) hS (fun q _ h => hFc q h) hFc (fun rz u t H1 locs ht hvm hw hB hz1 hk1 hS => ?_)
    obtain ⟨hP, -, hD1⟩ := hB
    rw [ht] at hP
    have hD := hD1.weaken (fun _ q _ h => hFc q.1 h)
    generalize H1 = H at hP hS ⊢
    refine W.cs (cells' := 0) (slots' := 0) rfl rfl ?_
    subst hw
    refine lv_bipush (v := 93) hx hb d_cJT_indexEnd_46 (by decide) ?_
    refine lv_icmp_eq (tgt := 55) hx hb d_cJT_indexEnd_48 (by decide) (fun c_7 => ?_) (fun c_7 => ?_)
    · replace Heq := (if_pos c_7).symm.trans Heq
      refine lv_iload_n hx hb d_cJT_indexEnd_55 rfl (lv_at hl 2 rfl) ?_
      refine lv_iconst (v := 1) hx hb d_cJT_indexEnd_56 (by decide) ?_
      refine lv_iadd hx hb d_cJT_indexEnd_57 ?_
      refine w_i (y := x2 + 1) rfl ?_
      exact w_cJT_indexEnd_J58 hC Heq Kr _ _ _ hP hD hS (lv_sub hl [0] rfl)
    · replace Heq := (if_neg c_7).symm.trans Heq
      exact w_cJT_indexEnd_J51 hC Heq Kr _ _ _ hP hD hS (lv_sub hl [0] rfl)
def m_cJT_indexEnd_J0 (N : Nat → Nat) (x0 : Nat) (S : CS) (x1 : Int32) : Option (CS × Int32) := ob (m_cJT_indexEnd_L4 N x0 S x1 x1 0) (fun b_1 => m_cJT_indexEnd_J33 N x0 b_1.1 b_1.2.1 b_1.2.2)
set_option maxHeartbeats 4000000 in
set_option maxRecDepth 100000 in
theorem w_cJT_indexEnd_J0 {p : Program} {l : Launch} {e : Env} {s : State} {m : MethodId} {args : Array Value} {below : List Frame} {meth : Method} {c : Code} {A : Nat → Prop} {D : va_G} {ad : Nat → Nat → Nat} {cc : Nat → ClassId} {sad sav : Nat → Nat} {Q : State → Prop} (hC : MCc sad sav "JoinedTrees" prog_1_method_56_code 4 (some .int) p s m args meth c A D cc) {N : Nat → Nat} {x0 : Nat} {S : CS} {x1 : Int32} {o : CS × Int32} (Heq : m_cJT_indexEnd_J0 N x0 S x1 = some o) (Kr : ∀ r : CS × Int32, o = r → ∀ (pc : Nat) (H : Heap) (locs : List Loc) (ls : Array Slot), decode prog_1_method_56_code pc = .ok (.ireturn, 1) → va_P D cls (cw ad cc N r.1) H → va_D A (cw ad cc N r.1) → va_S A s.heap H locs → W p l e ({ frames := 1, cells := 0, slots := 0, locals := 21 }) s m args below meth c H locs 0 0 Q (F0 m pc ls [.int r.2])) : ∀ (H : Heap) (locs : List Loc) (ls : Array Slot), va_P D cls (cw ad cc N S) H → va_D A (cw ad cc N S) → va_S A s.heap H locs → lv_has ls 4 [(0, .ref (ad 11 x0)), (1, .int x1)] → W p l e ({ frames := 1, cells := 0, slots := 0, locals := 21 }) s m args below meth c H locs 0 0 Q (F0 m 0 ls []) := by
  intro H locs ls hP hD hS hl
  obtain ⟨hx, hb, hr, hml, hown, hts, hK, hA, hev, hE, hN, hNS⟩ := id hC
  unfold m_cJT_indexEnd_J0 at Heq
  refine lv_iload_n hx hb d_cJT_indexEnd_0 rfl (lv_at hl 1 rfl) ?_
  refine lv_istore_n (lv' := [(2, .int x1), (0, .ref (ad 11 x0)), (1, .int x1)]) hx hb d_cJT_indexEnd_1 rfl hl (by decide) rfl (fun ls hl => ?_)
  refine lv_iconst (v := 0) hx hb d_cJT_indexEnd_2 (by decide) ?_
  refine lv_istore_n (lv' := [(3, .int 0), (2, .int x1), (0, .ref (ad 11 x0)), (1, .int x1)]) hx hb d_cJT_indexEnd_3 rfl hl (by decide) rfl (fun ls hl => ?_)
  obtain ⟨b_1, h_2, Heq⟩ := ob_some Heq
  refine w_cJT_indexEnd_L4 hC h_2 (fun b h => ?_) _ _ _ hP hD hS (lv_sub hl [2, 3, 1, 0] rfl)
  subst h
  intro H locs ls hP hD hS hl
  exact w_cJT_indexEnd_J33 hC Heq Kr _ _ _ hP hD hS (lv_sub hl [0, 1, 2] rfl)
def m_cJT_indexEnd (N : Nat → Nat) (x0 : Nat) (S : CS) (x1 : Int32) : Option (CS × Int32) := m_cJT_indexEnd_J0 N x0 S x1
set_option maxHeartbeats 4000000 in
theorem g_cJT_indexEnd (l : Launch) (D : va_G) (sz : Nat) {ad : Nat → Nat → Nat} {cc : Nat → ClassId} {sad sav : Nat → Nat} {N : Nat → Nat} {x0 : Nat} {S : CS} {x1 : Int32} {o : CS × Int32} (Heq : m_cJT_indexEnd N x0 S x1 = some o) : Met l ⟨"JoinedTrees", "indexEnd", "(I)I"⟩ (Cond.code ⟨"JoinedTrees", "indexEnd", "(I)I"⟩ prog_1_method_56_code 4 (some .int) :: gb) ({ frames := 1, cells := 0, slots := 0, locals := 21 }) (cPc sad sav D (cw ad cc N S) (cty cc) sz [.ref (ad 11 x0), .int x1]) (va_Qi (fun (r : Int32) (_ : Unit) => r = o.2) (fun _ t => gO D (cw ad cc N o.1) (cty cc) (va_A (cw ad cc N S) sz) t) (va_A (cw ad cc N S) sz)) 0 0 (va_A (cw ad cc N S) sz) := by
  refine Met.ofW (cc := prog_1_method_56_code) (maxL := 4) (ret := (some .int)) (by decide) rfl ?_
  intro p e s m args below meth c s₁ B hml hv
  obtain ⟨rfl, hsz, hP, hK, hD0, hev, hE, hN⟩ := hv
  have hx := B.exec
  have hb := B.bytes
  have hr := B.returns
  have hts : ∀ w9 ∈ gb, w9.before [.ref (ad 11 x0), .int x1].toArray s = true := fun w9 h => atoms_spec (ws := Cond.code ⟨"JoinedTrees", "indexEnd", "(I)I"⟩ prog_1_method_56_code 4 (some .int) :: gb) B.pre w9 (List.mem_cons_of_mem _ h)
  have hown : s.vm.findClass "JoinedTrees" = some m.cls := findClass_of_methodNamed B.named
  have hlocks := B.notSynchronized
  have hNS := ns_of hP
  subst hsz
  have hD := hD0.self (sz := s.heap.size)
  generalize hAe : va_A (cw ad cc N S) s.heap.size = A at hD hev hE hNS ⊢
  have hA : ∀ q : Nat, s.heap.size ≤ q → A q := fun q h => by rw [← hAe]; exact Or.inr h
  have hS : va_S A s.heap s.heap [] := va_S.rf
  obtain ⟨ls, hl, hle⟩ : ∃ ls : Array Slot, lv_has ls 4 [(0, .ref (ad 11 x0)), (1, .int x1)] ∧ entryFrame m ([.ref (ad 11 x0), .int x1] : List Value).toArray 4 = F0 m 0 ls [] := by
    exact ⟨_, lv_entry (n := 4) _ (Nat.le_of_ble_eq_true rfl), lg_entry_eq ..⟩
  rw [hle]
  refine w_cJT_indexEnd_J0 ⟨hx, hb, hr, hml, hown, hts, hK, hA, hev, hE, hN, hNS⟩ Heq (fun r h pc H locs ls hd hP hD hS => ?_) _ _ _ hP hD hS (lv_sub hl [0, 1] rfl)
  subst h
  exact W.iret hx hb hr (fun t ht hW => ⟨⟨_, (), rfl, rfl, by rw [ht]; exact hP, va_K.moved hW.alike hK, hD⟩, hS.F ht⟩) hS.2.2 hd
def m_cJT_stepEnd_J52 (N : Nat → Nat) (x0 : Nat) (S : CS) (t0 : Int32) : Option (CS × Int32) := some (S, t0)
theorem d_cJT_stepEnd_0 : decode prog_1_method_54_code 0 = .ok (.iload_n 1, 1) := by decide +kernel
theorem d_cJT_stepEnd_1 : decode prog_1_method_54_code 1 = .ok (.ifCond .ne 9, 3) := by decide +kernel
theorem d_cJT_stepEnd_10 : decode prog_1_method_54_code 10 = .ok (.aload_n 0, 1) := by decide +kernel
theorem d_cJT_stepEnd_11 : decode prog_1_method_54_code 11 = .ok (.getfield 70, 3) := by decide +kernel
theorem d_cJT_stepEnd_14 : decode prog_1_method_54_code 14 = .ok (.iload_n 1, 1) := by decide +kernel
theorem d_cJT_stepEnd_15 : decode prog_1_method_54_code 15 = .ok (.invokevirtual 293, 3) := by decide +kernel
theorem d_cJT_stepEnd_18 : decode prog_1_method_54_code 18 = .ok (.istore_n 2, 1) := by decide +kernel
theorem d_cJT_stepEnd_19 : decode prog_1_method_54_code 19 = .ok (.iload_n 2, 1) := by decide +kernel
theorem d_cJT_stepEnd_20 : decode prog_1_method_54_code 20 = .ok (.bipush 46, 2) := by decide +kernel
theorem d_cJT_stepEnd_22 : decode prog_1_method_54_code 22 = .ok (.if_icmp .ne 13, 3) := by decide +kernel
theorem d_cJT_stepEnd_35 : decode prog_1_method_54_code 35 = .ok (.iload_n 2, 1) := by decide +kernel
theorem d_cJT_stepEnd_36 : decode prog_1_method_54_code 36 = .ok (.bipush 91, 2) := by decide +kernel
theorem d_cJT_stepEnd_38 : decode prog_1_method_54_code 38 = .ok (.if_icmp .ne 13, 3) := by decide +kernel
theorem d_cJT_stepEnd_51 : decode prog_1_method_54_code 51 = .ok (.iconst (-1), 1) := by decide +kernel
theorem d_cJT_stepEnd_52 : decode prog_1_method_54_code 52 = .ok (.ireturn, 1) := by decide +kernel
set_option maxHeartbeats 4000000 in
set_option maxRecDepth 100000 in
theorem w_cJT_stepEnd_J52 {p : Program} {l : Launch} {e : Env} {s : State} {m : MethodId} {args : Array Value} {below : List Frame} {meth : Method} {c : Code} {A : Nat → Prop} {D : va_G} {ad : Nat → Nat → Nat} {cc : Nat → ClassId} {sad sav : Nat → Nat} {Q : State → Prop} (hC : MCc sad sav "JoinedTrees" prog_1_method_54_code 3 (some .int) p s m args meth c A D cc) {N : Nat → Nat} {x0 : Nat} {S : CS} {t0 : Int32} {o : CS × Int32} (Heq : m_cJT_stepEnd_J52 N x0 S t0 = some o) (Kr : ∀ r : CS × Int32, o = r → ∀ (pc : Nat) (H : Heap) (locs : List Loc) (ls : Array Slot), decode prog_1_method_54_code pc = .ok (.ireturn, 1) → va_P D cls (cw ad cc N r.1) H → va_D A (cw ad cc N r.1) → va_S A s.heap H locs → W p l e ({ frames := 3, cells := 0, slots := 0, locals := 63 }) s m args below meth c H locs 0 0 Q (F0 m pc ls [.int r.2])) : ∀ (H : Heap) (locs : List Loc) (ls : Array Slot), va_P D cls (cw ad cc N S) H → va_D A (cw ad cc N S) → va_S A s.heap H locs → lv_has ls 3 [(0, .ref (ad 11 x0))] → W p l e ({ frames := 3, cells := 0, slots := 0, locals := 63 }) s m args below meth c H locs 0 0 Q (F0 m 52 ls [.int t0]) := by
  intro H locs ls hP hD hS hl
  obtain ⟨hx, hb, hr, hml, hown, hts, hK, hA, hev, hE, hN, hNS⟩ := id hC
  unfold m_cJT_stepEnd_J52 at Heq
  exact Kr _ (Option.some.inj Heq).symm 52 _ _ _ d_cJT_stepEnd_52 hP hD hS
def m_cJT_stepEnd_J0 (N : Nat → Nat) (x0 : Nat) (S : CS) (x1 : Int32) : Option (CS × Int32) := (if x1 = 0 then gl x0 (N 11) (ob (m_cJT_keyEnd N x0 S 0) (fun o_13 => some (o_13.1, o_13.2))) else gl x0 (N 11) (gn (S.r 11 9 x0) (N 5) (fun j_2 => ob (m_cRw_at N j_2 S x1) (fun o_5 => (if o_5.2 = 46 then ob (m_cJT_keyEnd N x0 o_5.1 (x1 + 1)) (fun o_11 => m_cJT_stepEnd_J52 N x0 o_11.1 o_11.2) else (if o_5.2 = 91 then ob (m_cJT_indexEnd N x0 o_5.1 (x1 + 1)) (fun o_9 => m_cJT_stepEnd_J52 N x0 o_9.1 o_9.2) else m_cJT_stepEnd_J52 N x0 o_5.1 (-1)))))))
theorem d_cJT_stepEnd_41 : decode prog_1_method_54_code 41 = .ok (.aload_n 0, 1) := by decide +kernel
theorem d_cJT_stepEnd_42 : decode prog_1_method_54_code 42 = .ok (.iload_n 1, 1) := by decide +kernel
theorem d_cJT_stepEnd_43 : decode prog_1_method_54_code 43 = .ok (.iconst 1, 1) := by decide +kernel
theorem d_cJT_stepEnd_44 : decode prog_1_method_54_code 44 = .ok (.iadd, 1) := by decide +kernel
theorem d_cJT_stepEnd_45 : decode prog_1_method_54_code 45 = .ok (.invokevirtual 473, 3) := by decide +kernel
theorem d_cJT_stepEnd_48 : decode prog_1_method_54_code 48 = .ok (.goto 4, 3) := by decide +kernel
theorem d_cJT_stepEnd_25 : decode prog_1_method_54_code 25 = .ok (.aload_n 0, 1) := by decide +kernel
theorem d_cJT_stepEnd_26 : decode prog_1_method_54_code 26 = .ok (.iload_n 1, 1) := by decide +kernel
theorem d_cJT_stepEnd_27 : decode prog_1_method_54_code 27 = .ok (.iconst 1, 1) := by decide +kernel
theorem d_cJT_stepEnd_28 : decode prog_1_method_54_code 28 = .ok (.iadd, 1) := by decide +kernel
theorem d_cJT_stepEnd_29 : decode prog_1_method_54_code 29 = .ok (.invokevirtual 470, 3) := by decide +kernel
theorem d_cJT_stepEnd_32 : decode prog_1_method_54_code 32 = .ok (.goto 20, 3) := by decide +kernel
theorem d_cJT_stepEnd_4 : decode prog_1_method_54_code 4 = .ok (.aload_n 0, 1) := by decide +kernel
theorem d_cJT_stepEnd_5 : decode prog_1_method_54_code 5 = .ok (.iconst 0, 1) := by decide +kernel
theorem d_cJT_stepEnd_6 : decode prog_1_method_54_code 6 = .ok (.invokevirtual 470, 3) := by decide +kernel
theorem d_cJT_stepEnd_9 : decode prog_1_method_54_code 9 = .ok (.ireturn, 1) := by decide +kernel
set_option maxHeartbeats 4000000 in
set_option maxRecDepth 100000 in
theorem w_cJT_stepEnd_J0 {p : Program} {l : Launch} {e : Env} {s : State} {m : MethodId} {args : Array Value} {below : List Frame} {meth : Method} {c : Code} {A : Nat → Prop} {D : va_G} {ad : Nat → Nat → Nat} {cc : Nat → ClassId} {sad sav : Nat → Nat} {Q : State → Prop} (hC : MCc sad sav "JoinedTrees" prog_1_method_54_code 3 (some .int) p s m args meth c A D cc) {N : Nat → Nat} {x0 : Nat} {S : CS} {x1 : Int32} {o : CS × Int32} (Heq : m_cJT_stepEnd_J0 N x0 S x1 = some o) (Kr : ∀ r : CS × Int32, o = r → ∀ (pc : Nat) (H : Heap) (locs : List Loc) (ls : Array Slot), decode prog_1_method_54_code pc = .ok (.ireturn, 1) → va_P D cls (cw ad cc N r.1) H → va_D A (cw ad cc N r.1) → va_S A s.heap H locs → W p l e ({ frames := 3, cells := 0, slots := 0, locals := 63 }) s m args below meth c H locs 0 0 Q (F0 m pc ls [.int r.2])) : ∀ (H : Heap) (locs : List Loc) (ls : Array Slot), va_P D cls (cw ad cc N S) H → va_D A (cw ad cc N S) → va_S A s.heap H locs → lv_has ls 3 [(0, .ref (ad 11 x0)), (1, .int x1)] → W p l e ({ frames := 3, cells := 0, slots := 0, locals := 63 }) s m args below meth c H locs 0 0 Q (F0 m 0 ls []) := by
  intro H locs ls hP hD hS hl
  obtain ⟨hx, hb, hr, hml, hown, hts, hK, hA, hev, hE, hN, hNS⟩ := id hC
  unfold m_cJT_stepEnd_J0 at Heq
  refine lv_iload_n hx hb d_cJT_stepEnd_0 rfl (lv_at hl 1 rfl) ?_
  refine lv_if_ne (tgt := 10) hx hb d_cJT_stepEnd_1 (by decide) (fun c_1 => ?_) (fun c_1 => ?_)
  · replace Heq := (if_neg c_1).symm.trans Heq
    refine lv_aload_n hx hb d_cJT_stepEnd_10 rfl (lv_at hl 0 rfl) ?_
    obtain ⟨hl_x0_11, Heq⟩ := gl_some Heq
    refine va_get (D := D) (ci := 11) (v := rv ad 5 (S.r 11 9 x0)) (C := R_JT) (T := F_JT) (N := 13) hx hb hts i_JT hown hK hP (cPos N 11 x0) (cw_obj (k := 11) (by decide) hl_x0_11) rfl 9 (by decide) (hts _ kw_430) (fun _ h9 => h9) rfl d_cJT_stepEnd_11 ?_
    refine lv_iload_n hx hb d_cJT_stepEnd_14 rfl (lv_at hl 1 rfl) ?_
    obtain ⟨j_2, hj_3, hl_4, Heq⟩ := gn_some Heq
    refine w_s (st' := [.int x1, .ref (ad 5 j_2)]) (congrArg (fun z9 : Option Nat => [.int x1, rv ad 5 z9]) hj_3) ?_
    obtain ⟨o_5, h_6, Heq⟩ := ob_some Heq
    have hFc := fr_all hD hS hA
    refine va_calli (va_runV (As := [.int x1]) (rest := []) ⟨hx, hb, hml, hown, hts⟩ (g_cRw_at l D H.size (ad := ad) (cc := cc) (sad := sad) (sav := sav) h_6) (cw_v 1 hts kw_689 kw_1136 kw_687 kw_688 kw_4 rfl rfl (by decide +kernel) ⟨Nat.le_of_ble_eq_true rfl, Nat.le_of_ble_eq_true rfl⟩) ⟨c_blind, va_recv hK hP (ci := 5) (q0 := cPos N 5 j_2) rfl (cw_obj (k := 5) (by decide) hl_4), fun U hU hW => c_pre hU hW hP hK hD hev hE hN hNS hS hFc⟩ rfl rfl hl.1 rfl (lv_room (Nat.le_of_ble_eq_true rfl)) d_cJT_stepEnd_15 ⟨Nat.le_of_ble_eq_true rfl, Nat.le_of_ble_eq_true rfl⟩) hS (fun q _ h => hFc q h) hFc (fun rz u t H1 locs ht hvm hw hB hz1 hk1 hS => ?_)
    obtain ⟨hP, -, hD1⟩ := hB
    rw [ht] at hP
    have hD := hD1.weaken (fun _ q _ h => hFc q.1 h)
    generalize H1 = H at hP hS ⊢
    refine W.cs (cells' := 0) (slots' := 0) rfl rfl ?_
    subst hw
    refine lv_istore_n (lv' := [(2, .int o_5.2), (0, .ref (ad 11 x0)), (1, .int x1)]) hx hb d_cJT_stepEnd_18 rfl hl (by decide) rfl (fun ls hl => ?_)
    refine lv_iload_n hx hb d_cJT_stepEnd_19 rfl (lv_at hl 0 rfl) ?_
    refine lv_bipush (v := 46) hx hb d_cJT_stepEnd_20 (by decide) ?_
    refine lv_icmp_ne (tgt := 35) hx hb d_cJT_stepEnd_22 (by decide) (fun c_7 => ?_) (fun c_7 => ?_)
    · replace Heq := (if_neg c_7).symm.trans Heq
      refine lv_iload_n hx hb d_cJT_stepEnd_35 rfl (lv_at hl 0 rfl) ?_
      refine lv_bipush (v := 91) hx hb d_cJT_stepEnd_36 (by decide) ?_
      refine lv_icmp_ne (tgt := 51) hx hb d_cJT_stepEnd_38 (by decide) (fun c_8 => ?_) (fun c_8 => ?_)
      · replace Heq := (if_neg c_8).symm.trans Heq
        refine lv_iconst (v := (-1)) hx hb d_cJT_stepEnd_51 (by decide) ?_
        exact w_cJT_stepEnd_J52 hC Heq Kr _ _ _ hP hD hS (lv_sub hl [1] rfl)
      · replace Heq := (if_pos c_8).symm.trans Heq
        refine lv_aload_n hx hb d_cJT_stepEnd_41 rfl (lv_at hl 1 rfl) ?_
        refine lv_iload_n hx hb d_cJT_stepEnd_42 rfl (lv_at hl 2 rfl) ?_
        refine lv_iconst (v := 1) hx hb d_cJT_stepEnd_43 (by decide) ?_
        refine lv_iadd hx hb d_cJT_stepEnd_44 ?_
        refine w_i (y := x1 + 1) rfl ?_
        obtain ⟨o_9, h_10, Heq⟩ := ob_some Heq
        have hFc := fr_all hD hS hA
        refine va_calli (va_runV (As := [.int (x1 + 1)]) (rest := []) ⟨hx, hb, hml, hown, hts⟩ (g_cJT_indexEnd l D H.size (ad := ad) (cc := cc) (sad := sad) (sav := sav) h_10) (cw_v 1 hts kw_1200 kw_1197 kw_1199 kp_26 kw_1 rfl rfl (by decide +kernel) ⟨Nat.le_of_ble_eq_true rfl, Nat.le_of_ble_eq_true rfl⟩) ⟨c_blind, va_recv hK hP (ci := 11) (q0 := cPos N 11 x0) rfl (cw_obj (k := 11) (by decide) hl_x0_11), fun U hU hW => c_pre hU hW hP hK hD hev hE hN hNS hS hFc⟩ rfl rfl hl.1 rfl (lv_room (Nat.le_of_ble_eq_true rfl)) d_cJT_stepEnd_45 ⟨Nat.le_of_ble_eq_true rfl, Nat.le_of_ble_eq_true rfl⟩) hS (fun q _ h => hFc q h) hFc (fun rz u t H1 locs ht hvm hw hB hz1 hk1 hS => ?_)
        obtain ⟨hP, -, hD1⟩ := hB
        rw [ht] at hP
        have hD := hD1.weaken (fun _ q _ h => hFc q.1 h)
        generalize H1 = H at hP hS ⊢
        refine W.cs (cells' := 0) (slots' := 0) rfl rfl ?_
        subst hw
        refine lv_goto (tgt := 52) hx hb d_cJT_stepEnd_48 (by decide) ?_
        exact w_cJT_stepEnd_J52 hC Heq Kr _ _ _ hP hD hS (lv_sub hl [1] rfl)
    · replace Heq := (if_pos c_7).symm.trans Heq
      refine lv_aload_n hx hb d_cJT_stepEnd_25 rfl (lv_at hl 1 rfl) ?_
      refine lv_iload_n hx hb d_cJT_stepEnd_26 rfl (lv_at hl 2 rfl) ?_
      refine lv_iconst (v := 1) hx hb d_cJT_stepEnd_27 (by decide) ?_
      refine lv_iadd hx hb d_cJT_stepEnd_28 ?_
      refine w_i (y := x1 + 1) rfl ?_
      obtain ⟨o_11, h_12, Heq⟩ := ob_some Heq
      have hFc := fr_all hD hS hA
      refine va_calli (va_runV (As := [.int (x1 + 1)]) (rest := []) ⟨hx, hb, hml, hown, hts⟩ (g_cJT_keyEnd l D H.size (ad := ad) (cc := cc) (sad := sad) (sav := sav) h_12) (cw_v 1 hts kw_1192 kw_1189 kw_1191 kp_25 kw_1 rfl rfl (by decide +kernel) ⟨Nat.le_of_ble_eq_true rfl, Nat.le_of_ble_eq_true rfl⟩) ⟨c_blind, va_recv hK hP (ci := 11) (q0 := cPos N 11 x0) rfl (cw_obj (k := 11) (by decide) hl_x0_11), fun U hU hW => c_pre hU hW hP hK hD hev hE hN hNS hS hFc⟩ rfl rfl hl.1 rfl (lv_room (Nat.le_of_ble_eq_true rfl)) d_cJT_stepEnd_29 ⟨Nat.le_of_ble_eq_true rfl, Nat.le_of_ble_eq_true rfl⟩) hS (fun q _ h => hFc q h) hFc (fun rz u t H1 locs ht hvm hw hB hz1 hk1 hS => ?_)
      obtain ⟨hP, -, hD1⟩ := hB
      rw [ht] at hP
      have hD := hD1.weaken (fun _ q _ h => hFc q.1 h)
      generalize H1 = H at hP hS ⊢
      refine W.cs (cells' := 0) (slots' := 0) rfl rfl ?_
      subst hw
      refine lv_goto (tgt := 52) hx hb d_cJT_stepEnd_32 (by decide) ?_
      exact w_cJT_stepEnd_J52 hC Heq Kr _ _ _ hP hD hS (lv_sub hl [1] rfl)
  · replace Heq := (if_pos c_1).symm.trans Heq
    refine lv_aload_n hx hb d_cJT_stepEnd_4 rfl (lv_at hl 0 rfl) ?_
    refine lv_iconst (v := 0) hx hb d_cJT_stepEnd_5 (by decide) ?_
    obtain ⟨hl_x0_11, Heq⟩ := gl_some Heq
    obtain ⟨o_13, h_14, Heq⟩ := ob_some Heq
    have hFc := fr_all hD hS hA
    refine va_calli (va_runV (As := [.int 0]) (rest := []) ⟨hx, hb, hml, hown, hts⟩ (g_cJT_keyEnd l D H.size (ad := ad) (cc := cc) (sad := sad) (sav := sav) h_14) (cw_v 1 hts kw_1192 kw_1189 kw_1191 kp_25 kw_1 rfl rfl (by decide +kernel) ⟨Nat.le_of_ble_eq_true rfl, Nat.le_of_ble_eq_true rfl⟩) ⟨c_blind, va_recv hK hP (ci := 11) (q0 := cPos N 11 x0) rfl (cw_obj (k := 11) (by decide) hl_x0_11), fun U hU hW => c_pre hU hW hP hK hD hev hE hN hNS hS hFc⟩ rfl rfl hl.1 rfl (lv_room (Nat.le_of_ble_eq_true rfl)) d_cJT_stepEnd_6 ⟨Nat.le_of_ble_eq_true rfl, Nat.le_of_ble_eq_true rfl⟩) hS (fun q _ h => hFc q h) hFc (fun rz u t H1 locs ht hvm hw hB hz1 hk1 hS => ?_)
    obtain ⟨hP, -, hD1⟩ := hB
    rw [ht] at hP
    have hD := hD1.weaken (fun _ q _ h => hFc q.1 h)
    generalize H1 = H at hP hS ⊢
    refine W.cs (cells' := 0) (slots' := 0) rfl rfl ?_
    subst hw
    exact Kr _ (Option.some.inj Heq).symm 9 _ _ _ d_cJT_stepEnd_9 hP hD hS
def m_cJT_stepEnd (N : Nat → Nat) (x0 : Nat) (S : CS) (x1 : Int32) : Option (CS × Int32) := m_cJT_stepEnd_J0 N x0 S x1
set_option maxHeartbeats 4000000 in
theorem g_cJT_stepEnd (l : Launch) (D : va_G) (sz : Nat) {ad : Nat → Nat → Nat} {cc : Nat → ClassId} {sad sav : Nat → Nat} {N : Nat → Nat} {x0 : Nat} {S : CS} {x1 : Int32} {o : CS × Int32} (Heq : m_cJT_stepEnd N x0 S x1 = some o) : Met l ⟨"JoinedTrees", "stepEnd", "(I)I"⟩ (Cond.code ⟨"JoinedTrees", "stepEnd", "(I)I"⟩ prog_1_method_54_code 3 (some .int) :: gb) ({ frames := 3, cells := 0, slots := 0, locals := 63 }) (cPc sad sav D (cw ad cc N S) (cty cc) sz [.ref (ad 11 x0), .int x1]) (va_Qi (fun (r : Int32) (_ : Unit) => r = o.2) (fun _ t => gO D (cw ad cc N o.1) (cty cc) (va_A (cw ad cc N S) sz) t) (va_A (cw ad cc N S) sz)) 0 0 (va_A (cw ad cc N S) sz) := by
  refine Met.ofW (cc := prog_1_method_54_code) (maxL := 3) (ret := (some .int)) (by decide) rfl ?_
  intro p e s m args below meth c s₁ B hml hv
  obtain ⟨rfl, hsz, hP, hK, hD0, hev, hE, hN⟩ := hv
  have hx := B.exec
  have hb := B.bytes
  have hr := B.returns
  have hts : ∀ w9 ∈ gb, w9.before [.ref (ad 11 x0), .int x1].toArray s = true := fun w9 h => atoms_spec (ws := Cond.code ⟨"JoinedTrees", "stepEnd", "(I)I"⟩ prog_1_method_54_code 3 (some .int) :: gb) B.pre w9 (List.mem_cons_of_mem _ h)
  have hown : s.vm.findClass "JoinedTrees" = some m.cls := findClass_of_methodNamed B.named
  have hlocks := B.notSynchronized
  have hNS := ns_of hP
  subst hsz
  have hD := hD0.self (sz := s.heap.size)
  generalize hAe : va_A (cw ad cc N S) s.heap.size = A at hD hev hE hNS ⊢
  have hA : ∀ q : Nat, s.heap.size ≤ q → A q := fun q h => by rw [← hAe]; exact Or.inr h
  have hS : va_S A s.heap s.heap [] := va_S.rf
  obtain ⟨ls, hl, hle⟩ : ∃ ls : Array Slot, lv_has ls 3 [(0, .ref (ad 11 x0)), (1, .int x1)] ∧ entryFrame m ([.ref (ad 11 x0), .int x1] : List Value).toArray 3 = F0 m 0 ls [] := by
    exact ⟨_, lv_entry (n := 3) _ (Nat.le_of_ble_eq_true rfl), lg_entry_eq ..⟩
  rw [hle]
  refine w_cJT_stepEnd_J0 ⟨hx, hb, hr, hml, hown, hts, hK, hA, hev, hE, hN, hNS⟩ Heq (fun r h pc H locs ls hd hP hD hS => ?_) _ _ _ hP hD hS (lv_sub hl [0, 1] rfl)
  subst h
  exact W.iret hx hb hr (fun t ht hW => ⟨⟨_, (), rfl, rfl, by rw [ht]; exact hP, va_K.moved hW.alike hK, hD⟩, hS.F ht⟩) hS.2.2 hd
def m_cJT_isPath_B4 (N : Nat → Nat) (x0 : Nat) (S : CS) (x1 : Int32) (x2 : Int32) : Option ((CS × Int32 × Int32) ⊕ (CS × Int32)) := (if 8192 ≤ x2 then some (.inr (S, x1)) else (if x1 < 0 then some (.inr (S, x1)) else gl x0 (N 11) (gn (S.r 11 9 x0) (N 5) (fun j_3 => (if S.i 5 1 j_3 ≤ x1 then some (.inr (S, x1)) else ob (m_cJT_stepEnd N x0 S x1) (fun o_7 => some (.inl (o_7.1, o_7.2, (x2 + 1)))))))))
theorem d_cJT_isPath_0 : decode prog_1_method_53_code 0 = .ok (.iconst 0, 1) := by decide +kernel
theorem d_cJT_isPath_1 : decode prog_1_method_53_code 1 = .ok (.istore_n 1, 1) := by decide +kernel
theorem d_cJT_isPath_2 : decode prog_1_method_53_code 2 = .ok (.iconst 0, 1) := by decide +kernel
theorem d_cJT_isPath_3 : decode prog_1_method_53_code 3 = .ok (.istore_n 2, 1) := by decide +kernel
theorem d_cJT_isPath_4 : decode prog_1_method_53_code 4 = .ok (.iload_n 2, 1) := by decide +kernel
theorem d_cJT_isPath_5 : decode prog_1_method_53_code 5 = .ok (.sipush 8192, 3) := by decide +kernel
theorem d_cJT_isPath_8 : decode prog_1_method_53_code 8 = .ok (.if_icmp .ge 30, 3) := by decide +kernel
theorem d_cJT_isPath_11 : decode prog_1_method_53_code 11 = .ok (.iload_n 1, 1) := by decide +kernel
theorem d_cJT_isPath_12 : decode prog_1_method_53_code 12 = .ok (.ifCond .lt 26, 3) := by decide +kernel
theorem d_cJT_isPath_15 : decode prog_1_method_53_code 15 = .ok (.iload_n 1, 1) := by decide +kernel
theorem d_cJT_isPath_16 : decode prog_1_method_53_code 16 = .ok (.aload_n 0, 1) := by decide +kernel
theorem d_cJT_isPath_17 : decode prog_1_method_53_code 17 = .ok (.getfield 70, 3) := by decide +kernel
theorem d_cJT_isPath_20 : decode prog_1_method_53_code 20 = .ok (.getfield 80, 3) := by decide +kernel
theorem d_cJT_isPath_23 : decode prog_1_method_53_code 23 = .ok (.if_icmp .ge 15, 3) := by decide +kernel
theorem d_cJT_isPath_26 : decode prog_1_method_53_code 26 = .ok (.aload_n 0, 1) := by decide +kernel
theorem d_cJT_isPath_27 : decode prog_1_method_53_code 27 = .ok (.iload_n 1, 1) := by decide +kernel
theorem d_cJT_isPath_28 : decode prog_1_method_53_code 28 = .ok (.invokevirtual 331, 3) := by decide +kernel
theorem d_cJT_isPath_31 : decode prog_1_method_53_code 31 = .ok (.istore_n 1, 1) := by decide +kernel
theorem d_cJT_isPath_32 : decode prog_1_method_53_code 32 = .ok (.iinc 2 1, 3) := by decide +kernel
theorem d_cJT_isPath_35 : decode prog_1_method_53_code 35 = .ok (.goto (-31), 3) := by decide +kernel
set_option maxHeartbeats 4000000 in
set_option maxRecDepth 100000 in
theorem w_cJT_isPath_B4 {p : Program} {l : Launch} {e : Env} {s : State} {m : MethodId} {args : Array Value} {below : List Frame} {meth : Method} {c : Code} {A : Nat → Prop} {D : va_G} {ad : Nat → Nat → Nat} {cc : Nat → ClassId} {sad sav : Nat → Nat} {Q : State → Prop} (hC : MCc sad sav "JoinedTrees" prog_1_method_53_code 3 (some .boolean) p s m args meth c A D cc) {N : Nat → Nat} {x0 : Nat} {S : CS} {x1 : Int32} {x2 : Int32} {o : ((CS × Int32 × Int32) ⊕ (CS × Int32))} (Heq : m_cJT_isPath_B4 N x0 S x1 x2 = some o) (Ka : ∀ b : CS × Int32 × Int32, o = .inl b → ∀ (H : Heap) (locs : List Loc) (ls : Array Slot), va_P D cls (cw ad cc N b.1) H → va_D A (cw ad cc N b.1) → va_S A s.heap H locs → lv_has ls 3 [(0, .ref (ad 11 x0)), (1, .int b.2.1), (2, .int b.2.2)] → W p l e ({ frames := 4, cells := 0, slots := 0, locals := 85 }) s m args below meth c H locs 0 0 Q (F0 m 4 ls [])) (K0 : ∀ b : CS × Int32, o = .inr b → ∀ (H : Heap) (locs : List Loc) (ls : Array Slot), va_P D cls (cw ad cc N b.1) H → va_D A (cw ad cc N b.1) → va_S A s.heap H locs → lv_has ls 3 [(0, .ref (ad 11 x0)), (1, .int b.2)] → W p l e ({ frames := 4, cells := 0, slots := 0, locals := 85 }) s m args below meth c H locs 0 0 Q (F0 m 38 ls [])) : ∀ (H : Heap) (locs : List Loc) (ls : Array Slot), va_P D cls (cw ad cc N S) H → va_D A (cw ad cc N S) → va_S A s.heap H locs → lv_has ls 3 [(0, .ref (ad 11 x0)), (1, .int x1), (2, .int x2)] → W p l e ({ frames := 4, cells := 0, slots := 0, locals := 85 }) s m args below meth c H locs 0 0 Q (F0 m 4 ls []) := by
  intro H locs ls hP hD hS hl
  obtain ⟨hx, hb, hr, hml, hown, hts, hK, hA, hev, hE, hN, hNS⟩ := id hC
  unfold m_cJT_isPath_B4 at Heq
  refine lv_iload_n hx hb d_cJT_isPath_4 rfl (lv_at hl 2 rfl) ?_
  refine lv_sipush (v := 8192) hx hb d_cJT_isPath_5 (by decide) ?_
  refine lv_icmp_ge (tgt := 38) hx hb d_cJT_isPath_8 (by decide) (fun c_1 => ?_) (fun c_1 => ?_)
  · replace Heq := (if_pos c_1).symm.trans Heq
    exact K0 _ (Option.some.inj Heq).symm _ _ _ hP hD hS (lv_sub hl [0, 1] rfl)
  · replace Heq := (if_neg c_1).symm.trans Heq
    refine lv_iload_n hx hb d_cJT_isPath_11 rfl (lv_at hl 1 rfl) ?_
    refine lv_if_lt (tgt := 38) hx hb d_cJT_isPath_12 (by decide) (fun c_2 => ?_) (fun c_2 => ?_)
    · replace Heq := (if_pos c_2).symm.trans Heq
      exact K0 _ (Option.some.inj Heq).symm _ _ _ hP hD hS (lv_sub hl [0, 1] rfl)
    · replace Heq := (if_neg c_2).symm.trans Heq
      refine lv_iload_n hx hb d_cJT_isPath_15 rfl (lv_at hl 1 rfl) ?_
      refine lv_aload_n hx hb d_cJT_isPath_16 rfl (lv_at hl 0 rfl) ?_
      obtain ⟨hl_x0_11, Heq⟩ := gl_some Heq
      refine va_get (D := D) (ci := 11) (v := rv ad 5 (S.r 11 9 x0)) (C := R_JT) (T := F_JT) (N := 13) hx hb hts i_JT hown hK hP (cPos N 11 x0) (cw_obj (k := 11) (by decide) hl_x0_11) rfl 9 (by decide) (hts _ kw_430) (fun _ h9 => h9) rfl d_cJT_isPath_17 ?_
      obtain ⟨j_3, hj_4, hl_5, Heq⟩ := gn_some Heq
      refine w_s (st' := [.ref (ad 5 j_3), .int x1]) (congrArg (fun z9 : Option Nat => [rv ad 5 z9, .int x1]) hj_4) ?_
      refine va_get (D := D) (ci := 5) (v := .int (S.i 5 1 j_3)) (C := R_Rw) (T := F_Rw) (N := 3) hx hb hts i_Rw hown hK hP (cPos N 5 j_3) (cw_obj (k := 5) (by decide) hl_5) rfl 1 (by decide) (hts _ kw_143) (fun _ h9 => h9) rfl d_cJT_isPath_20 ?_
      refine lv_icmp_ge (tgt := 38) hx hb d_cJT_isPath_23 (by decide) (fun c_6 => ?_) (fun c_6 => ?_)
      · replace Heq := (if_pos c_6).symm.trans Heq
        exact K0 _ (Option.some.inj Heq).symm _ _ _ hP hD hS (lv_sub hl [0, 1] rfl)
      · replace Heq := (if_neg c_6).symm.trans Heq
        refine lv_aload_n hx hb d_cJT_isPath_26 rfl (lv_at hl 0 rfl) ?_
        refine lv_iload_n hx hb d_cJT_isPath_27 rfl (lv_at hl 1 rfl) ?_
        obtain ⟨o_7, h_8, Heq⟩ := ob_some Heq
        have hFc := fr_all hD hS hA
        refine va_calli (va_runV (As := [.int x1]) (rest := []) ⟨hx, hb, hml, hown, hts⟩ (g_cJT_stepEnd l D H.size (ad := ad) (cc := cc) (sad := sad) (sav := sav) h_8) (cw_v 1 hts kw_1188 kw_1185 kw_1187 kp_24 kw_1 rfl rfl (by decide +kernel) ⟨Nat.le_of_ble_eq_true rfl, Nat.le_of_ble_eq_true rfl⟩) ⟨c_blind, va_recv hK hP (ci := 11) (q0 := cPos N 11 x0) rfl (cw_obj (k := 11) (by decide) hl_x0_11), fun U hU hW => c_pre hU hW hP hK hD hev hE hN hNS hS hFc⟩ rfl rfl hl.1 rfl (lv_room (Nat.le_of_ble_eq_true rfl)) d_cJT_isPath_28 ⟨Nat.le_of_ble_eq_true rfl, Nat.le_of_ble_eq_true rfl⟩) hS (fun q _ h => hFc q h) hFc (fun rz u t H1 locs ht hvm hw hB hz1 hk1 hS => ?_)
        obtain ⟨hP, -, hD1⟩ := hB
        rw [ht] at hP
        have hD := hD1.weaken (fun _ q _ h => hFc q.1 h)
        generalize H1 = H at hP hS ⊢
        refine W.cs (cells' := 0) (slots' := 0) rfl rfl ?_
        subst hw
        refine lv_istore_n (lv' := [(1, .int o_7.2), (0, .ref (ad 11 x0)), (2, .int x2)]) hx hb d_cJT_isPath_31 rfl hl (by decide) rfl (fun ls hl => ?_)
        refine lv_iinc (v := x2 + 1) (lv' := [(2, .int (x2 + 1)), (1, .int o_7.2), (0, .ref (ad 11 x0))]) hx hb d_cJT_isPath_32 hl (k := 2) rfl rfl (by decide) rfl (fun ls hl => ?_)
        refine lv_goto (tgt := 4) hx hb d_cJT_isPath_35 (by decide) ?_
        exact Ka _ (Option.some.inj Heq).symm _ _ _ hP hD hS (lv_sub hl [2, 1, 0] rfl)
def m_cJT_isPath_L4 (N : Nat → Nat) (x0 : Nat) (S : CS) (x1 : Int32) (x2 : Int32) : Option (CS × Int32) := lp (fun a : CS × Int32 × Int32 => m_cJT_isPath_B4 N x0 a.1 a.2.1 a.2.2) FU (S, x1, x2)
theorem w_cJT_isPath_L4 {p : Program} {l : Launch} {e : Env} {s : State} {m : MethodId} {args : Array Value} {below : List Frame} {meth : Method} {c : Code} {A : Nat → Prop} {D : va_G} {ad : Nat → Nat → Nat} {cc : Nat → ClassId} {sad sav : Nat → Nat} {Q : State → Prop} (hC : MCc sad sav "JoinedTrees" prog_1_method_53_code 3 (some .boolean) p s m args meth c A D cc) {N : Nat → Nat} {x0 : Nat} {S : CS} {x1 : Int32} {x2 : Int32} {o : CS × Int32} (Heq : m_cJT_isPath_L4 N x0 S x1 x2 = some o) (K0 : ∀ b : CS × Int32, o = b → ∀ (H : Heap) (locs : List Loc) (ls : Array Slot), va_P D cls (cw ad cc N b.1) H → va_D A (cw ad cc N b.1) → va_S A s.heap H locs → lv_has ls 3 [(0, .ref (ad 11 x0)), (1, .int b.2)] → W p l e ({ frames := 4, cells := 0, slots := 0, locals := 85 }) s m args below meth c H locs 0 0 Q (F0 m 38 ls [])) : ∀ (H : Heap) (locs : List Loc) (ls : Array Slot), va_P D cls (cw ad cc N S) H → va_D A (cw ad cc N S) → va_S A s.heap H locs → lv_has ls 3 [(0, .ref (ad 11 x0)), (1, .int x1), (2, .int x2)] → W p l e ({ frames := 4, cells := 0, slots := 0, locals := 85 }) s m args below meth c H locs 0 0 Q (F0 m 4 ls []) := by
  refine lp_w (G := fun a : CS × Int32 × Int32 => ∀ (H : Heap) (locs : List Loc) (ls : Array Slot), va_P D cls (cw ad cc N a.1) H → va_D A (cw ad cc N a.1) → va_S A s.heap H locs → lv_has ls 3 [(0, .ref (ad 11 x0)), (1, .int a.2.1), (2, .int a.2.2)] → W p l e ({ frames := 4, cells := 0, slots := 0, locals := 85 }) s m args below meth c H locs 0 0 Q (F0 m 4 ls [])) ?_ FU (S, x1, x2) Heq
  intro a o1 ho Ka Ke
  exact w_cJT_isPath_B4 hC ho (fun b h => Ka b h) (fun b h => K0 b (Ke _ h).symm)
def m_cJT_isPath_J57 (N : Nat → Nat) (x0 : Nat) (S : CS) (t0 : Int32) : Option (CS × Int32) := (if t0 = 0 ∨ t0 = 1 then some (S, t0) else none)
theorem d_cJT_isPath_38 : decode prog_1_method_53_code 38 = .ok (.aload_n 0, 1) := by decide +kernel
theorem d_cJT_isPath_39 : decode prog_1_method_53_code 39 = .ok (.getfield 70, 3) := by decide +kernel
theorem d_cJT_isPath_42 : decode prog_1_method_53_code 42 = .ok (.getfield 80, 3) := by decide +kernel
theorem d_cJT_isPath_45 : decode prog_1_method_53_code 45 = .ok (.ifCond .le 11, 3) := by decide +kernel
theorem d_cJT_isPath_56 : decode prog_1_method_53_code 56 = .ok (.iconst 0, 1) := by decide +kernel
theorem d_cJT_isPath_57 : decode prog_1_method_53_code 57 = .ok (.ireturn, 1) := by decide +kernel
set_option maxHeartbeats 4000000 in
set_option maxRecDepth 100000 in
theorem w_cJT_isPath_J57 {p : Program} {l : Launch} {e : Env} {s : State} {m : MethodId} {args : Array Value} {below : List Frame} {meth : Method} {c : Code} {A : Nat → Prop} {D : va_G} {ad : Nat → Nat → Nat} {cc : Nat → ClassId} {sad sav : Nat → Nat} {Q : State → Prop} (hC : MCc sad sav "JoinedTrees" prog_1_method_53_code 3 (some .boolean) p s m args meth c A D cc) {N : Nat → Nat} {x0 : Nat} {S : CS} {t0 : Int32} {o : CS × Int32} (Heq : m_cJT_isPath_J57 N x0 S t0 = some o) (Kr : ∀ r : CS × Int32, o = r → ∀ (pc : Nat) (H : Heap) (locs : List Loc) (ls : Array Slot), decode prog_1_method_53_code pc = .ok (.ireturn, 1) → (r.2 = 0 ∨ r.2 = 1) → va_P D cls (cw ad cc N r.1) H → va_D A (cw ad cc N r.1) → va_S A s.heap H locs → W p l e ({ frames := 4, cells := 0, slots := 0, locals := 85 }) s m args below meth c H locs 0 0 Q (F0 m pc ls [.int r.2])) : ∀ (H : Heap) (locs : List Loc) (ls : Array Slot), va_P D cls (cw ad cc N S) H → va_D A (cw ad cc N S) → va_S A s.heap H locs → lv_has ls 3 [(0, .ref (ad 11 x0))] → W p l e ({ frames := 4, cells := 0, slots := 0, locals := 85 }) s m args below meth c H locs 0 0 Q (F0 m 57 ls [.int t0]) := by
  intro H locs ls hP hD hS hl
  obtain ⟨hx, hb, hr, hml, hown, hts, hK, hA, hev, hE, hN, hNS⟩ := id hC
  unfold m_cJT_isPath_J57 at Heq
  by_cases hz_1 : t0 = 0 ∨ t0 = 1
  case neg => rw [if_neg hz_1] at Heq; cases Heq
  replace Heq := (if_pos hz_1).symm.trans Heq
  exact Kr _ (Option.some.inj Heq).symm 57 _ _ _ d_cJT_isPath_57 hz_1 hP hD hS
def m_cJT_isPath_J56 (N : Nat → Nat) (x0 : Nat) (S : CS) : Option (CS × Int32) := m_cJT_isPath_J57 N x0 S 0
set_option maxHeartbeats 4000000 in
set_option maxRecDepth 100000 in
theorem w_cJT_isPath_J56 {p : Program} {l : Launch} {e : Env} {s : State} {m : MethodId} {args : Array Value} {below : List Frame} {meth : Method} {c : Code} {A : Nat → Prop} {D : va_G} {ad : Nat → Nat → Nat} {cc : Nat → ClassId} {sad sav : Nat → Nat} {Q : State → Prop} (hC : MCc sad sav "JoinedTrees" prog_1_method_53_code 3 (some .boolean) p s m args meth c A D cc) {N : Nat → Nat} {x0 : Nat} {S : CS} {o : CS × Int32} (Heq : m_cJT_isPath_J56 N x0 S = some o) (Kr : ∀ r : CS × Int32, o = r → ∀ (pc : Nat) (H : Heap) (locs : List Loc) (ls : Array Slot), decode prog_1_method_53_code pc = .ok (.ireturn, 1) → (r.2 = 0 ∨ r.2 = 1) → va_P D cls (cw ad cc N r.1) H → va_D A (cw ad cc N r.1) → va_S A s.heap H locs → W p l e ({ frames := 4, cells := 0, slots := 0, locals := 85 }) s m args below meth c H locs 0 0 Q (F0 m pc ls [.int r.2])) : ∀ (H : Heap) (locs : List Loc) (ls : Array Slot), va_P D cls (cw ad cc N S) H → va_D A (cw ad cc N S) → va_S A s.heap H locs → lv_has ls 3 [(0, .ref (ad 11 x0))] → W p l e ({ frames := 4, cells := 0, slots := 0, locals := 85 }) s m args below meth c H locs 0 0 Q (F0 m 56 ls []) := by
  intro H locs ls hP hD hS hl
  obtain ⟨hx, hb, hr, hml, hown, hts, hK, hA, hev, hE, hN, hNS⟩ := id hC
  unfold m_cJT_isPath_J56 at Heq
  refine lv_iconst (v := 0) hx hb d_cJT_isPath_56 (by decide) ?_
  exact w_cJT_isPath_J57 hC Heq Kr _ _ _ hP hD hS (lv_sub hl [0] rfl)
def m_cJT_isPath_J38 (N : Nat → Nat) (x0 : Nat) (S : CS) (x1 : Int32) : Option (CS × Int32) := gl x0 (N 11) (gn (S.r 11 9 x0) (N 5) (fun j_1 => (if S.i 5 1 j_1 ≤ 0 then m_cJT_isPath_J56 N x0 S else (if x1 < 0 then m_cJT_isPath_J56 N x0 S else m_cJT_isPath_J57 N x0 S 1))))
theorem d_cJT_isPath_48 : decode prog_1_method_53_code 48 = .ok (.iload_n 1, 1) := by decide +kernel
theorem d_cJT_isPath_49 : decode prog_1_method_53_code 49 = .ok (.ifCond .lt 7, 3) := by decide +kernel
theorem d_cJT_isPath_52 : decode prog_1_method_53_code 52 = .ok (.iconst 1, 1) := by decide +kernel
theorem d_cJT_isPath_53 : decode prog_1_method_53_code 53 = .ok (.goto 4, 3) := by decide +kernel
set_option maxHeartbeats 4000000 in
set_option maxRecDepth 100000 in
theorem w_cJT_isPath_J38 {p : Program} {l : Launch} {e : Env} {s : State} {m : MethodId} {args : Array Value} {below : List Frame} {meth : Method} {c : Code} {A : Nat → Prop} {D : va_G} {ad : Nat → Nat → Nat} {cc : Nat → ClassId} {sad sav : Nat → Nat} {Q : State → Prop} (hC : MCc sad sav "JoinedTrees" prog_1_method_53_code 3 (some .boolean) p s m args meth c A D cc) {N : Nat → Nat} {x0 : Nat} {S : CS} {x1 : Int32} {o : CS × Int32} (Heq : m_cJT_isPath_J38 N x0 S x1 = some o) (Kr : ∀ r : CS × Int32, o = r → ∀ (pc : Nat) (H : Heap) (locs : List Loc) (ls : Array Slot), decode prog_1_method_53_code pc = .ok (.ireturn, 1) → (r.2 = 0 ∨ r.2 = 1) → va_P D cls (cw ad cc N r.1) H → va_D A (cw ad cc N r.1) → va_S A s.heap H locs → W p l e ({ frames := 4, cells := 0, slots := 0, locals := 85 }) s m args below meth c H locs 0 0 Q (F0 m pc ls [.int r.2])) : ∀ (H : Heap) (locs : List Loc) (ls : Array Slot), va_P D cls (cw ad cc N S) H → va_D A (cw ad cc N S) → va_S A s.heap H locs → lv_has ls 3 [(0, .ref (ad 11 x0)), (1, .int x1)] → W p l e ({ frames := 4, cells := 0, slots := 0, locals := 85 }) s m args below meth c H locs 0 0 Q (F0 m 38 ls []) := by
  intro H locs ls hP hD hS hl
  obtain ⟨hx, hb, hr, hml, hown, hts, hK, hA, hev, hE, hN, hNS⟩ := id hC
  unfold m_cJT_isPath_J38 at Heq
  refine lv_aload_n hx hb d_cJT_isPath_38 rfl (lv_at hl 0 rfl) ?_
  obtain ⟨hl_x0_11, Heq⟩ := gl_some Heq
  refine va_get (D := D) (ci := 11) (v := rv ad 5 (S.r 11 9 x0)) (C := R_JT) (T := F_JT) (N := 13) hx hb hts i_JT hown hK hP (cPos N 11 x0) (cw_obj (k := 11) (by decide) hl_x0_11) rfl 9 (by decide) (hts _ kw_430) (fun _ h9 => h9) rfl d_cJT_isPath_39 ?_
  obtain ⟨j_1, hj_2, hl_3, Heq⟩ := gn_some Heq
  refine w_s (st' := [.ref (ad 5 j_1)]) (congrArg (fun z9 : Option Nat => [rv ad 5 z9]) hj_2) ?_
  refine va_get (D := D) (ci := 5) (v := .int (S.i 5 1 j_1)) (C := R_Rw) (T := F_Rw) (N := 3) hx hb hts i_Rw hown hK hP (cPos N 5 j_1) (cw_obj (k := 5) (by decide) hl_3) rfl 1 (by decide) (hts _ kw_143) (fun _ h9 => h9) rfl d_cJT_isPath_42 ?_
  refine lv_if_le (tgt := 56) hx hb d_cJT_isPath_45 (by decide) (fun c_4 => ?_) (fun c_4 => ?_)
  · replace Heq := (if_pos c_4).symm.trans Heq
    exact w_cJT_isPath_J56 hC Heq Kr _ _ _ hP hD hS (lv_sub hl [0] rfl)
  · replace Heq := (if_neg c_4).symm.trans Heq
    refine lv_iload_n hx hb d_cJT_isPath_48 rfl (lv_at hl 1 rfl) ?_
    refine lv_if_lt (tgt := 56) hx hb d_cJT_isPath_49 (by decide) (fun c_5 => ?_) (fun c_5 => ?_)
    · replace Heq := (if_pos c_5).symm.trans Heq
      exact w_cJT_isPath_J56 hC Heq Kr _ _ _ hP hD hS (lv_sub hl [0] rfl)
    · replace Heq := (if_neg c_5).symm.trans Heq
      refine lv_iconst (v := 1) hx hb d_cJT_isPath_52 (by decide) ?_
      refine lv_goto (tgt := 57) hx hb d_cJT_isPath_53 (by decide) ?_
      exact w_cJT_isPath_J57 hC Heq Kr _ _ _ hP hD hS (lv_sub hl [0] rfl)
def m_cJT_isPath_J0 (N : Nat → Nat) (x0 : Nat) (S : CS) : Option (CS × Int32) := ob (m_cJT_isPath_L4 N x0 S 0 0) (fun b_1 => m_cJT_isPath_J38 N x0 b_1.1 b_1.2)
set_option maxHeartbeats 4000000 in
set_option maxRecDepth 100000 in
theorem w_cJT_isPath_J0 {p : Program} {l : Launch} {e : Env} {s : State} {m : MethodId} {args : Array Value} {below : List Frame} {meth : Method} {c : Code} {A : Nat → Prop} {D : va_G} {ad : Nat → Nat → Nat} {cc : Nat → ClassId} {sad sav : Nat → Nat} {Q : State → Prop} (hC : MCc sad sav "JoinedTrees" prog_1_method_53_code 3 (some .boolean) p s m args meth c A D cc) {N : Nat → Nat} {x0 : Nat} {S : CS} {o : CS × Int32} (Heq : m_cJT_isPath_J0 N x0 S = some o) (Kr : ∀ r : CS × Int32, o = r → ∀ (pc : Nat) (H : Heap) (locs : List Loc) (ls : Array Slot), decode prog_1_method_53_code pc = .ok (.ireturn, 1) → (r.2 = 0 ∨ r.2 = 1) → va_P D cls (cw ad cc N r.1) H → va_D A (cw ad cc N r.1) → va_S A s.heap H locs → W p l e ({ frames := 4, cells := 0, slots := 0, locals := 85 }) s m args below meth c H locs 0 0 Q (F0 m pc ls [.int r.2])) : ∀ (H : Heap) (locs : List Loc) (ls : Array Slot), va_P D cls (cw ad cc N S) H → va_D A (cw ad cc N S) → va_S A s.heap H locs → lv_has ls 3 [(0, .ref (ad 11 x0))] → W p l e ({ frames := 4, cells := 0, slots := 0, locals := 85 }) s m args below meth c H locs 0 0 Q (F0 m 0 ls []) := by
  intro H locs ls hP hD hS hl
  obtain ⟨hx, hb, hr, hml, hown, hts, hK, hA, hev, hE, hN, hNS⟩ := id hC
  unfold m_cJT_isPath_J0 at Heq
  refine lv_iconst (v := 0) hx hb d_cJT_isPath_0 (by decide) ?_
  refine lv_istore_n (lv' := [(1, .int 0), (0, .ref (ad 11 x0))]) hx hb d_cJT_isPath_1 rfl hl (by decide) rfl (fun ls hl => ?_)
  refine lv_iconst (v := 0) hx hb d_cJT_isPath_2 (by decide) ?_
  refine lv_istore_n (lv' := [(2, .int 0), (1, .int 0), (0, .ref (ad 11 x0))]) hx hb d_cJT_isPath_3 rfl hl (by decide) rfl (fun ls hl => ?_)
  obtain ⟨b_1, h_2, Heq⟩ := ob_some Heq
  refine w_cJT_isPath_L4 hC h_2 (fun b h => ?_) _ _ _ hP hD hS (lv_sub hl [2, 1, 0] rfl)
  subst h
  intro H locs ls hP hD hS hl
  exact w_cJT_isPath_J38 hC Heq Kr _ _ _ hP hD hS (lv_sub hl [0, 1] rfl)
def m_cJT_isPath (N : Nat → Nat) (x0 : Nat) (S : CS) : Option (CS × Int32) := m_cJT_isPath_J0 N x0 S
set_option maxHeartbeats 4000000 in
theorem g_cJT_isPath (l : Launch) (D : va_G) (sz : Nat) {ad : Nat → Nat → Nat} {cc : Nat → ClassId} {sad sav : Nat → Nat} {N : Nat → Nat} {x0 : Nat} {S : CS} {o : CS × Int32} (Heq : m_cJT_isPath N x0 S = some o) : Met l ⟨"JoinedTrees", "isPath", "()Z"⟩ (Cond.code ⟨"JoinedTrees", "isPath", "()Z"⟩ prog_1_method_53_code 3 (some .boolean) :: gb) ({ frames := 4, cells := 0, slots := 0, locals := 85 }) (cPc sad sav D (cw ad cc N S) (cty cc) sz [.ref (ad 11 x0)]) (va_Qi (fun (r : Int32) (_ : Unit) => r = o.2) (fun _ t => gO D (cw ad cc N o.1) (cty cc) (va_A (cw ad cc N S) sz) t) (va_A (cw ad cc N S) sz)) 0 0 (va_A (cw ad cc N S) sz) := by
  refine Met.ofW (cc := prog_1_method_53_code) (maxL := 3) (ret := (some .boolean)) (by decide) rfl ?_
  intro p e s m args below meth c s₁ B hml hv
  obtain ⟨rfl, hsz, hP, hK, hD0, hev, hE, hN⟩ := hv
  have hx := B.exec
  have hb := B.bytes
  have hr := B.returns
  have hts : ∀ w9 ∈ gb, w9.before [.ref (ad 11 x0)].toArray s = true := fun w9 h => atoms_spec (ws := Cond.code ⟨"JoinedTrees", "isPath", "()Z"⟩ prog_1_method_53_code 3 (some .boolean) :: gb) B.pre w9 (List.mem_cons_of_mem _ h)
  have hown : s.vm.findClass "JoinedTrees" = some m.cls := findClass_of_methodNamed B.named
  have hlocks := B.notSynchronized
  have hNS := ns_of hP
  subst hsz
  have hD := hD0.self (sz := s.heap.size)
  generalize hAe : va_A (cw ad cc N S) s.heap.size = A at hD hev hE hNS ⊢
  have hA : ∀ q : Nat, s.heap.size ≤ q → A q := fun q h => by rw [← hAe]; exact Or.inr h
  have hS : va_S A s.heap s.heap [] := va_S.rf
  obtain ⟨ls, hl, hle⟩ : ∃ ls : Array Slot, lv_has ls 3 [(0, .ref (ad 11 x0))] ∧ entryFrame m ([.ref (ad 11 x0)] : List Value).toArray 3 = F0 m 0 ls [] := by
    exact ⟨_, lv_entry (n := 3) _ (Nat.le_of_ble_eq_true rfl), lg_entry_eq ..⟩
  rw [hle]
  refine w_cJT_isPath_J0 ⟨hx, hb, hr, hml, hown, hts, hK, hA, hev, hE, hN, hNS⟩ Heq (fun r h pc H locs ls hd hz hP hD hS => ?_) _ _ _ hP hD hS (lv_sub hl [0] rfl)
  subst h
  exact W.zret (ty := .boolean) hx hb hr (by rcases hz with hz | hz <;> rw [hz] <;> rfl) (fun t ht hW => ⟨⟨_, (), rfl, rfl, by rw [ht]; exact hP, va_K.moved hW.alike hK, hD⟩, hS.F ht⟩) hS.2.2 hd
def m_cJT_elementOf_B8 (N : Nat → Nat) (x0 : Nat) (S : CS) (x1 : Option Nat) (x3 : Int32) (x4 : Int32) (x5 : Int32) : Option ((CS × Option Nat × Int32 × Int32 × Int32) ⊕ (CS × Option Nat × Int32)) := (if x3 - 1 ≤ x5 then some (.inr (S, x1, x4)) else gl x0 (N 11) (gn (S.r 11 9 x0) (N 5) (fun j_2 => ob (m_cRw_at N j_2 S x5) (fun o_5 => some (.inl (o_5.1, x1, x3, (((10 * x4) + o_5.2) - 48), (x5 + 1)))))))
theorem d_cJT_elementOf_0 : decode prog_1_method_60_code 0 = .ok (.iconst 0, 1) := by decide +kernel
theorem d_cJT_elementOf_1 : decode prog_1_method_60_code 1 = .ok (.istore 4, 2) := by decide +kernel
theorem d_cJT_elementOf_3 : decode prog_1_method_60_code 3 = .ok (.iload_n 2, 1) := by decide +kernel
theorem d_cJT_elementOf_4 : decode prog_1_method_60_code 4 = .ok (.iconst 1, 1) := by decide +kernel
theorem d_cJT_elementOf_5 : decode prog_1_method_60_code 5 = .ok (.iadd, 1) := by decide +kernel
theorem d_cJT_elementOf_6 : decode prog_1_method_60_code 6 = .ok (.istore 5, 2) := by decide +kernel
theorem d_cJT_elementOf_8 : decode prog_1_method_60_code 8 = .ok (.iload 5, 2) := by decide +kernel
theorem d_cJT_elementOf_10 : decode prog_1_method_60_code 10 = .ok (.iload_n 3, 1) := by decide +kernel
theorem d_cJT_elementOf_11 : decode prog_1_method_60_code 11 = .ok (.iconst 1, 1) := by decide +kernel
theorem d_cJT_elementOf_12 : decode prog_1_method_60_code 12 = .ok (.isub, 1) := by decide +kernel
theorem d_cJT_elementOf_13 : decode prog_1_method_60_code 13 = .ok (.if_icmp .ge 29, 3) := by decide +kernel
theorem d_cJT_elementOf_16 : decode prog_1_method_60_code 16 = .ok (.bipush 10, 2) := by decide +kernel
theorem d_cJT_elementOf_18 : decode prog_1_method_60_code 18 = .ok (.iload 4, 2) := by decide +kernel
theorem d_cJT_elementOf_20 : decode prog_1_method_60_code 20 = .ok (.imul, 1) := by decide +kernel
theorem d_cJT_elementOf_21 : decode prog_1_method_60_code 21 = .ok (.aload_n 0, 1) := by decide +kernel
theorem d_cJT_elementOf_22 : decode prog_1_method_60_code 22 = .ok (.getfield 70, 3) := by decide +kernel
theorem d_cJT_elementOf_25 : decode prog_1_method_60_code 25 = .ok (.iload 5, 2) := by decide +kernel
theorem d_cJT_elementOf_27 : decode prog_1_method_60_code 27 = .ok (.invokevirtual 293, 3) := by decide +kernel
theorem d_cJT_elementOf_30 : decode prog_1_method_60_code 30 = .ok (.iadd, 1) := by decide +kernel
theorem d_cJT_elementOf_31 : decode prog_1_method_60_code 31 = .ok (.bipush 48, 2) := by decide +kernel
theorem d_cJT_elementOf_33 : decode prog_1_method_60_code 33 = .ok (.isub, 1) := by decide +kernel
theorem d_cJT_elementOf_34 : decode prog_1_method_60_code 34 = .ok (.istore 4, 2) := by decide +kernel
theorem d_cJT_elementOf_36 : decode prog_1_method_60_code 36 = .ok (.iinc 5 1, 3) := by decide +kernel
theorem d_cJT_elementOf_39 : decode prog_1_method_60_code 39 = .ok (.goto (-31), 3) := by decide +kernel
set_option maxHeartbeats 4000000 in
set_option maxRecDepth 100000 in
theorem w_cJT_elementOf_B8 {p : Program} {l : Launch} {e : Env} {s : State} {m : MethodId} {args : Array Value} {below : List Frame} {meth : Method} {c : Code} {A : Nat → Prop} {D : va_G} {ad : Nat → Nat → Nat} {cc : Nat → ClassId} {sad sav : Nat → Nat} {Q : State → Prop} (hC : MCc sad sav "JoinedTrees" prog_1_method_60_code 6 (some (.object "JoinedTrees$Op")) p s m args meth c A D cc) {N : Nat → Nat} {x0 : Nat} {S : CS} {x1 : Option Nat} {x3 : Int32} {x4 : Int32} {x5 : Int32} {o : ((CS × Option Nat × Int32 × Int32 × Int32) ⊕ (CS × Option Nat × Int32))} (Heq : m_cJT_elementOf_B8 N x0 S x1 x3 x4 x5 = some o) (Ka : ∀ b : CS × Option Nat × Int32 × Int32 × Int32, o = .inl b → ∀ (H : Heap) (locs : List Loc) (ls : Array Slot), va_P D cls (cw ad cc N b.1) H → va_D A (cw ad cc N b.1) → va_S A s.heap H locs → lv_has ls 6 [(0, .ref (ad 11 x0)), (1, rv ad 3 b.2.1), (3, .int b.2.2.1), (4, .int b.2.2.2.1), (5, .int b.2.2.2.2)] → W p l e ({ frames := 4, cells := 0, slots := 0, locals := 89 }) s m args below meth c H locs 0 0 Q (F0 m 8 ls [])) (K0 : ∀ b : CS × Option Nat × Int32, o = .inr b → ∀ (H : Heap) (locs : List Loc) (ls : Array Slot), va_P D cls (cw ad cc N b.1) H → va_D A (cw ad cc N b.1) → va_S A s.heap H locs → lv_has ls 6 [(0, .ref (ad 11 x0)), (1, rv ad 3 b.2.1), (4, .int b.2.2)] → W p l e ({ frames := 4, cells := 0, slots := 0, locals := 89 }) s m args below meth c H locs 0 0 Q (F0 m 42 ls [])) : ∀ (H : Heap) (locs : List Loc) (ls : Array Slot), va_P D cls (cw ad cc N S) H → va_D A (cw ad cc N S) → va_S A s.heap H locs → lv_has ls 6 [(0, .ref (ad 11 x0)), (1, rv ad 3 x1), (3, .int x3), (4, .int x4), (5, .int x5)] → W p l e ({ frames := 4, cells := 0, slots := 0, locals := 89 }) s m args below meth c H locs 0 0 Q (F0 m 8 ls []) := by
  intro H locs ls hP hD hS hl
  obtain ⟨hx, hb, hr, hml, hown, hts, hK, hA, hev, hE, hN, hNS⟩ := id hC
  unfold m_cJT_elementOf_B8 at Heq
  refine lv_iload hx hb d_cJT_elementOf_8 (lv_at hl 4 rfl) ?_
  refine lv_iload_n hx hb d_cJT_elementOf_10 rfl (lv_at hl 2 rfl) ?_
  refine lv_iconst (v := 1) hx hb d_cJT_elementOf_11 (by decide) ?_
  refine lv_isub hx hb d_cJT_elementOf_12 ?_
  refine w_i (y := x3 - 1) rfl ?_
  refine lv_icmp_ge (tgt := 42) hx hb d_cJT_elementOf_13 (by decide) (fun c_1 => ?_) (fun c_1 => ?_)
  · replace Heq := (if_pos c_1).symm.trans Heq
    exact K0 _ (Option.some.inj Heq).symm _ _ _ hP hD hS (lv_sub hl [0, 1, 3] rfl)
  · replace Heq := (if_neg c_1).symm.trans Heq
    refine lv_bipush (v := 10) hx hb d_cJT_elementOf_16 (by decide) ?_
    refine lv_iload hx hb d_cJT_elementOf_18 (lv_at hl 3 rfl) ?_
    refine lv_imul hx hb d_cJT_elementOf_20 ?_
    refine w_i (y := 10 * x4) rfl ?_
    refine lv_aload_n hx hb d_cJT_elementOf_21 rfl (lv_at hl 0 rfl) ?_
    obtain ⟨hl_x0_11, Heq⟩ := gl_some Heq
    refine va_get (D := D) (ci := 11) (v := rv ad 5 (S.r 11 9 x0)) (C := R_JT) (T := F_JT) (N := 13) hx hb hts i_JT hown hK hP (cPos N 11 x0) (cw_obj (k := 11) (by decide) hl_x0_11) rfl 9 (by decide) (hts _ kw_430) (fun _ h9 => h9) rfl d_cJT_elementOf_22 ?_
    refine lv_iload hx hb d_cJT_elementOf_25 (lv_at hl 4 rfl) ?_
    obtain ⟨j_2, hj_3, hl_4, Heq⟩ := gn_some Heq
    refine w_s (st' := [.int x5, .ref (ad 5 j_2), .int (10 * x4)]) (congrArg (fun z9 : Option Nat => [.int x5, rv ad 5 z9, .int (10 * x4)]) hj_3) ?_
    obtain ⟨o_5, h_6, Heq⟩ := ob_some Heq
    have hFc := fr_all hD hS hA
    refine va_calli (va_runV (As := [.int x5]) (rest := [.int (10 * x4)]) ⟨hx, hb, hml, hown, hts⟩ (g_cRw_at l D H.size (ad := ad) (cc := cc) (sad := sad) (sav := sav) h_6) (cw_v 1 hts kw_689 kw_1136 kw_687 kw_688 kw_4 rfl rfl (by decide +kernel) ⟨Nat.le_of_ble_eq_true rfl, Nat.le_of_ble_eq_true rfl⟩) ⟨c_blind, va_recv hK hP (ci := 5) (q0 := cPos N 5 j_2) rfl (cw_obj (k := 5) (by decide) hl_4), fun U hU hW => c_pre hU hW hP hK hD hev hE hN hNS hS hFc⟩ rfl rfl hl.1 rfl (lv_room (Nat.le_of_ble_eq_true rfl)) d_cJT_elementOf_27 ⟨Nat.le_of_ble_eq_true rfl, Nat.le_of_ble_eq_true rfl⟩) hS (fun q _ h => hFc q h) hFc (fun rz u t H1 locs ht hvm hw hB hz1 hk1 hS => ?_)
    obtain ⟨hP, -, hD1⟩ := hB
    rw [ht] at hP
    have hD := hD1.weaken (fun _ q _ h => hFc q.1 h)
    generalize H1 = H at hP hS ⊢
    refine W.cs (cells' := 0) (slots' := 0) rfl rfl ?_
    subst hw
    refine lv_iadd hx hb d_cJT_elementOf_30 ?_
    refine w_i (y := (10 * x4) + o_5.2) rfl ?_
    refine lv_bipush (v := 48) hx hb d_cJT_elementOf_31 (by decide) ?_
    refine lv_isub hx hb d_cJT_elementOf_33 ?_
    refine w_i (y := ((10 * x4) + o_5.2) - 48) rfl ?_
    refine lv_istore (lv' := [(4, .int (((10 * x4) + o_5.2) - 48)), (0, .ref (ad 11 x0)), (1, rv ad 3 x1), (3, .int x3), (5, .int x5)]) hx hb d_cJT_elementOf_34 hl (by decide) rfl (fun ls hl => ?_)
    refine lv_iinc (v := x5 + 1) (lv' := [(5, .int (x5 + 1)), (4, .int (((10 * x4) + o_5.2) - 48)), (0, .ref (ad 11 x0)), (1, rv ad 3 x1), (3, .int x3)]) hx hb d_cJT_elementOf_36 hl (k := 4) rfl rfl (by decide) rfl (fun ls hl => ?_)
    refine lv_goto (tgt := 8) hx hb d_cJT_elementOf_39 (by decide) ?_
    exact Ka _ (Option.some.inj Heq).symm _ _ _ hP hD hS (lv_sub hl [2, 3, 4, 1, 0] rfl)
def m_cJT_elementOf_L8 (N : Nat → Nat) (x0 : Nat) (S : CS) (x1 : Option Nat) (x3 : Int32) (x4 : Int32) (x5 : Int32) : Option (CS × Option Nat × Int32) := lp (fun a : CS × Option Nat × Int32 × Int32 × Int32 => m_cJT_elementOf_B8 N x0 a.1 a.2.1 a.2.2.1 a.2.2.2.1 a.2.2.2.2) FU (S, x1, x3, x4, x5)
theorem w_cJT_elementOf_L8 {p : Program} {l : Launch} {e : Env} {s : State} {m : MethodId} {args : Array Value} {below : List Frame} {meth : Method} {c : Code} {A : Nat → Prop} {D : va_G} {ad : Nat → Nat → Nat} {cc : Nat → ClassId} {sad sav : Nat → Nat} {Q : State → Prop} (hC : MCc sad sav "JoinedTrees" prog_1_method_60_code 6 (some (.object "JoinedTrees$Op")) p s m args meth c A D cc) {N : Nat → Nat} {x0 : Nat} {S : CS} {x1 : Option Nat} {x3 : Int32} {x4 : Int32} {x5 : Int32} {o : CS × Option Nat × Int32} (Heq : m_cJT_elementOf_L8 N x0 S x1 x3 x4 x5 = some o) (K0 : ∀ b : CS × Option Nat × Int32, o = b → ∀ (H : Heap) (locs : List Loc) (ls : Array Slot), va_P D cls (cw ad cc N b.1) H → va_D A (cw ad cc N b.1) → va_S A s.heap H locs → lv_has ls 6 [(0, .ref (ad 11 x0)), (1, rv ad 3 b.2.1), (4, .int b.2.2)] → W p l e ({ frames := 4, cells := 0, slots := 0, locals := 89 }) s m args below meth c H locs 0 0 Q (F0 m 42 ls [])) : ∀ (H : Heap) (locs : List Loc) (ls : Array Slot), va_P D cls (cw ad cc N S) H → va_D A (cw ad cc N S) → va_S A s.heap H locs → lv_has ls 6 [(0, .ref (ad 11 x0)), (1, rv ad 3 x1), (3, .int x3), (4, .int x4), (5, .int x5)] → W p l e ({ frames := 4, cells := 0, slots := 0, locals := 89 }) s m args below meth c H locs 0 0 Q (F0 m 8 ls []) := by
  refine lp_w (G := fun a : CS × Option Nat × Int32 × Int32 × Int32 => ∀ (H : Heap) (locs : List Loc) (ls : Array Slot), va_P D cls (cw ad cc N a.1) H → va_D A (cw ad cc N a.1) → va_S A s.heap H locs → lv_has ls 6 [(0, .ref (ad 11 x0)), (1, rv ad 3 a.2.1), (3, .int a.2.2.1), (4, .int a.2.2.2.1), (5, .int a.2.2.2.2)] → W p l e ({ frames := 4, cells := 0, slots := 0, locals := 89 }) s m args below meth c H locs 0 0 Q (F0 m 8 ls [])) ?_ FU (S, x1, x3, x4, x5) Heq
  intro a o1 ho Ka Ke
  exact w_cJT_elementOf_B8 hC ho (fun b h => Ka b h) (fun b h => K0 b (Ke _ h).symm)
def m_cJT_elementOf_J94 (N : Nat → Nat) (x0 : Nat) (S : CS) (t0 : Option Nat) : Option (CS × Option Nat) := some (S, t0)
theorem d_cJT_elementOf_42 : decode prog_1_method_60_code 42 = .ok (.aload_n 1, 1) := by decide +kernel
theorem d_cJT_elementOf_43 : decode prog_1_method_60_code 43 = .ok (.getfield 171, 3) := by decide +kernel
theorem d_cJT_elementOf_46 : decode prog_1_method_60_code 46 = .ok (.bipush 7, 2) := by decide +kernel
theorem d_cJT_elementOf_48 : decode prog_1_method_60_code 48 = .ok (.if_icmp .eq 12, 3) := by decide +kernel
theorem d_cJT_elementOf_60 : decode prog_1_method_60_code 60 = .ok (.aload_n 0, 1) := by decide +kernel
theorem d_cJT_elementOf_61 : decode prog_1_method_60_code 61 = .ok (.getfield 30, 3) := by decide +kernel
theorem d_cJT_elementOf_64 : decode prog_1_method_60_code 64 = .ok (.aload_n 1, 1) := by decide +kernel
theorem d_cJT_elementOf_65 : decode prog_1_method_60_code 65 = .ok (.iload 4, 2) := by decide +kernel
theorem d_cJT_elementOf_67 : decode prog_1_method_60_code 67 = .ok (.invokevirtual 148, 3) := by decide +kernel
theorem d_cJT_elementOf_70 : decode prog_1_method_60_code 70 = .ok (.goto 4, 3) := by decide +kernel
theorem d_cJT_elementOf_74 : decode prog_1_method_60_code 74 = .ok (.astore 5, 2) := by decide +kernel
theorem d_cJT_elementOf_76 : decode prog_1_method_60_code 76 = .ok (.aload 5, 2) := by decide +kernel
theorem d_cJT_elementOf_78 : decode prog_1_method_60_code 78 = .ok (.ifnonnull 7, 3) := by decide +kernel
theorem d_cJT_elementOf_81 : decode prog_1_method_60_code 81 = .ok (.aconst_null, 1) := by decide +kernel
theorem d_cJT_elementOf_82 : decode prog_1_method_60_code 82 = .ok (.goto 12, 3) := by decide +kernel
theorem d_cJT_elementOf_94 : decode prog_1_method_60_code 94 = .ok (.areturn, 1) := by decide +kernel
set_option maxHeartbeats 4000000 in
set_option maxRecDepth 100000 in
theorem w_cJT_elementOf_J94 {p : Program} {l : Launch} {e : Env} {s : State} {m : MethodId} {args : Array Value} {below : List Frame} {meth : Method} {c : Code} {A : Nat → Prop} {D : va_G} {ad : Nat → Nat → Nat} {cc : Nat → ClassId} {sad sav : Nat → Nat} {Q : State → Prop} (hC : MCc sad sav "JoinedTrees" prog_1_method_60_code 6 (some (.object "JoinedTrees$Op")) p s m args meth c A D cc) {N : Nat → Nat} {x0 : Nat} {S : CS} {t0 : Option Nat} {o : CS × Option Nat} (Heq : m_cJT_elementOf_J94 N x0 S t0 = some o) (Kr : ∀ r : CS × Option Nat, o = r → ∀ (pc : Nat) (H : Heap) (locs : List Loc) (ls : Array Slot), decode prog_1_method_60_code pc = .ok (.areturn, 1) → va_P D cls (cw ad cc N r.1) H → va_D A (cw ad cc N r.1) → va_S A s.heap H locs → W p l e ({ frames := 4, cells := 0, slots := 0, locals := 89 }) s m args below meth c H locs 0 0 Q (F0 m pc ls [rv ad 3 r.2])) : ∀ (H : Heap) (locs : List Loc) (ls : Array Slot), va_P D cls (cw ad cc N S) H → va_D A (cw ad cc N S) → va_S A s.heap H locs → lv_has ls 6 [(0, .ref (ad 11 x0))] → W p l e ({ frames := 4, cells := 0, slots := 0, locals := 89 }) s m args below meth c H locs 0 0 Q (F0 m 94 ls [rv ad 3 t0]) := by
  intro H locs ls hP hD hS hl
  obtain ⟨hx, hb, hr, hml, hown, hts, hK, hA, hev, hE, hN, hNS⟩ := id hC
  unfold m_cJT_elementOf_J94 at Heq
  exact Kr _ (Option.some.inj Heq).symm 94 _ _ _ d_cJT_elementOf_94 hP hD hS
def m_cJT_elementOf_J74 (N : Nat → Nat) (x0 : Nat) (S : CS) (t0 : Option Nat) : Option (CS × Option Nat) := on t0 (m_cJT_elementOf_J94 N x0 S none) (fun j_1 => gl x0 (N 11) (gl j_1 (N 7) (gn (S.r 11 2 x0) (N 10) (fun j_3 => ob (m_cVw_top N j_3 S j_1) (fun o_6 => m_cJT_elementOf_J94 N x0 o_6.1 o_6.2)))))
theorem d_cJT_elementOf_85 : decode prog_1_method_60_code 85 = .ok (.aload_n 0, 1) := by decide +kernel
theorem d_cJT_elementOf_86 : decode prog_1_method_60_code 86 = .ok (.getfield 30, 3) := by decide +kernel
theorem d_cJT_elementOf_89 : decode prog_1_method_60_code 89 = .ok (.aload 5, 2) := by decide +kernel
theorem d_cJT_elementOf_91 : decode prog_1_method_60_code 91 = .ok (.invokevirtual 408, 3) := by decide +kernel
set_option maxHeartbeats 4000000 in
set_option maxRecDepth 100000 in
theorem w_cJT_elementOf_J74 {p : Program} {l : Launch} {e : Env} {s : State} {m : MethodId} {args : Array Value} {below : List Frame} {meth : Method} {c : Code} {A : Nat → Prop} {D : va_G} {ad : Nat → Nat → Nat} {cc : Nat → ClassId} {sad sav : Nat → Nat} {Q : State → Prop} (hC : MCc sad sav "JoinedTrees" prog_1_method_60_code 6 (some (.object "JoinedTrees$Op")) p s m args meth c A D cc) {N : Nat → Nat} {x0 : Nat} {S : CS} {t0 : Option Nat} {o : CS × Option Nat} (Heq : m_cJT_elementOf_J74 N x0 S t0 = some o) (Kr : ∀ r : CS × Option Nat, o = r → ∀ (pc : Nat) (H : Heap) (locs : List Loc) (ls : Array Slot), decode prog_1_method_60_code pc = .ok (.areturn, 1) → va_P D cls (cw ad cc N r.1) H → va_D A (cw ad cc N r.1) → va_S A s.heap H locs → W p l e ({ frames := 4, cells := 0, slots := 0, locals := 89 }) s m args below meth c H locs 0 0 Q (F0 m pc ls [rv ad 3 r.2])) : ∀ (H : Heap) (locs : List Loc) (ls : Array Slot), va_P D cls (cw ad cc N S) H → va_D A (cw ad cc N S) → va_S A s.heap H locs → lv_has ls 6 [(0, .ref (ad 11 x0))] → W p l e ({ frames := 4, cells := 0, slots := 0, locals := 89 }) s m args below meth c H locs 0 0 Q (F0 m 74 ls [rv ad 7 t0]) := by
  intro H locs ls hP hD hS hl
  obtain ⟨hx, hb, hr, hml, hown, hts, hK, hA, hev, hE, hN, hNS⟩ := id hC
  unfold m_cJT_elementOf_J74 at Heq
  refine tx_astore (x := t0.map (ad 7)) (lv' := [(5, rv ad 7 t0), (0, .ref (ad 11 x0))]) hx hb d_cJT_elementOf_74 hl (by decide) rfl (fun ls hl => ?_)
  refine tx_aload (x := t0.map (ad 7)) hx hb d_cJT_elementOf_76 (lv_at hl 0 rfl) ?_
  refine w_v (y := rv ad 7 t0) rfl ?_
  rcases on_some Heq with ⟨hj_2, Heq⟩ | ⟨j_1, hj_2, Heq⟩
  · refine w_s (st' := [.null]) (congrArg (fun z9 : Option Nat => [rv ad 7 z9]) hj_2) ?_
    refine lv_ifnonnullN hx hb d_cJT_elementOf_78 ?_
    refine lv_null hx hb d_cJT_elementOf_81 ?_
    refine lv_goto (tgt := 94) hx hb d_cJT_elementOf_82 (by decide) ?_
    exact w_cJT_elementOf_J94 hC Heq Kr _ _ _ hP hD hS (lv_sub hl [1] rfl)
  · refine w_s (st' := [.ref (ad 7 j_1)]) (congrArg (fun z9 : Option Nat => [rv ad 7 z9]) hj_2) ?_
    refine lv_ifnonnull (tgt := 85) hx hb d_cJT_elementOf_78 (by decide) ?_
    refine lv_aload_n hx hb d_cJT_elementOf_85 rfl (lv_at hl 1 rfl) ?_
    obtain ⟨hl_x0_11, Heq⟩ := gl_some Heq
    refine va_get (D := D) (ci := 11) (v := rv ad 10 (S.r 11 2 x0)) (C := R_JT) (T := F_JT) (N := 13) hx hb hts i_JT hown hK hP (cPos N 11 x0) (cw_obj (k := 11) (by decide) hl_x0_11) rfl 2 (by decide) (hts _ kw_423) (fun _ h9 => h9) rfl d_cJT_elementOf_86 ?_
    refine tx_aload (x := t0.map (ad 7)) hx hb d_cJT_elementOf_89 (lv_at hl 0 rfl) ?_
    refine w_v (y := rv ad 7 t0) rfl ?_
    refine w_s (st' := [.ref (ad 7 j_1), rv ad 10 (S.r 11 2 x0)]) (congrArg (fun z9 : Option Nat => [rv ad 7 z9, rv ad 10 (S.r 11 2 x0)]) hj_2) ?_
    obtain ⟨hl_j_1_7, Heq⟩ := gl_some Heq
    obtain ⟨j_3, hj_4, hl_5, Heq⟩ := gn_some Heq
    refine w_s (st' := [.ref (ad 7 j_1), .ref (ad 10 j_3)]) (congrArg (fun z9 : Option Nat => [.ref (ad 7 j_1), rv ad 10 z9]) hj_4) ?_
    obtain ⟨o_6, h_7, Heq⟩ := ob_some Heq
    have hFc := fr_all hD hS hA
    refine va_callq (va_runV (As := [.ref (ad 7 j_1)]) (rest := []) ⟨hx, hb, hml, hown, hts⟩ (g_cVw_top l D H.size (ad := ad) (cc := cc) (sad := sad) (sav := sav) h_7) (cw_v 1 hts kw_784 kw_828 kw_782 kw_783 kw_6 rfl rfl (by decide +kernel) ⟨Nat.le_of_ble_eq_true rfl, Nat.le_of_ble_eq_true rfl⟩) ⟨c_blind, va_recv hK hP (ci := 10) (q0 := cPos N 10 j_3) rfl (cw_obj (k := 10) (by decide) hl_5), fun U hU hW => c_pre hU hW hP hK hD hev hE hN hNS hS hFc⟩ rfl rfl hl.1 rfl (lv_room (Nat.le_of_ble_eq_true rfl)) d_cJT_elementOf_91 ⟨Nat.le_of_ble_eq_true rfl, Nat.le_of_ble_eq_true rfl⟩) hS (fun q _ h => hFc q h) hFc (fun rz u t H1 locs ht hvm hw hB hz1 hk1 hS => ?_)
    obtain ⟨hP, -, hD1⟩ := hB
    rw [ht] at hP
    have hD := hD1.weaken (fun _ q _ h => hFc q.1 h)
    generalize H1 = H at hP hS ⊢
    refine W.cs (cells' := 0) (slots' := 0) rfl rfl ?_
    subst hw
    refine w_v (y := rv ad 3 o_6.2) rfl ?_
    exact w_cJT_elementOf_J94 hC Heq Kr _ _ _ hP hD hS (lv_sub hl [1] rfl)
def m_cJT_elementOf_J60 (N : Nat → Nat) (x0 : Nat) (S : CS) (x1 : Option Nat) (x4 : Int32) : Option (CS × Option Nat) := gl x0 (N 11) (gn x1 (N 3) (fun j_1 => gn (S.r 11 2 x0) (N 10) (fun j_4 => ob (m_cVw_spotAt N j_4 S j_1 x4) (fun o_7 => m_cJT_elementOf_J74 N x0 o_7.1 o_7.2))))
set_option maxHeartbeats 4000000 in
set_option maxRecDepth 100000 in
theorem w_cJT_elementOf_J60 {p : Program} {l : Launch} {e : Env} {s : State} {m : MethodId} {args : Array Value} {below : List Frame} {meth : Method} {c : Code} {A : Nat → Prop} {D : va_G} {ad : Nat → Nat → Nat} {cc : Nat → ClassId} {sad sav : Nat → Nat} {Q : State → Prop} (hC : MCc sad sav "JoinedTrees" prog_1_method_60_code 6 (some (.object "JoinedTrees$Op")) p s m args meth c A D cc) {N : Nat → Nat} {x0 : Nat} {S : CS} {x1 : Option Nat} {x4 : Int32} {o : CS × Option Nat} (Heq : m_cJT_elementOf_J60 N x0 S x1 x4 = some o) (Kr : ∀ r : CS × Option Nat, o = r → ∀ (pc : Nat) (H : Heap) (locs : List Loc) (ls : Array Slot), decode prog_1_method_60_code pc = .ok (.areturn, 1) → va_P D cls (cw ad cc N r.1) H → va_D A (cw ad cc N r.1) → va_S A s.heap H locs → W p l e ({ frames := 4, cells := 0, slots := 0, locals := 89 }) s m args below meth c H locs 0 0 Q (F0 m pc ls [rv ad 3 r.2])) : ∀ (H : Heap) (locs : List Loc) (ls : Array Slot), va_P D cls (cw ad cc N S) H → va_D A (cw ad cc N S) → va_S A s.heap H locs → lv_has ls 6 [(0, .ref (ad 11 x0)), (1, rv ad 3 x1), (4, .int x4)] → W p l e ({ frames := 4, cells := 0, slots := 0, locals := 89 }) s m args below meth c H locs 0 0 Q (F0 m 60 ls []) := by
  intro H locs ls hP hD hS hl
  obtain ⟨hx, hb, hr, hml, hown, hts, hK, hA, hev, hE, hN, hNS⟩ := id hC
  unfold m_cJT_elementOf_J60 at Heq
  refine lv_aload_n hx hb d_cJT_elementOf_60 rfl (lv_at hl 0 rfl) ?_
  obtain ⟨hl_x0_11, Heq⟩ := gl_some Heq
  refine va_get (D := D) (ci := 11) (v := rv ad 10 (S.r 11 2 x0)) (C := R_JT) (T := F_JT) (N := 13) hx hb hts i_JT hown hK hP (cPos N 11 x0) (cw_obj (k := 11) (by decide) hl_x0_11) rfl 2 (by decide) (hts _ kw_423) (fun _ h9 => h9) rfl d_cJT_elementOf_61 ?_
  refine tx_aload_n (x := x1.map (ad 3)) hx hb d_cJT_elementOf_64 rfl (lv_at hl 1 rfl) ?_
  refine w_v (y := rv ad 3 x1) rfl ?_
  refine lv_iload hx hb d_cJT_elementOf_65 (lv_at hl 2 rfl) ?_
  obtain ⟨j_1, hj_2, hl_3, Heq⟩ := gn_some Heq
  refine w_s (st' := [.int x4, .ref (ad 3 j_1), rv ad 10 (S.r 11 2 x0)]) (congrArg (fun z9 : Option Nat => [.int x4, rv ad 3 z9, rv ad 10 (S.r 11 2 x0)]) hj_2) ?_
  obtain ⟨j_4, hj_5, hl_6, Heq⟩ := gn_some Heq
  refine w_s (st' := [.int x4, .ref (ad 3 j_1), .ref (ad 10 j_4)]) (congrArg (fun z9 : Option Nat => [.int x4, .ref (ad 3 j_1), rv ad 10 z9]) hj_5) ?_
  obtain ⟨o_7, h_8, Heq⟩ := ob_some Heq
  have hFc := fr_all hD hS hA
  refine va_callq (va_runV (As := [.ref (ad 3 j_1), .int x4]) (rest := []) ⟨hx, hb, hml, hown, hts⟩ (g_cVw_spotAt l D H.size (ad := ad) (cc := cc) (sad := sad) (sav := sav) h_8) (cw_v 2 hts kw_780 kw_777 kw_778 kw_779 kw_6 rfl rfl (by decide +kernel) ⟨Nat.le_of_ble_eq_true rfl, Nat.le_of_ble_eq_true rfl⟩) ⟨c_blind, va_recv hK hP (ci := 10) (q0 := cPos N 10 j_4) rfl (cw_obj (k := 10) (by decide) hl_6), fun U hU hW => c_pre hU hW hP hK hD hev hE hN hNS hS hFc⟩ rfl rfl hl.1 rfl (lv_room (Nat.le_of_ble_eq_true rfl)) d_cJT_elementOf_67 ⟨Nat.le_of_ble_eq_true rfl, Nat.le_of_ble_eq_true rfl⟩) hS (fun q _ h => hFc q h) hFc (fun rz u t H1 locs ht hvm hw hB hz1 hk1 hS => ?_)
  obtain ⟨hP, -, hD1⟩ := hB
  rw [ht] at hP
  have hD := hD1.weaken (fun _ q _ h => hFc q.1 h)
  generalize H1 = H at hP hS ⊢
  refine W.cs (cells' := 0) (slots' := 0) rfl rfl ?_
  subst hw
  refine w_v (y := rv ad 7 o_7.2) rfl ?_
  refine lv_goto (tgt := 74) hx hb d_cJT_elementOf_70 (by decide) ?_
  exact w_cJT_elementOf_J74 hC Heq Kr _ _ _ hP hD hS (lv_sub hl [0] rfl)
def m_cJT_elementOf_J0 (N : Nat → Nat) (x0 : Nat) (S : CS) (x1 : Nat) (x2 : Int32) (x3 : Int32) : Option (CS × Option Nat) := ob (m_cJT_elementOf_L8 N x0 S (some x1) x3 0 (x2 + 1)) (fun b_1 => gn b_1.2.1 (N 3) (fun j_3 => (if b_1.1.i 3 2 j_3 = 7 then m_cJT_elementOf_J60 N x0 b_1.1 b_1.2.1 b_1.2.2 else (if b_1.1.i 3 2 j_3 = 8 then m_cJT_elementOf_J60 N x0 b_1.1 b_1.2.1 b_1.2.2 else m_cJT_elementOf_J74 N x0 b_1.1 none))))
theorem d_cJT_elementOf_51 : decode prog_1_method_60_code 51 = .ok (.aload_n 1, 1) := by decide +kernel
theorem d_cJT_elementOf_52 : decode prog_1_method_60_code 52 = .ok (.getfield 171, 3) := by decide +kernel
theorem d_cJT_elementOf_55 : decode prog_1_method_60_code 55 = .ok (.bipush 8, 2) := by decide +kernel
theorem d_cJT_elementOf_57 : decode prog_1_method_60_code 57 = .ok (.if_icmp .ne 16, 3) := by decide +kernel
theorem d_cJT_elementOf_73 : decode prog_1_method_60_code 73 = .ok (.aconst_null, 1) := by decide +kernel
set_option maxHeartbeats 4000000 in
set_option maxRecDepth 100000 in
theorem w_cJT_elementOf_J0 {p : Program} {l : Launch} {e : Env} {s : State} {m : MethodId} {args : Array Value} {below : List Frame} {meth : Method} {c : Code} {A : Nat → Prop} {D : va_G} {ad : Nat → Nat → Nat} {cc : Nat → ClassId} {sad sav : Nat → Nat} {Q : State → Prop} (hC : MCc sad sav "JoinedTrees" prog_1_method_60_code 6 (some (.object "JoinedTrees$Op")) p s m args meth c A D cc) {N : Nat → Nat} {x0 : Nat} {S : CS} {x1 : Nat} {x2 : Int32} {x3 : Int32} {o : CS × Option Nat} (Heq : m_cJT_elementOf_J0 N x0 S x1 x2 x3 = some o) (Kr : ∀ r : CS × Option Nat, o = r → ∀ (pc : Nat) (H : Heap) (locs : List Loc) (ls : Array Slot), decode prog_1_method_60_code pc = .ok (.areturn, 1) → va_P D cls (cw ad cc N r.1) H → va_D A (cw ad cc N r.1) → va_S A s.heap H locs → W p l e ({ frames := 4, cells := 0, slots := 0, locals := 89 }) s m args below meth c H locs 0 0 Q (F0 m pc ls [rv ad 3 r.2])) : ∀ (H : Heap) (locs : List Loc) (ls : Array Slot), va_P D cls (cw ad cc N S) H → va_D A (cw ad cc N S) → va_S A s.heap H locs → lv_has ls 6 [(0, .ref (ad 11 x0)), (1, .ref (ad 3 x1)), (2, .int x2), (3, .int x3)] → W p l e ({ frames := 4, cells := 0, slots := 0, locals := 89 }) s m args below meth c H locs 0 0 Q (F0 m 0 ls []) := by
  intro H locs ls hP hD hS hl
  obtain ⟨hx, hb, hr, hml, hown, hts, hK, hA, hev, hE, hN, hNS⟩ := id hC
  unfold m_cJT_elementOf_J0 at Heq
  refine lv_iconst (v := 0) hx hb d_cJT_elementOf_0 (by decide) ?_
  refine lv_istore (lv' := [(4, .int 0), (0, .ref (ad 11 x0)), (1, .ref (ad 3 x1)), (2, .int x2), (3, .int x3)]) hx hb d_cJT_elementOf_1 hl (by decide) rfl (fun ls hl => ?_)
  refine lv_iload_n hx hb d_cJT_elementOf_3 rfl (lv_at hl 3 rfl) ?_
  refine lv_iconst (v := 1) hx hb d_cJT_elementOf_4 (by decide) ?_
  refine lv_iadd hx hb d_cJT_elementOf_5 ?_
  refine w_i (y := x2 + 1) rfl ?_
  refine lv_istore (lv' := [(5, .int (x2 + 1)), (4, .int 0), (0, .ref (ad 11 x0)), (1, .ref (ad 3 x1)), (2, .int x2), (3, .int x3)]) hx hb d_cJT_elementOf_6 hl (by decide) rfl (fun ls hl => ?_)
  obtain ⟨b_1, h_2, Heq⟩ := ob_some Heq
  refine w_cJT_elementOf_L8 hC h_2 (fun b h => ?_) _ _ _ hP hD hS (lv_sub hl [2, 3, 5, 1, 0] rfl)
  subst h
  intro H locs ls hP hD hS hl
  refine tx_aload_n (x := b_1.2.1.map (ad 3)) hx hb d_cJT_elementOf_42 rfl (lv_at hl 1 rfl) ?_
  refine w_v (y := rv ad 3 b_1.2.1) rfl ?_
  obtain ⟨j_3, hj_4, hl_5, Heq⟩ := gn_some Heq
  refine w_s (st' := [.ref (ad 3 j_3)]) (congrArg (fun z9 : Option Nat => [rv ad 3 z9]) hj_4) ?_
  refine va_get (D := D) (ci := 3) (v := .int (b_1.1.i 3 2 j_3)) (C := R_Op) (T := F_Op) (N := 15) hx hb hts i_Op hown hK hP (cPos N 3 j_3) (cw_obj (k := 3) (by decide) hl_5) rfl 2 (by decide) (hts _ kw_62) (fun _ h9 => h9) rfl d_cJT_elementOf_43 ?_
  refine lv_bipush (v := 7) hx hb d_cJT_elementOf_46 (by decide) ?_
  refine lv_icmp_eq (tgt := 60) hx hb d_cJT_elementOf_48 (by decide) (fun c_6 => ?_) (fun c_6 => ?_)
  · replace Heq := (if_pos c_6).symm.trans Heq
    exact w_cJT_elementOf_J60 hC Heq Kr _ _ _ hP hD hS (lv_sub hl [0, 1, 2] rfl)
  · replace Heq := (if_neg c_6).symm.trans Heq
    refine tx_aload_n (x := b_1.2.1.map (ad 3)) hx hb d_cJT_elementOf_51 rfl (lv_at hl 1 rfl) ?_
    refine w_v (y := rv ad 3 b_1.2.1) rfl ?_
    refine w_s (st' := [.ref (ad 3 j_3)]) (congrArg (fun z9 : Option Nat => [rv ad 3 z9]) hj_4) ?_
    refine va_get (D := D) (ci := 3) (v := .int (b_1.1.i 3 2 j_3)) (C := R_Op) (T := F_Op) (N := 15) hx hb hts i_Op hown hK hP (cPos N 3 j_3) (cw_obj (k := 3) (by decide) hl_5) rfl 2 (by decide) (hts _ kw_62) (fun _ h9 => h9) rfl d_cJT_elementOf_52 ?_
    refine lv_bipush (v := 8) hx hb d_cJT_elementOf_55 (by decide) ?_
    refine lv_icmp_ne (tgt := 73) hx hb d_cJT_elementOf_57 (by decide) (fun c_7 => ?_) (fun c_7 => ?_)
    · replace Heq := (if_neg c_7).symm.trans Heq
      refine lv_null hx hb d_cJT_elementOf_73 ?_
      exact w_cJT_elementOf_J74 hC Heq Kr _ _ _ hP hD hS (lv_sub hl [0] rfl)
    · replace Heq := (if_pos c_7).symm.trans Heq
      exact w_cJT_elementOf_J60 hC Heq Kr _ _ _ hP hD hS (lv_sub hl [0, 1, 2] rfl)
def m_cJT_elementOf (N : Nat → Nat) (x0 : Nat) (S : CS) (x1 : Nat) (x2 : Int32) (x3 : Int32) : Option (CS × Option Nat) := m_cJT_elementOf_J0 N x0 S x1 x2 x3
set_option maxHeartbeats 4000000 in
theorem g_cJT_elementOf (l : Launch) (D : va_G) (sz : Nat) {ad : Nat → Nat → Nat} {cc : Nat → ClassId} {sad sav : Nat → Nat} {N : Nat → Nat} {x0 : Nat} {S : CS} {x1 : Nat} {x2 : Int32} {x3 : Int32} {o : CS × Option Nat} (Heq : m_cJT_elementOf N x0 S x1 x2 x3 = some o) : Met l ⟨"JoinedTrees", "elementOf", "(LJoinedTrees$Op;II)LJoinedTrees$Op;"⟩ (Cond.code ⟨"JoinedTrees", "elementOf", "(LJoinedTrees$Op;II)LJoinedTrees$Op;"⟩ prog_1_method_60_code 6 (some (.object "JoinedTrees$Op")) :: gb) ({ frames := 4, cells := 0, slots := 0, locals := 89 }) (cPc sad sav D (cw ad cc N S) (cty cc) sz [.ref (ad 11 x0), .ref (ad 3 x1), .int x2, .int x3]) (va_Qq (fun (r : Option Nat) (_ : Unit) => r = o.2.map (ad 3)) (fun _ t => gO D (cw ad cc N o.1) (cty cc) (va_A (cw ad cc N S) sz) t) (va_A (cw ad cc N S) sz)) 0 0 (va_A (cw ad cc N S) sz) := by
  refine Met.ofW (cc := prog_1_method_60_code) (maxL := 6) (ret := (some (.object "JoinedTrees$Op"))) (by decide) rfl ?_
  intro p e s m args below meth c s₁ B hml hv
  obtain ⟨rfl, hsz, hP, hK, hD0, hev, hE, hN⟩ := hv
  have hx := B.exec
  have hb := B.bytes
  have hr := B.returns
  have hts : ∀ w9 ∈ gb, w9.before [.ref (ad 11 x0), .ref (ad 3 x1), .int x2, .int x3].toArray s = true := fun w9 h => atoms_spec (ws := Cond.code ⟨"JoinedTrees", "elementOf", "(LJoinedTrees$Op;II)LJoinedTrees$Op;"⟩ prog_1_method_60_code 6 (some (.object "JoinedTrees$Op")) :: gb) B.pre w9 (List.mem_cons_of_mem _ h)
  have hown : s.vm.findClass "JoinedTrees" = some m.cls := findClass_of_methodNamed B.named
  have hlocks := B.notSynchronized
  have hNS := ns_of hP
  subst hsz
  have hD := hD0.self (sz := s.heap.size)
  generalize hAe : va_A (cw ad cc N S) s.heap.size = A at hD hev hE hNS ⊢
  have hA : ∀ q : Nat, s.heap.size ≤ q → A q := fun q h => by rw [← hAe]; exact Or.inr h
  have hS : va_S A s.heap s.heap [] := va_S.rf
  obtain ⟨ls, hl, hle⟩ : ∃ ls : Array Slot, lv_has ls 6 [(0, .ref (ad 11 x0)), (1, .ref (ad 3 x1)), (2, .int x2), (3, .int x3)] ∧ entryFrame m ([.ref (ad 11 x0), .ref (ad 3 x1), .int x2, .int x3] : List Value).toArray 6 = F0 m 0 ls [] := by
    exact ⟨_, lv_entry (n := 6) _ (Nat.le_of_ble_eq_true rfl), lg_entry_eq ..⟩
  rw [hle]
  refine w_cJT_elementOf_J0 ⟨hx, hb, hr, hml, hown, hts, hK, hA, hev, hE, hN, hNS⟩ Heq (fun r h pc H locs ls hd hP hD hS => ?_) _ _ _ hP hD hS (lv_sub hl [0, 1, 2, 3] rfl)
  subst h
  exact W.aret hx hb hr (Or.inl ⟨_, rfl⟩) (va_rf_or _) (fun t ht hW => ⟨⟨_, (), rfl, rfl, by rw [ht]; exact hP, va_K.moved hW.alike hK, hD⟩, hS.F ht⟩) hS.2.2 hd
