def m_cJT_isPath_B4 (N : Nat → Nat) (x0 : Nat) (S : CS) (x1 : Int32) (x2 : Int32) : Option ((CS × Int32 × Int32) ⊕ (CS × Int32)) := (if 8192 ≤ x2 then some (.inr (S, x1)) else (if x1 < 0 then some (.inr (S, x1)) else gl x0 (N 11) (gn (S.r 11 9 x0) (N 5) (fun j_3 => (if S.i 5 1 j_3 ≤ x1 then some (.inr (S, x1)) else ob (m_cJT_stepEnd N x0 S x1) (fun o_7 => some (.inl (o_7.1, o_7.2, (x2 + 1)))))))))
theorem d_cJT_isPath_0 : decode prog_1_method_53_code 0 = .ok (.iconst 0, 1) := by decide +kernel
theorem d_cJT_isPath_1 : decode prog_1_method_53_code 1 = .ok (.istore_n 1, 1) := by decide +kernel
theorem d_cJT_isPath_2 : decode prog_1_method_53_code 2 = .ok (.iconst 0, 1) := by decide +kernel
theorem d_cJT_isPath_3 : decode prog_1_method_53_code 3 = .ok (.istore_n 2, 1) := by decide +kernel
theorem d_cJT_isPath_4 : decode prog_1_method_53_code 4 = .ok (.iload_n 2, 1) := by decide +kernel
theorem d_cJT_isPath_5 : decode prog_1_method_53_code 5 = .ok (.sipush 8192, 3) := by decide +kernel
theorem d_cJT_isPath_8 : decode prog_1_method_53_code 8 = .ok (.if_icmp .ge 30, 3) := by decide +kernel
theorem d_cJT_isPath_11 : decode prog_1_method_53_code 11 = .ok (.iload_n 1, 1) := by decide +kernel
theorem d_cJT_isPath_12 : decode prog_1_method_53_code 12 = .ok (.ifCond .lt 26, 3) := by decide +kernel
theorem d_cJT_isPath_15 : decode prog_1_method_53_code 15 = .ok (.iload_n 1, 1) := by decide +kernel
theorem d_cJT_isPath_16 : decode prog_1_method_53_code 16 = .ok (.aload_n 0, 1) := by decide +kernel
theorem d_cJT_isPath_17 : decode prog_1_method_53_code 17 = .ok (.getfield 70, 3) := by decide +kernel
theorem d_cJT_isPath_20 : decode prog_1_method_53_code 20 = .ok (.getfield 80, 3) := by decide +kernel
theorem d_cJT_isPath_23 : decode prog_1_method_53_code 23 = .ok (.if_icmp .ge 15, 3) := by decide +kernel
theorem d_cJT_isPath_26 : decode prog_1_method_53_code 26 = .ok (.aload_n 0, 1) := by decide +kernel
theorem d_cJT_isPath_27 : decode prog_1_method_53_code 27 = .ok (.iload_n 1, 1) := by decide +kernel
theorem d_cJT_isPath_28 : decode prog_1_method_53_code 28 = .ok (.invokevirtual 331, 3) := by decide +kernel
theorem d_cJT_isPath_31 : decode prog_1_method_53_code 31 = .ok (.istore_n 1, 1) := by decide +kernel
theorem d_cJT_isPath_32 : decode prog_1_method_53_code 32 = .ok (.iinc 2 1, 3) := by decide +kernel
theorem d_cJT_isPath_35 : decode prog_1_method_53_code 35 = .ok (.goto (-31), 3) := by decide +kernel
set_option maxHeartbeats 4000000 in
set_option maxRecDepth 100000 in
theorem w_cJT_isPath_B4 {p : Program} {l : Launch} {e : Env} {s : State} {m : MethodId} {args : Array Value} {below : List Frame} {meth : Method} {c : Code} {A : Nat → Prop} {D : va_G} {ad : Nat → Nat → Nat} {cc : Nat → ClassId} {sad sav : Nat → Nat} {Q : State → Prop} (hC : MCc sad sav "JoinedTrees" prog_1_method_53_code 3 (some .boolean) p s m args meth c A D cc) {N : Nat → Nat} {x0 : Nat} {S : CS} {x1 : Int32} {x2 : Int32} {o : ((CS × Int32 × Int32) ⊕ (CS × Int32))} (Heq : m_cJT_isPath_B4 N x0 S x1 x2 = some o) (Ka : ∀ b : CS × Int32 × Int32, o = .inl b → ∀ (H : Heap) (locs : List Loc) (ls : Array Slot), va_P D cls (cw ad cc N b.1) H → va_D A (cw ad cc N b.1) → va_S A s.heap H locs → lv_has ls 3 [(0, .ref (ad 11 x0)), (1, .int b.2.1), (2, .int b.2.2)] → W p l e ({ frames := 4, cells := 0, slots := 0, locals := 85 }) s m args below meth c H locs 0 0 Q (F0 m 4 ls [])) (K0 : ∀ b : CS × Int32, o = .inr b → ∀ (H : Heap) (locs : List Loc) (ls : Array Slot), va_P D cls (cw ad cc N b.1) H → va_D A (cw ad cc N b.1) → va_S A s.heap H locs → lv_has ls 3 [(0, .ref (ad 11 x0)), (1, .int b.2)] → W p l e ({ frames := 4, cells := 0, slots := 0, locals := 85 }) s m args below meth c H locs 0 0 Q (F0 m 38 ls [])) : ∀ (H : Heap) (locs : List Loc) (ls : Array Slot), va_P D cls (cw ad cc N S) H → va_D A (cw ad cc N S) → va_S A s.heap H locs → lv_has ls 3 [(0, .ref (ad 11 x0)), (1, .int x1), (2, .int x2)] → W p l e ({ frames := 4, cells := 0, slots := 0, locals := 85 }) s m args below meth c H locs 0 0 Q (F0 m 4 ls []) := by
  intro H locs ls hP hD hS hl
  obtain ⟨hx, hb, hr, hml, hown, hts, hK, hA, hev, hE, hN, hNS⟩ := id hC
  unfold m_cJT_isPath_B4 at Heq
  refine lv_iload_n hx hb d_cJT_isPath_4 rfl (lv_at hl 2 rfl) ?_
  refine lv_sipush (v := 8192) hx hb d_cJT_isPath_5 (by decide) ?_
  refine lv_icmp_ge (tgt := 38) hx hb d_cJT_isPath_8 (by decide) (fun c_1 => ?_) (fun c_1 => ?_)
  · replace Heq := (if_pos c_1).symm.trans Heq
    exact K0 _ (Option.some.inj Heq).symm _ _ _ hP hD hS (lv_sub hl [0, 1] rfl)
  · replace Heq := (if_neg c_1).symm.trans Heq
    refine lv_iload_n hx hb d_cJT_isPath_11 rfl (lv_at hl 1 rfl) ?_
    refine lv_if_lt (tgt := 38) hx hb d_cJT_isPath_12 (by decide) (fun c_2 => ?_) (fun c_2 => ?_)
    · replace Heq := (if_pos c_2).symm.trans Heq
      exact K0 _ (Option.some.inj Heq).symm _ _ _ hP hD hS (lv_sub hl [0, 1] rfl)
    · replace Heq := (if_neg c_2).symm.trans Heq
      refine lv_iload_n hx hb d_cJT_isPath_15 rfl (lv_at hl 1 rfl) ?_
      refine lv_aload_n hx hb d_cJT_isPath_16 rfl (lv_at hl 0 rfl) ?_
      obtain ⟨hl_x0_11, Heq⟩ := gl_some Heq
      refine va_get (D := D) (ci := 11) (v := rv ad 5 (S.r 11 9 x0)) (C := R_JT) (T := F_JT) (N := 13) hx hb hts i_JT hown hK hP (cPos N 11 x0) (cw_obj (k := 11) (by decide) hl_x0_11) rfl 9 (by decide) (hts _ kw_430) (fun _ h9 => h9) rfl d_cJT_isPath_17 ?_
      obtain ⟨j_3, hj_4, hl_5, Heq⟩ := gn_some Heq
      refine w_s (st' := [.ref (ad 5 j_3), .int x1]) (congrArg (fun z9 : Option Nat => [rv ad 5 z9, .int x1]) hj_4) ?_
      refine va_get (D := D) (ci := 5) (v := .int (S.i 5 1 j_3)) (C := R_Rw) (T := F_Rw) (N := 3) hx hb hts i_Rw hown hK hP (cPos N 5 j_3) (cw_obj (k := 5) (by decide) hl_5) rfl 1 (by decide) (hts _ kw_143) (fun _ h9 => h9) rfl d_cJT_isPath_20 ?_
      refine lv_icmp_ge (tgt := 38) hx hb d_cJT_isPath_23 (by decide) (fun c_6 => ?_) (fun c_6 => ?_)
      · replace Heq := (if_pos c_6).symm.trans Heq
        exact K0 _ (Option.some.inj Heq).symm _ _ _ hP hD hS (lv_sub hl [0, 1] rfl)
      · replace Heq := (if_neg c_6).symm.trans Heq
        refine lv_aload_n hx hb d_cJT_isPath_26 rfl (lv_at hl 0 rfl) ?_
        refine lv_iload_n hx hb d_cJT_isPath_27 rfl (lv_at hl 1 rfl) ?_
        obtain ⟨o_7, h_8, Heq⟩ := ob_some Heq
        have hFc := fr_all hD hS hA
        refine va_calli (va_runV (As := [.int x1]) (rest := []) ⟨hx, hb, hml, hown, hts⟩ (g_cJT_stepEnd l D H.size (ad := ad) (cc := cc) (sad := sad) (sav := sav) h_8) (cw_v 1 hts kw_1188 kw_1185 kw_1187 kp_24 kw_1 rfl rfl (by decide +kernel) ⟨Nat.le_of_ble_eq_true rfl, Nat.le_of_ble_eq_true rfl⟩) ⟨c_blind, va_recv hK hP (ci := 11) (q0 := cPos N 11 x0) rfl (cw_obj (k := 11) (by decide) hl_x0_11), fun U hU hW => c_pre hU hW hP hK hD hev hE hN hNS hS hFc⟩ rfl rfl hl.1 rfl (lv_room (Nat.le_of_ble_eq_true rfl)) d_cJT_isPath_28 ⟨Nat.le_of_ble_eq_true rfl, Nat.le_of_ble_eq_true rfl⟩) hS (fun q _ h => hFc q h) hFc (fun rz u t H1 locs ht hvm hw hB hz1 hk1 hS => ?_)
        obtain ⟨hP, -, hD1⟩ := hB
        rw [ht] at hP
        have hD := hD1.weaken (fun _ q _ h => hFc q.1 h)
        generalize H1 = H at hP hS ⊢
        refine W.cs (cells' := 0) (slots' := 0) rfl rfl ?_
        subst hw
        refine lv_istore_n (lv' := [(1, .int o_7.2), (0, .ref (ad 11 x0)), (2, .int x2)]) hx hb d_cJT_isPath_31 rfl hl (by decide) rfl (fun ls hl => ?_)
        refine lv_iinc (v := x2 + 1) (lv' := [(2, .int (x2 + 1)), (1, .int o_7.2), (0, .ref (ad 11 x0))]) hx hb d_cJT_isPath_32 hl (k := 2) rfl rfl (by decide) rfl (fun ls hl => ?_)
        refine lv_goto (tgt := 4) hx hb d_cJT_isPath_35 (by decide) ?_
        exact Ka _ (Option.some.inj Heq).symm _ _ _ hP hD hS (lv_sub hl [2, 1, 0] rfl)
def m_cJT_isPath_L4 (N : Nat → Nat) (x0 : Nat) (S : CS) (x1 : Int32) (x2 : Int32) : Option (CS × Int32) := lp (fun a : CS × Int32 × Int32 => m_cJT_isPath_B4 N x0 a.1 a.2.1 a.2.2) FU (S, x1, x2)
theorem w_cJT_isPath_L4 {p : Program} {l : Launch} {e : Env} {s : State} {m : MethodId} {args : Array Value} {below : List Frame} {meth : Method} {c : Code} {A : Nat → Prop} {D : va_G} {ad : Nat → Nat → Nat} {cc : Nat → ClassId} {sad sav : Nat → Nat} {Q : State → Prop} (hC : MCc sad sav "JoinedTrees" prog_1_method_53_code 3 (some .boolean) p s m args meth c A D cc) {N : Nat → Nat} {x0 : Nat} {S : CS} {x1 : Int32} {x2 : Int32} {o : CS × Int32} (Heq : m_cJT_isPath_L4 N x0 S x1 x2 = some o) (K0 : ∀ b : CS × Int32, o = b → ∀ (H : Heap) (locs : List Loc) (ls : Array Slot), va_P D cls (cw ad cc N b.1) H → va_D A (cw ad cc N b.1) → va_S A s.heap H locs → lv_has ls 3 [(0, .ref (ad 11 x0)), (1, .int b.2)] → W p l e ({ frames := 4, cells := 0, slots := 0, locals := 85 }) s m args below meth c H locs 0 0 Q (F0 m 38 ls [])) : ∀ (H : Heap) (locs : List Loc) (ls : Array Slot), va_P D cls (cw ad cc N S) H → va_D A (cw ad cc N S) → va_S A s.heap H locs → lv_has ls 3 [(0, .ref (ad 11 x0)), (1, .int x1), (2, .int x2)] → W p l e ({ frames := 4, cells := 0, slots := 0, locals := 85 }) s m args below meth c H locs 0 0 Q (F0 m 4 ls []) := by
  refine lp_w (G := fun a : CS × Int32 × Int32 => ∀ (H : Heap) (locs : List Loc) (ls : Array Slot), va_P D cls (cw ad cc N a.1) H → va_D A (cw ad cc N a.1) → va_S A s.heap H locs → lv_has ls 3 [(0, .ref (ad 11 x0)), (1, .int a.2.1), (2, .int a.2.2)] → W p l e ({ frames := 4, cells := 0, slots := 0, locals := 85 }) s m args below meth c H locs 0 0 Q (F0 m 4 ls [])) ?_ FU (S, x1, x2) Heq
  intro a o1 ho Ka Ke
  exact w_cJT_isPath_B4 hC ho (fun b h => Ka b h) (fun b h => K0 b (Ke _ h).symm)
def m_cJT_isPath_J57 (N : Nat → Nat) (x0 : Nat) (S : CS) (t0 : Int32) : Option (CS × Int32) := (if t0 = 0 ∨ t0 = 1 then some (S, t0) else none)
theorem d_cJT_isPath_38 : decode prog_1_method_53_code 38 = .ok (.aload_n 0, 1) := by decide +kernel
theorem d_cJT_isPath_39 : decode prog_1_method_53_code 39 = .ok (.getfield 70, 3) := by decide +kernel
theorem d_cJT_isPath_42 : decode prog_1_method_53_code 42 = .ok (.getfield 80, 3) := by decide +kernel
theorem d_cJT_isPath_45 : decode prog_1_method_53_code 45 = .ok (.ifCond .le 11, 3) := by decide +kernel
theorem d_cJT_isPath_56 : decode prog_1_method_53_code 56 = .ok (.iconst 0, 1) := by decide +kernel
theorem d_cJT_isPath_57 : decode prog_1_method_53_code 57 = .ok (.ireturn, 1) := by decide +kernel
set_option maxHeartbeats 4000000 in
set_option maxRecDepth 100000 in
theorem w_cJT_isPath_J57 {p : Program} {l : Launch} {e : Env} {s : State} {m : MethodId} {args : Array Value} {below : List Frame} {meth : Method} {c : Code} {A : Nat → Prop} {D : va_G} {ad : Nat → Nat → Nat} {cc : Nat → ClassId} {sad sav : Nat → Nat} {Q : State → Prop} (hC : MCc sad sav "JoinedTrees" prog_1_method_53_code 3 (some .boolean) p s m args meth c A D cc) {N : Nat → Nat} {x0 : Nat} {S : CS} {t0 : Int32} {o : CS × Int32} (Heq : m_cJT_isPath_J57 N x0 S t0 = some o) (Kr : ∀ r : CS × Int32, o = r → ∀ (pc : Nat) (H : Heap) (locs : List Loc) (ls : Array Slot), decode prog_1_method_53_code pc = .ok (.ireturn, 1) → (r.2 = 0 ∨ r.2 = 1) → va_P D cls (cw ad cc N r.1) H → va_D A (cw ad cc N r.1) → va_S A s.heap H locs → W p l e ({ frames := 4, cells := 0, slots := 0, locals := 85 }) s m args below meth c H locs 0 0 Q (F0 m pc ls [.int r.2])) : ∀ (H : Heap) (locs : List Loc) (ls : Array Slot), va_P D cls (cw ad cc N S) H → va_D A (cw ad cc N S) → va_S A s.heap H locs → lv_has ls 3 [(0, .ref (ad 11 x0))] → W p l e ({ frames := 4, cells := 0, slots := 0, locals := 85 }) s m args below meth c H locs 0 0 Q (F0 m 57 ls [.int t0]) := by
  intro H locs ls hP hD hS hl
  obtain ⟨hx, hb, hr, hml, hown, hts, hK, hA, hev, hE, hN, hNS⟩ := id hC
  unfold m_cJT_isPath_J57 at Heq
  by_cases hz_1 : t0 = 0 ∨ t0 = 1
  case neg => rw [if_neg hz_1] at Heq; cases Heq
  replace Heq := (if_pos hz_1).symm.trans Heq
  exact Kr _ (Option.some.inj Heq).symm 57 _ _ _ d_cJT_isPath_57 hz_1 hP hD hS
def m_cJT_isPath_J56 (N : Nat → Nat) (x0 : Nat) (S : CS) : Option (CS × Int32) := m_cJT_isPath_J57 N x0 S 0
set_option maxHeartbeats 4000000 in
set_option maxRecDepth 100000 in
theorem w_cJT_isPath_J56 {p : Program} {l : Launch} {e : Env} {s : State} {m : MethodId} {args : Array Value} {below : List Frame} {meth : Method} {c : Code} {A : Nat → Prop} {D : va_G} {ad : Nat → Nat → Nat} {cc : Nat → ClassId} {sad sav : Nat → Nat} {Q : State → Prop} (hC : MCc sad sav "JoinedTrees" prog_1_method_53_code 3 (some .boolean) p s m args meth c A D cc) {N : Nat → Nat} {x0 : Nat} {S : CS} {o : CS × Int32} (Heq : m_cJT_isPath_J56 N x0 S = some o) (Kr : ∀ r : CS × Int32, o = r → ∀ (pc : Nat) (H : Heap) (locs : List Loc) (ls : Array Slot), decode prog_1_method_53_code pc = .ok (.ireturn, 1) → (r.2 = 0 ∨ r.2 = 1) → va_P D cls (cw ad cc N r.1) H → va_D A (cw ad cc N r.1) → va_S A s.heap H locs → W p l e ({ frames := 4, cells := 0, slots := 0, locals := 85 }) s m args below meth c H locs 0 0 Q (F0 m pc ls [.int r.2])) : ∀ (H : Heap) (locs : List Loc) (ls : Array Slot), va_P D cls (cw ad cc N S) H → va_D A (cw ad cc N S) → va_S A s.heap H locs → lv_has ls 3 [(0, .ref (ad 11 x0))] → W p l e ({ frames := 4, cells := 0, slots := 0, locals := 85 }) s m args below meth c H locs 0 0 Q (F0 m 56 ls []) := by
  intro H locs ls hP hD hS hl
  obtain ⟨hx, hb, hr, hml, hown, hts, hK, hA, hev, hE, hN, hNS⟩ := id hC
  unfold m_cJT_isPath_J56 at Heq
  refine lv_iconst (v := 0) hx hb d_cJT_isPath_56 (by decide) ?_
  exact w_cJT_isPath_J57 hC Heq Kr _ _ _ hP hD hS (lv_sub hl [0] rfl)
def m_cJT_isPath_J38 (N : Nat → Nat) (x0 : Nat) (S : CS) (x1 : Int32) : Option (CS × Int32) := gl x0 (N 11) (gn (S.r 11 9 x0) (N 5) (fun j_1 => (if S.i 5 1 j_1 ≤ 0 then m_cJT_isPath_J56 N x0 S else (if x1 < 0 then m_cJT_isPath_J56 N x0 S else m_cJT_isPath_J57 N x0 S 1))))
theorem d_cJT_isPath_48 : decode prog_1_method_53_code 48 = .ok (.iload_n 1, 1) := by decide +kernel
theorem d_cJT_isPath_49 : decode prog_1_method_53_code 49 = .ok (.ifCond .lt 7, 3) := by decide +kernel
theorem d_cJT_isPath_52 : decode prog_1_method_53_code 52 = .ok (.iconst 1, 1) := by decide +kernel
theorem d_cJT_isPath_53 : decode prog_1_method_53_code 53 = .ok (.goto 4, 3) := by decide +kernel
set_option maxHeartbeats 4000000 in
set_option maxRecDepth 100000 in
theorem w_cJT_isPath_J38 {p : Program} {l : Launch} {e : Env} {s : State} {m : MethodId} {args : Array Value} {below : List Frame} {meth : Method} {c : Code} {A : Nat → Prop} {D : va_G} {ad : Nat → Nat → Nat} {cc : Nat → ClassId} {sad sav : Nat → Nat} {Q : State → Prop} (hC : MCc sad sav "JoinedTrees" prog_1_method_53_code 3 (some .boolean) p s m args meth c A D cc) {N : Nat → Nat} {x0 : Nat} {S : CS} {x1 : Int32} {o : CS × Int32} (Heq : m_cJT_isPath_J38 N x0 S x1 = some o) (Kr : ∀ r : CS × Int32, o = r → ∀ (pc : Nat) (H : Heap) (locs : List Loc) (ls : Array Slot), decode prog_1_method_53_code pc = .ok (.ireturn, 1) → (r.2 = 0 ∨ r.2 = 1) → va_P D cls (cw ad cc N r.1) H → va_D A (cw ad cc N r.1) → va_S A s.heap H locs → W p l e ({ frames := 4, cells := 0, slots := 0, locals := 85 }) s m args below meth c H locs 0 0 Q (F0 m pc ls [.int r.2])) : ∀ (H : Heap) (locs : List Loc) (ls : Array Slot), va_P D cls (cw ad cc N S) H → va_D A (cw ad cc N S) → va_S A s.heap H locs → lv_has ls 3 [(0, .ref (ad 11 x0)), (1, .int x1)] → W p l e ({ frames := 4, cells := 0, slots := 0, locals := 85 }) s m args below meth c H locs 0 0 Q (F0 m 38 ls []) := by
  intro H locs ls hP hD hS hl
  obtain ⟨hx, hb, hr, hml, hown, hts, hK, hA, hev, hE, hN, hNS⟩ := id hC
  unfold m_cJT_isPath_J38 at Heq
  refine lv_aload_n hx hb d_cJT_isPath_38 rfl (lv_at hl 0 rfl) ?_
  obtain ⟨hl_x0_11, Heq⟩ := gl_some Heq
  refine va_get (D := D) (ci := 11) (v := rv ad 5 (S.r 11 9 x0)) (C := R_JT) (T := F_JT) (N := 13) hx hb hts i_JT hown hK hP (cPos N 11 x0) (cw_obj (k := 11) (by decide) hl_x0_11) rfl 9 (by decide) (hts _ kw_430) (fun _ h9 => h9) rfl d_cJT_isPath_39 ?_
  obtain ⟨j_1, hj_2, hl_3, Heq⟩ := gn_some Heq
  refine w_s (st' := [.ref (ad 5 j_1)]) (congrArg (fun z9 : Option Nat => [rv ad 5 z9]) hj_2) ?_
  refine va_get (D := D) (ci := 5) (v := .int (S.i 5 1 j_1)) (C := R_Rw) (T := F_Rw) (N := 3) hx hb hts i_Rw hown hK hP (cPos N 5 j_1) (cw_obj (k := 5) (by decide) hl_3) rfl 1 (by decide) (hts _ kw_143) (fun _ h9 => h9) rfl d_cJT_isPath_42 ?_
  refine lv_if_le (tgt := 56) hx hb d_cJT_isPath_45 (by decide) (fun c_4 => ?_) (fun c_4 => ?_)
  · replace Heq := (if_pos c_4).symm.trans Heq
    exact w_cJT_isPath_J56 hC Heq Kr _ _ _ hP hD hS (lv_sub hl [0] rfl)
  · replace Heq := (if_neg c_4).symm.trans Heq
    refine lv_iload_n hx hb d_cJT_isPath_48 rfl (lv_at hl 1 rfl) ?_
    refine lv_if_lt (tgt := 56) hx hb d_cJT_isPath_49 (by decide) (fun c_5 => ?_) (fun c_5 => ?_)
    · replace Heq := (if_pos c_5).symm.trans Heq
      exact w_cJT_isPath_J56 hC Heq Kr _ _ _ hP hD hS (lv_sub hl [0] rfl)
    · replace Heq := (if_neg c_5).symm.trans Heq
      refine lv_iconst (v := 1) hx hb d_cJT_isPath_52 (by decide) ?_
      refine lv_goto (tgt := 57) hx hb d_cJT_isPath_53 (by decide) ?_
      exact w_cJT_isPath_J57 hC Heq Kr _ _ _ hP hD hS (lv_sub hl [0] rfl)
def m_cJT_isPath_J0 (N : Nat → Nat) (x0 : Nat) (S : CS) : Option (CS × Int32) := ob (m_cJT_isPath_L4 N x0 S 0 0) (fun b_1 => m_cJT_isPath_J38 N x0 b_1.1 b_1.2)
set_option maxHeartbeats 4000000 in
set_option maxRecDepth 100000 in
theorem w_cJT_isPath_J0 {p : Program} {l : Launch} {e : Env} {s : State} {m : MethodId} {args : Array Value} {below : List Frame} {meth : Method} {c : Code} {A : Nat → Prop} {D : va_G} {ad : Nat → Nat → Nat} {cc : Nat → ClassId} {sad sav : Nat → Nat} {Q : State → Prop} (hC : MCc sad sav "JoinedTrees" prog_1_method_53_code 3 (some .boolean) p s m args meth c A D cc) {N : Nat → Nat} {x0 : Nat} {S : CS} {o : CS × Int32} (Heq : m_cJT_isPath_J0 N x0 S = some o) (Kr : ∀ r : CS × Int32, o = r → ∀ (pc : Nat) (H : Heap) (locs : List Loc) (ls : Array Slot), decode prog_1_method_53_code pc = .ok (.ireturn, 1) → (r.2 = 0 ∨ r.2 = 1) → va_P D cls (cw ad cc N r.1) H → va_D A (cw ad cc N r.1) → va_S A s.heap H locs → W p l e ({ frames := 4, cells := 0, slots := 0, locals := 85 }) s m args below meth c H locs 0 0 Q (F0 m pc ls [.int r.2])) : ∀ (H : Heap) (locs : List Loc) (ls : Array Slot), va_P D cls (cw ad cc N S) H → va_D A (cw ad cc N S) → va_S A s.heap H locs → lv_has ls 3 [(0, .ref (ad 11 x0))] → W p l e ({ frames := 4, cells := 0, slots := 0, locals := 85 }) s m args below meth c H locs 0 0 Q (F0 m 0 ls []) := by
  intro H locs ls hP hD hS hl
  obtain ⟨hx, hb, hr, hml, hown, hts, hK, hA, hev, hE, hN, hNS⟩ := id hC
  unfold m_cJT_isPath_J0 at Heq
  refine lv_iconst (v := 0) hx hb d_cJT_isPath_0 (by decide) ?_
  refine lv_istore_n (lv' := [(1, .int 0), (0, .ref (ad 11 x0))]) hx hb d_cJT_isPath_1 rfl hl (by decide) rfl (fun ls hl => ?_)
  refine lv_iconst (v := 0) hx hb d_cJT_isPath_2 (by decide) ?_
  refine lv_istore_n (lv' := [(2, .int 0), (1, .int 0), (0, .ref (ad 11 x0))]) hx hb d_cJT_isPath_3 rfl hl (by decide) rfl (fun ls hl => ?_)
  obtain ⟨b_1, h_2, Heq⟩ := ob_some Heq
  refine w_cJT_isPath_L4 hC h_2 (fun b h => ?_) _ _ _ hP hD hS (lv_sub hl [2, 1, 0] rfl)
  subst h
  intro H locs ls hP hD hS hl
  exact w_cJT_isPath_J38 hC Heq Kr _ _ _ hP hD hS (lv_sub hl [0, 1] rfl)
def m_cJT_isPath (N : Nat → Nat) (x0 : Nat) (S : CS) : Option (CS × Int32) := m_cJT_isPath_J0 N x0 S
set_option maxHeartbeats 4000000 in
theorem g_cJT_isPath (l : Launch) (D : va_G) (sz : Nat) {ad : Nat → Nat → Nat} {cc : Nat → ClassId} {sad sav : Nat → Nat} {N : Nat → Nat} {x0 : Nat} {S : CS} {o : CS × Int32} (Heq : m_cJT_isPath N x0 S = some o) : Met l ⟨"JoinedTrees", "isPath", "()Z"⟩ (Cond.code ⟨"JoinedTrees", "isPath", "()Z"⟩ prog_1_method_53_code 3 (some .boolean) :: gb) ({ frames := 4, cells := 0, slots := 0, locals := 85 }) (cPc sad sav D (cw ad cc N S) (cty cc) sz [.ref (ad 11 x0)]) (va_Qi (fun (r : Int32) (_ : Unit) => r = o.2) (fun _ t => gO D (cw ad cc N o.1) (cty cc) (va_A (cw ad cc N S) sz) t) (va_A (cw ad cc N S) sz)) 0 0 (va_A (cw ad cc N S) sz) := by
  refine Met.ofW (cc := prog_1_method_53_code) (maxL := 3) (ret := (some .boolean)) (by decide) rfl ?_
  intro p e s m args below meth c s₁ B hml hv
  obtain ⟨rfl, hsz, hP, hK, hD0, hev, hE, hN⟩ := hv
  have hx := B.exec
  have hb := B.bytes
  have hr := B.returns
  have hts : ∀ w9 ∈ gb, w9.before [.ref (ad 11 x0)].toArray s = true := fun w9 h => atoms_spec (ws := Cond.code ⟨"JoinedTrees", "isPath", "()Z"⟩ prog_1_method_53_code 3 (some .boolean) :: gb) B.pre w9 (List.mem_cons_of_mem _ h)
  have hown : s.vm.findClass "JoinedTrees" = some m.cls := findClass_of_methodNamed B.named
  have hlocks := B.notSynchronized
  have hNS := ns_of hP
  subst hsz
  have hD := hD0.self (sz := s.heap.size)
  generalize hAe : va_A (cw ad cc N S) s.heap.size = A at hD hev hE hNS ⊢
  have hA : ∀ q : Nat, s.heap.size ≤ q → A q := fun q h => by rw [← hAe]; exact Or.inr h
  have hS : va_S A s.heap s.heap [] := va_S.rf
  obtain ⟨ls, hl, hle⟩ : ∃ ls : Array Slot, lv_has ls 3 [(0, .ref (ad 11 x0))] ∧ entryFrame m ([.ref (ad 11 x0)] : List Value).toArray 3 = F0 m 0 ls [] := by
    exact ⟨_, lv_entry (n := 3) _ (Nat.le_of_ble_eq_true rfl), lg_entry_eq ..⟩
  rw [hle]
  refine w_cJT_isPath_J0 ⟨hx, hb, hr, hml, hown, hts, hK, hA, hev, hE, hN, hNS⟩ Heq (fun r h pc H locs ls hd hz hP hD hS => ?_) _ _ _ hP hD hS (lv_sub hl [0] rfl)
  subst h
  exact W.zret (ty := .boolean) hx hb hr (by rcases hz with hz | hz <;> rw [hz] <;> rfl) (fun t ht hW => ⟨⟨_, (), rfl, rfl, by rw [ht]; exact hP, va_K.moved hW.alike hK, hD⟩, hS.F ht⟩) hS.2.2 hd
def m_cJT_elementOf_B8 (N : Nat → Nat) (x0 : Nat) (S : CS) (x1 : Option Nat) (x3 : Int32) (x4 : Int32) (x5 : Int32) : Option ((CS × Option Nat × Int32 × Int32 × Int32) ⊕ (CS × Option Nat × Int32)) := (if x3 - 1 ≤ x5 then some (.inr (S, x1, x4)) else gl x0 (N 11) (gn (S.r 11 9 x0) (N 5) (fun j_2 => ob (m_cRw_at N j_2 S x5) (fun o_5 => some (.inl (o_5.1, x1, x3, (((10 * x4) + o_5.2) - 48), (x5 + 1)))))))
theorem d_cJT_elementOf_0 : decode prog_1_method_60_code 0 = .ok (.iconst 0, 1) := by decide +kernel
theorem d_cJT_elementOf_1 : decode prog_1_method_60_code 1 = .ok (.istore 4, 2) := by decide +kernel
theorem d_cJT_elementOf_3 : decode prog_1_method_60_code 3 = .ok (.iload_n 2, 1) := by decide +kernel
theorem d_cJT_elementOf_4 : decode prog_1_method_60_code 4 = .ok (.iconst 1, 1) := by decide +kernel
theorem d_cJT_elementOf_5 : decode prog_1_method_60_code 5 = .ok (.iadd, 1) := by decide +kernel
theorem d_cJT_elementOf_6 : decode prog_1_method_60_code 6 = .ok (.istore 5, 2) := by decide +kernel
theorem d_cJT_elementOf_8 : decode prog_1_method_60_code 8 = .ok (.iload 5, 2) := by decide +kernel
theorem d_cJT_elementOf_10 : decode prog_1_method_60_code 10 = .ok (.iload_n 3, 1) := by decide +kernel
theorem d_cJT_elementOf_11 : decode prog_1_method_60_code 11 = .ok (.iconst 1, 1) := by decide +kernel
theorem d_cJT_elementOf_12 : decode prog_1_method_60_code 12 = .ok (.isub, 1) := by decide +kernel
theorem d_cJT_elementOf_13 : decode prog_1_method_60_code 13 = .ok (.if_icmp .ge 29, 3) := by decide +kernel
theorem d_cJT_elementOf_16 : decode prog_1_method_60_code 16 = .ok (.bipush 10, 2) := by decide +kernel
theorem d_cJT_elementOf_18 : decode prog_1_method_60_code 18 = .ok (.iload 4, 2) := by decide +kernel
theorem d_cJT_elementOf_20 : decode prog_1_method_60_code 20 = .ok (.imul, 1) := by decide +kernel
theorem d_cJT_elementOf_21 : decode prog_1_method_60_code 21 = .ok (.aload_n 0, 1) := by decide +kernel
theorem d_cJT_elementOf_22 : decode prog_1_method_60_code 22 = .ok (.getfield 70, 3) := by decide +kernel
theorem d_cJT_elementOf_25 : decode prog_1_method_60_code 25 = .ok (.iload 5, 2) := by decide +kernel
theorem d_cJT_elementOf_27 : decode prog_1_method_60_code 27 = .ok (.invokevirtual 293, 3) := by decide +kernel
theorem d_cJT_elementOf_30 : decode prog_1_method_60_code 30 = .ok (.iadd, 1) := by decide +kernel
theorem d_cJT_elementOf_31 : decode prog_1_method_60_code 31 = .ok (.bipush 48, 2) := by decide +kernel
theorem d_cJT_elementOf_33 : decode prog_1_method_60_code 33 = .ok (.isub, 1) := by decide +kernel
theorem d_cJT_elementOf_34 : decode prog_1_method_60_code 34 = .ok (.istore 4, 2) := by decide +kernel
theorem d_cJT_elementOf_36 : decode prog_1_method_60_code 36 = .ok (.iinc 5 1, 3) := by decide +kernel
theorem d_cJT_elementOf_39 : decode prog_1_method_60_code 39 = .ok (.goto (-31), 3) := by decide +kernel
set_option maxHeartbeats 4000000 in
set_option maxRecDepth 100000 in
theorem w_cJT_elementOf_B8 {p : Program} {l : Launch} {e : Env} {s : State} {m : MethodId} {args : Array Value} {below : List Frame} {meth : Method} {c : Code} {A : Nat → Prop} {D : va_G} {ad : Nat → Nat → Nat} {cc : Nat → ClassId} {sad sav : Nat → Nat} {Q : State → Prop} (hC : MCc sad sav "JoinedTrees" prog_1_method_60_code 6 (some (.object "JoinedTrees$Op")) p s m args meth c A D cc) {N : Nat → Nat} {x0 : Nat} {S : CS} {x1 : Option Nat} {x3 : Int32} {x4 : Int32} {x5 : Int32} {o : ((CS × Option Nat × Int32 × Int32 × Int32) ⊕ (CS × Option Nat × Int32))} (Heq : m_cJT_elementOf_B8 N x0 S x1 x3 x4 x5 = some o) (Ka : ∀ b : CS × Option Nat × Int32 × Int32 × Int32, o = .inl b → ∀ (H : Heap) (locs : List Loc) (ls : Array Slot), va_P D cls (cw ad cc N b.1) H → va_D A (cw ad cc N b.1) → va_S A s.heap H locs → lv_has ls 6 [(0, .ref (ad 11 x0)), (1, rv ad 3 b.2.1), (3, .int b.2.2.1), (4, .int b.2.2.2.1), (5, .int b.2.2.2.2)] → W p l e ({ frames := 4, cells := 0, slots := 0, locals := 89 }) s m args below meth c H locs 0 0 Q (F0 m 8 ls [])) (K0 : ∀ b : CS × Option Nat × Int32, o = .inr b → ∀ (H : Heap) (locs : List Loc) (ls : Array Slot), va_P D cls (cw ad cc N b.1) H → va_D A (cw ad cc N b.1) → va_S A s.heap H locs → lv_has ls 6 [(0, .ref (ad 11 x0)), (1, rv ad 3 b.2.1), (4, .int b.2.2)] → W p l e ({ frames := 4, cells := 0, slots := 0, locals := 89 }) s m args below meth c H locs 0 0 Q (F0 m 42 ls [])) : ∀ (H : Heap) (locs : List Loc) (ls : Array Slot), va_P D cls (cw ad cc N S) H → va_D A (cw ad cc N S) → va_S A s.heap H locs → lv_has ls 6 [(0, .ref (ad 11 x0)), (1, rv ad 3 x1), (3, .int x3), (4, .int x4), (5, .int x5)] → W p l e ({ frames := 4, cells := 0, slots := 0, locals := 89 }) s m args below meth c H locs 0 0 Q (F0 m 8 ls []) := by
  intro H locs ls hP hD hS hl
  obtain ⟨hx, hb, hr, hml, hown, hts, hK, hA, hev, hE, hN, hNS⟩ := id hC
  unfold m_cJT_elementOf_B8 at Heq
  refine lv_iload hx hb d_cJT_elementOf_8 (lv_at hl 4 rfl) ?_
  refine lv_iload_n hx hb d_cJT_elementOf_10 rfl (lv_at hl 2 rfl) ?_
  refine lv_iconst (v := 1) hx hb d_cJT_elementOf_11 (by decide) ?_
  refine lv_isub hx hb d_cJT_elementOf_12 ?_
  refine w_i (y := x3 - 1) rfl ?_
  refine lv_icmp_ge (tgt := 42) hx hb d_cJT_elementOf_13 (by decide) (fun c_1 => ?_) (fun c_1 => ?_)
  · replace Heq := (if_pos c_1).symm.trans Heq
    exact K0 _ (Option.some.inj Heq).symm _ _ _ hP hD hS (lv_sub hl [0, 1, 3] rfl)
  · replace Heq := (if_neg c_1).symm.trans Heq
    refine lv_bipush (v := 10) hx hb d_cJT_elementOf_16 (by decide) ?_
    refine lv_iload hx hb d_cJT_elementOf_18 (lv_at hl 3 rfl) ?_
    refine lv_imul hx hb d_cJT_elementOf_20 ?_
    refine w_i (y := 10 * x4) rfl ?_
    refine lv_aload_n hx hb d_cJT_elementOf_21 rfl (lv_at hl 0 rfl) ?_
    obtain ⟨hl_x0_11, Heq⟩ := gl_some Heq
    refine va_get (D := D) (ci := 11) (v := rv ad 5 (S.r 11 9 x0)) (C := R_JT) (T := F_JT) (N := 13) hx hb hts i_JT hown hK hP (cPos N 11 x0) (cw_obj (k := 11) (by decide) hl_x0_11) rfl 9 (by decide) (hts _ kw_430) (fun _ h9 => h9) rfl d_cJT_elementOf_22 ?_
    refine lv_iload hx hb d_cJT_elementOf_25 (lv_at hl 4 rfl) ?_
    obtain ⟨j_2, hj_3, hl_4, Heq⟩ := gn_some Heq
    refine w_s (st' := [.int x5, .ref (ad 5 j_2), .int (10 * x4)]) (congrArg (fun z9 : Option Nat => [.int x5, rv ad 5 z9, .int (10 * x4)]) hj_3) ?_
    obtain ⟨o_5, h_6, Heq⟩ := ob_some Heq
    have hFc := fr_all hD hS hA
    refine va_calli (va_runV (As := [.int x5]) (rest := [.int (10 * x4)]) ⟨hx, hb, hml, hown, hts⟩ (g_cRw_at l D H.size (ad := ad) (cc := cc) (sad := sad) (sav := sav) h_6) (cw_v 1 hts kw_689 kw_1136 kw_687 kw_688 kw_4 rfl rfl (by decide +kernel) ⟨Nat.le_of_ble_eq_true rfl, Nat.le_of_ble_eq_true rfl⟩) ⟨c_blind, va_recv hK hP (ci := 5) (q0 := cPos N 5 j_2) rfl (cw_obj (k := 5) (by decide) hl_4), fun U hU hW => c_pre hU hW hP hK hD hev hE hN hNS hS hFc⟩ rfl rfl hl.1 rfl (lv_room (Nat.le_of_ble_eq_true rfl)) d_cJT_elementOf_27 ⟨Nat.le_of_ble_eq_true rfl, Nat.le_of_ble_eq_true rfl⟩) hS (fun q _ h => hFc q h) hFc (fun rz u t H1 locs ht hvm hw hB hz1 hk1 hS => ?_)
    obtain ⟨hP, -, hD1⟩ := hB
    rw [ht] at hP
    have hD := hD1.weaken (fun _ q _ h => hFc q.1 h)
    generalize H1 = H at hP hS ⊢
    refine W.cs (cells' := 0) (slots' := 0) rfl rfl ?_
    subst hw
    refine lv_iadd hx hb d_cJT_elementOf_30 ?_
    refine w_i (y := (10 * x4) + o_5.2) rfl ?_
    refine lv_bipush (v := 48) hx hb d_cJT_elementOf_31 (by decide) ?_
    refine lv_isub hx hb d_cJT_elementOf_33 ?_
    refine w_i (y := ((10 * x4) + o_5.2) - 48) rfl ?_
    refine lv_istore (lv' := [(4, .int (((10 * x4) + o_5.2) - 48)), (0, .ref (ad 11 x0)), (1, rv ad 3 x1), (3, .int x3), (5, .int x5)]) hx hb d_cJT_elementOf_34 hl (by decide) rfl (fun ls hl => ?_)
    refine lv_iinc (v := x5 + 1) (lv' := [(5, .int (x5 + 1)), (4, .int (((10 * x4) + o_5.2) - 48)), (0, .ref (ad 11 x0)), (1, rv ad 3 x1), (3, .int x3)]) hx hb d_cJT_elementOf_36 hl (k := 4) rfl rfl (by decide) rfl (fun ls hl => ?_)
    refine lv_goto (tgt := 8) hx hb d_cJT_elementOf_39 (by decide) ?_
    exact Ka _ (Option.some.inj Heq).symm _ _ _ hP hD hS (lv_sub hl [2, 3, 4, 1, 0] rfl)
def m_cJT_elementOf_L8 (N : Nat → Nat) (x0 : Nat) (S : CS) (x1 : Option Nat) (x3 : Int32) (x4 : Int32) (x5 : Int32) : Option (CS × Option Nat × Int32) := lp (fun a : CS × Option Nat × Int32 × Int32 × Int32 => m_cJT_elementOf_B8 N x0 a.1 a.2.1 a.2.2.1 a.2.2.2.1 a.2.2.2.2) FU (S, x1, x3, x4, x5)
theorem w_cJT_elementOf_L8 {p : Program} {l : Launch} {e : Env} {s : State} {m : MethodId} {args : Array Value} {below : List Frame} {meth : Method} {c : Code} {A : Nat → Prop} {D : va_G} {ad : Nat → Nat → Nat} {cc : Nat → ClassId} {sad sav : Nat → Nat} {Q : State → Prop} (hC : MCc sad sav "JoinedTrees" prog_1_method_60_code 6 (some (.object "JoinedTrees$Op")) p s m args meth c A D cc) {N : Nat → Nat} {x0 : Nat} {S : CS} {x1 : Option Nat} {x3 : Int32} {x4 : Int32} {x5 : Int32} {o : CS × Option Nat × Int32} (Heq : m_cJT_elementOf_L8 N x0 S x1 x3 x4 x5 = some o) (K0 : ∀ b : CS × Option Nat × Int32, o = b → ∀ (H : Heap) (locs : List Loc) (ls : Array Slot), va_P D cls (cw ad cc N b.1) H → va_D A (cw ad cc N b.1) → va_S A s.heap H locs → lv_has ls 6 [(0, .ref (ad 11 x0)), (1, rv ad 3 b.2.1), (4, .int b.2.2)] → W p l e ({ frames := 4, cells := 0, slots := 0, locals := 89 }) s m args below meth c H locs 0 0 Q (F0 m 42 ls [])) : ∀ (H : Heap) (locs : List Loc) (ls : Array Slot), va_P D cls (cw ad cc N S) H → va_D A (cw ad cc N S) → va_S A s.heap H locs → lv_has ls 6 [(0, .ref (ad 11 x0)), (1, rv ad 3 x1), (3, .int x3), (4, .int x4), (5, .int x5)] → W p l e ({ frames := 4, cells := 0, slots := 0, locals := 89 }) s m args below meth c H locs 0 0 Q (F0 m 8 ls []) := by
  refine lp_w (G := fun a : CS × Option Nat × Int32 × Int32 × Int32 => ∀ (H : Heap) (locs : List Loc) (ls : Array Slot), va_P D cls (cw ad cc N a.1) H → va_D A (cw ad cc N a.1) → va_S A s.heap H locs → lv_has ls 6 [(0, .ref (ad 11 x0)), (1, rv ad 3 a.2.1), (3, .int a.2.2.1), (4, .int a.2.2.2.1), (5, .int a.2.2.2.2)] → W p l e ({ frames := 4, cells := 0, slots := 0, locals := 89 }) s m args below meth c H locs 0 0 Q (F0 m 8 ls [])) ?_ FU (S, x1, x3, x4, x5) Heq
  intro a o1 ho Ka Ke
  exact w_cJT_elementOf_B8 hC ho (fun b h => Ka b h) (fun b h => K0 b (Ke _ h).symm)
def m_cJT_elementOf_J94 (N : Nat → Nat) (x0 : Nat) (S : CS) (t0 : Option Nat) : Option (CS × Option Nat) := some (S, t0)
theorem d_cJT_elementOf_42 : decode prog_1_method_60_code 42 = .ok (.aload_n 1, 1) := by decide +kernel
theorem d_cJT_elementOf_43 : decode prog_1_method_60_code 43 = .ok (.getfield 171, 3) := by decide +kernel
theorem d_cJT_elementOf_46 : decode prog_1_method_60_code 46 = .ok (.bipush 7, 2) := by decide +kernel
theorem d_cJT_elementOf_48 : decode prog_1_method_60_code 48 = .ok (.if_icmp .eq 12, 3) := by decide +kernel
theorem d_cJT_elementOf_60 : decode prog_1_method_60_code 60 = .ok (.aload_n 0, 1) := by decide +kernel
theorem d_cJT_elementOf_61 : decode prog_1_method_60_code 61 = .ok (.getfield 30, 3) := by decide +kernel
theorem d_cJT_elementOf_64 : decode prog_1_method_60_code 64 = .ok (.aload_n 1, 1) := by decide +kernel
theorem d_cJT_elementOf_65 : decode prog_1_method_60_code 65 = .ok (.iload 4, 2) := by decide +kernel
theorem d_cJT_elementOf_67 : decode prog_1_method_60_code 67 = .ok (.invokevirtual 148, 3) := by decide +kernel
theorem d_cJT_elementOf_70 : decode prog_1_method_60_code 70 = .ok (.goto 4, 3) := by decide +kernel
theorem d_cJT_elementOf_74 : decode prog_1_method_60_code 74 = .ok (.astore 5, 2) := by decide +kernel
theorem d_cJT_elementOf_76 : decode prog_1_method_60_code 76 = .ok (.aload 5, 2) := by decide +kernel
theorem d_cJT_elementOf_78 : decode prog_1_method_60_code 78 = .ok (.ifnonnull 7, 3) := by decide +kernel
theorem d_cJT_elementOf_81 : decode prog_1_method_60_code 81 = .ok (.aconst_null, 1) := by decide +kernel
theorem d_cJT_elementOf_82 : decode prog_1_method_60_code 82 = .ok (.goto 12, 3) := by decide +kernel
theorem d_cJT_elementOf_94 : decode prog_1_method_60_code 94 = .ok (.areturn, 1) := by decide +kernel
set_option maxHeartbeats 4000000 in
set_option maxRecDepth 100000 in
theorem w_cJT_elementOf_J94 {p : Program} {l : Launch} {e : Env} {s : State} {m : MethodId} {args : Array Value} {below : List Frame} {meth : Method} {c : Code} {A : Nat → Prop} {D : va_G} {ad : Nat → Nat → Nat} {cc : Nat → ClassId} {sad sav : Nat → Nat} {Q : State → Prop} (hC : MCc sad sav "JoinedTrees" prog_1_method_60_code 6 (some (.object "JoinedTrees$Op")) p s m args meth c A D cc) {N : Nat → Nat} {x0 : Nat} {S : CS} {t0 : Option Nat} {o : CS × Option Nat} (Heq : m_cJT_elementOf_J94 N x0 S t0 = some o) (Kr : ∀ r : CS × Option Nat, o = r → ∀ (pc : Nat) (H : Heap) (locs : List Loc) (ls : Array Slot), decode prog_1_method_60_code pc = .ok (.areturn, 1) → va_P D cls (cw ad cc N r.1) H → va_D A (cw ad cc N r.1) → va_S A s.heap H locs → W p l e ({ frames := 4, cells := 0, slots := 0, locals := 89 }) s m args below meth c H locs 0 0 Q (F0 m pc ls [rv ad 3 r.2])) : ∀ (H : Heap) (locs : List Loc) (ls : Array Slot), va_P D cls (cw ad cc N S) H → va_D A (cw ad cc N S) → va_S A s.heap H locs → lv_has ls 6 [(0, .ref (ad 11 x0))] → W p l e ({ frames := 4, cells := 0, slots := 0, locals := 89 }) s m args below meth c H locs 0 0 Q (F0 m 94 ls [rv ad 3 t0]) := by
  intro H locs ls hP hD hS hl
  obtain ⟨hx, hb, hr, hml, hown, hts, hK, hA, hev, hE, hN, hNS⟩ := id hC
  unfold m_cJT_elementOf_J94 at Heq
  exact Kr _ (Option.some.inj Heq).symm 94 _ _ _ d_cJT_elementOf_94 hP hD hS
def m_cJT_elementOf_J74 (N : Nat → Nat) (x0 : Nat) (S : CS) (t0 : Option Nat) : Option (CS × Option Nat) := on t0 (m_cJT_elementOf_J94 N x0 S none) (fun j_1 => gl x0 (N 11) (gl j_1 (N 7) (gn (S.r 11 2 x0) (N 10) (fun j_3 => ob (m_cVw_top N j_3 S j_1) (fun o_6 => m_cJT_elementOf_J94 N x0 o_6.1 o_6.2)))))
theorem d_cJT_elementOf_85 : decode prog_1_method_60_code 85 = .ok (.aload_n 0, 1) := by decide +kernel
theorem d_cJT_elementOf_86 : decode prog_1_method_60_code 86 = .ok (.getfield 30, 3) := by decide +kernel
theorem d_cJT_elementOf_89 : decode prog_1_method_60_code 89 = .ok (.aload 5, 2) := by decide +kernel
theorem d_cJT_elementOf_91 : decode prog_1_method_60_code 91 = .ok (.invokevirtual 408, 3) := by decide +kernel
set_option maxHeartbeats 4000000 in
set_option maxRecDepth 100000 in
theorem w_cJT_elementOf_J74 {p : Program} {l : Launch} {e : Env} {s : State} {m : MethodId} {args : Array Value} {below : List Frame} {meth : Method} {c : Code} {A : Nat → Prop} {D : va_G} {ad : Nat → Nat → Nat} {cc : Nat → ClassId} {sad sav : Nat → Nat} {Q : State → Prop} (hC : MCc sad sav "JoinedTrees" prog_1_method_60_code 6 (some (.object "JoinedTrees$Op")) p s m args meth c A D cc) {N : Nat → Nat} {x0 : Nat} {S : CS} {t0 : Option Nat} {o : CS × Option Nat} (Heq : m_cJT_elementOf_J74 N x0 S t0 = some o) (Kr : ∀ r : CS × Option Nat, o = r → ∀ (pc : Nat) (H : Heap) (locs : List Loc) (ls : Array Slot), decode prog_1_method_60_code pc = .ok (.areturn, 1) → va_P D cls (cw ad cc N r.1) H → va_D A (cw ad cc N r.1) → va_S A s.heap H locs → W p l e ({ frames := 4, cells := 0, slots := 0, locals := 89 }) s m args below meth c H locs 0 0 Q (F0 m pc ls [rv ad 3 r.2])) : ∀ (H : Heap) (locs : List Loc) (ls : Array Slot), va_P D cls (cw ad cc N S) H → va_D A (cw ad cc N S) → va_S A s.heap H locs → lv_has ls 6 [(0, .ref (ad 11 x0))] → W p l e ({ frames := 4, cells := 0, slots := 0, locals := 89 }) s m args below meth c H locs 0 0 Q (F0 m 74 ls [rv ad 7 t0]) := by
  intro H locs ls hP hD hS hl
  obtain ⟨hx, hb, hr, hml, hown, hts, hK, hA, hev, hE, hN, hNS⟩ := id hC
  unfold m_cJT_elementOf_J74 at Heq
  refine tx_astore (x := t0.map (ad 7)) (lv' := [(5, rv ad 7 t0), (0, .ref (ad 11 x0))]) hx hb d_cJT_elementOf_74 hl (by decide) rfl (fun ls hl => ?_)
  refine tx_aload (x := t0.map (ad 7)) hx hb d_cJT_elementOf_76 (lv_at hl 0 rfl) ?_
  refine w_v (y := rv ad 7 t0) rfl ?_
  rcases on_some Heq with ⟨hj_2, Heq⟩ | ⟨j_1, hj_2, Heq⟩
  · refine w_s (st' := [.null]) (congrArg (fun z9 : Option Nat => [rv ad 7 z9]) hj_2) ?_
    refine lv_ifnonnullN hx hb d_cJT_elementOf_78 ?_
    refine lv_null hx hb d_cJT_elementOf_81 ?_
    refine lv_goto (tgt := 94) hx hb d_cJT_elementOf_82 (by decide) ?_
    exact w_cJT_elementOf_J94 hC Heq Kr _ _ _ hP hD hS (lv_sub hl [1] rfl)
  · refine w_s (st' := [.ref (ad 7 j_1)]) (congrArg (fun z9 : Option Nat => [rv ad 7 z9]) hj_2) ?_
    refine lv_ifnonnull (tgt := 85) hx hb d_cJT_elementOf_78 (by decide) ?_
    refine lv_aload_n hx hb d_cJT_elementOf_85 rfl (lv_at hl 1 rfl) ?_
    obtain ⟨hl_x0_11, Heq⟩ := gl_some Heq
    refine va_get (D := D) (ci := 11) (v := rv ad 10 (S.r 11 2 x0)) (C := R_JT) (T := F_JT) (N := 13) hx hb hts i_JT hown hK hP (cPos N 11 x0) (cw_obj (k := 11) (by decide) hl_x0_11) rfl 2 (by decide) (hts _ kw_423) (fun _ h9 => h9) rfl d_cJT_elementOf_86 ?_
    refine tx_aload (x := t0.map (ad 7)) hx hb d_cJT_elementOf_89 (lv_at hl 0 rfl) ?_
    refine w_v (y := rv ad 7 t0) rfl ?_
    refine w_s (st' := [.ref (ad 7 j_1), rv ad 10 (S.r 11 2 x0)]) (congrArg (fun z9 : Option Nat => [rv ad 7 z9, rv ad 10 (S.r 11 2 x0)]) hj_2) ?_
    obtain ⟨hl_j_1_7, Heq⟩ := gl_some Heq
    obtain ⟨j_3, hj_4, hl_5, Heq⟩ := gn_some Heq
    refine w_s (st' := [.ref (ad 7 j_1), .ref (ad 10 j_3)]) (congrArg (fun z9 : Option Nat => [.ref (ad 7 j_1), rv ad 10 z9]) hj_4) ?_
    obtain ⟨o_6, h_7, Heq⟩ := ob_some Heq
    have hFc := fr_all hD hS hA
    refine va_callq (va_runV (As := [.ref (ad 7 j_1)]) (rest := []) ⟨hx, hb, hml, hown, hts⟩ (g_cVw_top l D H.size (ad := ad) (cc := cc) (sad := sad) (sav := sav) h_7) (cw_v 1 hts kw_784 kw_828 kw_782 kw_783 kw_6 rfl rfl (by decide +kernel) ⟨Nat.le_of_ble_eq_true rfl, Nat.le_of_ble_eq_true rfl⟩) ⟨c_blind, va_recv hK hP (ci := 10) (q0 := cPos N 10 j_3) rfl (cw_obj (k := 10) (by decide) hl_5), fun U hU hW => c_pre hU hW hP hK hD hev hE hN hNS hS hFc⟩ rfl rfl hl.1 rfl (lv_room (Nat.le_of_ble_eq_true rfl)) d_cJT_elementOf_91 ⟨Nat.le_of_ble_eq_true rfl, Nat.le_of_ble_eq_true rfl⟩) hS (fun q _ h => hFc q h) hFc (fun rz u t H1 locs ht hvm hw hB hz1 hk1 hS => ?_)
    obtain ⟨hP, -, hD1⟩ := hB
    rw [ht] at hP
    have hD := hD1.weaken (fun _ q _ h => hFc q.1 h)
    generalize H1 = H at hP hS ⊢
    refine W.cs (cells' := 0) (slots' := 0) rfl rfl ?_
    subst hw
    refine w_v (y := rv ad 3 o_6.2) rfl ?_
    exact w_cJT_elementOf_J94 hC Heq Kr _ _ _ hP hD hS (lv_sub hl [1] rfl)
def m_cJT_elementOf_J60 (N : Nat → Nat) (x0 : Nat) (S : CS) (x1 : Option Nat) (x4 : Int32) : Option (CS × Option Nat) := gl x0 (N 11) (gn x1 (N 3) (fun j_1 => gn (S.r 11 2 x0) (N 10) (fun j_4 => ob (m_cVw_spotAt N j_4 S j_1 x4) (fun o_7 => m_cJT_elementOf_J74 N x0 o_7.1 o_7.2))))
set_option maxHeartbeats 4000000 in
set_option maxRecDepth 100000 in
theorem w_cJT_elementOf_J60 {p : Program} {l : Launch} {e : Env} {s : State} {m : MethodId} {args : Array Value} {below : List Frame} {meth : Method} {c : Code} {A : Nat → Prop} {D : va_G} {ad : Nat → Nat → Nat} {cc : Nat → ClassId} {sad sav : Nat → Nat} {Q : State → Prop} (hC : MCc sad sav "JoinedTrees" prog_1_method_60_code 6 (some (.object "JoinedTrees$Op")) p s m args meth c A D cc) {N : Nat → Nat} {x0 : Nat} {S : CS} {x1 : Option Nat} {x4 : Int32} {o : CS × Option Nat} (Heq : m_cJT_elementOf_J60 N x0 S x1 x4 = some o) (Kr : ∀ r : CS × Option Nat, o = r → ∀ (pc : Nat) (H : Heap) (locs : List Loc) (ls : Array Slot), decode prog_1_method_60_code pc = .ok (.areturn, 1) → va_P D cls (cw ad cc N r.1) H → va_D A (cw ad cc N r.1) → va_S A s.heap H locs → W p l e ({ frames := 4, cells := 0, slots := 0, locals := 89 }) s m args below meth c H locs 0 0 Q (F0 m pc ls [rv ad 3 r.2])) : ∀ (H : Heap) (locs : List Loc) (ls : Array Slot), va_P D cls (cw ad cc N S) H → va_D A (cw ad cc N S) → va_S A s.heap H locs → lv_has ls 6 [(0, .ref (ad 11 x0)), (1, rv ad 3 x1), (4, .int x4)] → W p l e ({ frames := 4, cells := 0, slots := 0, locals := 89 }) s m args below meth c H locs 0 0 Q (F0 m 60 ls []) := by
  intro H locs ls hP hD hS hl
  obtain ⟨hx, hb, hr, hml, hown, hts, hK, hA, hev, hE, hN, hNS⟩ := id hC
  unfold m_cJT_elementOf_J60 at Heq
  refine lv_aload_n hx hb d_cJT_elementOf_60 rfl (lv_at hl 0 rfl) ?_
  obtain ⟨hl_x0_11, Heq⟩ := gl_some Heq
  refine va_get (D := D) (ci := 11) (v := rv ad 10 (S.r 11 2 x0)) (C := R_JT) (T := F_JT) (N := 13) hx hb hts i_JT hown hK hP (cPos N 11 x0) (cw_obj (k := 11) (by decide) hl_x0_11) rfl 2 (by decide) (hts _ kw_423) (fun _ h9 => h9) rfl d_cJT_elementOf_61 ?_
  refine tx_aload_n (x := x1.map (ad 3)) hx hb d_cJT_elementOf_64 rfl (lv_at hl 1 rfl) ?_
  refine w_v (y := rv ad 3 x1) rfl ?_
  refine lv_iload hx hb d_cJT_elementOf_65 (lv_at hl 2 rfl) ?_
  obtain ⟨j_1, hj_2, hl_3, Heq⟩ := gn_some Heq
  refine w_s (st' := [.int x4, .ref (ad 3 j_1), rv ad 10 (S.r 11 2 x0)]) (congrArg (fun z9 : Option Nat => [.int x4, rv ad 3 z9, rv ad 10 (S.r 11 2 x0)]) hj_2) ?_
  obtain ⟨j_4, hj_5, hl_6, Heq⟩ := gn_some Heq
  refine w_s (st' := [.int x4, .ref (ad 3 j_1), .ref (ad 10 j_4)]) (congrArg (fun z9 : Option Nat => [.int x4, .ref (ad 3 j_1), rv ad 10 z9]) hj_5) ?_
  obtain ⟨o_7, h_8, Heq⟩ := ob_some Heq
  have hFc := fr_all hD hS hA
  refine va_callq (va_runV (As := [.ref (ad 3 j_1), .int x4]) (rest := []) ⟨hx, hb, hml, hown, hts⟩ (g_cVw_spotAt l D H.size (ad := ad) (cc := cc) (sad := sad) (sav := sav) h_8) (cw_v 2 hts kw_780 kw_777 kw_778 kw_779 kw_6 rfl rfl (by decide +kernel) ⟨Nat.le_of_ble_eq_true rfl, Nat.le_of_ble_eq_true rfl⟩) ⟨c_blind, va_recv hK hP (ci := 10) (q0 := cPos N 10 j_4) rfl (cw_obj (k := 10) (by decide) hl_6), fun U hU hW => c_pre hU hW hP hK hD hev hE hN hNS hS hFc⟩ rfl rfl hl.1 rfl (lv_room (Nat.le_of_ble_eq_true rfl)) d_cJT_elementOf_67 ⟨Nat.le_of_ble_eq_true rfl, Nat.le_of_ble_eq_true rfl⟩) hS (fun q _ h => hFc q h) hFc (fun rz u t H1 locs ht hvm hw hB hz1 hk1 hS => ?_)
  obtain ⟨hP, -, hD1⟩ := hB
  rw [ht] at hP
  have hD := hD1.weaken (fun _ q _ h => hFc q.1 h)
  generalize H1 = H at hP hS ⊢
  refine W.cs (cells' := 0) (slots' := 0) rfl rfl ?_
  subst hw
  refine w_v (y := rv ad 7 o_7.2) rfl ?_
  refine lv_goto (tgt := 74) hx hb d_cJT_elementOf_70 (by decide) ?_
  exact w_cJT_elementOf_J74 hC Heq Kr _ _ _ hP hD hS (lv_sub hl [0] rfl)
def m_cJT_elementOf_J0 (N : Nat → Nat) (x0 : Nat) (S : CS) (x1 : Nat) (x2 : Int32) (x3 : Int32) : Option (CS × Option Nat) := ob (m_cJT_elementOf_L8 N x0 S (some x1) x3 0 (x2 + 1)) (fun b_1 => gn b_1.2.1 (N 3) (fun j_3 => (if b_1.1.i 3 2 j_3 = 7 then m_cJT_elementOf_J60 N x0 b_1.1 b_1.2.1 b_1.2.2 else (if b_1.1.i 3 2 j_3 = 8 then m_cJT_elementOf_J60 N x0 b_1.1 b_1.2.1 b_1.2.2 else m_cJT_elementOf_J74 N x0 b_1.1 none))))
theorem d_cJT_elementOf_51 : decode prog_1_method_60_code 51 = .ok (.aload_n 1, 1) := by decide +kernel
theorem d_cJT_elementOf_52 : decode prog_1_method_60_code 52 = .ok (.getfield 171, 3) := by decide +kernel
theorem d_cJT_elementOf_55 : decode prog_1_method_60_code 55 = .ok (.bipush 8, 2) := by decide +kernel
theorem d_cJT_elementOf_57 : decode prog_1_method_60_code 57 = .ok (.if_icmp .ne 16, 3) := by decide +kernel
theorem d_cJT_elementOf_73 : decode prog_1_method_60_code 73 = .ok (.aconst_null, 1) := by decide +kernel
set_option maxHeartbeats 4000000 in
set_option maxRecDepth 100000 in
theorem w_cJT_elementOf_J0 {p : Program} {l : Launch} {e : Env} {s : State} {m : MethodId} {args : Array Value} {below : List Frame} {meth : Method} {c : Code} {A : Nat → Prop} {D : va_G} {ad : Nat → Nat → Nat} {cc : Nat → ClassId} {sad sav : Nat → Nat} {Q : State → Prop} (hC : MCc sad sav "JoinedTrees" prog_1_method_60_code 6 (some (.object "JoinedTrees$Op")) p s m args meth c A D cc) {N : Nat → Nat} {x0 : Nat} {S : CS} {x1 : Nat} {x2 : Int32} {x3 : Int32} {o : CS × Option Nat} (Heq : m_cJT_elementOf_J0 N x0 S x1 x2 x3 = some o) (Kr : ∀ r : CS × Option Nat, o = r → ∀ (pc : Nat) (H : Heap) (locs : List Loc) (ls : Array Slot), decode prog_1_method_60_code pc = .ok (.areturn, 1) → va_P D cls (cw ad cc N r.1) H → va_D A (cw ad cc N r.1) → va_S A s.heap H locs → W p l e ({ frames := 4, cells := 0, slots := 0, locals := 89 }) s m args below meth c H locs 0 0 Q (F0 m pc ls [rv ad 3 r.2])) : ∀ (H : Heap) (locs : List Loc) (ls : Array Slot), va_P D cls (cw ad cc N S) H → va_D A (cw ad cc N S) → va_S A s.heap H locs → lv_has ls 6 [(0, .ref (ad 11 x0)), (1, .ref (ad 3 x1)), (2, .int x2), (3, .int x3)] → W p l e ({ frames := 4, cells := 0, slots := 0, locals := 89 }) s m args below meth c H locs 0 0 Q (F0 m 0 ls []) := by
  intro H locs ls hP hD hS hl
  obtain ⟨hx, hb, hr, hml, hown, hts, hK, hA, hev, hE, hN, hNS⟩ := id hC
  unfold m_cJT_elementOf_J0 at Heq
  refine lv_iconst (v := 0) hx hb d_cJT_elementOf_0 (by decide) ?_
  refine lv_istore (lv' := [(4, .int 0), (0, .ref (ad 11 x0)), (1, .ref (ad 3 x1)), (2, .int x2), (3, .int x3)]) hx hb d_cJT_elementOf_1 hl (by decide) rfl (fun ls hl => ?_)
  refine lv_iload_n hx hb d_cJT_elementOf_3 rfl (lv_at hl 3 rfl) ?_
  refine lv_iconst (v := 1) hx hb d_cJT_elementOf_4 (by decide) ?_
  refine lv_iadd hx hb d_cJT_elementOf_5 ?_
  refine w_i (y := x2 + 1) rfl ?_
  refine lv_istore (lv' := [(5, .int (x2 + 1)), (4, .int 0), (0, .ref (ad 11 x0)), (1, .ref (ad 3 x1)), (2, .int x2), (3, .int x3)]) hx hb d_cJT_elementOf_6 hl (by decide) rfl (fun ls hl => ?_)
  obtain ⟨b_1, h_2, Heq⟩ := ob_some Heq
  refine w_cJT_elementOf_L8 hC h_2 (fun b h => ?_) _ _ _ hP hD hS (lv_sub hl [2, 3, 5, 1, 0] rfl)
  subst h
  intro H locs ls hP hD hS hl
  refine tx_aload_n (x := b_1.2.1.map (ad 3)) hx hb d_cJT_elementOf_42 rfl (lv_at hl 1 rfl) ?_
  refine w_v (y := rv ad 3 b_1.2.1) rfl ?_
  obtain ⟨j_3, hj_4, hl_5, Heq⟩ := gn_some Heq
  refine w_s (st' := [.ref (ad 3 j_3)]) (congrArg (fun z9 : Option Nat => [rv ad 3 z9]) hj_4) ?_
  refine va_get (D := D) (ci := 3) (v := .int (b_1.1.i 3 2 j_3)) (C := R_Op) (T := F_Op) (N := 15) hx hb hts i_Op hown hK hP (cPos N 3 j_3) (cw_obj (k := 3) (by decide) hl_5) rfl 2 (by decide) (hts _ kw_62) (fun _ h9 => h9) rfl d_cJT_elementOf_43 ?_
  refine lv_bipush (v := 7) hx hb d_cJT_elementOf_46 (by decide) ?_
  refine lv_icmp_eq (tgt := 60) hx hb d_cJT_elementOf_48 (by decide) (fun c_6 => ?_) (fun c_6 => ?_)
  · replace Heq := (if_pos c_6).symm.trans Heq
    exact w_cJT_elementOf_J60 hC Heq Kr _ _ _ hP hD hS (lv_sub hl [0, 1, 2] rfl)
  · replace Heq := (if_neg c_6).symm.trans Heq
    refine tx_aload_n (x := b_1.2.1.map (ad 3)) hx hb d_cJT_elementOf_51 rfl (lv_at hl 1 rfl) ?_
    refine w_v (y := rv ad 3 b_1.2.1) rfl ?_
    refine w_s (st' := [.ref (ad 3 j_3)]) (congrArg (fun z9 : Option Nat => [rv ad 3 z9]) hj_4) ?_
    refine va_get (D := D) (ci := 3) (v := .int (b_1.1.i 3 2 j_3)) (C := R_Op) (T := F_Op) (N := 15) hx hb hts i_Op hown hK hP (cPos N 3 j_3) (cw_obj (k := 3) (by decide) hl_5) rfl 2 (by decide) (hts _ kw_62) (fun _ h9 => h9) rfl d_cJT_elementOf_52 ?_
    refine lv_bipush (v := 8) hx hb d_cJT_elementOf_55 (by decide) ?_
    refine lv_icmp_ne (tgt := 73) hx hb d_cJT_elementOf_57 (by decide) (fun c_7 => ?_) (fun c_7 => ?_)
    · replace Heq := (if_neg c_7).symm.trans Heq
      refine lv_null hx hb d_cJT_elementOf_73 ?_
      exact w_cJT_elementOf_J74 hC Heq Kr _ _ _ hP hD hS (lv_sub hl [0] rfl)
    · replace Heq := (if_pos c_7).symm.trans Heq
      exact w_cJT_elementOf_J60 hC Heq Kr _ _ _ hP hD hS (lv_sub hl [0, 1, 2] rfl)
def m_cJT_elementOf (N : Nat → Nat) (x0 : Nat) (S : CS) (x1 : Nat) (x2 : Int32) (x3 : Int32) : Option (CS × Option Nat) := m_cJT_elementOf_J0 N x0 S x1 x2 x3
set_option maxHeartbeats 4000000 in
theorem g_cJT_elementOf (l : Launch) (D : va_G) (sz : Nat) {ad : Nat → Nat → Nat} {cc : Nat → ClassId} {sad sav : Nat → Nat} {N : Nat → Nat} {x0 : Nat} {S : CS} {x1 : Nat} {x2 : Int32} {x3 : Int32} {o : CS × Option Nat} (Heq : m_cJT_elementOf N x0 S x1 x2 x3 = some o) : Met l ⟨"JoinedTrees", "elementOf", "(LJoinedTrees$Op;II)LJoinedTrees$Op;"⟩ (Cond.code ⟨"JoinedTrees", "elementOf", "(LJoinedTrees$Op;II)LJoinedTrees$Op;"⟩ prog_1_method_60_code 6 (some (.object "JoinedTrees$Op")) :: gb) ({ frames := 4, cells := 0, slots := 0, locals := 89 }) (cPc sad sav D (cw ad cc N S) (cty cc) sz [.ref (ad 11 x0), .ref (ad 3 x1), .int x2, .int x3]) (va_Qq (fun (r : Option Nat) (_ : Unit) => r = o.2.map (ad 3)) (fun _ t => gO D (cw ad cc N o.1) (cty cc) (va_A (cw ad cc N S) sz) t) (va_A (cw ad cc N S) sz)) 0 0 (va_A (cw ad cc N S) sz) := by
  refine Met.ofW (cc := prog_1_method_60_code) (maxL := 6) (ret := (some (.object "JoinedTrees$Op"))) (by decide) rfl ?_
  intro p e s m args below meth c s₁ B hml hv
  obtain ⟨rfl, hsz, hP, hK, hD0, hev, hE, hN⟩ := hv
  have hx := B.exec
  have hb := B.bytes
  have hr := B.returns
  have hts : ∀ w9 ∈ gb, w9.before [.ref (ad 11 x0), .ref (ad 3 x1), .int x2, .int x3].toArray s = true := fun w9 h => atoms_spec (ws := Cond.code ⟨"JoinedTrees", "elementOf", "(LJoinedTrees$Op;II)LJoinedTrees$Op;"⟩ prog_1_method_60_code 6 (some (.object "JoinedTrees$Op")) :: gb) B.pre w9 (List.mem_cons_of_mem _ h)
  have hown : s.vm.findClass "JoinedTrees" = some m.cls := findClass_of_methodNamed B.named
  have hlocks := B.notSynchronized
  have hNS := ns_of hP
  subst hsz
  have hD := hD0.self (sz := s.heap.size)
  generalize hAe : va_A (cw ad cc N S) s.heap.size = A at hD hev hE hNS ⊢
  have hA : ∀ q : Nat, s.heap.size ≤ q → A q := fun q h => by rw [← hAe]; exact Or.inr h
  have hS : va_S A s.heap s.heap [] := va_S.rf
  obtain ⟨ls, hl, hle⟩ : ∃ ls : Array Slot, lv_has ls 6 [(0, .ref (ad 11 x0)), (1, .ref (ad 3 x1)), (2, .int x2), (3, .int x3)] ∧ entryFrame m ([.ref (ad 11 x0), .ref (ad 3 x1), .int x2, .int x3] : List Value).toArray 6 = F0 m 0 ls [] := by
    exact ⟨_, lv_entry (n := 6) _ (Nat.le_of_ble_eq_true rfl), lg_entry_eq ..⟩
  rw [hle]
  refine w_cJT_elementOf_J0 ⟨hx, hb, hr, hml, hown, hts, hK, hA, hev, hE, hN, hNS⟩ Heq (fun r h pc H locs ls hd hP hD hS => ?_) _ _ _ hP hD hS (lv_sub hl [0, 1, 2, 3] rfl)
  subst h
  exact W.aret hx hb hr (Or.inl ⟨_, rfl⟩) (va_rf_or _) (fun t ht hW => ⟨⟨_, (), rfl, rfl, by rw [ht]; exact hP, va_K.moved hW.alike hK, hD⟩, hS.F ht⟩) hS.2.2 hd
def m_cJT_keyOf_J49 (N : Nat → Nat) (x0 : Nat) (S : CS) (t0 : Option Nat) : Option (CS × Option Nat) := some (S, t0)
theorem d_cJT_keyOf_0 : decode prog_1_method_59_code 0 = .ok (.aload_n 1, 1) := by decide +kernel
theorem d_cJT_keyOf_1 : decode prog_1_method_59_code 1 = .ok (.getfield 171, 3) := by decide +kernel
theorem d_cJT_keyOf_4 : decode prog_1_method_59_code 4 = .ok (.bipush 6, 2) := by decide +kernel
theorem d_cJT_keyOf_6 : decode prog_1_method_59_code 6 = .ok (.if_icmp .ne 22, 3) := by decide +kernel
theorem d_cJT_keyOf_28 : decode prog_1_method_59_code 28 = .ok (.aconst_null, 1) := by decide +kernel
theorem d_cJT_keyOf_29 : decode prog_1_method_59_code 29 = .ok (.astore 4, 2) := by decide +kernel
theorem d_cJT_keyOf_31 : decode prog_1_method_59_code 31 = .ok (.aload 4, 2) := by decide +kernel
theorem d_cJT_keyOf_33 : decode prog_1_method_59_code 33 = .ok (.ifnonnull 7, 3) := by decide +kernel
theorem d_cJT_keyOf_36 : decode prog_1_method_59_code 36 = .ok (.aconst_null, 1) := by decide +kernel
theorem d_cJT_keyOf_37 : decode prog_1_method_59_code 37 = .ok (.goto 12, 3) := by decide +kernel
theorem d_cJT_keyOf_49 : decode prog_1_method_59_code 49 = .ok (.areturn, 1) := by decide +kernel
set_option maxHeartbeats 4000000 in
set_option maxRecDepth 100000 in
theorem w_cJT_keyOf_J49 {p : Program} {l : Launch} {e : Env} {s : State} {m : MethodId} {args : Array Value} {below : List Frame} {meth : Method} {c : Code} {A : Nat → Prop} {D : va_G} {ad : Nat → Nat → Nat} {cc : Nat → ClassId} {sad sav : Nat → Nat} {Q : State → Prop} (hC : MCc sad sav "JoinedTrees" prog_1_method_59_code 5 (some (.object "JoinedTrees$Op")) p s m args meth c A D cc) {N : Nat → Nat} {x0 : Nat} {S : CS} {t0 : Option Nat} {o : CS × Option Nat} (Heq : m_cJT_keyOf_J49 N x0 S t0 = some o) (Kr : ∀ r : CS × Option Nat, o = r → ∀ (pc : Nat) (H : Heap) (locs : List Loc) (ls : Array Slot), decode prog_1_method_59_code pc = .ok (.areturn, 1) → va_P D cls (cw ad cc N r.1) H → va_D A (cw ad cc N r.1) → va_S A s.heap H locs → W p l e ({ frames := 4, cells := 0, slots := 0, locals := 98 }) s m args below meth c H locs 0 0 Q (F0 m pc ls [rv ad 3 r.2])) : ∀ (H : Heap) (locs : List Loc) (ls : Array Slot), va_P D cls (cw ad cc N S) H → va_D A (cw ad cc N S) → va_S A s.heap H locs → lv_has ls 5 [(0, .ref (ad 11 x0))] → W p l e ({ frames := 4, cells := 0, slots := 0, locals := 98 }) s m args below meth c H locs 0 0 Q (F0 m 49 ls [rv ad 3 t0]) := by
  intro H locs ls hP hD hS hl
  obtain ⟨hx, hb, hr, hml, hown, hts, hK, hA, hev, hE, hN, hNS⟩ := id hC
  unfold m_cJT_keyOf_J49 at Heq
  exact Kr _ (Option.some.inj Heq).symm 49 _ _ _ d_cJT_keyOf_49 hP hD hS
def m_cJT_keyOf_J29 (N : Nat → Nat) (x0 : Nat) (S : CS) (t0 : Option Nat) : Option (CS × Option Nat) := on t0 (m_cJT_keyOf_J49 N x0 S none) (fun j_1 => gl x0 (N 11) (gl j_1 (N 7) (gn (S.r 11 2 x0) (N 10) (fun j_3 => ob (m_cVw_top N j_3 S j_1) (fun o_6 => m_cJT_keyOf_J49 N x0 o_6.1 o_6.2)))))
theorem d_cJT_keyOf_40 : decode prog_1_method_59_code 40 = .ok (.aload_n 0, 1) := by decide +kernel
theorem d_cJT_keyOf_41 : decode prog_1_method_59_code 41 = .ok (.getfield 30, 3) := by decide +kernel
theorem d_cJT_keyOf_44 : decode prog_1_method_59_code 44 = .ok (.aload 4, 2) := by decide +kernel
theorem d_cJT_keyOf_46 : decode prog_1_method_59_code 46 = .ok (.invokevirtual 408, 3) := by decide +kernel
set_option maxHeartbeats 4000000 in
set_option maxRecDepth 100000 in
theorem w_cJT_keyOf_J29 {p : Program} {l : Launch} {e : Env} {s : State} {m : MethodId} {args : Array Value} {below : List Frame} {meth : Method} {c : Code} {A : Nat → Prop} {D : va_G} {ad : Nat → Nat → Nat} {cc : Nat → ClassId} {sad sav : Nat → Nat} {Q : State → Prop} (hC : MCc sad sav "JoinedTrees" prog_1_method_59_code 5 (some (.object "JoinedTrees$Op")) p s m args meth c A D cc) {N : Nat → Nat} {x0 : Nat} {S : CS} {t0 : Option Nat} {o : CS × Option Nat} (Heq : m_cJT_keyOf_J29 N x0 S t0 = some o) (Kr : ∀ r : CS × Option Nat, o = r → ∀ (pc : Nat) (H : Heap) (locs : List Loc) (ls : Array Slot), decode prog_1_method_59_code pc = .ok (.areturn, 1) → va_P D cls (cw ad cc N r.1) H → va_D A (cw ad cc N r.1) → va_S A s.heap H locs → W p l e ({ frames := 4, cells := 0, slots := 0, locals := 98 }) s m args below meth c H locs 0 0 Q (F0 m pc ls [rv ad 3 r.2])) : ∀ (H : Heap) (locs : List Loc) (ls : Array Slot), va_P D cls (cw ad cc N S) H → va_D A (cw ad cc N S) → va_S A s.heap H locs → lv_has ls 5 [(0, .ref (ad 11 x0))] → W p l e ({ frames := 4, cells := 0, slots := 0, locals := 98 }) s m args below meth c H locs 0 0 Q (F0 m 29 ls [rv ad 7 t0]) := by
  intro H locs ls hP hD hS hl
  obtain ⟨hx, hb, hr, hml, hown, hts, hK, hA, hev, hE, hN, hNS⟩ := id hC
  unfold m_cJT_keyOf_J29 at Heq
  refine tx_astore (x := t0.map (ad 7)) (lv' := [(4, rv ad 7 t0), (0, .ref (ad 11 x0))]) hx hb d_cJT_keyOf_29 hl (by decide) rfl (fun ls hl => ?_)
  refine tx_aload (x := t0.map (ad 7)) hx hb d_cJT_keyOf_31 (lv_at hl 0 rfl) ?_
  refine w_v (y := rv ad 7 t0) rfl ?_
  rcases on_some Heq with ⟨hj_2, Heq⟩ | ⟨j_1, hj_2, Heq⟩
  · refine w_s (st' := [.null]) (congrArg (fun z9 : Option Nat => [rv ad 7 z9]) hj_2) ?_
    refine lv_ifnonnullN hx hb d_cJT_keyOf_33 ?_
    refine lv_null hx hb d_cJT_keyOf_36 ?_
    refine lv_goto (tgt := 49) hx hb d_cJT_keyOf_37 (by decide) ?_
    exact w_cJT_keyOf_J49 hC Heq Kr _ _ _ hP hD hS (lv_sub hl [1] rfl)
  · refine w_s (st' := [.ref (ad 7 j_1)]) (congrArg (fun z9 : Option Nat => [rv ad 7 z9]) hj_2) ?_
    refine lv_ifnonnull (tgt := 40) hx hb d_cJT_keyOf_33 (by decide) ?_
    refine lv_aload_n hx hb d_cJT_keyOf_40 rfl (lv_at hl 1 rfl) ?_
    obtain ⟨hl_x0_11, Heq⟩ := gl_some Heq
    refine va_get (D := D) (ci := 11) (v := rv ad 10 (S.r 11 2 x0)) (C := R_JT) (T := F_JT) (N := 13) hx hb hts i_JT hown hK hP (cPos N 11 x0) (cw_obj (k := 11) (by decide) hl_x0_11) rfl 2 (by decide) (hts _ kw_423) (fun _ h9 => h9) rfl d_cJT_keyOf_41 ?_
    refine tx_aload (x := t0.map (ad 7)) hx hb d_cJT_keyOf_44 (lv_at hl 0 rfl) ?_
    refine w_v (y := rv ad 7 t0) rfl ?_
    refine w_s (st' := [.ref (ad 7 j_1), rv ad 10 (S.r 11 2 x0)]) (congrArg (fun z9 : Option Nat => [rv ad 7 z9, rv ad 10 (S.r 11 2 x0)]) hj_2) ?_
    obtain ⟨hl_j_1_7, Heq⟩ := gl_some Heq
    obtain ⟨j_3, hj_4, hl_5, Heq⟩ := gn_some Heq
    refine w_s (st' := [.ref (ad 7 j_1), .ref (ad 10 j_3)]) (congrArg (fun z9 : Option Nat => [.ref (ad 7 j_1), rv ad 10 z9]) hj_4) ?_
    obtain ⟨o_6, h_7, Heq⟩ := ob_some Heq
    have hFc := fr_all hD hS hA
    refine va_callq (va_runV (As := [.ref (ad 7 j_1)]) (rest := []) ⟨hx, hb, hml, hown, hts⟩ (g_cVw_top l D H.size (ad := ad) (cc := cc) (sad := sad) (sav := sav) h_7) (cw_v 1 hts kw_784 kw_828 kw_782 kw_783 kw_6 rfl rfl (by decide +kernel) ⟨Nat.le_of_ble_eq_true rfl, Nat.le_of_ble_eq_true rfl⟩) ⟨c_blind, va_recv hK hP (ci := 10) (q0 := cPos N 10 j_3) rfl (cw_obj (k := 10) (by decide) hl_5), fun U hU hW => c_pre hU hW hP hK hD hev hE hN hNS hS hFc⟩ rfl rfl hl.1 rfl (lv_room (Nat.le_of_ble_eq_true rfl)) d_cJT_keyOf_46 ⟨Nat.le_of_ble_eq_true rfl, Nat.le_of_ble_eq_true rfl⟩) hS (fun q _ h => hFc q h) hFc (fun rz u t H1 locs ht hvm hw hB hz1 hk1 hS => ?_)
    obtain ⟨hP, -, hD1⟩ := hB
    rw [ht] at hP
    have hD := hD1.weaken (fun _ q _ h => hFc q.1 h)
    generalize H1 = H at hP hS ⊢
    refine W.cs (cells' := 0) (slots' := 0) rfl rfl ?_
    subst hw
    refine w_v (y := rv ad 3 o_6.2) rfl ?_
    exact w_cJT_keyOf_J49 hC Heq Kr _ _ _ hP hD hS (lv_sub hl [1] rfl)
def m_cJT_keyOf_J0 (N : Nat → Nat) (x0 : Nat) (S : CS) (x1 : Nat) (x2 : Int32) (x3 : Int32) : Option (CS × Option Nat) := gl x1 (N 3) ((if S.i 3 2 x1 = 6 then gl x0 (N 11) (gn (S.r 11 9 x0) (N 5) (fun j_2 => gn (S.r 11 0 x0) (N 8) (fun j_5 => ob (m_cSt_spotWith N j_5 S x1 j_2 x2 (x3 - x2)) (fun o_8 => m_cJT_keyOf_J29 N x0 o_8.1 o_8.2)))) else m_cJT_keyOf_J29 N x0 S none))
theorem d_cJT_keyOf_9 : decode prog_1_method_59_code 9 = .ok (.aload_n 0, 1) := by decide +kernel
theorem d_cJT_keyOf_10 : decode prog_1_method_59_code 10 = .ok (.getfield 12, 3) := by decide +kernel
theorem d_cJT_keyOf_13 : decode prog_1_method_59_code 13 = .ok (.aload_n 1, 1) := by decide +kernel
theorem d_cJT_keyOf_14 : decode prog_1_method_59_code 14 = .ok (.aload_n 0, 1) := by decide +kernel
theorem d_cJT_keyOf_15 : decode prog_1_method_59_code 15 = .ok (.getfield 70, 3) := by decide +kernel
theorem d_cJT_keyOf_18 : decode prog_1_method_59_code 18 = .ok (.iload_n 2, 1) := by decide +kernel
theorem d_cJT_keyOf_19 : decode prog_1_method_59_code 19 = .ok (.iload_n 3, 1) := by decide +kernel
theorem d_cJT_keyOf_20 : decode prog_1_method_59_code 20 = .ok (.iload_n 2, 1) := by decide +kernel
theorem d_cJT_keyOf_21 : decode prog_1_method_59_code 21 = .ok (.isub, 1) := by decide +kernel
theorem d_cJT_keyOf_22 : decode prog_1_method_59_code 22 = .ok (.invokevirtual 404, 3) := by decide +kernel
theorem d_cJT_keyOf_25 : decode prog_1_method_59_code 25 = .ok (.goto 4, 3) := by decide +kernel
set_option maxHeartbeats 4000000 in
set_option maxRecDepth 100000 in
theorem w_cJT_keyOf_J0 {p : Program} {l : Launch} {e : Env} {s : State} {m : MethodId} {args : Array Value} {below : List Frame} {meth : Method} {c : Code} {A : Nat → Prop} {D : va_G} {ad : Nat → Nat → Nat} {cc : Nat → ClassId} {sad sav : Nat → Nat} {Q : State → Prop} (hC : MCc sad sav "JoinedTrees" prog_1_method_59_code 5 (some (.object "JoinedTrees$Op")) p s m args meth c A D cc) {N : Nat → Nat} {x0 : Nat} {S : CS} {x1 : Nat} {x2 : Int32} {x3 : Int32} {o : CS × Option Nat} (Heq : m_cJT_keyOf_J0 N x0 S x1 x2 x3 = some o) (Kr : ∀ r : CS × Option Nat, o = r → ∀ (pc : Nat) (H : Heap) (locs : List Loc) (ls : Array Slot), decode prog_1_method_59_code pc = .ok (.areturn, 1) → va_P D cls (cw ad cc N r.1) H → va_D A (cw ad cc N r.1) → va_S A s.heap H locs → W p l e ({ frames := 4, cells := 0, slots := 0, locals := 98 }) s m args below meth c H locs 0 0 Q (F0 m pc ls [rv ad 3 r.2])) : ∀ (H : Heap) (locs : List Loc) (ls : Array Slot), va_P D cls (cw ad cc N S) H → va_D A (cw ad cc N S) → va_S A s.heap H locs → lv_has ls 5 [(0, .ref (ad 11 x0)), (1, .ref (ad 3 x1)), (2, .int x2), (3, .int x3)] → W p l e ({ frames := 4, cells := 0, slots := 0, locals := 98 }) s m args below meth c H locs 0 0 Q (F0 m 0 ls []) := by
  intro H locs ls hP hD hS hl
  obtain ⟨hx, hb, hr, hml, hown, hts, hK, hA, hev, hE, hN, hNS⟩ := id hC
  unfold m_cJT_keyOf_J0 at Heq
  refine lv_aload_n hx hb d_cJT_keyOf_0 rfl (lv_at hl 1 rfl) ?_
  obtain ⟨hl_x1_3, Heq⟩ := gl_some Heq
  refine va_get (D := D) (ci := 3) (v := .int (S.i 3 2 x1)) (C := R_Op) (T := F_Op) (N := 15) hx hb hts i_Op hown hK hP (cPos N 3 x1) (cw_obj (k := 3) (by decide) hl_x1_3) rfl 2 (by decide) (hts _ kw_62) (fun _ h9 => h9) rfl d_cJT_keyOf_1 ?_
  refine lv_bipush (v := 6) hx hb d_cJT_keyOf_4 (by decide) ?_
  refine lv_icmp_ne (tgt := 28) hx hb d_cJT_keyOf_6 (by decide) (fun c_1 => ?_) (fun c_1 => ?_)
  · replace Heq := (if_neg c_1).symm.trans Heq
    refine lv_null hx hb d_cJT_keyOf_28 ?_
    exact w_cJT_keyOf_J29 hC Heq Kr _ _ _ hP hD hS (lv_sub hl [0] rfl)
  · replace Heq := (if_pos c_1).symm.trans Heq
    refine lv_aload_n hx hb d_cJT_keyOf_9 rfl (lv_at hl 0 rfl) ?_
    obtain ⟨hl_x0_11, Heq⟩ := gl_some Heq
    refine va_get (D := D) (ci := 11) (v := rv ad 8 (S.r 11 0 x0)) (C := R_JT) (T := F_JT) (N := 13) hx hb hts i_JT hown hK hP (cPos N 11 x0) (cw_obj (k := 11) (by decide) hl_x0_11) rfl 0 (by decide) (hts _ kw_421) (fun _ h9 => h9) rfl d_cJT_keyOf_10 ?_
    refine lv_aload_n hx hb d_cJT_keyOf_13 rfl (lv_at hl 1 rfl) ?_
    refine lv_aload_n hx hb d_cJT_keyOf_14 rfl (lv_at hl 0 rfl) ?_
    refine va_get (D := D) (ci := 11) (v := rv ad 5 (S.r 11 9 x0)) (C := R_JT) (T := F_JT) (N := 13) hx hb hts i_JT hown hK hP (cPos N 11 x0) (cw_obj (k := 11) (by decide) hl_x0_11) rfl 9 (by decide) (hts _ kw_430) (fun _ h9 => h9) rfl d_cJT_keyOf_15 ?_
    refine lv_iload_n hx hb d_cJT_keyOf_18 rfl (lv_at hl 2 rfl) ?_
    refine lv_iload_n hx hb d_cJT_keyOf_19 rfl (lv_at hl 3 rfl) ?_
    refine lv_iload_n hx hb d_cJT_keyOf_20 rfl (lv_at hl 2 rfl) ?_
    refine lv_isub hx hb d_cJT_keyOf_21 ?_
    refine w_i (y := x3 - x2) rfl ?_
    obtain ⟨j_2, hj_3, hl_4, Heq⟩ := gn_some Heq
    refine w_s (st' := [.int (x3 - x2), .int x2, .ref (ad 5 j_2), .ref (ad 3 x1), rv ad 8 (S.r 11 0 x0)]) (congrArg (fun z9 : Option Nat => [.int (x3 - x2), .int x2, rv ad 5 z9, .ref (ad 3 x1), rv ad 8 (S.r 11 0 x0)]) hj_3) ?_
    obtain ⟨j_5, hj_6, hl_7, Heq⟩ := gn_some Heq
    refine w_s (st' := [.int (x3 - x2), .int x2, .ref (ad 5 j_2), .ref (ad 3 x1), .ref (ad 8 j_5)]) (congrArg (fun z9 : Option Nat => [.int (x3 - x2), .int x2, .ref (ad 5 j_2), .ref (ad 3 x1), rv ad 8 z9]) hj_6) ?_
    obtain ⟨o_8, h_9, Heq⟩ := ob_some Heq
    have hFc := fr_all hD hS hA
    refine va_callq (va_runV (As := [.ref (ad 3 x1), .ref (ad 5 j_2), .int x2, .int (x3 - x2)]) (rest := []) ⟨hx, hb, hml, hown, hts⟩ (g_cSt_spotWith l D H.size (ad := ad) (cc := cc) (sad := sad) (sav := sav) h_9) (cw_v 4 hts kw_677 kw_674 kw_675 kw_676 kw_2 rfl rfl (by decide +kernel) ⟨Nat.le_of_ble_eq_true rfl, Nat.le_of_ble_eq_true rfl⟩) ⟨c_blind, va_recv hK hP (ci := 8) (q0 := cPos N 8 j_5) rfl (cw_obj (k := 8) (by decide) hl_7), fun U hU hW => c_pre hU hW hP hK hD hev hE hN hNS hS hFc⟩ rfl rfl hl.1 rfl (lv_room (Nat.le_of_ble_eq_true rfl)) d_cJT_keyOf_22 ⟨Nat.le_of_ble_eq_true rfl, Nat.le_of_ble_eq_true rfl⟩) hS (fun q _ h => hFc q h) hFc (fun rz u t H1 locs ht hvm hw hB hz1 hk1 hS => ?_)
    obtain ⟨hP, -, hD1⟩ := hB
    rw [ht] at hP
    have hD := hD1.weaken (fun _ q _ h => hFc q.1 h)
    generalize H1 = H at hP hS ⊢
    refine W.cs (cells' := 0) (slots' := 0) rfl rfl ?_
    subst hw
    refine w_v (y := rv ad 7 o_8.2) rfl ?_
    refine lv_goto (tgt := 29) hx hb d_cJT_keyOf_25 (by decide) ?_
    exact w_cJT_keyOf_J29 hC Heq Kr _ _ _ hP hD hS (lv_sub hl [0] rfl)
def m_cJT_keyOf (N : Nat → Nat) (x0 : Nat) (S : CS) (x1 : Nat) (x2 : Int32) (x3 : Int32) : Option (CS × Option Nat) := m_cJT_keyOf_J0 N x0 S x1 x2 x3
set_option maxHeartbeats 4000000 in
theorem g_cJT_keyOf (l : Launch) (D : va_G) (sz : Nat) {ad : Nat → Nat → Nat} {cc : Nat → ClassId} {sad sav : Nat → Nat} {N : Nat → Nat} {x0 : Nat} {S : CS} {x1 : Nat} {x2 : Int32} {x3 : Int32} {o : CS × Option Nat} (Heq : m_cJT_keyOf N x0 S x1 x2 x3 = some o) : Met l ⟨"JoinedTrees", "keyOf", "(LJoinedTrees$Op;II)LJoinedTrees$Op;"⟩ (Cond.code ⟨"JoinedTrees", "keyOf", "(LJoinedTrees$Op;II)LJoinedTrees$Op;"⟩ prog_1_method_59_code 5 (some (.object "JoinedTrees$Op")) :: gb) ({ frames := 4, cells := 0, slots := 0, locals := 98 }) (cPc sad sav D (cw ad cc N S) (cty cc) sz [.ref (ad 11 x0), .ref (ad 3 x1), .int x2, .int x3]) (va_Qq (fun (r : Option Nat) (_ : Unit) => r = o.2.map (ad 3)) (fun _ t => gO D (cw ad cc N o.1) (cty cc) (va_A (cw ad cc N S) sz) t) (va_A (cw ad cc N S) sz)) 0 0 (va_A (cw ad cc N S) sz) := by
  refine Met.ofW (cc := prog_1_method_59_code) (maxL := 5) (ret := (some (.object "JoinedTrees$Op"))) (by decide) rfl ?_
  intro p e s m args below meth c s₁ B hml hv
  obtain ⟨rfl, hsz, hP, hK, hD0, hev, hE, hN⟩ := hv
  have hx := B.exec
  have hb := B.bytes
  have hr := B.returns
  have hts : ∀ w9 ∈ gb, w9.before [.ref (ad 11 x0), .ref (ad 3 x1), .int x2, .int x3].toArray s = true := fun w9 h => atoms_spec (ws := Cond.code ⟨"JoinedTrees", "keyOf", "(LJoinedTrees$Op;II)LJoinedTrees$Op;"⟩ prog_1_method_59_code 5 (some (.object "JoinedTrees$Op")) :: gb) B.pre w9 (List.mem_cons_of_mem _ h)
  have hown : s.vm.findClass "JoinedTrees" = some m.cls := findClass_of_methodNamed B.named
  have hlocks := B.notSynchronized
  have hNS := ns_of hP
  subst hsz
  have hD := hD0.self (sz := s.heap.size)
  generalize hAe : va_A (cw ad cc N S) s.heap.size = A at hD hev hE hNS ⊢
  have hA : ∀ q : Nat, s.heap.size ≤ q → A q := fun q h => by rw [← hAe]; exact Or.inr h
  have hS : va_S A s.heap s.heap [] := va_S.rf
  obtain ⟨ls, hl, hle⟩ : ∃ ls : Array Slot, lv_has ls 5 [(0, .ref (ad 11 x0)), (1, .ref (ad 3 x1)), (2, .int x2), (3, .int x3)] ∧ entryFrame m ([.ref (ad 11 x0), .ref (ad 3 x1), .int x2, .int x3] : List Value).toArray 5 = F0 m 0 ls [] := by
    exact ⟨_, lv_entry (n := 5) _ (Nat.le_of_ble_eq_true rfl), lg_entry_eq ..⟩
  rw [hle]
  refine w_cJT_keyOf_J0 ⟨hx, hb, hr, hml, hown, hts, hK, hA, hev, hE, hN, hNS⟩ Heq (fun r h pc H locs ls hd hP hD hS => ?_) _ _ _ hP hD hS (lv_sub hl [0, 1, 2, 3] rfl)
  subst h
  exact W.aret hx hb hr (Or.inl ⟨_, rfl⟩) (va_rf_or _) (fun t ht hW => ⟨⟨_, (), rfl, rfl, by rw [ht]; exact hP, va_K.moved hW.alike hK, hD⟩, hS.F ht⟩) hS.2.2 hd
def m_cWr_writeWord_B2 (N : Nat → Nat) (x0 : Nat) (S : CS) (x1 : Nat) (x2 : Int32) : Option ((CS × Nat × Int32) ⊕ CS) := gS x1 ((if nI (sLn x1) ≤ x2 then some (.inr (S)) else gl x0 (N 2) (gd x2 (sLn x1) (gn (S.r 2 1 x0) (N 5) (fun j_3 => ob (m_cRw_write N j_3 S (sCh x1 x2.toNatClampNeg)) (fun o_6 => some (.inl (o_6, x1, (x2 + 1)))))))))
theorem d_cWr_writeWord_0 : decode prog_4_method_6_code 0 = .ok (.iconst 0, 1) := by decide +kernel
theorem d_cWr_writeWord_1 : decode prog_4_method_6_code 1 = .ok (.istore_n 2, 1) := by decide +kernel
theorem d_cWr_writeWord_2 : decode prog_4_method_6_code 2 = .ok (.iload_n 2, 1) := by decide +kernel
theorem d_cWr_writeWord_3 : decode prog_4_method_6_code 3 = .ok (.aload_n 1, 1) := by decide +kernel
theorem d_cWr_writeWord_4 : decode prog_4_method_6_code 4 = .ok (.invokevirtual 114, 3) := by decide +kernel
theorem d_cWr_writeWord_7 : decode prog_4_method_6_code 7 = .ok (.if_icmp .ge 21, 3) := by decide +kernel
theorem d_cWr_writeWord_10 : decode prog_4_method_6_code 10 = .ok (.aload_n 0, 1) := by decide +kernel
theorem d_cWr_writeWord_11 : decode prog_4_method_6_code 11 = .ok (.getfield 14, 3) := by decide +kernel
theorem d_cWr_writeWord_14 : decode prog_4_method_6_code 14 = .ok (.aload_n 1, 1) := by decide +kernel
theorem d_cWr_writeWord_15 : decode prog_4_method_6_code 15 = .ok (.iload_n 2, 1) := by decide +kernel
theorem d_cWr_writeWord_16 : decode prog_4_method_6_code 16 = .ok (.invokevirtual 119, 3) := by decide +kernel
theorem d_cWr_writeWord_19 : decode prog_4_method_6_code 19 = .ok (.invokevirtual 51, 3) := by decide +kernel
theorem d_cWr_writeWord_22 : decode prog_4_method_6_code 22 = .ok (.iinc 2 1, 3) := by decide +kernel
theorem d_cWr_writeWord_25 : decode prog_4_method_6_code 25 = .ok (.goto (-23), 3) := by decide +kernel
set_option maxHeartbeats 4000000 in
set_option maxRecDepth 100000 in
theorem w_cWr_writeWord_B2 {p : Program} {l : Launch} {e : Env} {s : State} {m : MethodId} {args : Array Value} {below : List Frame} {meth : Method} {c : Code} {A : Nat → Prop} {D : va_G} {ad : Nat → Nat → Nat} {cc : Nat → ClassId} {sad sav : Nat → Nat} {Q : State → Prop} (hC : MCc sad sav "JoinedTrees$JsonWriter" prog_4_method_6_code 3 none p s m args meth c A D cc) {N : Nat → Nat} {x0 : Nat} {S : CS} {x1 : Nat} {x2 : Int32} {o : ((CS × Nat × Int32) ⊕ CS)} (Heq : m_cWr_writeWord_B2 N x0 S x1 x2 = some o) (Ka : ∀ b : CS × Nat × Int32, o = .inl b → ∀ (H : Heap) (locs : List Loc) (ls : Array Slot), va_P D cls (cw ad cc N b.1) H → va_D A (cw ad cc N b.1) → va_S A s.heap H locs → lv_has ls 3 [(0, .ref (ad 2 x0)), (1, .ref (sad b.2.1)), (2, .int b.2.2)] → W p l e ({ frames := 4, cells := 0, slots := 0, locals := 111 }) s m args below meth c H locs 0 0 Q (F0 m 2 ls [])) (K0 : ∀ b : CS, o = .inr b → ∀ (H : Heap) (locs : List Loc) (ls : Array Slot), va_P D cls (cw ad cc N b) H → va_D A (cw ad cc N b) → va_S A s.heap H locs → lv_has ls 3 [(0, .ref (ad 2 x0))] → W p l e ({ frames := 4, cells := 0, slots := 0, locals := 111 }) s m args below meth c H locs 0 0 Q (F0 m 28 ls [])) : ∀ (H : Heap) (locs : List Loc) (ls : Array Slot), va_P D cls (cw ad cc N S) H → va_D A (cw ad cc N S) → va_S A s.heap H locs → lv_has ls 3 [(0, .ref (ad 2 x0)), (1, .ref (sad x1)), (2, .int x2)] → W p l e ({ frames := 4, cells := 0, slots := 0, locals := 111 }) s m args below meth c H locs 0 0 Q (F0 m 2 ls []) := by
  intro H locs ls hP hD hS hl
  obtain ⟨hx, hb, hr, hml, hown, hts, hK, hA, hev, hE, hN, hNS⟩ := id hC
  unfold m_cWr_writeWord_B2 at Heq
  refine lv_iload_n hx hb d_cWr_writeWord_2 rfl (lv_at hl 2 rfl) ?_
  refine lv_aload_n hx hb d_cWr_writeWord_3 rfl (lv_at hl 1 rfl) ?_
  obtain ⟨hS_x1, Heq⟩ := gS_some Heq
  have hFc := f_nil hS hA
  refine va_calli (va_runV (As := []) (rest := [.int x2]) ⟨hx, hb, hml, hown, hts⟩ (g_sln l D H.size sad sav hS_x1) (cw_v 0 hts kw_911 kw_1230 kw_909 kw_910 kw_22 rfl rfl (by decide +kernel) ⟨Nat.le_of_ble_eq_true rfl, Nat.le_of_ble_eq_true rfl⟩) ⟨gs_blind, sE_recv hE hS_x1 hS, fun U hU hW => gs_pre hU hW p_nil (hK.sub (tys' := []) [] rfl) d_nil hE hS hFc⟩ rfl rfl hl.1 rfl (lv_room (Nat.le_of_ble_eq_true rfl)) d_cWr_writeWord_4 ⟨Nat.le_of_ble_eq_true rfl, Nat.le_of_ble_eq_true rfl⟩) hS (fun q _ h => hFc q h) hFc (fun rz u t H1 locs ht hvm hw hB hz1 hk1 hS => ?_)
  have hP := p_keep0 hP hk1
  generalize H1 = H at hP hS ⊢
  refine W.cs (cells' := 0) (slots' := 0) rfl rfl ?_
  subst hw
  refine lv_icmp_ge (tgt := 28) hx hb d_cWr_writeWord_7 (by decide) (fun c_1 => ?_) (fun c_1 => ?_)
  · replace Heq := (if_pos c_1).symm.trans Heq
    exact K0 _ (Option.some.inj Heq).symm _ _ _ hP hD hS (lv_sub hl [0] rfl)
  · replace Heq := (if_neg c_1).symm.trans Heq
    refine lv_aload_n hx hb d_cWr_writeWord_10 rfl (lv_at hl 0 rfl) ?_
    obtain ⟨hl_x0_2, Heq⟩ := gl_some Heq
    refine va_get (D := D) (ci := 2) (v := rv ad 5 (S.r 2 1 x0)) (C := R_Wr) (T := F_Wr) (N := 2) hx hb hts i_Wr hown hK hP (cPos N 2 x0) (cw_obj (k := 2) (by decide) hl_x0_2) rfl 1 (by decide) (hts _ kw_386) (fun _ h9 => h9) rfl d_cWr_writeWord_11 ?_
    refine lv_aload_n hx hb d_cWr_writeWord_14 rfl (lv_at hl 1 rfl) ?_
    refine lv_iload_n hx hb d_cWr_writeWord_15 rfl (lv_at hl 2 rfl) ?_
    obtain ⟨hi_2, Heq⟩ := gd_some Heq
    obtain ⟨jhi_2, ehi_2⟩ := nI_of (fun q => hi_2 (Or.inl q))
    have fhi_2 : x2 = nI x2.toNatClampNeg := by rw [ehi_2.2, nI_clamp ehi_2.1]
    refine w_i (y := nI x2.toNatClampNeg) fhi_2 ?_
    have hFc := f_nil hS hA
    refine va_calli (va_runV (As := [.int (nI x2.toNatClampNeg)]) (rest := [rv ad 5 (S.r 2 1 x0)]) ⟨hx, hb, hml, hown, hts⟩ (g_sca l D H.size sad sav hS_x1 (vp_in.lt hi_2)) (cw_v 1 hts kw_921 kw_1231 kw_919 kw_920 kw_22 rfl rfl (by decide +kernel) ⟨Nat.le_of_ble_eq_true rfl, Nat.le_of_ble_eq_true rfl⟩) ⟨gs_blind, sE_recv hE hS_x1 hS, fun U hU hW => gs_pre hU hW p_nil (hK.sub (tys' := []) [] rfl) d_nil hE hS hFc⟩ rfl rfl hl.1 rfl (lv_room (by simp only [List.map_cons, List.map_nil, List.sum_cons, List.sum_nil, rv_cat]; exact Nat.le_of_ble_eq_true rfl)) d_cWr_writeWord_16 ⟨Nat.le_of_ble_eq_true rfl, Nat.le_of_ble_eq_true rfl⟩) hS (fun q _ h => hFc q h) hFc (fun rz u t H1 locs ht hvm hw hB hz1 hk1 hS => ?_)
    have hP := p_keep0 hP hk1
    generalize H1 = H at hP hS ⊢
    refine W.cs (cells' := 0) (slots' := 0) rfl rfl ?_
    subst hw
    obtain ⟨j_3, hj_4, hl_5, Heq⟩ := gn_some Heq
    refine w_s (st' := [.int (sCh x1 x2.toNatClampNeg), .ref (ad 5 j_3)]) (congrArg (fun z9 : Option Nat => [.int (sCh x1 x2.toNatClampNeg), rv ad 5 z9]) hj_4) ?_
    obtain ⟨o_6, h_7, Heq⟩ := ob_some Heq
    have hFc := fr_all hD hS hA
    refine va_callv (va_runV (As := [.int (sCh x1 x2.toNatClampNeg)]) (rest := []) ⟨hx, hb, hml, hown, hts⟩ (g_cRw_write l D H.size (ad := ad) (cc := cc) (sad := sad) (sav := sav) h_7) (cw_v 1 hts kw_549 kw_1232 kw_547 kw_548 kw_4 rfl rfl (by decide +kernel) ⟨Nat.le_of_ble_eq_true rfl, Nat.le_of_ble_eq_true rfl⟩) ⟨c_blind, va_recv hK hP (ci := 5) (q0 := cPos N 5 j_3) rfl (cw_obj (k := 5) (by decide) hl_5), fun U hU hW => c_pre hU hW hP hK hD hev hE hN hNS hS hFc⟩ rfl rfl hl.1 rfl (lv_room (Nat.le_of_ble_eq_true rfl)) d_cWr_writeWord_19 ⟨Nat.le_of_ble_eq_true rfl, Nat.le_of_ble_eq_true rfl⟩) hS (fun q _ h => hFc q h) hFc (fun u t H1 locs ht hvm hw hB hz1 hk1 hS => ?_)
    obtain ⟨hP, -, hD1⟩ := hB
    rw [ht] at hP
    have hD := hD1.weaken (fun _ q _ h => hFc q.1 h)
    generalize H1 = H at hP hS ⊢
    refine W.cs (cells' := 0) (slots' := 0) rfl rfl ?_
    refine lv_iinc (v := x2 + 1) (lv' := [(2, .int (x2 + 1)), (0, .ref (ad 2 x0)), (1, .ref (sad x1))]) hx hb d_cWr_writeWord_22 hl (k := 2) rfl rfl (by decide) rfl (fun ls hl => ?_)
    refine lv_goto (tgt := 2) hx hb d_cWr_writeWord_25 (by decide) ?_
    exact Ka _ (Option.some.inj Heq).symm _ _ _ hP hD hS (lv_sub hl [1, 2, 0] rfl)
def m_cWr_writeWord_L2 (N : Nat → Nat) (x0 : Nat) (S : CS) (x1 : Nat) (x2 : Int32) : Option CS := lp (fun a : CS × Nat × Int32 => m_cWr_writeWord_B2 N x0 a.1 a.2.1 a.2.2) FU (S, x1, x2)
theorem w_cWr_writeWord_L2 {p : Program} {l : Launch} {e : Env} {s : State} {m : MethodId} {args : Array Value} {below : List Frame} {meth : Method} {c : Code} {A : Nat → Prop} {D : va_G} {ad : Nat → Nat → Nat} {cc : Nat → ClassId} {sad sav : Nat → Nat} {Q : State → Prop} (hC : MCc sad sav "JoinedTrees$JsonWriter" prog_4_method_6_code 3 none p s m args meth c A D cc) {N : Nat → Nat} {x0 : Nat} {S : CS} {x1 : Nat} {x2 : Int32} {o : CS} (Heq : m_cWr_writeWord_L2 N x0 S x1 x2 = some o) (K0 : ∀ b : CS, o = b → ∀ (H : Heap) (locs : List Loc) (ls : Array Slot), va_P D cls (cw ad cc N b) H → va_D A (cw ad cc N b) → va_S A s.heap H locs → lv_has ls 3 [(0, .ref (ad 2 x0))] → W p l e ({ frames := 4, cells := 0, slots := 0, locals := 111 }) s m args below meth c H locs 0 0 Q (F0 m 28 ls [])) : ∀ (H : Heap) (locs : List Loc) (ls : Array Slot), va_P D cls (cw ad cc N S) H → va_D A (cw ad cc N S) → va_S A s.heap H locs → lv_has ls 3 [(0, .ref (ad 2 x0)), (1, .ref (sad x1)), (2, .int x2)] → W p l e ({ frames := 4, cells := 0, slots := 0, locals := 111 }) s m args below meth c H locs 0 0 Q (F0 m 2 ls []) := by
  refine lp_w (G := fun a : CS × Nat × Int32 => ∀ (H : Heap) (locs : List Loc) (ls : Array Slot), va_P D cls (cw ad cc N a.1) H → va_D A (cw ad cc N a.1) → va_S A s.heap H locs → lv_has ls 3 [(0, .ref (ad 2 x0)), (1, .ref (sad a.2.1)), (2, .int a.2.2)] → W p l e ({ frames := 4, cells := 0, slots := 0, locals := 111 }) s m args below meth c H locs 0 0 Q (F0 m 2 ls [])) ?_ FU (S, x1, x2) Heq
  intro a o1 ho Ka Ke
  exact w_cWr_writeWord_B2 hC ho (fun b h => Ka b h) (fun b h => K0 b (Ke _ h).symm)
def m_cWr_writeWord_J0 (N : Nat → Nat) (x0 : Nat) (S : CS) (x1 : Nat) : Option CS := ob (m_cWr_writeWord_L2 N x0 S x1 0) (fun b_1 => some b_1)
theorem d_cWr_writeWord_28 : decode prog_4_method_6_code 28 = .ok (.return_, 1) := by decide +kernel
set_option maxHeartbeats 4000000 in
set_option maxRecDepth 100000 in
theorem w_cWr_writeWord_J0 {p : Program} {l : Launch} {e : Env} {s : State} {m : MethodId} {args : Array Value} {below : List Frame} {meth : Method} {c : Code} {A : Nat → Prop} {D : va_G} {ad : Nat → Nat → Nat} {cc : Nat → ClassId} {sad sav : Nat → Nat} {Q : State → Prop} (hC : MCc sad sav "JoinedTrees$JsonWriter" prog_4_method_6_code 3 none p s m args meth c A D cc) {N : Nat → Nat} {x0 : Nat} {S : CS} {x1 : Nat} {o : CS} (Heq : m_cWr_writeWord_J0 N x0 S x1 = some o) (Kr : ∀ r : CS, o = r → ∀ (pc : Nat) (H : Heap) (locs : List Loc) (ls : Array Slot), decode prog_4_method_6_code pc = .ok (.return_, 1) → va_P D cls (cw ad cc N r) H → va_D A (cw ad cc N r) → va_S A s.heap H locs → W p l e ({ frames := 4, cells := 0, slots := 0, locals := 111 }) s m args below meth c H locs 0 0 Q (F0 m pc ls [])) : ∀ (H : Heap) (locs : List Loc) (ls : Array Slot), va_P D cls (cw ad cc N S) H → va_D A (cw ad cc N S) → va_S A s.heap H locs → lv_has ls 3 [(0, .ref (ad 2 x0)), (1, .ref (sad x1))] → W p l e ({ frames := 4, cells := 0, slots := 0, locals := 111 }) s m args below meth c H locs 0 0 Q (F0 m 0 ls []) := by
  intro H locs ls hP hD hS hl
  obtain ⟨hx, hb, hr, hml, hown, hts, hK, hA, hev, hE, hN, hNS⟩ := id hC
  unfold m_cWr_writeWord_J0 at Heq
  refine lv_iconst (v := 0) hx hb d_cWr_writeWord_0 (by decide) ?_
  refine lv_istore_n (lv' := [(2, .int 0), (0, .ref (ad 2 x0)), (1, .ref (sad x1))]) hx hb d_cWr_writeWord_1 rfl hl (by decide) rfl (fun ls hl => ?_)
  obtain ⟨b_1, h_2, Heq⟩ := ob_some Heq
  refine w_cWr_writeWord_L2 hC h_2 (fun b h => ?_) _ _ _ hP hD hS (lv_sub hl [1, 2, 0] rfl)
  subst h
  intro H locs ls hP hD hS hl
  exact Kr _ (Option.some.inj Heq).symm 28 _ _ _ d_cWr_writeWord_28 hP hD hS
def m_cWr_writeWord (N : Nat → Nat) (x0 : Nat) (S : CS) (x1 : Nat) : Option CS := m_cWr_writeWord_J0 N x0 S x1
set_option maxHeartbeats 4000000 in
theorem g_cWr_writeWord (l : Launch) (D : va_G) (sz : Nat) {ad : Nat → Nat → Nat} {cc : Nat → ClassId} {sad sav : Nat → Nat} {N : Nat → Nat} {x0 : Nat} {S : CS} {x1 : Nat} {o : CS} (Heq : m_cWr_writeWord N x0 S x1 = some o) : Met l ⟨"JoinedTrees$JsonWriter", "writeWord", "(Ljava/lang/String;)V"⟩ (Cond.code ⟨"JoinedTrees$JsonWriter", "writeWord", "(Ljava/lang/String;)V"⟩ prog_4_method_6_code 3 none :: gb) ({ frames := 4, cells := 0, slots := 0, locals := 111 }) (cPc sad sav D (cw ad cc N S) (cty cc) sz [.ref (ad 2 x0), .ref (sad x1)]) (va_Qv (fun _ : Unit => True) (fun _ t => gO D (cw ad cc N o) (cty cc) (va_A (cw ad cc N S) sz) t) (va_A (cw ad cc N S) sz)) 0 0 (va_A (cw ad cc N S) sz) := by
  refine Met.ofW (cc := prog_4_method_6_code) (maxL := 3) (ret := none) (by decide) rfl ?_
  intro p e s m args below meth c s₁ B hml hv
  obtain ⟨rfl, hsz, hP, hK, hD0, hev, hE, hN⟩ := hv
  have hx := B.exec
  have hb := B.bytes
  have hr := B.returns
  have hts : ∀ w9 ∈ gb, w9.before [.ref (ad 2 x0), .ref (sad x1)].toArray s = true := fun w9 h => atoms_spec (ws := Cond.code ⟨"JoinedTrees$JsonWriter", "writeWord", "(Ljava/lang/String;)V"⟩ prog_4_method_6_code 3 none :: gb) B.pre w9 (List.mem_cons_of_mem _ h)
  have hown : s.vm.findClass "JoinedTrees$JsonWriter" = some m.cls := findClass_of_methodNamed B.named
  have hlocks := B.notSynchronized
  have hNS := ns_of hP
  subst hsz
  have hD := hD0.self (sz := s.heap.size)
  generalize hAe : va_A (cw ad cc N S) s.heap.size = A at hD hev hE hNS ⊢
  have hA : ∀ q : Nat, s.heap.size ≤ q → A q := fun q h => by rw [← hAe]; exact Or.inr h
  have hS : va_S A s.heap s.heap [] := va_S.rf
  obtain ⟨ls, hl, hle⟩ : ∃ ls : Array Slot, lv_has ls 3 [(0, .ref (ad 2 x0)), (1, .ref (sad x1))] ∧ entryFrame m ([.ref (ad 2 x0), .ref (sad x1)] : List Value).toArray 3 = F0 m 0 ls [] := by
    exact ⟨_, lv_entry (n := 3) _ (Nat.le_of_ble_eq_true rfl), lg_entry_eq ..⟩
  rw [hle]
  refine w_cWr_writeWord_J0 ⟨hx, hb, hr, hml, hown, hts, hK, hA, hev, hE, hN, hNS⟩ Heq (fun r h pc H locs ls hd hP hD hS => ?_) _ _ _ hP hD hS (lv_sub hl [0, 1] rfl)
  subst h
  exact W.vret hx hb hr (fun t ht hW => ⟨⟨(), rfl, trivial, by rw [ht]; exact hP, va_K.moved hW.alike hK, hD⟩, hS.F ht⟩) hS.2.2 hd
def m_cWr_hexSign_J20 (N : Nat → Nat) (S : CS) (t0 : Int32) : Option (CS × Int32) := some (S, t0)
theorem d_cWr_hexSign_0 : decode prog_4_method_10_code 0 = .ok (.iload_n 0, 1) := by decide +kernel
theorem d_cWr_hexSign_1 : decode prog_4_method_10_code 1 = .ok (.bipush 10, 2) := by decide +kernel
theorem d_cWr_hexSign_3 : decode prog_4_method_10_code 3 = .ok (.if_icmp .ge 10, 3) := by decide +kernel
theorem d_cWr_hexSign_13 : decode prog_4_method_10_code 13 = .ok (.bipush 97, 2) := by decide +kernel
theorem d_cWr_hexSign_15 : decode prog_4_method_10_code 15 = .ok (.iload_n 0, 1) := by decide +kernel
theorem d_cWr_hexSign_16 : decode prog_4_method_10_code 16 = .ok (.iadd, 1) := by decide +kernel
theorem d_cWr_hexSign_17 : decode prog_4_method_10_code 17 = .ok (.bipush 10, 2) := by decide +kernel
theorem d_cWr_hexSign_19 : decode prog_4_method_10_code 19 = .ok (.isub, 1) := by decide +kernel
theorem d_cWr_hexSign_20 : decode prog_4_method_10_code 20 = .ok (.ireturn, 1) := by decide +kernel
set_option maxHeartbeats 4000000 in
set_option maxRecDepth 100000 in
theorem w_cWr_hexSign_J20 {p : Program} {l : Launch} {e : Env} {s : State} {m : MethodId} {args : Array Value} {below : List Frame} {meth : Method} {c : Code} {A : Nat → Prop} {D : va_G} {ad : Nat → Nat → Nat} {cc : Nat → ClassId} {sad sav : Nat → Nat} {Q : State → Prop} (hC : MCc sad sav "JoinedTrees$JsonWriter" prog_4_method_10_code 1 (some .int) p s m args meth c A D cc) {N : Nat → Nat} {S : CS} {t0 : Int32} {o : CS × Int32} (Heq : m_cWr_hexSign_J20 N S t0 = some o) (Kr : ∀ r : CS × Int32, o = r → ∀ (pc : Nat) (H : Heap) (locs : List Loc) (ls : Array Slot), decode prog_4_method_10_code pc = .ok (.ireturn, 1) → va_P D cls (cw ad cc N r.1) H → va_D A (cw ad cc N r.1) → va_S A s.heap H locs → W p l e ({ frames := 0, cells := 0, slots := 0, locals := 0 }) s m args below meth c H locs 0 0 Q (F0 m pc ls [.int r.2])) : ∀ (H : Heap) (locs : List Loc) (ls : Array Slot), va_P D cls (cw ad cc N S) H → va_D A (cw ad cc N S) → va_S A s.heap H locs → lv_has ls 1 [] → W p l e ({ frames := 0, cells := 0, slots := 0, locals := 0 }) s m args below meth c H locs 0 0 Q (F0 m 20 ls [.int t0]) := by
  intro H locs ls hP hD hS hl
  obtain ⟨hx, hb, hr, hml, hown, hts, hK, hA, hev, hE, hN, hNS⟩ := id hC
  unfold m_cWr_hexSign_J20 at Heq
  exact Kr _ (Option.some.inj Heq).symm 20 _ _ _ d_cWr_hexSign_20 hP hD hS
def m_cWr_hexSign_J0 (N : Nat → Nat) (S : CS) (x0 : Int32) : Option (CS × Int32) := (if 10 ≤ x0 then m_cWr_hexSign_J20 N S ((97 + x0) - 10) else m_cWr_hexSign_J20 N S (48 + x0))
theorem d_cWr_hexSign_6 : decode prog_4_method_10_code 6 = .ok (.bipush 48, 2) := by decide +kernel
theorem d_cWr_hexSign_8 : decode prog_4_method_10_code 8 = .ok (.iload_n 0, 1) := by decide +kernel
theorem d_cWr_hexSign_9 : decode prog_4_method_10_code 9 = .ok (.iadd, 1) := by decide +kernel
theorem d_cWr_hexSign_10 : decode prog_4_method_10_code 10 = .ok (.goto 10, 3) := by decide +kernel
set_option maxHeartbeats 4000000 in
set_option maxRecDepth 100000 in
theorem w_cWr_hexSign_J0 {p : Program} {l : Launch} {e : Env} {s : State} {m : MethodId} {args : Array Value} {below : List Frame} {meth : Method} {c : Code} {A : Nat → Prop} {D : va_G} {ad : Nat → Nat → Nat} {cc : Nat → ClassId} {sad sav : Nat → Nat} {Q : State → Prop} (hC : MCc sad sav "JoinedTrees$JsonWriter" prog_4_method_10_code 1 (some .int) p s m args meth c A D cc) {N : Nat → Nat} {S : CS} {x0 : Int32} {o : CS × Int32} (Heq : m_cWr_hexSign_J0 N S x0 = some o) (Kr : ∀ r : CS × Int32, o = r → ∀ (pc : Nat) (H : Heap) (locs : List Loc) (ls : Array Slot), decode prog_4_method_10_code pc = .ok (.ireturn, 1) → va_P D cls (cw ad cc N r.1) H → va_D A (cw ad cc N r.1) → va_S A s.heap H locs → W p l e ({ frames := 0, cells := 0, slots := 0, locals := 0 }) s m args below meth c H locs 0 0 Q (F0 m pc ls [.int r.2])) : ∀ (H : Heap) (locs : List Loc) (ls : Array Slot), va_P D cls (cw ad cc N S) H → va_D A (cw ad cc N S) → va_S A s.heap H locs → lv_has ls 1 [(0, .int x0)] → W p l e ({ frames := 0, cells := 0, slots := 0, locals := 0 }) s m args below meth c H locs 0 0 Q (F0 m 0 ls []) := by
  intro H locs ls hP hD hS hl
  obtain ⟨hx, hb, hr, hml, hown, hts, hK, hA, hev, hE, hN, hNS⟩ := id hC
  unfold m_cWr_hexSign_J0 at Heq
  refine lv_iload_n hx hb d_cWr_hexSign_0 rfl (lv_at hl 0 rfl) ?_
  refine lv_bipush (v := 10) hx hb d_cWr_hexSign_1 (by decide) ?_
  refine lv_icmp_ge (tgt := 13) hx hb d_cWr_hexSign_3 (by decide) (fun c_1 => ?_) (fun c_1 => ?_)
  · replace Heq := (if_pos c_1).symm.trans Heq
    refine lv_bipush (v := 97) hx hb d_cWr_hexSign_13 (by decide) ?_
    refine lv_iload_n hx hb d_cWr_hexSign_15 rfl (lv_at hl 0 rfl) ?_
    refine lv_iadd hx hb d_cWr_hexSign_16 ?_
    refine w_i (y := 97 + x0) rfl ?_
    refine lv_bipush (v := 10) hx hb d_cWr_hexSign_17 (by decide) ?_
    refine lv_isub hx hb d_cWr_hexSign_19 ?_
    refine w_i (y := (97 + x0) - 10) rfl ?_
    exact w_cWr_hexSign_J20 hC Heq Kr _ _ _ hP hD hS (lv_sub hl [] rfl)
  · replace Heq := (if_neg c_1).symm.trans Heq
    refine lv_bipush (v := 48) hx hb d_cWr_hexSign_6 (by decide) ?_
    refine lv_iload_n hx hb d_cWr_hexSign_8 rfl (lv_at hl 0 rfl) ?_
    refine lv_iadd hx hb d_cWr_hexSign_9 ?_
    refine w_i (y := 48 + x0) rfl ?_
    refine lv_goto (tgt := 20) hx hb d_cWr_hexSign_10 (by decide) ?_
    exact w_cWr_hexSign_J20 hC Heq Kr _ _ _ hP hD hS (lv_sub hl [] rfl)
def m_cWr_hexSign (N : Nat → Nat) (S : CS) (x0 : Int32) : Option (CS × Int32) := m_cWr_hexSign_J0 N S x0
set_option maxHeartbeats 4000000 in
theorem g_cWr_hexSign (l : Launch) (D : va_G) (sz : Nat) {ad : Nat → Nat → Nat} {cc : Nat → ClassId} {sad sav : Nat → Nat} {N : Nat → Nat} {S : CS} {x0 : Int32} {o : CS × Int32} (Heq : m_cWr_hexSign N S x0 = some o) : Met l ⟨"JoinedTrees$JsonWriter", "hexSign", "(I)I"⟩ (Cond.code ⟨"JoinedTrees$JsonWriter", "hexSign", "(I)I"⟩ prog_4_method_10_code 1 (some .int) :: gb) ({ frames := 0, cells := 0, slots := 0, locals := 0 }) (cPc sad sav D (cw ad cc N S) (cty cc) sz [.int x0]) (va_Qi (fun (r : Int32) (_ : Unit) => r = o.2) (fun _ t => gO D (cw ad cc N o.1) (cty cc) (va_A (cw ad cc N S) sz) t) (va_A (cw ad cc N S) sz)) 0 0 (va_A (cw ad cc N S) sz) := by
  refine Met.ofW (cc := prog_4_method_10_code) (maxL := 1) (ret := (some .int)) (by decide) rfl ?_
  intro p e s m args below meth c s₁ B hml hv
  obtain ⟨rfl, hsz, hP, hK, hD0, hev, hE, hN⟩ := hv
  have hx := B.exec
  have hb := B.bytes
  have hr := B.returns
  have hts : ∀ w9 ∈ gb, w9.before [.int x0].toArray s = true := fun w9 h => atoms_spec (ws := Cond.code ⟨"JoinedTrees$JsonWriter", "hexSign", "(I)I"⟩ prog_4_method_10_code 1 (some .int) :: gb) B.pre w9 (List.mem_cons_of_mem _ h)
  have hown : s.vm.findClass "JoinedTrees$JsonWriter" = some m.cls := findClass_of_methodNamed B.named
  have hlocks := B.notSynchronized
  have hNS := ns_of hP
  subst hsz
  have hD := hD0.self (sz := s.heap.size)
  generalize hAe : va_A (cw ad cc N S) s.heap.size = A at hD hev hE hNS ⊢
  have hA : ∀ q : Nat, s.heap.size ≤ q → A q := fun q h => by rw [← hAe]; exact Or.inr h
  have hS : va_S A s.heap s.heap [] := va_S.rf
  obtain ⟨ls, hl, hle⟩ : ∃ ls : Array Slot, lv_has ls 1 [(0, .int x0)] ∧ entryFrame m ([.int x0] : List Value).toArray 1 = F0 m 0 ls [] := by
    exact ⟨_, lv_entry (n := 1) _ (Nat.le_of_ble_eq_true rfl), lg_entry_eq ..⟩
  rw [hle]
  refine w_cWr_hexSign_J0 ⟨hx, hb, hr, hml, hown, hts, hK, hA, hev, hE, hN, hNS⟩ Heq (fun r h pc H locs ls hd hP hD hS => ?_) _ _ _ hP hD hS (lv_sub hl [0] rfl)
  subst h
  exact W.iret hx hb hr (fun t ht hW => ⟨⟨_, (), rfl, rfl, by rw [ht]; exact hP, va_K.moved hW.alike hK, hD⟩, hS.F ht⟩) hS.2.2 hd
def m_cWr_writeLetter_J125 (N : Nat → Nat) (x0 : Nat) (S : CS) : Option CS := some S
theorem d_cWr_writeLetter_0 : decode prog_4_method_9_code 0 = .ok (.iload_n 1, 1) := by decide +kernel
theorem d_cWr_writeLetter_1 : decode prog_4_method_9_code 1 = .ok (.bipush 34, 2) := by decide +kernel
theorem d_cWr_writeLetter_3 : decode prog_4_method_9_code 3 = .ok (.if_icmp .eq 15, 3) := by decide +kernel
theorem d_cWr_writeLetter_18 : decode prog_4_method_9_code 18 = .ok (.iconst 1, 1) := by decide +kernel
theorem d_cWr_writeLetter_19 : decode prog_4_method_9_code 19 = .ok (.goto 4, 3) := by decide +kernel
theorem d_cWr_writeLetter_23 : decode prog_4_method_9_code 23 = .ok (.istore_n 2, 1) := by decide +kernel
theorem d_cWr_writeLetter_24 : decode prog_4_method_9_code 24 = .ok (.iload_n 2, 1) := by decide +kernel
theorem d_cWr_writeLetter_25 : decode prog_4_method_9_code 25 = .ok (.ifCond .ne 19, 3) := by decide +kernel
theorem d_cWr_writeLetter_44 : decode prog_4_method_9_code 44 = .ok (.iconst 0, 1) := by decide +kernel
theorem d_cWr_writeLetter_45 : decode prog_4_method_9_code 45 = .ok (.istore_n 3, 1) := by decide +kernel
theorem d_cWr_writeLetter_46 : decode prog_4_method_9_code 46 = .ok (.iload_n 2, 1) := by decide +kernel
theorem d_cWr_writeLetter_47 : decode prog_4_method_9_code 47 = .ok (.ifCond .ne 7, 3) := by decide +kernel
theorem d_cWr_writeLetter_54 : decode prog_4_method_9_code 54 = .ok (.aload_n 0, 1) := by decide +kernel
theorem d_cWr_writeLetter_55 : decode prog_4_method_9_code 55 = .ok (.getfield 14, 3) := by decide +kernel
theorem d_cWr_writeLetter_58 : decode prog_4_method_9_code 58 = .ok (.bipush 92, 2) := by decide +kernel
theorem d_cWr_writeLetter_60 : decode prog_4_method_9_code 60 = .ok (.invokevirtual 51, 3) := by decide +kernel
theorem d_cWr_writeLetter_63 : decode prog_4_method_9_code 63 = .ok (.iload_n 3, 1) := by decide +kernel
theorem d_cWr_writeLetter_64 : decode prog_4_method_9_code 64 = .ok (.ifCond .eq 42, 3) := by decide +kernel
theorem d_cWr_writeLetter_106 : decode prog_4_method_9_code 106 = .ok (.aload_n 0, 1) := by decide +kernel
theorem d_cWr_writeLetter_107 : decode prog_4_method_9_code 107 = .ok (.getfield 14, 3) := by decide +kernel
theorem d_cWr_writeLetter_110 : decode prog_4_method_9_code 110 = .ok (.iload_n 1, 1) := by decide +kernel
theorem d_cWr_writeLetter_111 : decode prog_4_method_9_code 111 = .ok (.bipush 10, 2) := by decide +kernel
theorem d_cWr_writeLetter_113 : decode prog_4_method_9_code 113 = .ok (.if_icmp .ne 8, 3) := by decide +kernel
theorem d_cWr_writeLetter_121 : decode prog_4_method_9_code 121 = .ok (.iload_n 1, 1) := by decide +kernel
theorem d_cWr_writeLetter_122 : decode prog_4_method_9_code 122 = .ok (.invokevirtual 51, 3) := by decide +kernel
theorem d_cWr_writeLetter_125 : decode prog_4_method_9_code 125 = .ok (.return_, 1) := by decide +kernel
set_option maxHeartbeats 4000000 in
set_option maxRecDepth 100000 in
theorem w_cWr_writeLetter_J125 {p : Program} {l : Launch} {e : Env} {s : State} {m : MethodId} {args : Array Value} {below : List Frame} {meth : Method} {c : Code} {A : Nat → Prop} {D : va_G} {ad : Nat → Nat → Nat} {cc : Nat → ClassId} {sad sav : Nat → Nat} {Q : State → Prop} (hC : MCc sad sav "JoinedTrees$JsonWriter" prog_4_method_9_code 4 none p s m args meth c A D cc) {N : Nat → Nat} {x0 : Nat} {S : CS} {o : CS} (Heq : m_cWr_writeLetter_J125 N x0 S = some o) (Kr : ∀ r : CS, o = r → ∀ (pc : Nat) (H : Heap) (locs : List Loc) (ls : Array Slot), decode prog_4_method_9_code pc = .ok (.return_, 1) → va_P D cls (cw ad cc N r) H → va_D A (cw ad cc N r) → va_S A s.heap H locs → W p l e ({ frames := 1, cells := 0, slots := 0, locals := 21 }) s m args below meth c H locs 0 0 Q (F0 m pc ls [])) : ∀ (H : Heap) (locs : List Loc) (ls : Array Slot), va_P D cls (cw ad cc N S) H → va_D A (cw ad cc N S) → va_S A s.heap H locs → lv_has ls 4 [(0, .ref (ad 2 x0))] → W p l e ({ frames := 1, cells := 0, slots := 0, locals := 21 }) s m args below meth c H locs 0 0 Q (F0 m 125 ls []) := by
  intro H locs ls hP hD hS hl
  obtain ⟨hx, hb, hr, hml, hown, hts, hK, hA, hev, hE, hN, hNS⟩ := id hC
  unfold m_cWr_writeLetter_J125 at Heq
  exact Kr _ (Option.some.inj Heq).symm 125 _ _ _ d_cWr_writeLetter_125 hP hD hS
def m_cWr_writeLetter_J122 (N : Nat → Nat) (x0 : Nat) (S : CS) (t0 : Int32) (t1 : Option Nat) : Option CS := gn t1 (N 5) (fun j_1 => ob (m_cRw_write N j_1 S t0) (fun o_4 => m_cWr_writeLetter_J125 N x0 o_4))
set_option maxHeartbeats 4000000 in
set_option maxRecDepth 100000 in
theorem w_cWr_writeLetter_J122 {p : Program} {l : Launch} {e : Env} {s : State} {m : MethodId} {args : Array Value} {below : List Frame} {meth : Method} {c : Code} {A : Nat → Prop} {D : va_G} {ad : Nat → Nat → Nat} {cc : Nat → ClassId} {sad sav : Nat → Nat} {Q : State → Prop} (hC : MCc sad sav "JoinedTrees$JsonWriter" prog_4_method_9_code 4 none p s m args meth c A D cc) {N : Nat → Nat} {x0 : Nat} {S : CS} {t0 : Int32} {t1 : Option Nat} {o : CS} (Heq : m_cWr_writeLetter_J122 N x0 S t0 t1 = some o) (Kr : ∀ r : CS, o = r → ∀ (pc : Nat) (H : Heap) (locs : List Loc) (ls : Array Slot), decode prog_4_method_9_code pc = .ok (.return_, 1) → va_P D cls (cw ad cc N r) H → va_D A (cw ad cc N r) → va_S A s.heap H locs → W p l e ({ frames := 1, cells := 0, slots := 0, locals := 21 }) s m args below meth c H locs 0 0 Q (F0 m pc ls [])) : ∀ (H : Heap) (locs : List Loc) (ls : Array Slot), va_P D cls (cw ad cc N S) H → va_D A (cw ad cc N S) → va_S A s.heap H locs → lv_has ls 4 [(0, .ref (ad 2 x0))] → W p l e ({ frames := 1, cells := 0, slots := 0, locals := 21 }) s m args below meth c H locs 0 0 Q (F0 m 122 ls [.int t0, rv ad 5 t1]) := by
  intro H locs ls hP hD hS hl
  obtain ⟨hx, hb, hr, hml, hown, hts, hK, hA, hev, hE, hN, hNS⟩ := id hC
  unfold m_cWr_writeLetter_J122 at Heq
  obtain ⟨j_1, hj_2, hl_3, Heq⟩ := gn_some Heq
  refine w_s (st' := [.int t0, .ref (ad 5 j_1)]) (congrArg (fun z9 : Option Nat => [.int t0, rv ad 5 z9]) hj_2) ?_
  obtain ⟨o_4, h_5, Heq⟩ := ob_some Heq
  have hFc := fr_all hD hS hA
  refine va_callv (va_runV (As := [.int t0]) (rest := []) ⟨hx, hb, hml, hown, hts⟩ (g_cRw_write l D H.size (ad := ad) (cc := cc) (sad := sad) (sav := sav) h_5) (cw_v 1 hts kw_549 kw_1232 kw_547 kw_548 kw_4 rfl rfl (by decide +kernel) ⟨Nat.le_of_ble_eq_true rfl, Nat.le_of_ble_eq_true rfl⟩) ⟨c_blind, va_recv hK hP (ci := 5) (q0 := cPos N 5 j_1) rfl (cw_obj (k := 5) (by decide) hl_3), fun U hU hW => c_pre hU hW hP hK hD hev hE hN hNS hS hFc⟩ rfl rfl hl.1 rfl (lv_room (Nat.le_of_ble_eq_true rfl)) d_cWr_writeLetter_122 ⟨Nat.le_of_ble_eq_true rfl, Nat.le_of_ble_eq_true rfl⟩) hS (fun q _ h => hFc q h) hFc (fun u t H1 locs ht hvm hw hB hz1 hk1 hS => ?_)
  obtain ⟨hP, -, hD1⟩ := hB
  rw [ht] at hP
  have hD := hD1.weaken (fun _ q _ h => hFc q.1 h)
  generalize H1 = H at hP hS ⊢
  refine W.cs (cells' := 0) (slots' := 0) rfl rfl ?_
  exact w_cWr_writeLetter_J125 hC Heq Kr _ _ _ hP hD hS (lv_sub hl [0] rfl)
def m_cWr_writeLetter_J63 (N : Nat → Nat) (x0 : Nat) (S : CS) (x1 : Int32) (x3 : Int32) : Option CS := (if x3 = 0 then gl x0 (N 2) ((if x1 = 10 then m_cWr_writeLetter_J122 N x0 S 110 (S.r 2 1 x0) else m_cWr_writeLetter_J122 N x0 S x1 (S.r 2 1 x0))) else gl x0 (N 2) (gn (S.r 2 1 x0) (N 5) (fun j_3 => ob (m_cRw_write N j_3 S 120) (fun o_6 => ob (m_cWr_hexSign N o_6 (x1 >>> ((4 : Int32) &&& 31))) (fun o_8 => gn (o_6.r 2 1 x0) (N 5) (fun j_10 => ob (m_cRw_write N j_10 o_8.1 o_8.2) (fun o_13 => ob (m_cWr_hexSign N o_13 (x1 &&& 15)) (fun o_15 => gn (o_13.r 2 1 x0) (N 5) (fun j_17 => ob (m_cRw_write N j_17 o_15.1 o_15.2) (fun o_20 => m_cWr_writeLetter_J125 N x0 o_20))))))))))
theorem d_cWr_writeLetter_116 : decode prog_4_method_9_code 116 = .ok (.bipush 110, 2) := by decide +kernel
theorem d_cWr_writeLetter_118 : decode prog_4_method_9_code 118 = .ok (.goto 4, 3) := by decide +kernel
theorem d_cWr_writeLetter_67 : decode prog_4_method_9_code 67 = .ok (.aload_n 0, 1) := by decide +kernel
theorem d_cWr_writeLetter_68 : decode prog_4_method_9_code 68 = .ok (.getfield 14, 3) := by decide +kernel
theorem d_cWr_writeLetter_71 : decode prog_4_method_9_code 71 = .ok (.bipush 120, 2) := by decide +kernel
theorem d_cWr_writeLetter_73 : decode prog_4_method_9_code 73 = .ok (.invokevirtual 51, 3) := by decide +kernel
theorem d_cWr_writeLetter_76 : decode prog_4_method_9_code 76 = .ok (.aload_n 0, 1) := by decide +kernel
theorem d_cWr_writeLetter_77 : decode prog_4_method_9_code 77 = .ok (.getfield 14, 3) := by decide +kernel
theorem d_cWr_writeLetter_80 : decode prog_4_method_9_code 80 = .ok (.iload_n 1, 1) := by decide +kernel
theorem d_cWr_writeLetter_81 : decode prog_4_method_9_code 81 = .ok (.iconst 4, 1) := by decide +kernel
theorem d_cWr_writeLetter_82 : decode prog_4_method_9_code 82 = .ok (.ishr, 1) := by decide +kernel
theorem d_cWr_writeLetter_83 : decode prog_4_method_9_code 83 = .ok (.invokestatic 135, 3) := by decide +kernel
theorem d_cWr_writeLetter_86 : decode prog_4_method_9_code 86 = .ok (.invokevirtual 51, 3) := by decide +kernel
theorem d_cWr_writeLetter_89 : decode prog_4_method_9_code 89 = .ok (.aload_n 0, 1) := by decide +kernel
theorem d_cWr_writeLetter_90 : decode prog_4_method_9_code 90 = .ok (.getfield 14, 3) := by decide +kernel
theorem d_cWr_writeLetter_93 : decode prog_4_method_9_code 93 = .ok (.iload_n 1, 1) := by decide +kernel
theorem d_cWr_writeLetter_94 : decode prog_4_method_9_code 94 = .ok (.bipush 15, 2) := by decide +kernel
theorem d_cWr_writeLetter_96 : decode prog_4_method_9_code 96 = .ok (.iand, 1) := by decide +kernel
theorem d_cWr_writeLetter_97 : decode prog_4_method_9_code 97 = .ok (.invokestatic 135, 3) := by decide +kernel
theorem d_cWr_writeLetter_100 : decode prog_4_method_9_code 100 = .ok (.invokevirtual 51, 3) := by decide +kernel
theorem d_cWr_writeLetter_103 : decode prog_4_method_9_code 103 = .ok (.goto 22, 3) := by decide +kernel
set_option maxHeartbeats 4000000 in
set_option maxRecDepth 100000 in
theorem w_cWr_writeLetter_J63 {p : Program} {l : Launch} {e : Env} {s : State} {m : MethodId} {args : Array Value} {below : List Frame} {meth : Method} {c : Code} {A : Nat → Prop} {D : va_G} {ad : Nat → Nat → Nat} {cc : Nat → ClassId} {sad sav : Nat → Nat} {Q : State → Prop} (hC : MCc sad sav "JoinedTrees$JsonWriter" prog_4_method_9_code 4 none p s m args meth c A D cc) {N : Nat → Nat} {x0 : Nat} {S : CS} {x1 : Int32} {x3 : Int32} {o : CS} (Heq : m_cWr_writeLetter_J63 N x0 S x1 x3 = some o) (Kr : ∀ r : CS, o = r → ∀ (pc : Nat) (H : Heap) (locs : List Loc) (ls : Array Slot), decode prog_4_method_9_code pc = .ok (.return_, 1) → va_P D cls (cw ad cc N r) H → va_D A (cw ad cc N r) → va_S A s.heap H locs → W p l e ({ frames := 1, cells := 0, slots := 0, locals := 21 }) s m args below meth c H locs 0 0 Q (F0 m pc ls [])) : ∀ (H : Heap) (locs : List Loc) (ls : Array Slot), va_P D cls (cw ad cc N S) H → va_D A (cw ad cc N S) → va_S A s.heap H locs → lv_has ls 4 [(0, .ref (ad 2 x0)), (1, .int x1), (3, .int x3)] → W p l e ({ frames := 1, cells := 0, slots := 0, locals := 21 }) s m args below meth c H locs 0 0 Q (F0 m 63 ls []) := by
  intro H locs ls hP hD hS hl
  obtain ⟨hx, hb, hr, hml, hown, hts, hK, hA, hev, hE, hN, hNS⟩ := id hC
  unfold m_cWr_writeLetter_J63 at Heq
  refine lv_iload_n hx hb d_cWr_writeLetter_63 rfl (lv_at hl 2 rfl) ?_
  refine lv_if_eq (tgt := 106) hx hb d_cWr_writeLetter_64 (by decide) (fun c_1 => ?_) (fun c_1 => ?_)
  · replace Heq := (if_pos c_1).symm.trans Heq
    refine lv_aload_n hx hb d_cWr_writeLetter_106 rfl (lv_at hl 0 rfl) ?_
    obtain ⟨hl_x0_2, Heq⟩ := gl_some Heq
    refine va_get (D := D) (ci := 2) (v := rv ad 5 (S.r 2 1 x0)) (C := R_Wr) (T := F_Wr) (N := 2) hx hb hts i_Wr hown hK hP (cPos N 2 x0) (cw_obj (k := 2) (by decide) hl_x0_2) rfl 1 (by decide) (hts _ kw_386) (fun _ h9 => h9) rfl d_cWr_writeLetter_107 ?_
    refine lv_iload_n hx hb d_cWr_writeLetter_110 rfl (lv_at hl 1 rfl) ?_
    refine lv_bipush (v := 10) hx hb d_cWr_writeLetter_111 (by decide) ?_
    refine lv_icmp_ne (tgt := 121) hx hb d_cWr_writeLetter_113 (by decide) (fun c_2 => ?_) (fun c_2 => ?_)
    · replace Heq := (if_neg c_2).symm.trans Heq
      refine lv_iload_n hx hb d_cWr_writeLetter_121 rfl (lv_at hl 1 rfl) ?_
      exact w_cWr_writeLetter_J122 hC Heq Kr _ _ _ hP hD hS (lv_sub hl [0] rfl)
    · replace Heq := (if_pos c_2).symm.trans Heq
      refine lv_bipush (v := 110) hx hb d_cWr_writeLetter_116 (by decide) ?_
      refine lv_goto (tgt := 122) hx hb d_cWr_writeLetter_118 (by decide) ?_
      exact w_cWr_writeLetter_J122 hC Heq Kr _ _ _ hP hD hS (lv_sub hl [0] rfl)
  · replace Heq := (if_neg c_1).symm.trans Heq
    refine lv_aload_n hx hb d_cWr_writeLetter_67 rfl (lv_at hl 0 rfl) ?_
    obtain ⟨hl_x0_2, Heq⟩ := gl_some Heq
    refine va_get (D := D) (ci := 2) (v := rv ad 5 (S.r 2 1 x0)) (C := R_Wr) (T := F_Wr) (N := 2) hx hb hts i_Wr hown hK hP (cPos N 2 x0) (cw_obj (k := 2) (by decide) hl_x0_2) rfl 1 (by decide) (hts _ kw_386) (fun _ h9 => h9) rfl d_cWr_writeLetter_68 ?_
    refine lv_bipush (v := 120) hx hb d_cWr_writeLetter_71 (by decide) ?_
    obtain ⟨j_3, hj_4, hl_5, Heq⟩ := gn_some Heq
    refine w_s (st' := [.int 120, .ref (ad 5 j_3)]) (congrArg (fun z9 : Option Nat => [.int 120, rv ad 5 z9]) hj_4) ?_
    obtain ⟨o_6, h_7, Heq⟩ := ob_some Heq
    have hFc := fr_all hD hS hA
    refine va_callv (va_runV (As := [.int 120]) (rest := []) ⟨hx, hb, hml, hown, hts⟩ (g_cRw_write l D H.size (ad := ad) (cc := cc) (sad := sad) (sav := sav) h_7) (cw_v 1 hts kw_549 kw_1232 kw_547 kw_548 kw_4 rfl rfl (by decide +kernel) ⟨Nat.le_of_ble_eq_true rfl, Nat.le_of_ble_eq_true rfl⟩) ⟨c_blind, va_recv hK hP (ci := 5) (q0 := cPos N 5 j_3) rfl (cw_obj (k := 5) (by decide) hl_5), fun U hU hW => c_pre hU hW hP hK hD hev hE hN hNS hS hFc⟩ rfl rfl hl.1 rfl (lv_room (Nat.le_of_ble_eq_true rfl)) d_cWr_writeLetter_73 ⟨Nat.le_of_ble_eq_true rfl, Nat.le_of_ble_eq_true rfl⟩) hS (fun q _ h => hFc q h) hFc (fun u t H1 locs ht hvm hw hB hz1 hk1 hS => ?_)
    obtain ⟨hP, -, hD1⟩ := hB
    rw [ht] at hP
    have hD := hD1.weaken (fun _ q _ h => hFc q.1 h)
    generalize H1 = H at hP hS ⊢
    refine W.cs (cells' := 0) (slots' := 0) rfl rfl ?_
    refine lv_aload_n hx hb d_cWr_writeLetter_76 rfl (lv_at hl 0 rfl) ?_
    refine va_get (D := D) (ci := 2) (v := rv ad 5 (o_6.r 2 1 x0)) (C := R_Wr) (T := F_Wr) (N := 2) hx hb hts i_Wr hown hK hP (cPos N 2 x0) (cw_obj (k := 2) (by decide) hl_x0_2) rfl 1 (by decide) (hts _ kw_386) (fun _ h9 => h9) rfl d_cWr_writeLetter_77 ?_
    refine lv_iload_n hx hb d_cWr_writeLetter_80 rfl (lv_at hl 1 rfl) ?_
    refine lv_iconst (v := 4) hx hb d_cWr_writeLetter_81 (by decide) ?_
    refine lv_ishr hx hb d_cWr_writeLetter_82 ?_
    refine w_i (y := x1 >>> ((4 : Int32) &&& 31)) rfl ?_
    obtain ⟨o_8, h_9, Heq⟩ := ob_some Heq
    have hFc := fr_all hD hS hA
    refine va_calli (va_runS (As := [.int (x1 >>> ((4 : Int32) &&& 31))]) (rest := [rv ad 5 (o_6.r 2 1 x0)]) ⟨hx, hb, hml, hown, hts⟩ (g_cWr_hexSign l D H.size (ad := ad) (cc := cc) (sad := sad) (sav := sav) h_9) (cw_s 1 hts kw_1246 kw_1244 kw_1245 kw_9 rfl rfl (by decide +kernel) ⟨Nat.le_of_ble_eq_true rfl, Nat.le_of_ble_eq_true rfl⟩) ⟨c_blind, fun U hU hW => c_pre hU hW hP hK hD hev hE hN hNS hS hFc⟩ rfl rfl hl.1 rfl (lv_room (by simp only [List.map_cons, List.map_nil, List.sum_cons, List.sum_nil, rv_cat]; exact Nat.le_of_ble_eq_true rfl)) d_cWr_writeLetter_83 ⟨Nat.le_of_ble_eq_true rfl, Nat.le_of_ble_eq_true rfl⟩) hS (fun q _ h => hFc q h) hFc (fun rz u t H1 locs ht hvm hw hB hz1 hk1 hS => ?_)
    obtain ⟨hP, -, hD1⟩ := hB
    rw [ht] at hP
    have hD := hD1.weaken (fun _ q _ h => hFc q.1 h)
    generalize H1 = H at hP hS ⊢
    refine W.cs (cells' := 0) (slots' := 0) rfl rfl ?_
    subst hw
    obtain ⟨j_10, hj_11, hl_12, Heq⟩ := gn_some Heq
    refine w_s (st' := [.int o_8.2, .ref (ad 5 j_10)]) (congrArg (fun z9 : Option Nat => [.int o_8.2, rv ad 5 z9]) hj_11) ?_
    obtain ⟨o_13, h_14, Heq⟩ := ob_some Heq
    have hFc := fr_all hD hS hA
    refine va_callv (va_runV (As := [.int o_8.2]) (rest := []) ⟨hx, hb, hml, hown, hts⟩ (g_cRw_write l D H.size (ad := ad) (cc := cc) (sad := sad) (sav := sav) h_14) (cw_v 1 hts kw_549 kw_1232 kw_547 kw_548 kw_4 rfl rfl (by decide +kernel) ⟨Nat.le_of_ble_eq_true rfl, Nat.le_of_ble_eq_true rfl⟩) ⟨c_blind, va_recv hK hP (ci := 5) (q0 := cPos N 5 j_10) rfl (cw_obj (k := 5) (by decide) hl_12), fun U hU hW => c_pre hU hW hP hK hD hev hE hN hNS hS hFc⟩ rfl rfl hl.1 rfl (lv_room (Nat.le_of_ble_eq_true rfl)) d_cWr_writeLetter_86 ⟨Nat.le_of_ble_eq_true rfl, Nat.le_of_ble_eq_true rfl⟩) hS (fun q _ h => hFc q h) hFc (fun u t H1 locs ht hvm hw hB hz1 hk1 hS => ?_)
    obtain ⟨hP, -, hD1⟩ := hB
    rw [ht] at hP
    have hD := hD1.weaken (fun _ q _ h => hFc q.1 h)
    generalize H1 = H at hP hS ⊢
    refine W.cs (cells' := 0) (slots' := 0) rfl rfl ?_
    refine lv_aload_n hx hb d_cWr_writeLetter_89 rfl (lv_at hl 0 rfl) ?_
    refine va_get (D := D) (ci := 2) (v := rv ad 5 (o_13.r 2 1 x0)) (C := R_Wr) (T := F_Wr) (N := 2) hx hb hts i_Wr hown hK hP (cPos N 2 x0) (cw_obj (k := 2) (by decide) hl_x0_2) rfl 1 (by decide) (hts _ kw_386) (fun _ h9 => h9) rfl d_cWr_writeLetter_90 ?_
    refine lv_iload_n hx hb d_cWr_writeLetter_93 rfl (lv_at hl 1 rfl) ?_
    refine lv_bipush (v := 15) hx hb d_cWr_writeLetter_94 (by decide) ?_
    refine lv_iand hx hb d_cWr_writeLetter_96 ?_
    refine w_i (y := x1 &&& 15) rfl ?_
    obtain ⟨o_15, h_16, Heq⟩ := ob_some Heq
    have hFc := fr_all hD hS hA
    refine va_calli (va_runS (As := [.int (x1 &&& 15)]) (rest := [rv ad 5 (o_13.r 2 1 x0)]) ⟨hx, hb, hml, hown, hts⟩ (g_cWr_hexSign l D H.size (ad := ad) (cc := cc) (sad := sad) (sav := sav) h_16) (cw_s 1 hts kw_1246 kw_1244 kw_1245 kw_9 rfl rfl (by decide +kernel) ⟨Nat.le_of_ble_eq_true rfl, Nat.le_of_ble_eq_true rfl⟩) ⟨c_blind, fun U hU hW => c_pre hU hW hP hK hD hev hE hN hNS hS hFc⟩ rfl rfl hl.1 rfl (lv_room (by simp only [List.map_cons, List.map_nil, List.sum_cons, List.sum_nil, rv_cat]; exact Nat.le_of_ble_eq_true rfl)) d_cWr_writeLetter_97 ⟨Nat.le_of_ble_eq_true rfl, Nat.le_of_ble_eq_true rfl⟩) hS (fun q _ h => hFc q h) hFc (fun rz u t H1 locs ht hvm hw hB hz1 hk1 hS => ?_)
    obtain ⟨hP, -, hD1⟩ := hB
    rw [ht] at hP
    have hD := hD1.weaken (fun _ q _ h => hFc q.1 h)
    generalize H1 = H at hP hS ⊢
    refine W.cs (cells' := 0) (slots' := 0) rfl rfl ?_
    subst hw
    obtain ⟨j_17, hj_18, hl_19, Heq⟩ := gn_some Heq
    refine w_s (st' := [.int o_15.2, .ref (ad 5 j_17)]) (congrArg (fun z9 : Option Nat => [.int o_15.2, rv ad 5 z9]) hj_18) ?_
    obtain ⟨o_20, h_21, Heq⟩ := ob_some Heq
    have hFc := fr_all hD hS hA
    refine va_callv (va_runV (As := [.int o_15.2]) (rest := []) ⟨hx, hb, hml, hown, hts⟩ (g_cRw_write l D H.size (ad := ad) (cc := cc) (sad := sad) (sav := sav) h_21) (cw_v 1 hts kw_549 kw_1232 kw_547 kw_548 kw_4 rfl rfl (by decide +kernel) ⟨Nat.le_of_ble_eq_true rfl, Nat.le_of_ble_eq_true rfl⟩) ⟨c_blind, va_recv hK hP (ci := 5) (q0 := cPos N 5 j_17) rfl (cw_obj (k := 5) (by decide) hl_19), fun U hU hW => c_pre hU hW hP hK hD hev hE hN hNS hS hFc⟩ rfl rfl hl.1 rfl (lv_room (Nat.le_of_ble_eq_true rfl)) d_cWr_writeLetter_100 ⟨Nat.le_of_ble_eq_true rfl, Nat.le_of_ble_eq_true rfl⟩) hS (fun q _ h => hFc q h) hFc (fun u t H1 locs ht hvm hw hB hz1 hk1 hS => ?_)
    obtain ⟨hP, -, hD1⟩ := hB
    rw [ht] at hP
    have hD := hD1.weaken (fun _ q _ h => hFc q.1 h)
    generalize H1 = H at hP hS ⊢
    refine W.cs (cells' := 0) (slots' := 0) rfl rfl ?_
    refine lv_goto (tgt := 125) hx hb d_cWr_writeLetter_103 (by decide) ?_
    exact w_cWr_writeLetter_J125 hC Heq Kr _ _ _ hP hD hS (lv_sub hl [0] rfl)
def m_cWr_writeLetter_J54 (N : Nat → Nat) (x0 : Nat) (S : CS) (x1 : Int32) (x3 : Int32) : Option CS := gl x0 (N 2) (gn (S.r 2 1 x0) (N 5) (fun j_1 => ob (m_cRw_write N j_1 S 92) (fun o_4 => m_cWr_writeLetter_J63 N x0 o_4 x1 x3)))
set_option maxHeartbeats 4000000 in
set_option maxRecDepth 100000 in
theorem w_cWr_writeLetter_J54 {p : Program} {l : Launch} {e : Env} {s : State} {m : MethodId} {args : Array Value} {below : List Frame} {meth : Method} {c : Code} {A : Nat → Prop} {D : va_G} {ad : Nat → Nat → Nat} {cc : Nat → ClassId} {sad sav : Nat → Nat} {Q : State → Prop} (hC : MCc sad sav "JoinedTrees$JsonWriter" prog_4_method_9_code 4 none p s m args meth c A D cc) {N : Nat → Nat} {x0 : Nat} {S : CS} {x1 : Int32} {x3 : Int32} {o : CS} (Heq : m_cWr_writeLetter_J54 N x0 S x1 x3 = some o) (Kr : ∀ r : CS, o = r → ∀ (pc : Nat) (H : Heap) (locs : List Loc) (ls : Array Slot), decode prog_4_method_9_code pc = .ok (.return_, 1) → va_P D cls (cw ad cc N r) H → va_D A (cw ad cc N r) → va_S A s.heap H locs → W p l e ({ frames := 1, cells := 0, slots := 0, locals := 21 }) s m args below meth c H locs 0 0 Q (F0 m pc ls [])) : ∀ (H : Heap) (locs : List Loc) (ls : Array Slot), va_P D cls (cw ad cc N S) H → va_D A (cw ad cc N S) → va_S A s.heap H locs → lv_has ls 4 [(0, .ref (ad 2 x0)), (1, .int x1), (3, .int x3)] → W p l e ({ frames := 1, cells := 0, slots := 0, locals := 21 }) s m args below meth c H locs 0 0 Q (F0 m 54 ls []) := by
  intro H locs ls hP hD hS hl
  obtain ⟨hx, hb, hr, hml, hown, hts, hK, hA, hev, hE, hN, hNS⟩ := id hC
  unfold m_cWr_writeLetter_J54 at Heq
  refine lv_aload_n hx hb d_cWr_writeLetter_54 rfl (lv_at hl 0 rfl) ?_
  obtain ⟨hl_x0_2, Heq⟩ := gl_some Heq
  refine va_get (D := D) (ci := 2) (v := rv ad 5 (S.r 2 1 x0)) (C := R_Wr) (T := F_Wr) (N := 2) hx hb hts i_Wr hown hK hP (cPos N 2 x0) (cw_obj (k := 2) (by decide) hl_x0_2) rfl 1 (by decide) (hts _ kw_386) (fun _ h9 => h9) rfl d_cWr_writeLetter_55 ?_
  refine lv_bipush (v := 92) hx hb d_cWr_writeLetter_58 (by decide) ?_
  obtain ⟨j_1, hj_2, hl_3, Heq⟩ := gn_some Heq
  refine w_s (st' := [.int 92, .ref (ad 5 j_1)]) (congrArg (fun z9 : Option Nat => [.int 92, rv ad 5 z9]) hj_2) ?_
  obtain ⟨o_4, h_5, Heq⟩ := ob_some Heq
  have hFc := fr_all hD hS hA
  refine va_callv (va_runV (As := [.int 92]) (rest := []) ⟨hx, hb, hml, hown, hts⟩ (g_cRw_write l D H.size (ad := ad) (cc := cc) (sad := sad) (sav := sav) h_5) (cw_v 1 hts kw_549 kw_1232 kw_547 kw_548 kw_4 rfl rfl (by decide +kernel) ⟨Nat.le_of_ble_eq_true rfl, Nat.le_of_ble_eq_true rfl⟩) ⟨c_blind, va_recv hK hP (ci := 5) (q0 := cPos N 5 j_1) rfl (cw_obj (k := 5) (by decide) hl_3), fun U hU hW => c_pre hU hW hP hK hD hev hE hN hNS hS hFc⟩ rfl rfl hl.1 rfl (lv_room (Nat.le_of_ble_eq_true rfl)) d_cWr_writeLetter_60 ⟨Nat.le_of_ble_eq_true rfl, Nat.le_of_ble_eq_true rfl⟩) hS (fun q _ h => hFc q h) hFc (fun u t H1 locs ht hvm hw hB hz1 hk1 hS => ?_)
  obtain ⟨hP, -, hD1⟩ := hB
  rw [ht] at hP
  have hD := hD1.weaken (fun _ q _ h => hFc q.1 h)
  generalize H1 = H at hP hS ⊢
  refine W.cs (cells' := 0) (slots' := 0) rfl rfl ?_
  exact w_cWr_writeLetter_J63 hC Heq Kr _ _ _ hP hD hS (lv_sub hl [0, 1, 2] rfl)
def m_cWr_writeLetter_J45 (N : Nat → Nat) (x0 : Nat) (S : CS) (x1 : Int32) (x2 : Int32) (t0 : Int32) : Option CS := (if x2 = 0 then (if t0 = 0 then m_cWr_writeLetter_J63 N x0 S x1 t0 else m_cWr_writeLetter_J54 N x0 S x1 t0) else m_cWr_writeLetter_J54 N x0 S x1 t0)
theorem d_cWr_writeLetter_50 : decode prog_4_method_9_code 50 = .ok (.iload_n 3, 1) := by decide +kernel
theorem d_cWr_writeLetter_51 : decode prog_4_method_9_code 51 = .ok (.ifCond .eq 12, 3) := by decide +kernel
set_option maxHeartbeats 4000000 in
set_option maxRecDepth 100000 in
theorem w_cWr_writeLetter_J45 {p : Program} {l : Launch} {e : Env} {s : State} {m : MethodId} {args : Array Value} {below : List Frame} {meth : Method} {c : Code} {A : Nat → Prop} {D : va_G} {ad : Nat → Nat → Nat} {cc : Nat → ClassId} {sad sav : Nat → Nat} {Q : State → Prop} (hC : MCc sad sav "JoinedTrees$JsonWriter" prog_4_method_9_code 4 none p s m args meth c A D cc) {N : Nat → Nat} {x0 : Nat} {S : CS} {x1 : Int32} {x2 : Int32} {t0 : Int32} {o : CS} (Heq : m_cWr_writeLetter_J45 N x0 S x1 x2 t0 = some o) (Kr : ∀ r : CS, o = r → ∀ (pc : Nat) (H : Heap) (locs : List Loc) (ls : Array Slot), decode prog_4_method_9_code pc = .ok (.return_, 1) → va_P D cls (cw ad cc N r) H → va_D A (cw ad cc N r) → va_S A s.heap H locs → W p l e ({ frames := 1, cells := 0, slots := 0, locals := 21 }) s m args below meth c H locs 0 0 Q (F0 m pc ls [])) : ∀ (H : Heap) (locs : List Loc) (ls : Array Slot), va_P D cls (cw ad cc N S) H → va_D A (cw ad cc N S) → va_S A s.heap H locs → lv_has ls 4 [(0, .ref (ad 2 x0)), (1, .int x1), (2, .int x2)] → W p l e ({ frames := 1, cells := 0, slots := 0, locals := 21 }) s m args below meth c H locs 0 0 Q (F0 m 45 ls [.int t0]) := by
  intro H locs ls hP hD hS hl
  obtain ⟨hx, hb, hr, hml, hown, hts, hK, hA, hev, hE, hN, hNS⟩ := id hC
  unfold m_cWr_writeLetter_J45 at Heq
  refine lv_istore_n (lv' := [(3, .int t0), (0, .ref (ad 2 x0)), (1, .int x1), (2, .int x2)]) hx hb d_cWr_writeLetter_45 rfl hl (by decide) rfl (fun ls hl => ?_)
  refine lv_iload_n hx hb d_cWr_writeLetter_46 rfl (lv_at hl 3 rfl) ?_
  refine lv_if_ne (tgt := 54) hx hb d_cWr_writeLetter_47 (by decide) (fun c_1 => ?_) (fun c_1 => ?_)
  · replace Heq := (if_neg c_1).symm.trans Heq
    exact w_cWr_writeLetter_J54 hC Heq Kr _ _ _ hP hD hS (lv_sub hl [1, 2, 0] rfl)
  · replace Heq := (if_pos c_1).symm.trans Heq
    refine lv_iload_n hx hb d_cWr_writeLetter_50 rfl (lv_at hl 0 rfl) ?_
    refine lv_if_eq (tgt := 63) hx hb d_cWr_writeLetter_51 (by decide) (fun c_2 => ?_) (fun c_2 => ?_)
    · replace Heq := (if_pos c_2).symm.trans Heq
      exact w_cWr_writeLetter_J63 hC Heq Kr _ _ _ hP hD hS (lv_sub hl [1, 2, 0] rfl)
    · replace Heq := (if_neg c_2).symm.trans Heq
      exact w_cWr_writeLetter_J54 hC Heq Kr _ _ _ hP hD hS (lv_sub hl [1, 2, 0] rfl)
def m_cWr_writeLetter_J44 (N : Nat → Nat) (x0 : Nat) (S : CS) (x1 : Int32) (x2 : Int32) : Option CS := m_cWr_writeLetter_J45 N x0 S x1 x2 0
set_option maxHeartbeats 4000000 in
set_option maxRecDepth 100000 in
theorem w_cWr_writeLetter_J44 {p : Program} {l : Launch} {e : Env} {s : State} {m : MethodId} {args : Array Value} {below : List Frame} {meth : Method} {c : Code} {A : Nat → Prop} {D : va_G} {ad : Nat → Nat → Nat} {cc : Nat → ClassId} {sad sav : Nat → Nat} {Q : State → Prop} (hC : MCc sad sav "JoinedTrees$JsonWriter" prog_4_method_9_code 4 none p s m args meth c A D cc) {N : Nat → Nat} {x0 : Nat} {S : CS} {x1 : Int32} {x2 : Int32} {o : CS} (Heq : m_cWr_writeLetter_J44 N x0 S x1 x2 = some o) (Kr : ∀ r : CS, o = r → ∀ (pc : Nat) (H : Heap) (locs : List Loc) (ls : Array Slot), decode prog_4_method_9_code pc = .ok (.return_, 1) → va_P D cls (cw ad cc N r) H → va_D A (cw ad cc N r) → va_S A s.heap H locs → W p l e ({ frames := 1, cells := 0, slots := 0, locals := 21 }) s m args below meth c H locs 0 0 Q (F0 m pc ls [])) : ∀ (H : Heap) (locs : List Loc) (ls : Array Slot), va_P D cls (cw ad cc N S) H → va_D A (cw ad cc N S) → va_S A s.heap H locs → lv_has ls 4 [(0, .ref (ad 2 x0)), (1, .int x1), (2, .int x2)] → W p l e ({ frames := 1, cells := 0, slots := 0, locals := 21 }) s m args below meth c H locs 0 0 Q (F0 m 44 ls []) := by
  intro H locs ls hP hD hS hl
  obtain ⟨hx, hb, hr, hml, hown, hts, hK, hA, hev, hE, hN, hNS⟩ := id hC
  unfold m_cWr_writeLetter_J44 at Heq
  refine lv_iconst (v := 0) hx hb d_cWr_writeLetter_44 (by decide) ?_
  exact w_cWr_writeLetter_J45 hC Heq Kr _ _ _ hP hD hS (lv_sub hl [0, 1, 2] rfl)
def m_cWr_writeLetter_J40 (N : Nat → Nat) (x0 : Nat) (S : CS) (x1 : Int32) (x2 : Int32) : Option CS := m_cWr_writeLetter_J45 N x0 S x1 x2 1
theorem d_cWr_writeLetter_28 : decode prog_4_method_9_code 28 = .ok (.iload_n 1, 1) := by decide +kernel
theorem d_cWr_writeLetter_29 : decode prog_4_method_9_code 29 = .ok (.bipush 32, 2) := by decide +kernel
theorem d_cWr_writeLetter_31 : decode prog_4_method_9_code 31 = .ok (.if_icmp .lt 9, 3) := by decide +kernel
theorem d_cWr_writeLetter_40 : decode prog_4_method_9_code 40 = .ok (.iconst 1, 1) := by decide +kernel
theorem d_cWr_writeLetter_41 : decode prog_4_method_9_code 41 = .ok (.goto 4, 3) := by decide +kernel
set_option maxHeartbeats 4000000 in
set_option maxRecDepth 100000 in
theorem w_cWr_writeLetter_J40 {p : Program} {l : Launch} {e : Env} {s : State} {m : MethodId} {args : Array Value} {below : List Frame} {meth : Method} {c : Code} {A : Nat → Prop} {D : va_G} {ad : Nat → Nat → Nat} {cc : Nat → ClassId} {sad sav : Nat → Nat} {Q : State → Prop} (hC : MCc sad sav "JoinedTrees$JsonWriter" prog_4_method_9_code 4 none p s m args meth c A D cc) {N : Nat → Nat} {x0 : Nat} {S : CS} {x1 : Int32} {x2 : Int32} {o : CS} (Heq : m_cWr_writeLetter_J40 N x0 S x1 x2 = some o) (Kr : ∀ r : CS, o = r → ∀ (pc : Nat) (H : Heap) (locs : List Loc) (ls : Array Slot), decode prog_4_method_9_code pc = .ok (.return_, 1) → va_P D cls (cw ad cc N r) H → va_D A (cw ad cc N r) → va_S A s.heap H locs → W p l e ({ frames := 1, cells := 0, slots := 0, locals := 21 }) s m args below meth c H locs 0 0 Q (F0 m pc ls [])) : ∀ (H : Heap) (locs : List Loc) (ls : Array Slot), va_P D cls (cw ad cc N S) H → va_D A (cw ad cc N S) → va_S A s.heap H locs → lv_has ls 4 [(0, .ref (ad 2 x0)), (1, .int x1), (2, .int x2)] → W p l e ({ frames := 1, cells := 0, slots := 0, locals := 21 }) s m args below meth c H locs 0 0 Q (F0 m 40 ls []) := by
  intro H locs ls hP hD hS hl
  obtain ⟨hx, hb, hr, hml, hown, hts, hK, hA, hev, hE, hN, hNS⟩ := id hC
  unfold m_cWr_writeLetter_J40 at Heq
  refine lv_iconst (v := 1) hx hb d_cWr_writeLetter_40 (by decide) ?_
  refine lv_goto (tgt := 45) hx hb d_cWr_writeLetter_41 (by decide) ?_
  exact w_cWr_writeLetter_J45 hC Heq Kr _ _ _ hP hD hS (lv_sub hl [0, 1, 2] rfl)
def m_cWr_writeLetter_J23 (N : Nat → Nat) (x0 : Nat) (S : CS) (x1 : Int32) (t0 : Int32) : Option CS := (if t0 = 0 then (if x1 < 32 then m_cWr_writeLetter_J40 N x0 S x1 t0 else (if x1 ≤ 126 then m_cWr_writeLetter_J44 N x0 S x1 t0 else m_cWr_writeLetter_J40 N x0 S x1 t0)) else m_cWr_writeLetter_J44 N x0 S x1 t0)
theorem d_cWr_writeLetter_34 : decode prog_4_method_9_code 34 = .ok (.iload_n 1, 1) := by decide +kernel
theorem d_cWr_writeLetter_35 : decode prog_4_method_9_code 35 = .ok (.bipush 126, 2) := by decide +kernel
theorem d_cWr_writeLetter_37 : decode prog_4_method_9_code 37 = .ok (.if_icmp .le 7, 3) := by decide +kernel
set_option maxHeartbeats 4000000 in
set_option maxRecDepth 100000 in
theorem w_cWr_writeLetter_J23 {p : Program} {l : Launch} {e : Env} {s : State} {m : MethodId} {args : Array Value} {below : List Frame} {meth : Method} {c : Code} {A : Nat → Prop} {D : va_G} {ad : Nat → Nat → Nat} {cc : Nat → ClassId} {sad sav : Nat → Nat} {Q : State → Prop} (hC : MCc sad sav "JoinedTrees$JsonWriter" prog_4_method_9_code 4 none p s m args meth c A D cc) {N : Nat → Nat} {x0 : Nat} {S : CS} {x1 : Int32} {t0 : Int32} {o : CS} (Heq : m_cWr_writeLetter_J23 N x0 S x1 t0 = some o) (Kr : ∀ r : CS, o = r → ∀ (pc : Nat) (H : Heap) (locs : List Loc) (ls : Array Slot), decode prog_4_method_9_code pc = .ok (.return_, 1) → va_P D cls (cw ad cc N r) H → va_D A (cw ad cc N r) → va_S A s.heap H locs → W p l e ({ frames := 1, cells := 0, slots := 0, locals := 21 }) s m args below meth c H locs 0 0 Q (F0 m pc ls [])) : ∀ (H : Heap) (locs : List Loc) (ls : Array Slot), va_P D cls (cw ad cc N S) H → va_D A (cw ad cc N S) → va_S A s.heap H locs → lv_has ls 4 [(0, .ref (ad 2 x0)), (1, .int x1)] → W p l e ({ frames := 1, cells := 0, slots := 0, locals := 21 }) s m args below meth c H locs 0 0 Q (F0 m 23 ls [.int t0]) := by
  intro H locs ls hP hD hS hl
  obtain ⟨hx, hb, hr, hml, hown, hts, hK, hA, hev, hE, hN, hNS⟩ := id hC
  unfold m_cWr_writeLetter_J23 at Heq
  refine lv_istore_n (lv' := [(2, .int t0), (0, .ref (ad 2 x0)), (1, .int x1)]) hx hb d_cWr_writeLetter_23 rfl hl (by decide) rfl (fun ls hl => ?_)
  refine lv_iload_n hx hb d_cWr_writeLetter_24 rfl (lv_at hl 0 rfl) ?_
  refine lv_if_ne (tgt := 44) hx hb d_cWr_writeLetter_25 (by decide) (fun c_1 => ?_) (fun c_1 => ?_)
  · replace Heq := (if_neg c_1).symm.trans Heq
    exact w_cWr_writeLetter_J44 hC Heq Kr _ _ _ hP hD hS (lv_sub hl [1, 2, 0] rfl)
  · replace Heq := (if_pos c_1).symm.trans Heq
    refine lv_iload_n hx hb d_cWr_writeLetter_28 rfl (lv_at hl 2 rfl) ?_
    refine lv_bipush (v := 32) hx hb d_cWr_writeLetter_29 (by decide) ?_
    refine lv_icmp_lt (tgt := 40) hx hb d_cWr_writeLetter_31 (by decide) (fun c_2 => ?_) (fun c_2 => ?_)
    · replace Heq := (if_pos c_2).symm.trans Heq
      exact w_cWr_writeLetter_J40 hC Heq Kr _ _ _ hP hD hS (lv_sub hl [1, 2, 0] rfl)
    · replace Heq := (if_neg c_2).symm.trans Heq
      refine lv_iload_n hx hb d_cWr_writeLetter_34 rfl (lv_at hl 2 rfl) ?_
      refine lv_bipush (v := 126) hx hb d_cWr_writeLetter_35 (by decide) ?_
      refine lv_icmp_le (tgt := 44) hx hb d_cWr_writeLetter_37 (by decide) (fun c_3 => ?_) (fun c_3 => ?_)
      · replace Heq := (if_pos c_3).symm.trans Heq
        exact w_cWr_writeLetter_J44 hC Heq Kr _ _ _ hP hD hS (lv_sub hl [1, 2, 0] rfl)
      · replace Heq := (if_neg c_3).symm.trans Heq
        exact w_cWr_writeLetter_J40 hC Heq Kr _ _ _ hP hD hS (lv_sub hl [1, 2, 0] rfl)
def m_cWr_writeLetter_J18 (N : Nat → Nat) (x0 : Nat) (S : CS) (x1 : Int32) : Option CS := m_cWr_writeLetter_J23 N x0 S x1 1
set_option maxHeartbeats 4000000 in
set_option maxRecDepth 100000 in
theorem w_cWr_writeLetter_J18 {p : Program} {l : Launch} {e : Env} {s : State} {m : MethodId} {args : Array Value} {below : List Frame} {meth : Method} {c : Code} {A : Nat → Prop} {D : va_G} {ad : Nat → Nat → Nat} {cc : Nat → ClassId} {sad sav : Nat → Nat} {Q : State → Prop} (hC : MCc sad sav "JoinedTrees$JsonWriter" prog_4_method_9_code 4 none p s m args meth c A D cc) {N : Nat → Nat} {x0 : Nat} {S : CS} {x1 : Int32} {o : CS} (Heq : m_cWr_writeLetter_J18 N x0 S x1 = some o) (Kr : ∀ r : CS, o = r → ∀ (pc : Nat) (H : Heap) (locs : List Loc) (ls : Array Slot), decode prog_4_method_9_code pc = .ok (.return_, 1) → va_P D cls (cw ad cc N r) H → va_D A (cw ad cc N r) → va_S A s.heap H locs → W p l e ({ frames := 1, cells := 0, slots := 0, locals := 21 }) s m args below meth c H locs 0 0 Q (F0 m pc ls [])) : ∀ (H : Heap) (locs : List Loc) (ls : Array Slot), va_P D cls (cw ad cc N S) H → va_D A (cw ad cc N S) → va_S A s.heap H locs → lv_has ls 4 [(0, .ref (ad 2 x0)), (1, .int x1)] → W p l e ({ frames := 1, cells := 0, slots := 0, locals := 21 }) s m args below meth c H locs 0 0 Q (F0 m 18 ls []) := by
  intro H locs ls hP hD hS hl
  obtain ⟨hx, hb, hr, hml, hown, hts, hK, hA, hev, hE, hN, hNS⟩ := id hC
  unfold m_cWr_writeLetter_J18 at Heq
  refine lv_iconst (v := 1) hx hb d_cWr_writeLetter_18 (by decide) ?_
  refine lv_goto (tgt := 23) hx hb d_cWr_writeLetter_19 (by decide) ?_
  exact w_cWr_writeLetter_J23 hC Heq Kr _ _ _ hP hD hS (lv_sub hl [0, 1] rfl)
def m_cWr_writeLetter_J0 (N : Nat → Nat) (x0 : Nat) (S : CS) (x1 : Int32) : Option CS := (if x1 = 34 then m_cWr_writeLetter_J18 N x0 S x1 else (if x1 = 92 then m_cWr_writeLetter_J18 N x0 S x1 else (if x1 = 10 then m_cWr_writeLetter_J18 N x0 S x1 else m_cWr_writeLetter_J23 N x0 S x1 0)))
theorem d_cWr_writeLetter_6 : decode prog_4_method_9_code 6 = .ok (.iload_n 1, 1) := by decide +kernel
theorem d_cWr_writeLetter_7 : decode prog_4_method_9_code 7 = .ok (.bipush 92, 2) := by decide +kernel
theorem d_cWr_writeLetter_9 : decode prog_4_method_9_code 9 = .ok (.if_icmp .eq 9, 3) := by decide +kernel
theorem d_cWr_writeLetter_12 : decode prog_4_method_9_code 12 = .ok (.iload_n 1, 1) := by decide +kernel
theorem d_cWr_writeLetter_13 : decode prog_4_method_9_code 13 = .ok (.bipush 10, 2) := by decide +kernel
theorem d_cWr_writeLetter_15 : decode prog_4_method_9_code 15 = .ok (.if_icmp .ne 7, 3) := by decide +kernel
theorem d_cWr_writeLetter_22 : decode prog_4_method_9_code 22 = .ok (.iconst 0, 1) := by decide +kernel
set_option maxHeartbeats 4000000 in
set_option maxRecDepth 100000 in
theorem w_cWr_writeLetter_J0 {p : Program} {l : Launch} {e : Env} {s : State} {m : MethodId} {args : Array Value} {below : List Frame} {meth : Method} {c : Code} {A : Nat → Prop} {D : va_G} {ad : Nat → Nat → Nat} {cc : Nat → ClassId} {sad sav : Nat → Nat} {Q : State → Prop} (hC : MCc sad sav "JoinedTrees$JsonWriter" prog_4_method_9_code 4 none p s m args meth c A D cc) {N : Nat → Nat} {x0 : Nat} {S : CS} {x1 : Int32} {o : CS} (Heq : m_cWr_writeLetter_J0 N x0 S x1 = some o) (Kr : ∀ r : CS, o = r → ∀ (pc : Nat) (H : Heap) (locs : List Loc) (ls : Array Slot), decode prog_4_method_9_code pc = .ok (.return_, 1) → va_P D cls (cw ad cc N r) H → va_D A (cw ad cc N r) → va_S A s.heap H locs → W p l e ({ frames := 1, cells := 0, slots := 0, locals := 21 }) s m args below meth c H locs 0 0 Q (F0 m pc ls [])) : ∀ (H : Heap) (locs : List Loc) (ls : Array Slot), va_P D cls (cw ad cc N S) H → va_D A (cw ad cc N S) → va_S A s.heap H locs → lv_has ls 4 [(0, .ref (ad 2 x0)), (1, .int x1)] → W p l e ({ frames := 1, cells := 0, slots := 0, locals := 21 }) s m args below meth c H locs 0 0 Q (F0 m 0 ls []) := by
  intro H locs ls hP hD hS hl
  obtain ⟨hx, hb, hr, hml, hown, hts, hK, hA, hev, hE, hN, hNS⟩ := id hC
  unfold m_cWr_writeLetter_J0 at Heq
  refine lv_iload_n hx hb d_cWr_writeLetter_0 rfl (lv_at hl 1 rfl) ?_
  refine lv_bipush (v := 34) hx hb d_cWr_writeLetter_1 (by decide) ?_
  refine lv_icmp_eq (tgt := 18) hx hb d_cWr_writeLetter_3 (by decide) (fun c_1 => ?_) (fun c_1 => ?_)
  · replace Heq := (if_pos c_1).symm.trans Heq
    exact w_cWr_writeLetter_J18 hC Heq Kr _ _ _ hP hD hS (lv_sub hl [0, 1] rfl)
  · replace Heq := (if_neg c_1).symm.trans Heq
    refine lv_iload_n hx hb d_cWr_writeLetter_6 rfl (lv_at hl 1 rfl) ?_
    refine lv_bipush (v := 92) hx hb d_cWr_writeLetter_7 (by decide) ?_
    refine lv_icmp_eq (tgt := 18) hx hb d_cWr_writeLetter_9 (by decide) (fun c_2 => ?_) (fun c_2 => ?_)
    · replace Heq := (if_pos c_2).symm.trans Heq
      exact w_cWr_writeLetter_J18 hC Heq Kr _ _ _ hP hD hS (lv_sub hl [0, 1] rfl)
    · replace Heq := (if_neg c_2).symm.trans Heq
      refine lv_iload_n hx hb d_cWr_writeLetter_12 rfl (lv_at hl 1 rfl) ?_
      refine lv_bipush (v := 10) hx hb d_cWr_writeLetter_13 (by decide) ?_
      refine lv_icmp_ne (tgt := 22) hx hb d_cWr_writeLetter_15 (by decide) (fun c_3 => ?_) (fun c_3 => ?_)
      · replace Heq := (if_neg c_3).symm.trans Heq
        refine lv_iconst (v := 0) hx hb d_cWr_writeLetter_22 (by decide) ?_
        exact w_cWr_writeLetter_J23 hC Heq Kr _ _ _ hP hD hS (lv_sub hl [0, 1] rfl)
      · replace Heq := (if_pos c_3).symm.trans Heq
        exact w_cWr_writeLetter_J18 hC Heq Kr _ _ _ hP hD hS (lv_sub hl [0, 1] rfl)
def m_cWr_writeLetter (N : Nat → Nat) (x0 : Nat) (S : CS) (x1 : Int32) : Option CS := m_cWr_writeLetter_J0 N x0 S x1
set_option maxHeartbeats 4000000 in
theorem g_cWr_writeLetter (l : Launch) (D : va_G) (sz : Nat) {ad : Nat → Nat → Nat} {cc : Nat → ClassId} {sad sav : Nat → Nat} {N : Nat → Nat} {x0 : Nat} {S : CS} {x1 : Int32} {o : CS} (Heq : m_cWr_writeLetter N x0 S x1 = some o) : Met l ⟨"JoinedTrees$JsonWriter", "writeLetter", "(I)V"⟩ (Cond.code ⟨"JoinedTrees$JsonWriter", "writeLetter", "(I)V"⟩ prog_4_method_9_code 4 none :: gb) ({ frames := 1, cells := 0, slots := 0, locals := 21 }) (cPc sad sav D (cw ad cc N S) (cty cc) sz [.ref (ad 2 x0), .int x1]) (va_Qv (fun _ : Unit => True) (fun _ t => gO D (cw ad cc N o) (cty cc) (va_A (cw ad cc N S) sz) t) (va_A (cw ad cc N S) sz)) 0 0 (va_A (cw ad cc N S) sz) := by
  refine Met.ofW (cc := prog_4_method_9_code) (maxL := 4) (ret := none) (by decide) rfl ?_
  intro p e s m args below meth c s₁ B hml hv
  obtain ⟨rfl, hsz, hP, hK, hD0, hev, hE, hN⟩ := hv
  have hx := B.exec
  have hb := B.bytes
  have hr := B.returns
  have hts : ∀ w9 ∈ gb, w9.before [.ref (ad 2 x0), .int x1].toArray s = true := fun w9 h => atoms_spec (ws := Cond.code ⟨"JoinedTrees$JsonWriter", "writeLetter", "(I)V"⟩ prog_4_method_9_code 4 none :: gb) B.pre w9 (List.mem_cons_of_mem _ h)
  have hown : s.vm.findClass "JoinedTrees$JsonWriter" = some m.cls := findClass_of_methodNamed B.named
  have hlocks := B.notSynchronized
  have hNS := ns_of hP
  subst hsz
  have hD := hD0.self (sz := s.heap.size)
  generalize hAe : va_A (cw ad cc N S) s.heap.size = A at hD hev hE hNS ⊢
  have hA : ∀ q : Nat, s.heap.size ≤ q → A q := fun q h => by rw [← hAe]; exact Or.inr h
  have hS : va_S A s.heap s.heap [] := va_S.rf
  obtain ⟨ls, hl, hle⟩ : ∃ ls : Array Slot, lv_has ls 4 [(0, .ref (ad 2 x0)), (1, .int x1)] ∧ entryFrame m ([.ref (ad 2 x0), .int x1] : List Value).toArray 4 = F0 m 0 ls [] := by
    exact ⟨_, lv_entry (n := 4) _ (Nat.le_of_ble_eq_true rfl), lg_entry_eq ..⟩
  rw [hle]
  refine w_cWr_writeLetter_J0 ⟨hx, hb, hr, hml, hown, hts, hK, hA, hev, hE, hN, hNS⟩ Heq (fun r h pc H locs ls hd hP hD hS => ?_) _ _ _ hP hD hS (lv_sub hl [0, 1] rfl)
  subst h
  exact W.vret hx hb hr (fun t ht hW => ⟨⟨(), rfl, trivial, by rw [ht]; exact hP, va_K.moved hW.alike hK, hD⟩, hS.F ht⟩) hS.2.2 hd
