def m_rword_J47 (S : MS) (x1 : Nat) (x2 : Int32) : Option ((MS × Nat × Int32) ⊕ MS) := some (.inl (S, x1, (x2 + 1)))
theorem d_rword_0 : decode prog_14_method_41_code 0 = .ok (.iconst 0, 1) := by decide +kernel
theorem d_rword_1 : decode prog_14_method_41_code 1 = .ok (.istore_n 2, 1) := by decide +kernel
theorem d_rword_2 : decode prog_14_method_41_code 2 = .ok (.iload_n 2, 1) := by decide +kernel
theorem d_rword_3 : decode prog_14_method_41_code 3 = .ok (.aload_n 1, 1) := by decide +kernel
theorem d_rword_4 : decode prog_14_method_41_code 4 = .ok (.invokevirtual 319, 3) := by decide +kernel
theorem d_rword_7 : decode prog_14_method_41_code 7 = .ok (.if_icmp .ge 46, 3) := by decide +kernel
theorem d_rword_10 : decode prog_14_method_41_code 10 = .ok (.aload_n 0, 1) := by decide +kernel
theorem d_rword_11 : decode prog_14_method_41_code 11 = .ok (.getfield 324, 3) := by decide +kernel
theorem d_rword_14 : decode prog_14_method_41_code 14 = .ok (.ifCond .ne 39, 3) := by decide +kernel
theorem d_rword_17 : decode prog_14_method_41_code 17 = .ok (.aload_n 0, 1) := by decide +kernel
theorem d_rword_18 : decode prog_14_method_41_code 18 = .ok (.invokevirtual 316, 3) := by decide +kernel
theorem d_rword_21 : decode prog_14_method_41_code 21 = .ok (.aload_n 1, 1) := by decide +kernel
theorem d_rword_22 : decode prog_14_method_41_code 22 = .ok (.iload_n 2, 1) := by decide +kernel
theorem d_rword_23 : decode prog_14_method_41_code 23 = .ok (.invokevirtual 328, 3) := by decide +kernel
theorem d_rword_26 : decode prog_14_method_41_code 26 = .ok (.if_icmp .eq 11, 3) := by decide +kernel
theorem d_rword_37 : decode prog_14_method_41_code 37 = .ok (.aload_n 0, 1) := by decide +kernel
theorem d_rword_38 : decode prog_14_method_41_code 38 = .ok (.dup, 1) := by decide +kernel
theorem d_rword_39 : decode prog_14_method_41_code 39 = .ok (.getfield 313, 3) := by decide +kernel
theorem d_rword_42 : decode prog_14_method_41_code 42 = .ok (.iconst 1, 1) := by decide +kernel
theorem d_rword_43 : decode prog_14_method_41_code 43 = .ok (.iadd, 1) := by decide +kernel
theorem d_rword_44 : decode prog_14_method_41_code 44 = .ok (.putfield 313, 3) := by decide +kernel
theorem d_rword_47 : decode prog_14_method_41_code 47 = .ok (.iinc 2 1, 3) := by decide +kernel
theorem d_rword_50 : decode prog_14_method_41_code 50 = .ok (.goto (-48), 3) := by decide +kernel
set_option maxHeartbeats 4000000 in
set_option maxRecDepth 100000 in
theorem w_rword_J47 {p : Program} {l : Launch} {e : Env} {s : State} {m : MethodId} {args : Array Value} {below : List Frame} {meth : Method} {c : Code} {A : Nat → Prop} {D : va_G} {md : Nat → Nat} {mc : Nat → ClassId} {Q : State → Prop} {sad sav : Nat → Nat} (hC : MCs sad sav "JoinedTreesModel" prog_14_method_41_code 3 none p s m args meth c A D mc) {S : MS} {x1 : Nat} {x2 : Int32} {o : ((MS × Nat × Int32) ⊕ MS)} (Heq : m_rword_J47 S x1 x2 = some o) (Ka : ∀ b : MS × Nat × Int32, o = .inl b → ∀ (H : Heap) (locs : List Loc) (ls : Array Slot), va_P D cls (mw md mc b.1) H → va_D A (mw md mc b.1) → va_S A s.heap H locs → lv_has ls 3 [(0, .ref (md 100)), (1, .ref (sad b.2.1)), (2, .int b.2.2)] → W p l e ({ frames := 4, cells := 0, slots := 0, locals := 111 }) s m args below meth c H locs 0 0 Q (F0 m 2 ls [])) (K0 : ∀ b : MS, o = .inr b → ∀ (H : Heap) (locs : List Loc) (ls : Array Slot), va_P D cls (mw md mc b) H → va_D A (mw md mc b) → va_S A s.heap H locs → lv_has ls 3 [(0, .ref (md 100))] → W p l e ({ frames := 4, cells := 0, slots := 0, locals := 111 }) s m args below meth c H locs 0 0 Q (F0 m 53 ls [])) : ∀ (H : Heap) (locs : List Loc) (ls : Array Slot), va_P D cls (mw md mc S) H → va_D A (mw md mc S) → va_S A s.heap H locs → lv_has ls 3 [(0, .ref (md 100)), (1, .ref (sad x1)), (2, .int x2)] → W p l e ({ frames := 4, cells := 0, slots := 0, locals := 111 }) s m args below meth c H locs 0 0 Q (F0 m 47 ls []) := by
  intro H locs ls hP hD hS hl
  obtain ⟨⟨hx, hb, hr, hml, hown, hts, hK, hA⟩, hE⟩ := id hC
  unfold m_rword_J47 at Heq
  refine lv_iinc (v := x2 + 1) (lv' := [(2, .int (x2 + 1)), (0, .ref (md 100)), (1, .ref (sad x1))]) hx hb d_rword_47 hl (k := 2) rfl rfl (by decide) rfl (fun ls hl => ?_)
  refine lv_goto (tgt := 2) hx hb d_rword_50 (by decide) ?_
  exact Ka _ (Option.some.inj Heq).symm _ _ _ hP hD hS (lv_sub hl [1, 2, 0] rfl)
def m_rword_B2 (S : MS) (x1 : Nat) (x2 : Int32) : Option ((MS × Nat × Int32) ⊕ MS) := gS x1 ((if nI (sLn x1) ≤ x2 then some (.inr (S)) else (if S.i 68 = 0 then ob (m_rsign S) (fun o_3 => gd x2 (sLn x1) ((if o_3.2 = sCh x1 x2.toNatClampNeg then m_rword_J47 (o_3.1.setI 66 ((o_3.1.i 66) + 1)) x1 x2 else m_rword_J47 (o_3.1.setI 68 1) x1 x2))) else some (.inr (S)))))
theorem d_rword_29 : decode prog_14_method_41_code 29 = .ok (.aload_n 0, 1) := by decide +kernel
theorem d_rword_30 : decode prog_14_method_41_code 30 = .ok (.iconst 1, 1) := by decide +kernel
theorem d_rword_31 : decode prog_14_method_41_code 31 = .ok (.putfield 324, 3) := by decide +kernel
theorem d_rword_34 : decode prog_14_method_41_code 34 = .ok (.goto 13, 3) := by decide +kernel
set_option maxHeartbeats 4000000 in
set_option maxRecDepth 100000 in
theorem w_rword_B2 {p : Program} {l : Launch} {e : Env} {s : State} {m : MethodId} {args : Array Value} {below : List Frame} {meth : Method} {c : Code} {A : Nat → Prop} {D : va_G} {md : Nat → Nat} {mc : Nat → ClassId} {Q : State → Prop} {sad sav : Nat → Nat} (hC : MCs sad sav "JoinedTreesModel" prog_14_method_41_code 3 none p s m args meth c A D mc) {S : MS} {x1 : Nat} {x2 : Int32} {o : ((MS × Nat × Int32) ⊕ MS)} (Heq : m_rword_B2 S x1 x2 = some o) (Ka : ∀ b : MS × Nat × Int32, o = .inl b → ∀ (H : Heap) (locs : List Loc) (ls : Array Slot), va_P D cls (mw md mc b.1) H → va_D A (mw md mc b.1) → va_S A s.heap H locs → lv_has ls 3 [(0, .ref (md 100)), (1, .ref (sad b.2.1)), (2, .int b.2.2)] → W p l e ({ frames := 4, cells := 0, slots := 0, locals := 111 }) s m args below meth c H locs 0 0 Q (F0 m 2 ls [])) (K0 : ∀ b : MS, o = .inr b → ∀ (H : Heap) (locs : List Loc) (ls : Array Slot), va_P D cls (mw md mc b) H → va_D A (mw md mc b) → va_S A s.heap H locs → lv_has ls 3 [(0, .ref (md 100))] → W p l e ({ frames := 4, cells := 0, slots := 0, locals := 111 }) s m args below meth c H locs 0 0 Q (F0 m 53 ls [])) : ∀ (H : Heap) (locs : List Loc) (ls : Array Slot), va_P D cls (mw md mc S) H → va_D A (mw md mc S) → va_S A s.heap H locs → lv_has ls 3 [(0, .ref (md 100)), (1, .ref (sad x1)), (2, .int x2)] → W p l e ({ frames := 4, cells := 0, slots := 0, locals := 111 }) s m args below meth c H locs 0 0 Q (F0 m 2 ls []) := by
  intro H locs ls hP hD hS hl
  obtain ⟨⟨hx, hb, hr, hml, hown, hts, hK, hA⟩, hE⟩ := id hC
  unfold m_rword_B2 at Heq
  refine lv_iload_n hx hb d_rword_2 rfl (lv_at hl 2 rfl) ?_
  refine lv_aload_n hx hb d_rword_3 rfl (lv_at hl 1 rfl) ?_
  obtain ⟨hS_x1, Heq⟩ := gS_some Heq
  have hFc := f_nil hS hA
  refine va_calli (va_runV (As := []) (rest := [.int x2]) ⟨hx, hb, hml, hown, hts⟩ (g_sln l D H.size sad sav hS_x1) (cw_v 0 hts kw_911 kw_1785 kw_909 kw_910 kw_22 rfl rfl (by decide +kernel) ⟨Nat.le_of_ble_eq_true rfl, Nat.le_of_ble_eq_true rfl⟩) ⟨gs_blind, sE_recv hE hS_x1 hS, fun U hU hW => gs_pre hU hW p_nil (hK.sub (tys' := []) [] rfl) d_nil hE hS hFc⟩ rfl rfl hl.1 rfl (lv_room (Nat.le_of_ble_eq_true rfl)) d_rword_4 ⟨Nat.le_of_ble_eq_true rfl, Nat.le_of_ble_eq_true rfl⟩) hS (fun q _ h => hFc q h) hFc (fun rz u t H1 locs ht hvm hw hB hz1 hk1 hS => ?_)
  have hP := p_keep0 hP hk1
  generalize H1 = H at hP hS ⊢
  refine W.cs (cells' := 0) (slots' := 0) rfl rfl ?_
  subst hw
  refine lv_icmp_ge (tgt := 53) hx hb d_rword_7 (by decide) (fun c_1 => ?_) (fun c_1 => ?_)
  · replace Heq := (if_pos c_1).symm.trans Heq
    exact K0 _ (Option.some.inj Heq).symm _ _ _ hP hD hS (lv_sub hl [0] rfl)
  · replace Heq := (if_neg c_1).symm.trans Heq
    refine lv_aload_n hx hb d_rword_10 rfl (lv_at hl 0 rfl) ?_
    refine va_get (D := D) (ci := 12) (v := .int (S.i 68)) (C := R_MM) (T := F_MM) (N := 77) hx hb hts i_MM hown hK hP 0 rfl rfl 68 (by decide) (hts _ kw_1450) (fun _ h9 => h9) rfl d_rword_11 ?_
    refine lv_if_ne (tgt := 53) hx hb d_rword_14 (by decide) (fun c_2 => ?_) (fun c_2 => ?_)
    · replace Heq := (if_neg c_2).symm.trans Heq
      exact K0 _ (Option.some.inj Heq).symm _ _ _ hP hD hS (lv_sub hl [0] rfl)
    · replace Heq := (if_pos c_2).symm.trans Heq
      refine lv_aload_n hx hb d_rword_17 rfl (lv_at hl 0 rfl) ?_
      obtain ⟨o_3, h_4, Heq⟩ := ob_some Heq
      have hFc := fr_all hD hS hA
      refine va_calli (va_runV (As := []) (rest := []) ⟨hx, hb, hml, hown, hts⟩ (g_rsign l D H.size h_4) (cw_v 0 hts kw_1777 kw_1774 kw_1776 kp_57 kw_11 rfl rfl (by decide +kernel) ⟨Nat.le_of_ble_eq_true rfl, Nat.le_of_ble_eq_true rfl⟩) ⟨g_blind, va_recv hK hP (ci := 12) (q0 := 0) rfl rfl, fun U hU hW => g_pre hU hW hP hK hD⟩ rfl rfl hl.1 rfl (lv_room (Nat.le_of_ble_eq_true rfl)) d_rword_18 ⟨Nat.le_of_ble_eq_true rfl, Nat.le_of_ble_eq_true rfl⟩) hS (fun q _ h => hFc q h) hFc (fun rz u t H1 locs ht hvm hw hB hz1 hk1 hS => ?_)
      obtain ⟨hP, -, hD1⟩ := hB
      rw [ht] at hP
      have hD := hD1.weaken (fun _ q _ h => hFc q.1 h)
      generalize H1 = H at hP hS ⊢
      refine W.cs (cells' := 0) (slots' := 0) rfl rfl ?_
      subst hw
      refine lv_aload_n hx hb d_rword_21 rfl (lv_at hl 1 rfl) ?_
      refine lv_iload_n hx hb d_rword_22 rfl (lv_at hl 2 rfl) ?_
      obtain ⟨hi_5, Heq⟩ := gd_some Heq
      obtain ⟨jhi_5, ehi_5⟩ := nI_of (fun q => hi_5 (Or.inl q))
      have fhi_5 : x2 = nI x2.toNatClampNeg := by rw [ehi_5.2, nI_clamp ehi_5.1]
      refine w_i (y := nI x2.toNatClampNeg) fhi_5 ?_
      have hFc := f_nil hS hA
      refine va_calli (va_runV (As := [.int (nI x2.toNatClampNeg)]) (rest := [.int o_3.2]) ⟨hx, hb, hml, hown, hts⟩ (g_sca l D H.size sad sav hS_x1 (vp_in.lt hi_5)) (cw_v 1 hts kw_921 kw_1786 kw_919 kw_920 kw_22 rfl rfl (by decide +kernel) ⟨Nat.le_of_ble_eq_true rfl, Nat.le_of_ble_eq_true rfl⟩) ⟨gs_blind, sE_recv hE hS_x1 hS, fun U hU hW => gs_pre hU hW p_nil (hK.sub (tys' := []) [] rfl) d_nil hE hS hFc⟩ rfl rfl hl.1 rfl (lv_room (Nat.le_of_ble_eq_true rfl)) d_rword_23 ⟨Nat.le_of_ble_eq_true rfl, Nat.le_of_ble_eq_true rfl⟩) hS (fun q _ h => hFc q h) hFc (fun rz u t H1 locs ht hvm hw hB hz1 hk1 hS => ?_)
      have hP := p_keep0 hP hk1
      generalize H1 = H at hP hS ⊢
      refine W.cs (cells' := 0) (slots' := 0) rfl rfl ?_
      subst hw
      refine lv_icmp_eq (tgt := 37) hx hb d_rword_26 (by decide) (fun c_6 => ?_) (fun c_6 => ?_)
      · replace Heq := (if_pos c_6).symm.trans Heq
        refine lv_aload_n hx hb d_rword_37 rfl (lv_at hl 0 rfl) ?_
        refine lv_dup hx hb d_rword_38 rfl ?_
        refine va_get (D := D) (ci := 12) (v := .int (o_3.1.i 66)) (C := R_MM) (T := F_MM) (N := 77) hx hb hts i_MM hown hK hP 0 rfl rfl 66 (by decide) (hts _ kw_1448) (fun _ h9 => h9) rfl d_rword_39 ?_
        refine lv_iconst (v := 1) hx hb d_rword_42 (by decide) ?_
        refine lv_iadd hx hb d_rword_43 ?_
        refine w_i (y := (o_3.1.i 66) + 1) rfl ?_
        refine va_put (D := D) (ci := 12) (v := .int ((o_3.1.i 66) + 1)) (ty := .int) (C := R_MM) (T := F_MM) (N := 77) hx hb hts i_MM t_MM t_MM_ok n_MM hown hK hP hD hS 0 rfl rfl 66 (by decide) (hts _ kw_1448) (fun _ h9 => h9) rfl (by decide +kernel) rfl rfl (Nat.le_of_ble_eq_true rfl) d_rword_44 (fun H locs hP hD hS => ?_)
        rw [mw_I66] at hP hD
        exact w_rword_J47 hC Heq Ka K0 _ _ _ hP hD hS (lv_sub hl [0, 1, 2] rfl)
      · replace Heq := (if_neg c_6).symm.trans Heq
        refine lv_aload_n hx hb d_rword_29 rfl (lv_at hl 0 rfl) ?_
        refine lv_iconst (v := 1) hx hb d_rword_30 (by decide) ?_
        refine va_put (D := D) (ci := 12) (v := .int 1) (ty := .boolean) (C := R_MM) (T := F_MM) (N := 77) hx hb hts i_MM t_MM t_MM_ok n_MM hown hK hP hD hS 0 rfl rfl 68 (by decide) (hts _ kw_1450) (fun _ h9 => h9) rfl (by decide +kernel) (by decide) (by decide) (Nat.le_of_ble_eq_true rfl) d_rword_31 (fun H locs hP hD hS => ?_)
        rw [mw_I68] at hP hD
        refine lv_goto (tgt := 47) hx hb d_rword_34 (by decide) ?_
        exact w_rword_J47 hC Heq Ka K0 _ _ _ hP hD hS (lv_sub hl [0, 1, 2] rfl)
def m_rword_L2 (S : MS) (x1 : Nat) (x2 : Int32) : Option MS := lp (fun a : MS × Nat × Int32 => m_rword_B2 a.1 a.2.1 a.2.2) FU (S, x1, x2)
theorem w_rword_L2 {p : Program} {l : Launch} {e : Env} {s : State} {m : MethodId} {args : Array Value} {below : List Frame} {meth : Method} {c : Code} {A : Nat → Prop} {D : va_G} {md : Nat → Nat} {mc : Nat → ClassId} {Q : State → Prop} {sad sav : Nat → Nat} (hC : MCs sad sav "JoinedTreesModel" prog_14_method_41_code 3 none p s m args meth c A D mc) {S : MS} {x1 : Nat} {x2 : Int32} {o : MS} (Heq : m_rword_L2 S x1 x2 = some o) (K0 : ∀ b : MS, o = b → ∀ (H : Heap) (locs : List Loc) (ls : Array Slot), va_P D cls (mw md mc b) H → va_D A (mw md mc b) → va_S A s.heap H locs → lv_has ls 3 [(0, .ref (md 100))] → W p l e ({ frames := 4, cells := 0, slots := 0, locals := 111 }) s m args below meth c H locs 0 0 Q (F0 m 53 ls [])) : ∀ (H : Heap) (locs : List Loc) (ls : Array Slot), va_P D cls (mw md mc S) H → va_D A (mw md mc S) → va_S A s.heap H locs → lv_has ls 3 [(0, .ref (md 100)), (1, .ref (sad x1)), (2, .int x2)] → W p l e ({ frames := 4, cells := 0, slots := 0, locals := 111 }) s m args below meth c H locs 0 0 Q (F0 m 2 ls []) := by
  refine lp_w (G := fun a : MS × Nat × Int32 => ∀ (H : Heap) (locs : List Loc) (ls : Array Slot), va_P D cls (mw md mc a.1) H → va_D A (mw md mc a.1) → va_S A s.heap H locs → lv_has ls 3 [(0, .ref (md 100)), (1, .ref (sad a.2.1)), (2, .int a.2.2)] → W p l e ({ frames := 4, cells := 0, slots := 0, locals := 111 }) s m args below meth c H locs 0 0 Q (F0 m 2 ls [])) ?_ FU (S, x1, x2) Heq
  intro a o1 ho Ka Ke
  exact w_rword_B2 hC ho (fun b h => Ka b h) (fun b h => K0 b (Ke _ h).symm)
def m_rword_J53 (S : MS) : Option MS := some S
theorem d_rword_53 : decode prog_14_method_41_code 53 = .ok (.return_, 1) := by decide +kernel
set_option maxHeartbeats 4000000 in
set_option maxRecDepth 100000 in
theorem w_rword_J53 {p : Program} {l : Launch} {e : Env} {s : State} {m : MethodId} {args : Array Value} {below : List Frame} {meth : Method} {c : Code} {A : Nat → Prop} {D : va_G} {md : Nat → Nat} {mc : Nat → ClassId} {Q : State → Prop} {sad sav : Nat → Nat} (hC : MCs sad sav "JoinedTreesModel" prog_14_method_41_code 3 none p s m args meth c A D mc) {S : MS} {o : MS} (Heq : m_rword_J53 S = some o) (Kr : ∀ r : MS, o = r → ∀ (pc : Nat) (H : Heap) (locs : List Loc) (ls : Array Slot), decode prog_14_method_41_code pc = .ok (.return_, 1) → va_P D cls (mw md mc r) H → va_D A (mw md mc r) → va_S A s.heap H locs → W p l e ({ frames := 4, cells := 0, slots := 0, locals := 111 }) s m args below meth c H locs 0 0 Q (F0 m pc ls [])) : ∀ (H : Heap) (locs : List Loc) (ls : Array Slot), va_P D cls (mw md mc S) H → va_D A (mw md mc S) → va_S A s.heap H locs → lv_has ls 3 [(0, .ref (md 100))] → W p l e ({ frames := 4, cells := 0, slots := 0, locals := 111 }) s m args below meth c H locs 0 0 Q (F0 m 53 ls []) := by
  intro H locs ls hP hD hS hl
  obtain ⟨⟨hx, hb, hr, hml, hown, hts, hK, hA⟩, hE⟩ := id hC
  unfold m_rword_J53 at Heq
  exact Kr _ (Option.some.inj Heq).symm 53 _ _ _ d_rword_53 hP hD hS
def m_rword_J0 (S : MS) (x1 : Nat) : Option MS := ob (m_rword_L2 S x1 0) (fun b_1 => m_rword_J53 b_1)
set_option maxHeartbeats 4000000 in
set_option maxRecDepth 100000 in
theorem w_rword_J0 {p : Program} {l : Launch} {e : Env} {s : State} {m : MethodId} {args : Array Value} {below : List Frame} {meth : Method} {c : Code} {A : Nat → Prop} {D : va_G} {md : Nat → Nat} {mc : Nat → ClassId} {Q : State → Prop} {sad sav : Nat → Nat} (hC : MCs sad sav "JoinedTreesModel" prog_14_method_41_code 3 none p s m args meth c A D mc) {S : MS} {x1 : Nat} {o : MS} (Heq : m_rword_J0 S x1 = some o) (Kr : ∀ r : MS, o = r → ∀ (pc : Nat) (H : Heap) (locs : List Loc) (ls : Array Slot), decode prog_14_method_41_code pc = .ok (.return_, 1) → va_P D cls (mw md mc r) H → va_D A (mw md mc r) → va_S A s.heap H locs → W p l e ({ frames := 4, cells := 0, slots := 0, locals := 111 }) s m args below meth c H locs 0 0 Q (F0 m pc ls [])) : ∀ (H : Heap) (locs : List Loc) (ls : Array Slot), va_P D cls (mw md mc S) H → va_D A (mw md mc S) → va_S A s.heap H locs → lv_has ls 3 [(0, .ref (md 100)), (1, .ref (sad x1))] → W p l e ({ frames := 4, cells := 0, slots := 0, locals := 111 }) s m args below meth c H locs 0 0 Q (F0 m 0 ls []) := by
  intro H locs ls hP hD hS hl
  obtain ⟨⟨hx, hb, hr, hml, hown, hts, hK, hA⟩, hE⟩ := id hC
  unfold m_rword_J0 at Heq
  refine lv_iconst (v := 0) hx hb d_rword_0 (by decide) ?_
  refine lv_istore_n (lv' := [(2, .int 0), (0, .ref (md 100)), (1, .ref (sad x1))]) hx hb d_rword_1 rfl hl (by decide) rfl (fun ls hl => ?_)
  obtain ⟨b_1, h_2, Heq⟩ := ob_some Heq
  refine w_rword_L2 hC h_2 (fun b h => ?_) _ _ _ hP hD hS (lv_sub hl [1, 2, 0] rfl)
  subst h
  intro H locs ls hP hD hS hl
  exact w_rword_J53 hC Heq Kr _ _ _ hP hD hS (lv_sub hl [0] rfl)
def m_rword (S : MS) (x1 : Nat) : Option MS := m_rword_J0 S x1
theorem g_rword (l : Launch) (D : va_G) (sz : Nat) {sad sav : Nat → Nat} {md : Nat → Nat} {mc : Nat → ClassId} {S : MS} {x1 : Nat} {o : MS} (Heq : m_rword S x1 = some o) : Met l ⟨"JoinedTreesModel", "word", "(Ljava/lang/String;)V"⟩ (Cond.code ⟨"JoinedTreesModel", "word", "(Ljava/lang/String;)V"⟩ prog_14_method_41_code 3 none :: gb) ({ frames := 4, cells := 0, slots := 0, locals := 111 }) (gPs sad sav D (mw md mc S) (mty mc) sz [.ref (md 100), .ref (sad x1)]) (va_Qv (fun _ : Unit => True) (fun _ t => gO D (mw md mc o) (mty mc) (va_A (mw md mc S) sz) t) (va_A (mw md mc S) sz)) 0 0 (va_A (mw md mc S) sz) := by
  refine Met.ofW (cc := prog_14_method_41_code) (maxL := 3) (ret := none) (by decide) rfl ?_
  intro p e s m args below meth c s₁ B hml hv
  obtain ⟨rfl, hsz, hP, hK, hD0, hE⟩ := hv
  have hx := B.exec
  have hb := B.bytes
  have hr := B.returns
  have hts : ∀ w9 ∈ gb, w9.before [.ref (md 100), .ref (sad x1)].toArray s = true := fun w9 h => atoms_spec (ws := Cond.code ⟨"JoinedTreesModel", "word", "(Ljava/lang/String;)V"⟩ prog_14_method_41_code 3 none :: gb) B.pre w9 (List.mem_cons_of_mem _ h)
  have hown : s.vm.findClass "JoinedTreesModel" = some m.cls := findClass_of_methodNamed B.named
  have hlocks := B.notSynchronized
  subst hsz
  have hD := hD0.self (sz := s.heap.size)
  generalize hAe : va_A (mw md mc S) s.heap.size = A at hD hE ⊢
  have hA : ∀ q : Nat, s.heap.size ≤ q → A q := fun q h => by rw [← hAe]; exact Or.inr h
  have hS : va_S A s.heap s.heap [] := va_S.rf
  have hl := lv_entry ([.ref (md 100), .ref (sad x1)]) (n := 3) (Nat.le_of_ble_eq_true rfl)
  rw [lg_entry_eq]
  generalize (lg_sl ([.ref (md 100), .ref (sad x1)]) ++ List.replicate (3 - (lg_sl ([.ref (md 100), .ref (sad x1)])).length) Slot.unset).toArray = ls at hl ⊢
  have hl : lv_has ls 3 [(0, .ref (md 100)), (1, .ref (sad x1))] := hl
  refine w_rword_J0 ⟨⟨hx, hb, hr, hml, hown, hts, hK, hA⟩, hE⟩ Heq (fun r h pc H locs ls hd hP hD hS => ?_) _ _ _ hP hD hS (lv_sub hl [0, 1] rfl)
  subst h
  exact W.vret hx hb hr (fun t ht hW => ⟨⟨(), rfl, trivial, by rw [ht]; exact hP, va_K.moved hW.alike hK, hD⟩, hS.F ht⟩) hS.2.2 hd
