def m_rplain_B82 (S : MS) (x3 : Nat) (x4 : Int32) : Option ((MS × Nat × Int32) ⊕ MS) := gS x3 ((if nI (sLn x3) ≤ x4 then some (.inr (S)) else gd x4 (sLn x3) (ob (m_rwrite S (sCh x3 x4.toNatClampNeg)) (fun o_3 => some (.inl (o_3, x3, (x4 + 1)))))))
theorem d_rplain_0 : decode prog_14_method_78_code 0 = .ok (.aload_n 0, 1) := by decide +kernel
theorem d_rplain_1 : decode prog_14_method_78_code 1 = .ok (.getfield 29, 3) := by decide +kernel
theorem d_rplain_4 : decode prog_14_method_78_code 4 = .ok (.iload_n 2, 1) := by decide +kernel
theorem d_rplain_5 : decode prog_14_method_78_code 5 = .ok (.iaload, 1) := by decide +kernel
theorem d_rplain_6 : decode prog_14_method_78_code 6 = .ok (.tableswitch 130 0 5 #[38, 38, 38, 104, 130, 117], 38) := by decide +kernel
theorem d_rplain_44 : decode prog_14_method_78_code 44 = .ok (.aload_n 0, 1) := by decide +kernel
theorem d_rplain_45 : decode prog_14_method_78_code 45 = .ok (.getfield 29, 3) := by decide +kernel
theorem d_rplain_48 : decode prog_14_method_78_code 48 = .ok (.iload_n 2, 1) := by decide +kernel
theorem d_rplain_49 : decode prog_14_method_78_code 49 = .ok (.iaload, 1) := by decide +kernel
theorem d_rplain_50 : decode prog_14_method_78_code 50 = .ok (.ifCond .ne 9, 3) := by decide +kernel
theorem d_rplain_59 : decode prog_14_method_78_code 59 = .ok (.aload_n 0, 1) := by decide +kernel
theorem d_rplain_60 : decode prog_14_method_78_code 60 = .ok (.getfield 29, 3) := by decide +kernel
theorem d_rplain_63 : decode prog_14_method_78_code 63 = .ok (.iload_n 2, 1) := by decide +kernel
theorem d_rplain_64 : decode prog_14_method_78_code 64 = .ok (.iaload, 1) := by decide +kernel
theorem d_rplain_65 : decode prog_14_method_78_code 65 = .ok (.iconst 1, 1) := by decide +kernel
theorem d_rplain_66 : decode prog_14_method_78_code 66 = .ok (.if_icmp .ne 9, 3) := by decide +kernel
theorem d_rplain_75 : decode prog_14_method_78_code 75 = .ok (.ldc_w 355, 3) := by decide +kernel
theorem d_rplain_78 : decode prog_14_method_78_code 78 = .ok (.astore_n 3, 1) := by decide +kernel
theorem d_rplain_79 : decode prog_14_method_78_code 79 = .ok (.iconst 0, 1) := by decide +kernel
theorem d_rplain_80 : decode prog_14_method_78_code 80 = .ok (.istore 4, 2) := by decide +kernel
theorem d_rplain_82 : decode prog_14_method_78_code 82 = .ok (.iload 4, 2) := by decide +kernel
theorem d_rplain_84 : decode prog_14_method_78_code 84 = .ok (.aload_n 3, 1) := by decide +kernel
theorem d_rplain_85 : decode prog_14_method_78_code 85 = .ok (.invokevirtual 319, 3) := by decide +kernel
theorem d_rplain_88 : decode prog_14_method_78_code 88 = .ok (.if_icmp .ge 19, 3) := by decide +kernel
theorem d_rplain_91 : decode prog_14_method_78_code 91 = .ok (.aload_n 0, 1) := by decide +kernel
theorem d_rplain_92 : decode prog_14_method_78_code 92 = .ok (.aload_n 3, 1) := by decide +kernel
theorem d_rplain_93 : decode prog_14_method_78_code 93 = .ok (.iload 4, 2) := by decide +kernel
theorem d_rplain_95 : decode prog_14_method_78_code 95 = .ok (.invokevirtual 328, 3) := by decide +kernel
theorem d_rplain_98 : decode prog_14_method_78_code 98 = .ok (.invokevirtual 436, 3) := by decide +kernel
theorem d_rplain_101 : decode prog_14_method_78_code 101 = .ok (.iinc 4 1, 3) := by decide +kernel
theorem d_rplain_104 : decode prog_14_method_78_code 104 = .ok (.goto (-22), 3) := by decide +kernel
set_option maxHeartbeats 4000000 in
set_option maxRecDepth 100000 in
theorem w_rplain_B82 {p : Program} {l : Launch} {e : Env} {s : State} {m : MethodId} {args : Array Value} {below : List Frame} {meth : Method} {c : Code} {A : Nat → Prop} {D : va_G} {md : Nat → Nat} {mc : Nat → ClassId} {Q : State → Prop} {sad sav : Nat → Nat} (hC : MCs sad sav "JoinedTreesModel" prog_14_method_78_code 5 none p s m args meth c A D mc) {S : MS} {x3 : Nat} {x4 : Int32} {o : ((MS × Nat × Int32) ⊕ MS)} (Heq : m_rplain_B82 S x3 x4 = some o) (Ka : ∀ b : MS × Nat × Int32, o = .inl b → ∀ (H : Heap) (locs : List Loc) (ls : Array Slot), va_P D cls (mw md mc b.1) H → va_D A (mw md mc b.1) → va_S A s.heap H locs → lv_has ls 5 [(0, .ref (md 100)), (3, .ref (sad b.2.1)), (4, .int b.2.2)] → W p l e ({ frames := 4, cells := 0, slots := 0, locals := 111 }) s m args below meth c H locs 0 0 Q (F0 m 82 ls [])) (K0 : ∀ b : MS, o = .inr b → ∀ (H : Heap) (locs : List Loc) (ls : Array Slot), va_P D cls (mw md mc b) H → va_D A (mw md mc b) → va_S A s.heap H locs → lv_has ls 5 [(0, .ref (md 100))] → W p l e ({ frames := 4, cells := 0, slots := 0, locals := 111 }) s m args below meth c H locs 0 0 Q (F0 m 107 ls [])) : ∀ (H : Heap) (locs : List Loc) (ls : Array Slot), va_P D cls (mw md mc S) H → va_D A (mw md mc S) → va_S A s.heap H locs → lv_has ls 5 [(0, .ref (md 100)), (3, .ref (sad x3)), (4, .int x4)] → W p l e ({ frames := 4, cells := 0, slots := 0, locals := 111 }) s m args below meth c H locs 0 0 Q (F0 m 82 ls []) := by
  intro H locs ls hP hD hS hl
  obtain ⟨⟨hx, hb, hr, hml, hown, hts, hK, hA⟩, hE⟩ := id hC
  unfold m_rplain_B82 at Heq
  refine lv_iload hx hb d_rplain_82 (lv_at hl 2 rfl) ?_
  refine lv_aload_n hx hb d_rplain_84 rfl (lv_at hl 1 rfl) ?_
  obtain ⟨hS_x3, Heq⟩ := gS_some Heq
  have hFc := f_nil hS hA
  refine va_calli (va_runV (As := []) (rest := [.int x4]) ⟨hx, hb, hml, hown, hts⟩ (g_sln l D H.size sad sav hS_x3) (cw_v 0 hts kw_911 kw_1785 kw_909 kw_910 kw_22 rfl rfl (by decide +kernel) ⟨Nat.le_of_ble_eq_true rfl, Nat.le_of_ble_eq_true rfl⟩) ⟨gs_blind, sE_recv hE hS_x3 hS, fun U hU hW => gs_pre hU hW p_nil (hK.sub (tys' := []) [] rfl) d_nil hE hS hFc⟩ rfl rfl hl.1 rfl (lv_room (Nat.le_of_ble_eq_true rfl)) d_rplain_85 ⟨Nat.le_of_ble_eq_true rfl, Nat.le_of_ble_eq_true rfl⟩) hS (fun q _ h => hFc q h) hFc (fun rz u t H1 locs ht hvm hw hB hz1 hk1 hS => ?_)
  have hP := p_keep0 hP hk1
  generalize H1 = H at hP hS ⊢
  refine W.cs (cells' := 0) (slots' := 0) rfl rfl ?_
  subst hw
  refine lv_icmp_ge (tgt := 107) hx hb d_rplain_88 (by decide) (fun c_1 => ?_) (fun c_1 => ?_)
  · replace Heq := (if_pos c_1).symm.trans Heq
    exact K0 _ (Option.some.inj Heq).symm _ _ _ hP hD hS (lv_sub hl [0] rfl)
  · replace Heq := (if_neg c_1).symm.trans Heq
    refine lv_aload_n hx hb d_rplain_91 rfl (lv_at hl 0 rfl) ?_
    refine lv_aload_n hx hb d_rplain_92 rfl (lv_at hl 1 rfl) ?_
    refine lv_iload hx hb d_rplain_93 (lv_at hl 2 rfl) ?_
    obtain ⟨hi_2, Heq⟩ := gd_some Heq
    obtain ⟨jhi_2, ehi_2⟩ := nI_of (fun q => hi_2 (Or.inl q))
    have fhi_2 : x4 = nI x4.toNatClampNeg := by rw [ehi_2.2, nI_clamp ehi_2.1]
    refine w_i (y := nI x4.toNatClampNeg) fhi_2 ?_
    have hFc := f_nil hS hA
    refine va_calli (va_runV (As := [.int (nI x4.toNatClampNeg)]) (rest := [.ref (md 100)]) ⟨hx, hb, hml, hown, hts⟩ (g_sca l D H.size sad sav hS_x3 (vp_in.lt hi_2)) (cw_v 1 hts kw_921 kw_1786 kw_919 kw_920 kw_22 rfl rfl (by decide +kernel) ⟨Nat.le_of_ble_eq_true rfl, Nat.le_of_ble_eq_true rfl⟩) ⟨gs_blind, sE_recv hE hS_x3 hS, fun U hU hW => gs_pre hU hW p_nil (hK.sub (tys' := []) [] rfl) d_nil hE hS hFc⟩ rfl rfl hl.1 rfl (lv_room (Nat.le_of_ble_eq_true rfl)) d_rplain_95 ⟨Nat.le_of_ble_eq_true rfl, Nat.le_of_ble_eq_true rfl⟩) hS (fun q _ h => hFc q h) hFc (fun rz u t H1 locs ht hvm hw hB hz1 hk1 hS => ?_)
    have hP := p_keep0 hP hk1
    generalize H1 = H at hP hS ⊢
    refine W.cs (cells' := 0) (slots' := 0) rfl rfl ?_
    subst hw
    obtain ⟨o_3, h_4, Heq⟩ := ob_some Heq
    have hFc := fr_all hD hS hA
    refine va_callv (va_runV (As := [.int (sCh x3 x4.toNatClampNeg)]) (rest := []) ⟨hx, hb, hml, hown, hts⟩ (g_rwrite l D H.size h_4) (cw_v 1 hts kw_1918 kw_1915 kw_1917 kp_76 kw_11 rfl rfl (by decide +kernel) ⟨Nat.le_of_ble_eq_true rfl, Nat.le_of_ble_eq_true rfl⟩) ⟨g_blind, va_recv hK hP (ci := 12) (q0 := 0) rfl rfl, fun U hU hW => g_pre hU hW hP hK hD⟩ rfl rfl hl.1 rfl (lv_room (Nat.le_of_ble_eq_true rfl)) d_rplain_98 ⟨Nat.le_of_ble_eq_true rfl, Nat.le_of_ble_eq_true rfl⟩) hS (fun q _ h => hFc q h) hFc (fun u t H1 locs ht hvm hw hB hz1 hk1 hS => ?_)
    obtain ⟨hP, -, hD1⟩ := hB
    rw [ht] at hP
    have hD := hD1.weaken (fun _ q _ h => hFc q.1 h)
    generalize H1 = H at hP hS ⊢
    refine W.cs (cells' := 0) (slots' := 0) rfl rfl ?_
    refine lv_iinc (v := x4 + 1) (lv' := [(4, .int (x4 + 1)), (0, .ref (md 100)), (3, .ref (sad x3))]) hx hb d_rplain_101 hl (k := 2) rfl rfl (by decide) rfl (fun ls hl => ?_)
    refine lv_goto (tgt := 82) hx hb d_rplain_104 (by decide) ?_
    exact Ka _ (Option.some.inj Heq).symm _ _ _ hP hD hS (lv_sub hl [1, 2, 0] rfl)
def m_rplain_L82 (S : MS) (x3 : Nat) (x4 : Int32) : Option MS := lp (fun a : MS × Nat × Int32 => m_rplain_B82 a.1 a.2.1 a.2.2) FU (S, x3, x4)
theorem w_rplain_L82 {p : Program} {l : Launch} {e : Env} {s : State} {m : MethodId} {args : Array Value} {below : List Frame} {meth : Method} {c : Code} {A : Nat → Prop} {D : va_G} {md : Nat → Nat} {mc : Nat → ClassId} {Q : State → Prop} {sad sav : Nat → Nat} (hC : MCs sad sav "JoinedTreesModel" prog_14_method_78_code 5 none p s m args meth c A D mc) {S : MS} {x3 : Nat} {x4 : Int32} {o : MS} (Heq : m_rplain_L82 S x3 x4 = some o) (K0 : ∀ b : MS, o = b → ∀ (H : Heap) (locs : List Loc) (ls : Array Slot), va_P D cls (mw md mc b) H → va_D A (mw md mc b) → va_S A s.heap H locs → lv_has ls 5 [(0, .ref (md 100))] → W p l e ({ frames := 4, cells := 0, slots := 0, locals := 111 }) s m args below meth c H locs 0 0 Q (F0 m 107 ls [])) : ∀ (H : Heap) (locs : List Loc) (ls : Array Slot), va_P D cls (mw md mc S) H → va_D A (mw md mc S) → va_S A s.heap H locs → lv_has ls 5 [(0, .ref (md 100)), (3, .ref (sad x3)), (4, .int x4)] → W p l e ({ frames := 4, cells := 0, slots := 0, locals := 111 }) s m args below meth c H locs 0 0 Q (F0 m 82 ls []) := by
  refine lp_w (G := fun a : MS × Nat × Int32 => ∀ (H : Heap) (locs : List Loc) (ls : Array Slot), va_P D cls (mw md mc a.1) H → va_D A (mw md mc a.1) → va_S A s.heap H locs → lv_has ls 5 [(0, .ref (md 100)), (3, .ref (sad a.2.1)), (4, .int a.2.2)] → W p l e ({ frames := 4, cells := 0, slots := 0, locals := 111 }) s m args below meth c H locs 0 0 Q (F0 m 82 ls [])) ?_ FU (S, x3, x4) Heq
  intro a o1 ho Ka Ke
  exact w_rplain_B82 hC ho (fun b h => Ka b h) (fun b h => K0 b (Ke _ h).symm)
def m_rplain_J190 (S : MS) : Option MS := some S
theorem d_rplain_107 : decode prog_14_method_78_code 107 = .ok (.goto 83, 3) := by decide +kernel
theorem d_rplain_190 : decode prog_14_method_78_code 190 = .ok (.return_, 1) := by decide +kernel
set_option maxHeartbeats 4000000 in
set_option maxRecDepth 100000 in
theorem w_rplain_J190 {p : Program} {l : Launch} {e : Env} {s : State} {m : MethodId} {args : Array Value} {below : List Frame} {meth : Method} {c : Code} {A : Nat → Prop} {D : va_G} {md : Nat → Nat} {mc : Nat → ClassId} {Q : State → Prop} {sad sav : Nat → Nat} (hC : MCs sad sav "JoinedTreesModel" prog_14_method_78_code 5 none p s m args meth c A D mc) {S : MS} {o : MS} (Heq : m_rplain_J190 S = some o) (Kr : ∀ r : MS, o = r → ∀ (pc : Nat) (H : Heap) (locs : List Loc) (ls : Array Slot), decode prog_14_method_78_code pc = .ok (.return_, 1) → va_P D cls (mw md mc r) H → va_D A (mw md mc r) → va_S A s.heap H locs → W p l e ({ frames := 4, cells := 0, slots := 0, locals := 111 }) s m args below meth c H locs 0 0 Q (F0 m pc ls [])) : ∀ (H : Heap) (locs : List Loc) (ls : Array Slot), va_P D cls (mw md mc S) H → va_D A (mw md mc S) → va_S A s.heap H locs → lv_has ls 5 [(0, .ref (md 100))] → W p l e ({ frames := 4, cells := 0, slots := 0, locals := 111 }) s m args below meth c H locs 0 0 Q (F0 m 190 ls []) := by
  intro H locs ls hP hD hS hl
  obtain ⟨⟨hx, hb, hr, hml, hown, hts, hK, hA⟩, hE⟩ := id hC
  unfold m_rplain_J190 at Heq
  exact Kr _ (Option.some.inj Heq).symm 190 _ _ _ d_rplain_190 hP hD hS
def m_rplain_J78 (S : MS) (t0 : Nat) : Option MS := ob (m_rplain_L82 S t0 0) (fun b_1 => m_rplain_J190 b_1)
set_option maxHeartbeats 4000000 in
set_option maxRecDepth 100000 in
theorem w_rplain_J78 {p : Program} {l : Launch} {e : Env} {s : State} {m : MethodId} {args : Array Value} {below : List Frame} {meth : Method} {c : Code} {A : Nat → Prop} {D : va_G} {md : Nat → Nat} {mc : Nat → ClassId} {Q : State → Prop} {sad sav : Nat → Nat} (hC : MCs sad sav "JoinedTreesModel" prog_14_method_78_code 5 none p s m args meth c A D mc) {S : MS} {t0 : Nat} {o : MS} (Heq : m_rplain_J78 S t0 = some o) (Kr : ∀ r : MS, o = r → ∀ (pc : Nat) (H : Heap) (locs : List Loc) (ls : Array Slot), decode prog_14_method_78_code pc = .ok (.return_, 1) → va_P D cls (mw md mc r) H → va_D A (mw md mc r) → va_S A s.heap H locs → W p l e ({ frames := 4, cells := 0, slots := 0, locals := 111 }) s m args below meth c H locs 0 0 Q (F0 m pc ls [])) : ∀ (H : Heap) (locs : List Loc) (ls : Array Slot), va_P D cls (mw md mc S) H → va_D A (mw md mc S) → va_S A s.heap H locs → lv_has ls 5 [(0, .ref (md 100))] → W p l e ({ frames := 4, cells := 0, slots := 0, locals := 111 }) s m args below meth c H locs 0 0 Q (F0 m 78 ls [.ref (sad t0)]) := by
  intro H locs ls hP hD hS hl
  obtain ⟨⟨hx, hb, hr, hml, hown, hts, hK, hA⟩, hE⟩ := id hC
  unfold m_rplain_J78 at Heq
  refine lv_astore_n (lv' := [(3, .ref (sad t0)), (0, .ref (md 100))]) hx hb d_rplain_78 rfl hl (by decide) rfl (fun ls hl => ?_)
  refine lv_iconst (v := 0) hx hb d_rplain_79 (by decide) ?_
  refine lv_istore (lv' := [(4, .int 0), (3, .ref (sad t0)), (0, .ref (md 100))]) hx hb d_rplain_80 hl (by decide) rfl (fun ls hl => ?_)
  obtain ⟨b_1, h_2, Heq⟩ := ob_some Heq
  refine w_rplain_L82 hC h_2 (fun b h => ?_) _ _ _ hP hD hS (lv_sub hl [2, 1, 0] rfl)
  subst h
  intro H locs ls hP hD hS hl
  refine lv_goto (tgt := 190) hx hb d_rplain_107 (by decide) ?_
  exact w_rplain_J190 hC Heq Kr _ _ _ hP hD hS (lv_sub hl [0] rfl)
def m_rplain_J44 (S : MS) (x2 : Int32) : Option MS := gd x2 4000 ((if S.a 11 x2.toNatClampNeg = 0 then m_rplain_J78 S 0 else gd x2 4000 ((if S.a 11 x2.toNatClampNeg = 1 then m_rplain_J78 S 1 else m_rplain_J78 S 2))))
theorem d_rplain_69 : decode prog_14_method_78_code 69 = .ok (.ldc_w 353, 3) := by decide +kernel
theorem d_rplain_72 : decode prog_14_method_78_code 72 = .ok (.goto 6, 3) := by decide +kernel
theorem d_rplain_53 : decode prog_14_method_78_code 53 = .ok (.ldc_w 351, 3) := by decide +kernel
theorem d_rplain_56 : decode prog_14_method_78_code 56 = .ok (.goto 22, 3) := by decide +kernel
set_option maxHeartbeats 4000000 in
set_option maxRecDepth 100000 in
theorem w_rplain_J44 {p : Program} {l : Launch} {e : Env} {s : State} {m : MethodId} {args : Array Value} {below : List Frame} {meth : Method} {c : Code} {A : Nat → Prop} {D : va_G} {md : Nat → Nat} {mc : Nat → ClassId} {Q : State → Prop} {sad sav : Nat → Nat} (hC : MCs sad sav "JoinedTreesModel" prog_14_method_78_code 5 none p s m args meth c A D mc) {S : MS} {x2 : Int32} {o : MS} (Heq : m_rplain_J44 S x2 = some o) (Kr : ∀ r : MS, o = r → ∀ (pc : Nat) (H : Heap) (locs : List Loc) (ls : Array Slot), decode prog_14_method_78_code pc = .ok (.return_, 1) → va_P D cls (mw md mc r) H → va_D A (mw md mc r) → va_S A s.heap H locs → W p l e ({ frames := 4, cells := 0, slots := 0, locals := 111 }) s m args below meth c H locs 0 0 Q (F0 m pc ls [])) : ∀ (H : Heap) (locs : List Loc) (ls : Array Slot), va_P D cls (mw md mc S) H → va_D A (mw md mc S) → va_S A s.heap H locs → lv_has ls 5 [(0, .ref (md 100)), (2, .int x2)] → W p l e ({ frames := 4, cells := 0, slots := 0, locals := 111 }) s m args below meth c H locs 0 0 Q (F0 m 44 ls []) := by
  intro H locs ls hP hD hS hl
  obtain ⟨⟨hx, hb, hr, hml, hown, hts, hK, hA⟩, hE⟩ := id hC
  unfold m_rplain_J44 at Heq
  refine lv_aload_n hx hb d_rplain_44 rfl (lv_at hl 0 rfl) ?_
  refine va_get (D := D) (ci := 12) (v := .ref (md 11)) (C := R_MM) (T := F_MM) (N := 77) hx hb hts i_MM hown hK hP 0 rfl rfl 11 (by decide) (hts _ kw_1393) (fun _ h9 => h9) rfl d_rplain_45 ?_
  refine lv_iload_n hx hb d_rplain_48 rfl (lv_at hl 1 rfl) ?_
  obtain ⟨hi_1, Heq⟩ := gd_some Heq
  refine va_iald hx hb hK hP 7 0 rfl rfl (i := x2) hi_1 d_rplain_49 ?_
  refine w_i (y := S.a 11 x2.toNatClampNeg) rfl ?_
  refine lv_if_ne (tgt := 59) hx hb d_rplain_50 (by decide) (fun c_2 => ?_) (fun c_2 => ?_)
  · replace Heq := (if_neg c_2).symm.trans Heq
    refine lv_aload_n hx hb d_rplain_59 rfl (lv_at hl 0 rfl) ?_
    refine va_get (D := D) (ci := 12) (v := .ref (md 11)) (C := R_MM) (T := F_MM) (N := 77) hx hb hts i_MM hown hK hP 0 rfl rfl 11 (by decide) (hts _ kw_1393) (fun _ h9 => h9) rfl d_rplain_60 ?_
    refine lv_iload_n hx hb d_rplain_63 rfl (lv_at hl 1 rfl) ?_
    obtain ⟨hi_3, Heq⟩ := gd_some Heq
    refine va_iald hx hb hK hP 7 0 rfl rfl (i := x2) hi_3 d_rplain_64 ?_
    refine w_i (y := S.a 11 x2.toNatClampNeg) rfl ?_
    refine lv_iconst (v := 1) hx hb d_rplain_65 (by decide) ?_
    refine lv_icmp_ne (tgt := 75) hx hb d_rplain_66 (by decide) (fun c_4 => ?_) (fun c_4 => ?_)
    · replace Heq := (if_neg c_4).symm.trans Heq
      refine tx_ldcwS (own := "JoinedTreesModel") (tx := "true") (q := sad 2) hx hb hown (hE.1 2 (by decide)).1 d_rplain_75 ?_
      exact w_rplain_J78 hC Heq Kr _ _ _ hP hD hS (lv_sub hl [0] rfl)
    · replace Heq := (if_pos c_4).symm.trans Heq
      refine tx_ldcwS (own := "JoinedTreesModel") (tx := "false") (q := sad 1) hx hb hown (hE.1 1 (by decide)).1 d_rplain_69 ?_
      refine lv_goto (tgt := 78) hx hb d_rplain_72 (by decide) ?_
      exact w_rplain_J78 hC Heq Kr _ _ _ hP hD hS (lv_sub hl [0] rfl)
  · replace Heq := (if_pos c_2).symm.trans Heq
    refine tx_ldcwS (own := "JoinedTreesModel") (tx := "null") (q := sad 0) hx hb hown (hE.1 0 (by decide)).1 d_rplain_53 ?_
    refine lv_goto (tgt := 78) hx hb d_rplain_56 (by decide) ?_
    exact w_rplain_J78 hC Heq Kr _ _ _ hP hD hS (lv_sub hl [0] rfl)
def m_rplain_B145 (S : MS) (x2 : Int32) (x4 : Int32) : Option ((MS × Int32 × Int32) ⊕ MS) := gd x2 4000 ((if S.a 17 x2.toNatClampNeg ≤ x4 then some (.inr (S)) else gd x2 4000 (gd ((S.a 16 x2.toNatClampNeg) + x4) 32876 (ob (m_rescaped S ((S.a 26 (((S.a 16 x2.toNatClampNeg) + x4).toNatClampNeg)) &&& 255)) (fun o_5 => some (.inl (o_5, x2, (x4 + 1))))))))
theorem d_rplain_110 : decode prog_14_method_78_code 110 = .ok (.aload_n 0, 1) := by decide +kernel
theorem d_rplain_111 : decode prog_14_method_78_code 111 = .ok (.aload_n 0, 1) := by decide +kernel
theorem d_rplain_112 : decode prog_14_method_78_code 112 = .ok (.getfield 63, 3) := by decide +kernel
theorem d_rplain_115 : decode prog_14_method_78_code 115 = .ok (.iload_n 2, 1) := by decide +kernel
theorem d_rplain_116 : decode prog_14_method_78_code 116 = .ok (.laload, 1) := by decide +kernel
theorem d_rplain_117 : decode prog_14_method_78_code 117 = .ok (.invokevirtual 444, 3) := by decide +kernel
theorem d_rplain_120 : decode prog_14_method_78_code 120 = .ok (.goto 70, 3) := by decide +kernel
theorem d_rplain_136 : decode prog_14_method_78_code 136 = .ok (.aload_n 0, 1) := by decide +kernel
theorem d_rplain_137 : decode prog_14_method_78_code 137 = .ok (.bipush 34, 2) := by decide +kernel
theorem d_rplain_139 : decode prog_14_method_78_code 139 = .ok (.invokevirtual 436, 3) := by decide +kernel
theorem d_rplain_142 : decode prog_14_method_78_code 142 = .ok (.iconst 0, 1) := by decide +kernel
theorem d_rplain_143 : decode prog_14_method_78_code 143 = .ok (.istore 4, 2) := by decide +kernel
theorem d_rplain_145 : decode prog_14_method_78_code 145 = .ok (.iload 4, 2) := by decide +kernel
theorem d_rplain_147 : decode prog_14_method_78_code 147 = .ok (.aload_n 0, 1) := by decide +kernel
theorem d_rplain_148 : decode prog_14_method_78_code 148 = .ok (.getfield 47, 3) := by decide +kernel
theorem d_rplain_151 : decode prog_14_method_78_code 151 = .ok (.iload_n 2, 1) := by decide +kernel
theorem d_rplain_152 : decode prog_14_method_78_code 152 = .ok (.iaload, 1) := by decide +kernel
theorem d_rplain_153 : decode prog_14_method_78_code 153 = .ok (.if_icmp .ge 31, 3) := by decide +kernel
theorem d_rplain_156 : decode prog_14_method_78_code 156 = .ok (.aload_n 0, 1) := by decide +kernel
theorem d_rplain_157 : decode prog_14_method_78_code 157 = .ok (.aload_n 0, 1) := by decide +kernel
theorem d_rplain_158 : decode prog_14_method_78_code 158 = .ok (.getfield 72, 3) := by decide +kernel
theorem d_rplain_161 : decode prog_14_method_78_code 161 = .ok (.aload_n 0, 1) := by decide +kernel
theorem d_rplain_162 : decode prog_14_method_78_code 162 = .ok (.getfield 44, 3) := by decide +kernel
theorem d_rplain_165 : decode prog_14_method_78_code 165 = .ok (.iload_n 2, 1) := by decide +kernel
theorem d_rplain_166 : decode prog_14_method_78_code 166 = .ok (.iaload, 1) := by decide +kernel
theorem d_rplain_167 : decode prog_14_method_78_code 167 = .ok (.iload 4, 2) := by decide +kernel
theorem d_rplain_169 : decode prog_14_method_78_code 169 = .ok (.iadd, 1) := by decide +kernel
theorem d_rplain_170 : decode prog_14_method_78_code 170 = .ok (.baload, 1) := by decide +kernel
theorem d_rplain_171 : decode prog_14_method_78_code 171 = .ok (.sipush 255, 3) := by decide +kernel
theorem d_rplain_174 : decode prog_14_method_78_code 174 = .ok (.iand, 1) := by decide +kernel
theorem d_rplain_175 : decode prog_14_method_78_code 175 = .ok (.invokevirtual 447, 3) := by decide +kernel
theorem d_rplain_178 : decode prog_14_method_78_code 178 = .ok (.iinc 4 1, 3) := by decide +kernel
theorem d_rplain_181 : decode prog_14_method_78_code 181 = .ok (.goto (-36), 3) := by decide +kernel
set_option maxHeartbeats 4000000 in
set_option maxRecDepth 100000 in
theorem w_rplain_B145 {p : Program} {l : Launch} {e : Env} {s : State} {m : MethodId} {args : Array Value} {below : List Frame} {meth : Method} {c : Code} {A : Nat → Prop} {D : va_G} {md : Nat → Nat} {mc : Nat → ClassId} {Q : State → Prop} {sad sav : Nat → Nat} (hC : MCs sad sav "JoinedTreesModel" prog_14_method_78_code 5 none p s m args meth c A D mc) {S : MS} {x2 : Int32} {x4 : Int32} {o : ((MS × Int32 × Int32) ⊕ MS)} (Heq : m_rplain_B145 S x2 x4 = some o) (Ka : ∀ b : MS × Int32 × Int32, o = .inl b → ∀ (H : Heap) (locs : List Loc) (ls : Array Slot), va_P D cls (mw md mc b.1) H → va_D A (mw md mc b.1) → va_S A s.heap H locs → lv_has ls 5 [(0, .ref (md 100)), (2, .int b.2.1), (4, .int b.2.2)] → W p l e ({ frames := 4, cells := 0, slots := 0, locals := 111 }) s m args below meth c H locs 0 0 Q (F0 m 145 ls [])) (K0 : ∀ b : MS, o = .inr b → ∀ (H : Heap) (locs : List Loc) (ls : Array Slot), va_P D cls (mw md mc b) H → va_D A (mw md mc b) → va_S A s.heap H locs → lv_has ls 5 [(0, .ref (md 100))] → W p l e ({ frames := 4, cells := 0, slots := 0, locals := 111 }) s m args below meth c H locs 0 0 Q (F0 m 184 ls [])) : ∀ (H : Heap) (locs : List Loc) (ls : Array Slot), va_P D cls (mw md mc S) H → va_D A (mw md mc S) → va_S A s.heap H locs → lv_has ls 5 [(0, .ref (md 100)), (2, .int x2), (4, .int x4)] → W p l e ({ frames := 4, cells := 0, slots := 0, locals := 111 }) s m args below meth c H locs 0 0 Q (F0 m 145 ls []) := by
  intro H locs ls hP hD hS hl
  obtain ⟨⟨hx, hb, hr, hml, hown, hts, hK, hA⟩, hE⟩ := id hC
  unfold m_rplain_B145 at Heq
  refine lv_iload hx hb d_rplain_145 (lv_at hl 2 rfl) ?_
  refine lv_aload_n hx hb d_rplain_147 rfl (lv_at hl 0 rfl) ?_
  refine va_get (D := D) (ci := 12) (v := .ref (md 17)) (C := R_MM) (T := F_MM) (N := 77) hx hb hts i_MM hown hK hP 0 rfl rfl 17 (by decide) (hts _ kw_1399) (fun _ h9 => h9) rfl d_rplain_148 ?_
  refine lv_iload_n hx hb d_rplain_151 rfl (lv_at hl 1 rfl) ?_
  obtain ⟨hi_1, Heq⟩ := gd_some Heq
  refine va_iald hx hb hK hP 13 0 rfl rfl (i := x2) hi_1 d_rplain_152 ?_
  refine w_i (y := S.a 17 x2.toNatClampNeg) rfl ?_
  refine lv_icmp_ge (tgt := 184) hx hb d_rplain_153 (by decide) (fun c_2 => ?_) (fun c_2 => ?_)
  · replace Heq := (if_pos c_2).symm.trans Heq
    exact K0 _ (Option.some.inj Heq).symm _ _ _ hP hD hS (lv_sub hl [0] rfl)
  · replace Heq := (if_neg c_2).symm.trans Heq
    refine lv_aload_n hx hb d_rplain_156 rfl (lv_at hl 0 rfl) ?_
    refine lv_aload_n hx hb d_rplain_157 rfl (lv_at hl 0 rfl) ?_
    refine va_get (D := D) (ci := 12) (v := .ref (md 26)) (C := R_MM) (T := F_MM) (N := 77) hx hb hts i_MM hown hK hP 0 rfl rfl 26 (by decide) (hts _ kw_1408) (fun _ h9 => h9) rfl d_rplain_158 ?_
    refine lv_aload_n hx hb d_rplain_161 rfl (lv_at hl 0 rfl) ?_
    refine va_get (D := D) (ci := 12) (v := .ref (md 16)) (C := R_MM) (T := F_MM) (N := 77) hx hb hts i_MM hown hK hP 0 rfl rfl 16 (by decide) (hts _ kw_1398) (fun _ h9 => h9) rfl d_rplain_162 ?_
    refine lv_iload_n hx hb d_rplain_165 rfl (lv_at hl 1 rfl) ?_
    obtain ⟨hi_3, Heq⟩ := gd_some Heq
    refine va_iald hx hb hK hP 12 0 rfl rfl (i := x2) hi_3 d_rplain_166 ?_
    refine w_i (y := S.a 16 x2.toNatClampNeg) rfl ?_
    refine lv_iload hx hb d_rplain_167 (lv_at hl 2 rfl) ?_
    refine lv_iadd hx hb d_rplain_169 ?_
    refine w_i (y := (S.a 16 x2.toNatClampNeg) + x4) rfl ?_
    obtain ⟨hi_4, Heq⟩ := gd_some Heq
    refine va_bald hx hb hK hP 20 1 rfl rfl (i := (S.a 16 x2.toNatClampNeg) + x4) hi_4 d_rplain_170 ?_
    refine w_i (y := S.a 26 (((S.a 16 x2.toNatClampNeg) + x4).toNatClampNeg)) rfl ?_
    refine lv_sipush (v := 255) hx hb d_rplain_171 (by decide) ?_
    refine lv_iand hx hb d_rplain_174 ?_
    refine w_i (y := (S.a 26 (((S.a 16 x2.toNatClampNeg) + x4).toNatClampNeg)) &&& 255) rfl ?_
    obtain ⟨o_5, h_6, Heq⟩ := ob_some Heq
    have hFc := fr_all hD hS hA
    refine va_callv (va_runV (As := [.int ((S.a 26 (((S.a 16 x2.toNatClampNeg) + x4).toNatClampNeg)) &&& 255)]) (rest := []) ⟨hx, hb, hml, hown, hts⟩ (g_rescaped l D H.size h_6) (cw_v 1 hts kw_1926 kw_1923 kw_1925 kp_78 kw_11 rfl rfl (by decide +kernel) ⟨Nat.le_of_ble_eq_true rfl, Nat.le_of_ble_eq_true rfl⟩) ⟨g_blind, va_recv hK hP (ci := 12) (q0 := 0) rfl rfl, fun U hU hW => g_pre hU hW hP hK hD⟩ rfl rfl hl.1 rfl (lv_room (Nat.le_of_ble_eq_true rfl)) d_rplain_175 ⟨Nat.le_of_ble_eq_true rfl, Nat.le_of_ble_eq_true rfl⟩) hS (fun q _ h => hFc q h) hFc (fun u t H1 locs ht hvm hw hB hz1 hk1 hS => ?_)
    obtain ⟨hP, -, hD1⟩ := hB
    rw [ht] at hP
    have hD := hD1.weaken (fun _ q _ h => hFc q.1 h)
    generalize H1 = H at hP hS ⊢
    refine W.cs (cells' := 0) (slots' := 0) rfl rfl ?_
    refine lv_iinc (v := x4 + 1) (lv' := [(4, .int (x4 + 1)), (0, .ref (md 100)), (2, .int x2)]) hx hb d_rplain_178 hl (k := 2) rfl rfl (by decide) rfl (fun ls hl => ?_)
    refine lv_goto (tgt := 145) hx hb d_rplain_181 (by decide) ?_
    exact Ka _ (Option.some.inj Heq).symm _ _ _ hP hD hS (lv_sub hl [1, 2, 0] rfl)
def m_rplain_L145 (S : MS) (x2 : Int32) (x4 : Int32) : Option MS := lp (fun a : MS × Int32 × Int32 => m_rplain_B145 a.1 a.2.1 a.2.2) FU (S, x2, x4)
theorem w_rplain_L145 {p : Program} {l : Launch} {e : Env} {s : State} {m : MethodId} {args : Array Value} {below : List Frame} {meth : Method} {c : Code} {A : Nat → Prop} {D : va_G} {md : Nat → Nat} {mc : Nat → ClassId} {Q : State → Prop} {sad sav : Nat → Nat} (hC : MCs sad sav "JoinedTreesModel" prog_14_method_78_code 5 none p s m args meth c A D mc) {S : MS} {x2 : Int32} {x4 : Int32} {o : MS} (Heq : m_rplain_L145 S x2 x4 = some o) (K0 : ∀ b : MS, o = b → ∀ (H : Heap) (locs : List Loc) (ls : Array Slot), va_P D cls (mw md mc b) H → va_D A (mw md mc b) → va_S A s.heap H locs → lv_has ls 5 [(0, .ref (md 100))] → W p l e ({ frames := 4, cells := 0, slots := 0, locals := 111 }) s m args below meth c H locs 0 0 Q (F0 m 184 ls [])) : ∀ (H : Heap) (locs : List Loc) (ls : Array Slot), va_P D cls (mw md mc S) H → va_D A (mw md mc S) → va_S A s.heap H locs → lv_has ls 5 [(0, .ref (md 100)), (2, .int x2), (4, .int x4)] → W p l e ({ frames := 4, cells := 0, slots := 0, locals := 111 }) s m args below meth c H locs 0 0 Q (F0 m 145 ls []) := by
  refine lp_w (G := fun a : MS × Int32 × Int32 => ∀ (H : Heap) (locs : List Loc) (ls : Array Slot), va_P D cls (mw md mc a.1) H → va_D A (mw md mc a.1) → va_S A s.heap H locs → lv_has ls 5 [(0, .ref (md 100)), (2, .int a.2.1), (4, .int a.2.2)] → W p l e ({ frames := 4, cells := 0, slots := 0, locals := 111 }) s m args below meth c H locs 0 0 Q (F0 m 145 ls [])) ?_ FU (S, x2, x4) Heq
  intro a o1 ho Ka Ke
  exact w_rplain_B145 hC ho (fun b h => Ka b h) (fun b h => K0 b (Ke _ h).symm)
def m_rplain_J136 (S : MS) (x2 : Int32) : Option MS := ob (m_rwrite S 34) (fun o_1 => ob (m_rplain_L145 o_1 x2 0) (fun b_3 => ob (m_rwrite b_3 34) (fun o_5 => m_rplain_J190 o_5)))
theorem d_rplain_184 : decode prog_14_method_78_code 184 = .ok (.aload_n 0, 1) := by decide +kernel
theorem d_rplain_185 : decode prog_14_method_78_code 185 = .ok (.bipush 34, 2) := by decide +kernel
theorem d_rplain_187 : decode prog_14_method_78_code 187 = .ok (.invokevirtual 436, 3) := by decide +kernel
set_option maxHeartbeats 4000000 in
set_option maxRecDepth 100000 in
theorem w_rplain_J136 {p : Program} {l : Launch} {e : Env} {s : State} {m : MethodId} {args : Array Value} {below : List Frame} {meth : Method} {c : Code} {A : Nat → Prop} {D : va_G} {md : Nat → Nat} {mc : Nat → ClassId} {Q : State → Prop} {sad sav : Nat → Nat} (hC : MCs sad sav "JoinedTreesModel" prog_14_method_78_code 5 none p s m args meth c A D mc) {S : MS} {x2 : Int32} {o : MS} (Heq : m_rplain_J136 S x2 = some o) (Kr : ∀ r : MS, o = r → ∀ (pc : Nat) (H : Heap) (locs : List Loc) (ls : Array Slot), decode prog_14_method_78_code pc = .ok (.return_, 1) → va_P D cls (mw md mc r) H → va_D A (mw md mc r) → va_S A s.heap H locs → W p l e ({ frames := 4, cells := 0, slots := 0, locals := 111 }) s m args below meth c H locs 0 0 Q (F0 m pc ls [])) : ∀ (H : Heap) (locs : List Loc) (ls : Array Slot), va_P D cls (mw md mc S) H → va_D A (mw md mc S) → va_S A s.heap H locs → lv_has ls 5 [(0, .ref (md 100)), (2, .int x2)] → W p l e ({ frames := 4, cells := 0, slots := 0, locals := 111 }) s m args below meth c H locs 0 0 Q (F0 m 136 ls []) := by
  intro H locs ls hP hD hS hl
  obtain ⟨⟨hx, hb, hr, hml, hown, hts, hK, hA⟩, hE⟩ := id hC
  unfold m_rplain_J136 at Heq
  refine lv_aload_n hx hb d_rplain_136 rfl (lv_at hl 0 rfl) ?_
  refine lv_bipush (v := 34) hx hb d_rplain_137 (by decide) ?_
  obtain ⟨o_1, h_2, Heq⟩ := ob_some Heq
  have hFc := fr_all hD hS hA
  refine va_callv (va_runV (As := [.int 34]) (rest := []) ⟨hx, hb, hml, hown, hts⟩ (g_rwrite l D H.size h_2) (cw_v 1 hts kw_1918 kw_1915 kw_1917 kp_76 kw_11 rfl rfl (by decide +kernel) ⟨Nat.le_of_ble_eq_true rfl, Nat.le_of_ble_eq_true rfl⟩) ⟨g_blind, va_recv hK hP (ci := 12) (q0 := 0) rfl rfl, fun U hU hW => g_pre hU hW hP hK hD⟩ rfl rfl hl.1 rfl (lv_room (Nat.le_of_ble_eq_true rfl)) d_rplain_139 ⟨Nat.le_of_ble_eq_true rfl, Nat.le_of_ble_eq_true rfl⟩) hS (fun q _ h => hFc q h) hFc (fun u t H1 locs ht hvm hw hB hz1 hk1 hS => ?_)
  obtain ⟨hP, -, hD1⟩ := hB
  rw [ht] at hP
  have hD := hD1.weaken (fun _ q _ h => hFc q.1 h)
  generalize H1 = H at hP hS ⊢
  refine W.cs (cells' := 0) (slots' := 0) rfl rfl ?_
  refine lv_iconst (v := 0) hx hb d_rplain_142 (by decide) ?_
  refine lv_istore (lv' := [(4, .int 0), (0, .ref (md 100)), (2, .int x2)]) hx hb d_rplain_143 hl (by decide) rfl (fun ls hl => ?_)
  obtain ⟨b_3, h_4, Heq⟩ := ob_some Heq
  refine w_rplain_L145 hC h_4 (fun b h => ?_) _ _ _ hP hD hS (lv_sub hl [1, 2, 0] rfl)
  subst h
  intro H locs ls hP hD hS hl
  refine lv_aload_n hx hb d_rplain_184 rfl (lv_at hl 0 rfl) ?_
  refine lv_bipush (v := 34) hx hb d_rplain_185 (by decide) ?_
  obtain ⟨o_5, h_6, Heq⟩ := ob_some Heq
  have hFc := fr_all hD hS hA
  refine va_callv (va_runV (As := [.int 34]) (rest := []) ⟨hx, hb, hml, hown, hts⟩ (g_rwrite l D H.size h_6) (cw_v 1 hts kw_1918 kw_1915 kw_1917 kp_76 kw_11 rfl rfl (by decide +kernel) ⟨Nat.le_of_ble_eq_true rfl, Nat.le_of_ble_eq_true rfl⟩) ⟨g_blind, va_recv hK hP (ci := 12) (q0 := 0) rfl rfl, fun U hU hW => g_pre hU hW hP hK hD⟩ rfl rfl hl.1 rfl (lv_room (Nat.le_of_ble_eq_true rfl)) d_rplain_187 ⟨Nat.le_of_ble_eq_true rfl, Nat.le_of_ble_eq_true rfl⟩) hS (fun q _ h => hFc q h) hFc (fun u t H1 locs ht hvm hw hB hz1 hk1 hS => ?_)
  obtain ⟨hP, -, hD1⟩ := hB
  rw [ht] at hP
  have hD := hD1.weaken (fun _ q _ h => hFc q.1 h)
  generalize H1 = H at hP hS ⊢
  refine W.cs (cells' := 0) (slots' := 0) rfl rfl ?_
  exact w_rplain_J190 hC Heq Kr _ _ _ hP hD hS (lv_sub hl [0] rfl)
def m_rplain_J0 (S : MS) (x1 : Int32) (x2 : Int32) : Option MS := gd x2 4000 ((if S.a 11 x2.toNatClampNeg = 0 then m_rplain_J44 S x2 else (if S.a 11 x2.toNatClampNeg = 1 then m_rplain_J44 S x2 else (if S.a 11 x2.toNatClampNeg = 2 then m_rplain_J44 S x2 else (if S.a 11 x2.toNatClampNeg = 3 then gd x2 4000 (ob (m_rdigits2 S (S.n 22 x2.toNatClampNeg)) (fun o_7 => m_rplain_J190 o_7)) else (if S.a 11 x2.toNatClampNeg = 4 then m_rplain_J136 S x2 else (if S.a 11 x2.toNatClampNeg = 5 then ob (m_rcounter S x1 x2) (fun o_11 => ob (m_rdigits2 o_11.1 o_11.2) (fun o_13 => m_rplain_J190 o_13)) else m_rplain_J136 S x2)))))))
theorem d_rplain_123 : decode prog_14_method_78_code 123 = .ok (.aload_n 0, 1) := by decide +kernel
theorem d_rplain_124 : decode prog_14_method_78_code 124 = .ok (.aload_n 0, 1) := by decide +kernel
theorem d_rplain_125 : decode prog_14_method_78_code 125 = .ok (.iload_n 1, 1) := by decide +kernel
theorem d_rplain_126 : decode prog_14_method_78_code 126 = .ok (.iload_n 2, 1) := by decide +kernel
theorem d_rplain_127 : decode prog_14_method_78_code 127 = .ok (.invokevirtual 420, 3) := by decide +kernel
theorem d_rplain_130 : decode prog_14_method_78_code 130 = .ok (.invokevirtual 444, 3) := by decide +kernel
theorem d_rplain_133 : decode prog_14_method_78_code 133 = .ok (.goto 57, 3) := by decide +kernel
set_option maxHeartbeats 4000000 in
set_option maxRecDepth 100000 in
theorem w_rplain_J0 {p : Program} {l : Launch} {e : Env} {s : State} {m : MethodId} {args : Array Value} {below : List Frame} {meth : Method} {c : Code} {A : Nat → Prop} {D : va_G} {md : Nat → Nat} {mc : Nat → ClassId} {Q : State → Prop} {sad sav : Nat → Nat} (hC : MCs sad sav "JoinedTreesModel" prog_14_method_78_code 5 none p s m args meth c A D mc) {S : MS} {x1 : Int32} {x2 : Int32} {o : MS} (Heq : m_rplain_J0 S x1 x2 = some o) (Kr : ∀ r : MS, o = r → ∀ (pc : Nat) (H : Heap) (locs : List Loc) (ls : Array Slot), decode prog_14_method_78_code pc = .ok (.return_, 1) → va_P D cls (mw md mc r) H → va_D A (mw md mc r) → va_S A s.heap H locs → W p l e ({ frames := 4, cells := 0, slots := 0, locals := 111 }) s m args below meth c H locs 0 0 Q (F0 m pc ls [])) : ∀ (H : Heap) (locs : List Loc) (ls : Array Slot), va_P D cls (mw md mc S) H → va_D A (mw md mc S) → va_S A s.heap H locs → lv_has ls 5 [(0, .ref (md 100)), (1, .int x1), (2, .int x2)] → W p l e ({ frames := 4, cells := 0, slots := 0, locals := 111 }) s m args below meth c H locs 0 0 Q (F0 m 0 ls []) := by
  intro H locs ls hP hD hS hl
  obtain ⟨⟨hx, hb, hr, hml, hown, hts, hK, hA⟩, hE⟩ := id hC
  unfold m_rplain_J0 at Heq
  refine lv_aload_n hx hb d_rplain_0 rfl (lv_at hl 0 rfl) ?_
  refine va_get (D := D) (ci := 12) (v := .ref (md 11)) (C := R_MM) (T := F_MM) (N := 77) hx hb hts i_MM hown hK hP 0 rfl rfl 11 (by decide) (hts _ kw_1393) (fun _ h9 => h9) rfl d_rplain_1 ?_
  refine lv_iload_n hx hb d_rplain_4 rfl (lv_at hl 2 rfl) ?_
  obtain ⟨hi_1, Heq⟩ := gd_some Heq
  refine va_iald hx hb hK hP 7 0 rfl rfl (i := x2) hi_1 d_rplain_5 ?_
  refine w_i (y := S.a 11 x2.toNatClampNeg) rfl ?_
  obtain ⟨xs6, hxs6⟩ : ∃ z, S.a 11 x2.toNatClampNeg = z := ⟨_, rfl⟩
  by_cases c_2 : S.a 11 x2.toNatClampNeg = 0
  · replace Heq := (if_pos c_2).symm.trans Heq
    refine w_i (y := 0) c_2 ?_
    refine lv_tableIn (tgt := 44) hx hb d_rplain_6 (by decide) (by decide) rfl (by decide) ?_
    exact w_rplain_J44 hC Heq Kr _ _ _ hP hD hS (lv_sub hl [0, 2] rfl)
  replace Heq := (if_neg c_2).symm.trans Heq
  by_cases c_3 : S.a 11 x2.toNatClampNeg = 1
  · replace Heq := (if_pos c_3).symm.trans Heq
    refine w_i (y := 1) c_3 ?_
    refine lv_tableIn (tgt := 44) hx hb d_rplain_6 (by decide) (by decide) rfl (by decide) ?_
    exact w_rplain_J44 hC Heq Kr _ _ _ hP hD hS (lv_sub hl [0, 2] rfl)
  replace Heq := (if_neg c_3).symm.trans Heq
  by_cases c_4 : S.a 11 x2.toNatClampNeg = 2
  · replace Heq := (if_pos c_4).symm.trans Heq
    refine w_i (y := 2) c_4 ?_
    refine lv_tableIn (tgt := 44) hx hb d_rplain_6 (by decide) (by decide) rfl (by decide) ?_
    exact w_rplain_J44 hC Heq Kr _ _ _ hP hD hS (lv_sub hl [0, 2] rfl)
  replace Heq := (if_neg c_4).symm.trans Heq
  by_cases c_5 : S.a 11 x2.toNatClampNeg = 3
  · replace Heq := (if_pos c_5).symm.trans Heq
    refine w_i (y := 3) c_5 ?_
    refine lv_tableIn (tgt := 110) hx hb d_rplain_6 (by decide) (by decide) rfl (by decide) ?_
    refine lv_aload_n hx hb d_rplain_110 rfl (lv_at hl 0 rfl) ?_
    refine lv_aload_n hx hb d_rplain_111 rfl (lv_at hl 0 rfl) ?_
    refine va_get (D := D) (ci := 12) (v := .ref (md 22)) (C := R_MM) (T := F_MM) (N := 77) hx hb hts i_MM hown hK hP 0 rfl rfl 22 (by decide) (hts _ kw_1404) (fun _ h9 => h9) rfl d_rplain_112 ?_
    refine lv_iload_n hx hb d_rplain_115 rfl (lv_at hl 2 rfl) ?_
    obtain ⟨hi_6, Heq⟩ := gd_some Heq
    refine va_lald hx hb hK hP 18 3 rfl rfl (i := x2) hi_6 d_rplain_116 ?_
    refine w_l (y := S.n 22 x2.toNatClampNeg) rfl ?_
    obtain ⟨o_7, h_8, Heq⟩ := ob_some Heq
    have hFc := fr_all hD hS hA
    refine va_callv (va_runV (As := [.long (S.n 22 x2.toNatClampNeg)]) (rest := []) ⟨hx, hb, hml, hown, hts⟩ (g_rdigits2 l D H.size h_8) (cw_v 1 hts kw_1941 kw_1938 kw_1940 kp_81 kw_11 rfl rfl (by decide +kernel) ⟨Nat.le_of_ble_eq_true rfl, Nat.le_of_ble_eq_true rfl⟩) ⟨g_blind, va_recv hK hP (ci := 12) (q0 := 0) rfl rfl, fun U hU hW => g_pre hU hW hP hK hD⟩ rfl rfl hl.1 rfl (lv_room (Nat.le_of_ble_eq_true rfl)) d_rplain_117 ⟨Nat.le_of_ble_eq_true rfl, Nat.le_of_ble_eq_true rfl⟩) hS (fun q _ h => hFc q h) hFc (fun u t H1 locs ht hvm hw hB hz1 hk1 hS => ?_)
    obtain ⟨hP, -, hD1⟩ := hB
    rw [ht] at hP
    have hD := hD1.weaken (fun _ q _ h => hFc q.1 h)
    generalize H1 = H at hP hS ⊢
    refine W.cs (cells' := 0) (slots' := 0) rfl rfl ?_
    refine lv_goto (tgt := 190) hx hb d_rplain_120 (by decide) ?_
    exact w_rplain_J190 hC Heq Kr _ _ _ hP hD hS (lv_sub hl [0] rfl)
  replace Heq := (if_neg c_5).symm.trans Heq
  by_cases c_9 : S.a 11 x2.toNatClampNeg = 4
  · replace Heq := (if_pos c_9).symm.trans Heq
    refine w_i (y := 4) c_9 ?_
    refine lv_tableIn (tgt := 136) hx hb d_rplain_6 (by decide) (by decide) rfl (by decide) ?_
    exact w_rplain_J136 hC Heq Kr _ _ _ hP hD hS (lv_sub hl [0, 2] rfl)
  replace Heq := (if_neg c_9).symm.trans Heq
  by_cases c_10 : S.a 11 x2.toNatClampNeg = 5
  · replace Heq := (if_pos c_10).symm.trans Heq
    refine w_i (y := 5) c_10 ?_
    refine lv_tableIn (tgt := 123) hx hb d_rplain_6 (by decide) (by decide) rfl (by decide) ?_
    refine lv_aload_n hx hb d_rplain_123 rfl (lv_at hl 0 rfl) ?_
    refine lv_aload_n hx hb d_rplain_124 rfl (lv_at hl 0 rfl) ?_
    refine lv_iload_n hx hb d_rplain_125 rfl (lv_at hl 1 rfl) ?_
    refine lv_iload_n hx hb d_rplain_126 rfl (lv_at hl 2 rfl) ?_
    obtain ⟨o_11, h_12, Heq⟩ := ob_some Heq
    have hFc := fr_all hD hS hA
    refine va_calll (va_runV (As := [.int x1, .int x2]) (rest := [.ref (md 100)]) ⟨hx, hb, hml, hown, hts⟩ (g_rcounter l D H.size h_12) (cw_v 2 hts kw_1879 kw_1876 kw_1878 kp_72 kw_11 rfl rfl (by decide +kernel) ⟨Nat.le_of_ble_eq_true rfl, Nat.le_of_ble_eq_true rfl⟩) ⟨g_blind, va_recv hK hP (ci := 12) (q0 := 0) rfl rfl, fun U hU hW => g_pre hU hW hP hK hD⟩ rfl rfl hl.1 rfl (lv_room (Nat.le_of_ble_eq_true rfl)) d_rplain_127 ⟨Nat.le_of_ble_eq_true rfl, Nat.le_of_ble_eq_true rfl⟩) hS (fun q _ h => hFc q h) hFc (fun rz u t H1 locs ht hvm hw hB hz1 hk1 hS => ?_)
    obtain ⟨hP, -, hD1⟩ := hB
    rw [ht] at hP
    have hD := hD1.weaken (fun _ q _ h => hFc q.1 h)
    generalize H1 = H at hP hS ⊢
    refine W.cs (cells' := 0) (slots' := 0) rfl rfl ?_
    subst hw
    obtain ⟨o_13, h_14, Heq⟩ := ob_some Heq
    have hFc := fr_all hD hS hA
    refine va_callv (va_runV (As := [.long o_11.2]) (rest := []) ⟨hx, hb, hml, hown, hts⟩ (g_rdigits2 l D H.size h_14) (cw_v 1 hts kw_1941 kw_1938 kw_1940 kp_81 kw_11 rfl rfl (by decide +kernel) ⟨Nat.le_of_ble_eq_true rfl, Nat.le_of_ble_eq_true rfl⟩) ⟨g_blind, va_recv hK hP (ci := 12) (q0 := 0) rfl rfl, fun U hU hW => g_pre hU hW hP hK hD⟩ rfl rfl hl.1 rfl (lv_room (Nat.le_of_ble_eq_true rfl)) d_rplain_130 ⟨Nat.le_of_ble_eq_true rfl, Nat.le_of_ble_eq_true rfl⟩) hS (fun q _ h => hFc q h) hFc (fun u t H1 locs ht hvm hw hB hz1 hk1 hS => ?_)
    obtain ⟨hP, -, hD1⟩ := hB
    rw [ht] at hP
    have hD := hD1.weaken (fun _ q _ h => hFc q.1 h)
    generalize H1 = H at hP hS ⊢
    refine W.cs (cells' := 0) (slots' := 0) rfl rfl ?_
    refine lv_goto (tgt := 190) hx hb d_rplain_133 (by decide) ?_
    exact w_rplain_J190 hC Heq Kr _ _ _ hP hD hS (lv_sub hl [0] rfl)
  replace Heq := (if_neg c_10).symm.trans Heq
  refine lv_tableOut (tgt := 136) hx hb d_rplain_6 (by have q0 : (S.a 11 x2.toNatClampNeg).toInt ≠ 0 := fun h => c_2 (Int32.toInt_inj.mp (h.trans (by decide))); have q1 : (S.a 11 x2.toNatClampNeg).toInt ≠ 1 := fun h => c_3 (Int32.toInt_inj.mp (h.trans (by decide))); have q2 : (S.a 11 x2.toNatClampNeg).toInt ≠ 2 := fun h => c_4 (Int32.toInt_inj.mp (h.trans (by decide))); have q3 : (S.a 11 x2.toNatClampNeg).toInt ≠ 3 := fun h => c_5 (Int32.toInt_inj.mp (h.trans (by decide))); have q4 : (S.a 11 x2.toNatClampNeg).toInt ≠ 4 := fun h => c_9 (Int32.toInt_inj.mp (h.trans (by decide))); have q5 : (S.a 11 x2.toNatClampNeg).toInt ≠ 5 := fun h => c_10 (Int32.toInt_inj.mp (h.trans (by decide))); omega) (by decide) ?_
  exact w_rplain_J136 hC Heq Kr _ _ _ hP hD hS (lv_sub hl [0, 2] rfl)
def m_rplain (S : MS) (x1 : Int32) (x2 : Int32) : Option MS := m_rplain_J0 S x1 x2
theorem g_rplain (l : Launch) (D : va_G) (sz : Nat) {sad sav : Nat → Nat} {md : Nat → Nat} {mc : Nat → ClassId} {S : MS} {x1 : Int32} {x2 : Int32} {o : MS} (Heq : m_rplain S x1 x2 = some o) : Met l ⟨"JoinedTreesModel", "plain", "(II)V"⟩ (Cond.code ⟨"JoinedTreesModel", "plain", "(II)V"⟩ prog_14_method_78_code 5 none :: gb) ({ frames := 4, cells := 0, slots := 0, locals := 111 }) (gPs sad sav D (mw md mc S) (mty mc) sz [.ref (md 100), .int x1, .int x2]) (va_Qv (fun _ : Unit => True) (fun _ t => gO D (mw md mc o) (mty mc) (va_A (mw md mc S) sz) t) (va_A (mw md mc S) sz)) 0 0 (va_A (mw md mc S) sz) := by
  refine Met.ofW (cc := prog_14_method_78_code) (maxL := 5) (ret := none) (by decide) rfl ?_
  intro p e s m args below meth c s₁ B hml hv
  obtain ⟨rfl, hsz, hP, hK, hD0, hE⟩ := hv
  have hx := B.exec
  have hb := B.bytes
  have hr := B.returns
  have hts : ∀ w9 ∈ gb, w9.before [.ref (md 100), .int x1, .int x2].toArray s = true := fun w9 h => atoms_spec (ws := Cond.code ⟨"JoinedTreesModel", "plain", "(II)V"⟩ prog_14_method_78_code 5 none :: gb) B.pre w9 (List.mem_cons_of_mem _ h)
  have hown : s.vm.findClass "JoinedTreesModel" = some m.cls := findClass_of_methodNamed B.named
  have hlocks := B.notSynchronized
  subst hsz
  have hD := hD0.self (sz := s.heap.size)
  generalize hAe : va_A (mw md mc S) s.heap.size = A at hD hE ⊢
  have hA : ∀ q : Nat, s.heap.size ≤ q → A q := fun q h => by rw [← hAe]; exact Or.inr h
  have hS : va_S A s.heap s.heap [] := va_S.rf
  have hl := lv_entry ([.ref (md 100), .int x1, .int x2]) (n := 5) (Nat.le_of_ble_eq_true rfl)
  rw [lg_entry_eq]
  generalize (lg_sl ([.ref (md 100), .int x1, .int x2]) ++ List.replicate (5 - (lg_sl ([.ref (md 100), .int x1, .int x2])).length) Slot.unset).toArray = ls at hl ⊢
  have hl : lv_has ls 5 [(0, .ref (md 100)), (1, .int x1), (2, .int x2)] := hl
  refine w_rplain_J0 ⟨⟨hx, hb, hr, hml, hown, hts, hK, hA⟩, hE⟩ Heq (fun r h pc H locs ls hd hP hD hS => ?_) _ _ _ hP hD hS (lv_sub hl [0, 1, 2] rfl)
  subst h
  exact W.vret hx hb hr (fun t ht hW => ⟨⟨(), rfl, trivial, by rw [ht]; exact hP, va_K.moved hW.alike hK, hD⟩, hS.F ht⟩) hS.2.2 hd
