def m_cRd_readKey_J41 (N : Nat → Nat) (x0 : Nat) (S : CS) : Option (CS × Int32) := some (S, 0)
theorem d_cRd_readKey_0 : decode prog_3_method_6_code 0 = .ok (.aload_n 0, 1) := by decide +kernel
theorem d_cRd_readKey_1 : decode prog_3_method_6_code 1 = .ok (.getfield 22, 3) := by decide +kernel
theorem d_cRd_readKey_4 : decode prog_3_method_6_code 4 = .ok (.getfield 67, 3) := by decide +kernel
theorem d_cRd_readKey_7 : decode prog_3_method_6_code 7 = .ok (.istore_n 1, 1) := by decide +kernel
theorem d_cRd_readKey_8 : decode prog_3_method_6_code 8 = .ok (.aload_n 0, 1) := by decide +kernel
theorem d_cRd_readKey_9 : decode prog_3_method_6_code 9 = .ok (.getfield 27, 3) := by decide +kernel
theorem d_cRd_readKey_12 : decode prog_3_method_6_code 12 = .ok (.aload_n 0, 1) := by decide +kernel
theorem d_cRd_readKey_13 : decode prog_3_method_6_code 13 = .ok (.getfield 34, 3) := by decide +kernel
theorem d_cRd_readKey_16 : decode prog_3_method_6_code 16 = .ok (.invokevirtual 70, 3) := by decide +kernel
theorem d_cRd_readKey_19 : decode prog_3_method_6_code 19 = .ok (.bipush 34, 2) := by decide +kernel
theorem d_cRd_readKey_21 : decode prog_3_method_6_code 21 = .ok (.if_icmp .ne 20, 3) := by decide +kernel
theorem d_cRd_readKey_41 : decode prog_3_method_6_code 41 = .ok (.iconst 0, 1) := by decide +kernel
theorem d_cRd_readKey_42 : decode prog_3_method_6_code 42 = .ok (.ireturn, 1) := by decide +kernel
set_option maxHeartbeats 4000000 in
set_option maxRecDepth 100000 in
theorem w_cRd_readKey_J41 {p : Program} {l : Launch} {e : Env} {s : State} {m : MethodId} {args : Array Value} {below : List Frame} {meth : Method} {c : Code} {A : Nat → Prop} {D : va_G} {ad : Nat → Nat → Nat} {cc : Nat → ClassId} {sad sav : Nat → Nat} {Q : State → Prop} (hC : MCc sad sav "JoinedTrees$JsonReader" prog_3_method_6_code 2 (some .boolean) p s m args meth c A D cc) {N : Nat → Nat} {x0 : Nat} {S : CS} {o : CS × Int32} (Heq : m_cRd_readKey_J41 N x0 S = some o) (Kr : ∀ r : CS × Int32, o = r → ∀ (pc : Nat) (H : Heap) (locs : List Loc) (ls : Array Slot), decode prog_3_method_6_code pc = .ok (.ireturn, 1) → (r.2 = 0 ∨ r.2 = 1) → va_P D cls (cw ad cc N r.1) H → va_D A (cw ad cc N r.1) → va_S A s.heap H locs → W p l e ({ frames := 3, cells := 0, slots := 0, locals := 72 }) s m args below meth c H locs 0 0 Q (F0 m pc ls [.int r.2])) : ∀ (H : Heap) (locs : List Loc) (ls : Array Slot), va_P D cls (cw ad cc N S) H → va_D A (cw ad cc N S) → va_S A s.heap H locs → lv_has ls 2 [(0, .ref (ad 1 x0))] → W p l e ({ frames := 3, cells := 0, slots := 0, locals := 72 }) s m args below meth c H locs 0 0 Q (F0 m 41 ls []) := by
  intro H locs ls hP hD hS hl
  obtain ⟨hx, hb, hr, hml, hown, hts, hK, hA, hev, hE, hN, hNS⟩ := id hC
  unfold m_cRd_readKey_J41 at Heq
  refine lv_iconst (v := 0) hx hb d_cRd_readKey_41 (by decide) ?_
  exact Kr _ (Option.some.inj Heq).symm 42 _ _ _ d_cRd_readKey_42 (Or.inl rfl) hP hD hS
def m_cRd_readKey_J0 (N : Nat → Nat) (x0 : Nat) (S : CS) : Option (CS × Int32) := gl x0 (N 1) (gn (S.r 1 1 x0) (N 5) (fun j_1 => gn (S.r 1 2 x0) (N 5) (fun j_4 => ob (m_cRw_at N j_4 S (S.i 1 4 x0)) (fun o_7 => (if o_7.2 = 34 then ob (m_cRd_readString N x0 o_7.1 64) (fun o_10 => (if o_10.2 = 0 then m_cRd_readKey_J41 N x0 o_10.1 else ob (m_cRd_isNewKey N x0 o_10.1 (S.i 5 1 j_1)) (fun o_13 => (if o_13.2 = 0 then m_cRd_readKey_J41 N x0 o_13.1 else gn (o_13.1.r 1 1 x0) (N 5) (fun j_16 => ob (m_cRd_skipBlanks N x0 (((o_13.1.setI 1 8 x0 (S.i 5 1 j_1)).setI 1 9 x0 ((o_13.1.i 5 1 j_16) - (S.i 5 1 j_1))).setI 1 4 x0 ((o_13.1.i 1 4 x0) + 1))) (fun o_19 => gn (o_19.r 1 2 x0) (N 5) (fun j_21 => ob (m_cRw_at N j_21 o_19 (o_19.i 1 4 x0)) (fun o_24 => (if o_24.2 = 58 then ob (m_cRd_skipBlanks N x0 (o_24.1.setI 1 4 x0 ((o_24.1.i 1 4 x0) + 1))) (fun o_27 => some (o_27, 1)) else some (o_24.1, 0)))))))))) else m_cRd_readKey_J41 N x0 o_7.1)))))
theorem d_cRd_readKey_24 : decode prog_3_method_6_code 24 = .ok (.aload_n 0, 1) := by decide +kernel
theorem d_cRd_readKey_25 : decode prog_3_method_6_code 25 = .ok (.bipush 64, 2) := by decide +kernel
theorem d_cRd_readKey_27 : decode prog_3_method_6_code 27 = .ok (.invokevirtual 89, 3) := by decide +kernel
theorem d_cRd_readKey_30 : decode prog_3_method_6_code 30 = .ok (.ifCond .eq 11, 3) := by decide +kernel
theorem d_cRd_readKey_33 : decode prog_3_method_6_code 33 = .ok (.aload_n 0, 1) := by decide +kernel
theorem d_cRd_readKey_34 : decode prog_3_method_6_code 34 = .ok (.iload_n 1, 1) := by decide +kernel
theorem d_cRd_readKey_35 : decode prog_3_method_6_code 35 = .ok (.invokevirtual 92, 3) := by decide +kernel
theorem d_cRd_readKey_38 : decode prog_3_method_6_code 38 = .ok (.ifCond .ne 5, 3) := by decide +kernel
theorem d_cRd_readKey_43 : decode prog_3_method_6_code 43 = .ok (.aload_n 0, 1) := by decide +kernel
theorem d_cRd_readKey_44 : decode prog_3_method_6_code 44 = .ok (.iload_n 1, 1) := by decide +kernel
theorem d_cRd_readKey_45 : decode prog_3_method_6_code 45 = .ok (.putfield 44, 3) := by decide +kernel
theorem d_cRd_readKey_48 : decode prog_3_method_6_code 48 = .ok (.aload_n 0, 1) := by decide +kernel
theorem d_cRd_readKey_49 : decode prog_3_method_6_code 49 = .ok (.aload_n 0, 1) := by decide +kernel
theorem d_cRd_readKey_50 : decode prog_3_method_6_code 50 = .ok (.getfield 22, 3) := by decide +kernel
theorem d_cRd_readKey_53 : decode prog_3_method_6_code 53 = .ok (.getfield 67, 3) := by decide +kernel
theorem d_cRd_readKey_56 : decode prog_3_method_6_code 56 = .ok (.iload_n 1, 1) := by decide +kernel
theorem d_cRd_readKey_57 : decode prog_3_method_6_code 57 = .ok (.isub, 1) := by decide +kernel
theorem d_cRd_readKey_58 : decode prog_3_method_6_code 58 = .ok (.putfield 47, 3) := by decide +kernel
theorem d_cRd_readKey_61 : decode prog_3_method_6_code 61 = .ok (.aload_n 0, 1) := by decide +kernel
theorem d_cRd_readKey_62 : decode prog_3_method_6_code 62 = .ok (.dup, 1) := by decide +kernel
theorem d_cRd_readKey_63 : decode prog_3_method_6_code 63 = .ok (.getfield 34, 3) := by decide +kernel
theorem d_cRd_readKey_66 : decode prog_3_method_6_code 66 = .ok (.iconst 1, 1) := by decide +kernel
theorem d_cRd_readKey_67 : decode prog_3_method_6_code 67 = .ok (.iadd, 1) := by decide +kernel
theorem d_cRd_readKey_68 : decode prog_3_method_6_code 68 = .ok (.putfield 34, 3) := by decide +kernel
theorem d_cRd_readKey_71 : decode prog_3_method_6_code 71 = .ok (.aload_n 0, 1) := by decide +kernel
theorem d_cRd_readKey_72 : decode prog_3_method_6_code 72 = .ok (.invokevirtual 53, 3) := by decide +kernel
theorem d_cRd_readKey_75 : decode prog_3_method_6_code 75 = .ok (.aload_n 0, 1) := by decide +kernel
theorem d_cRd_readKey_76 : decode prog_3_method_6_code 76 = .ok (.getfield 27, 3) := by decide +kernel
theorem d_cRd_readKey_79 : decode prog_3_method_6_code 79 = .ok (.aload_n 0, 1) := by decide +kernel
theorem d_cRd_readKey_80 : decode prog_3_method_6_code 80 = .ok (.getfield 34, 3) := by decide +kernel
theorem d_cRd_readKey_83 : decode prog_3_method_6_code 83 = .ok (.invokevirtual 70, 3) := by decide +kernel
theorem d_cRd_readKey_86 : decode prog_3_method_6_code 86 = .ok (.bipush 58, 2) := by decide +kernel
theorem d_cRd_readKey_88 : decode prog_3_method_6_code 88 = .ok (.if_icmp .eq 5, 3) := by decide +kernel
theorem d_cRd_readKey_93 : decode prog_3_method_6_code 93 = .ok (.aload_n 0, 1) := by decide +kernel
theorem d_cRd_readKey_94 : decode prog_3_method_6_code 94 = .ok (.dup, 1) := by decide +kernel
theorem d_cRd_readKey_95 : decode prog_3_method_6_code 95 = .ok (.getfield 34, 3) := by decide +kernel
theorem d_cRd_readKey_98 : decode prog_3_method_6_code 98 = .ok (.iconst 1, 1) := by decide +kernel
theorem d_cRd_readKey_99 : decode prog_3_method_6_code 99 = .ok (.iadd, 1) := by decide +kernel
theorem d_cRd_readKey_100 : decode prog_3_method_6_code 100 = .ok (.putfield 34, 3) := by decide +kernel
theorem d_cRd_readKey_103 : decode prog_3_method_6_code 103 = .ok (.aload_n 0, 1) := by decide +kernel
theorem d_cRd_readKey_104 : decode prog_3_method_6_code 104 = .ok (.invokevirtual 53, 3) := by decide +kernel
theorem d_cRd_readKey_107 : decode prog_3_method_6_code 107 = .ok (.iconst 1, 1) := by decide +kernel
theorem d_cRd_readKey_108 : decode prog_3_method_6_code 108 = .ok (.ireturn, 1) := by decide +kernel
theorem d_cRd_readKey_91 : decode prog_3_method_6_code 91 = .ok (.iconst 0, 1) := by decide +kernel
theorem d_cRd_readKey_92 : decode prog_3_method_6_code 92 = .ok (.ireturn, 1) := by decide +kernel
set_option maxHeartbeats 4000000 in
set_option maxRecDepth 100000 in
theorem w_cRd_readKey_J0 {p : Program} {l : Launch} {e : Env} {s : State} {m : MethodId} {args : Array Value} {below : List Frame} {meth : Method} {c : Code} {A : Nat → Prop} {D : va_G} {ad : Nat → Nat → Nat} {cc : Nat → ClassId} {sad sav : Nat → Nat} {Q : State → Prop} (hC : MCc sad sav "JoinedTrees$JsonReader" prog_3_method_6_code 2 (some .boolean) p s m args meth c A D cc) {N : Nat → Nat} {x0 : Nat} {S : CS} {o : CS × Int32} (Heq : m_cRd_readKey_J0 N x0 S = some o) (Kr : ∀ r : CS × Int32, o = r → ∀ (pc : Nat) (H : Heap) (locs : List Loc) (ls : Array Slot), decode prog_3_method_6_code pc = .ok (.ireturn, 1) → (r.2 = 0 ∨ r.2 = 1) → va_P D cls (cw ad cc N r.1) H → va_D A (cw ad cc N r.1) → va_S A s.heap H locs → W p l e ({ frames := 3, cells := 0, slots := 0, locals := 72 }) s m args below meth c H locs 0 0 Q (F0 m pc ls [.int r.2])) : ∀ (H : Heap) (locs : List Loc) (ls : Array Slot), va_P D cls (cw ad cc N S) H → va_D A (cw ad cc N S) → va_S A s.heap H locs → lv_has ls 2 [(0, .ref (ad 1 x0))] → W p l e ({ frames := 3, cells := 0, slots := 0, locals := 72 }) s m args below meth c H locs 0 0 Q (F0 m 0 ls []) := by
  intro H locs ls hP hD hS hl
  obtain ⟨hx, hb, hr, hml, hown, hts, hK, hA, hev, hE, hN, hNS⟩ := id hC
  unfold m_cRd_readKey_J0 at Heq
  refine lv_aload_n hx hb d_cRd_readKey_0 rfl (lv_at hl 0 rfl) ?_
  obtain ⟨hl_x0_1, Heq⟩ := gl_some Heq
  refine va_get (D := D) (ci := 1) (v := rv ad 5 (S.r 1 1 x0)) (C := R_Rd) (T := F_Rd) (N := 10) hx hb hts i_Rd hown hK hP (cPos N 1 x0) (cw_obj (k := 1) (by decide) hl_x0_1) rfl 1 (by decide) (hts _ kw_344) (fun _ h9 => h9) rfl d_cRd_readKey_1 ?_
  obtain ⟨j_1, hj_2, hl_3, Heq⟩ := gn_some Heq
  refine w_s (st' := [.ref (ad 5 j_1)]) (congrArg (fun z9 : Option Nat => [rv ad 5 z9]) hj_2) ?_
  refine va_get (D := D) (ci := 5) (v := .int (S.i 5 1 j_1)) (C := R_Rw) (T := F_Rw) (N := 3) hx hb hts i_Rw hown hK hP (cPos N 5 j_1) (cw_obj (k := 5) (by decide) hl_3) rfl 1 (by decide) (hts _ kw_146) (fun _ h9 => h9) rfl d_cRd_readKey_4 ?_
  refine lv_istore_n (lv' := [(1, .int (S.i 5 1 j_1)), (0, .ref (ad 1 x0))]) hx hb d_cRd_readKey_7 rfl hl (by decide) rfl (fun ls hl => ?_)
  refine lv_aload_n hx hb d_cRd_readKey_8 rfl (lv_at hl 1 rfl) ?_
  refine va_get (D := D) (ci := 1) (v := rv ad 5 (S.r 1 2 x0)) (C := R_Rd) (T := F_Rd) (N := 10) hx hb hts i_Rd hown hK hP (cPos N 1 x0) (cw_obj (k := 1) (by decide) hl_x0_1) rfl 2 (by decide) (hts _ kw_346) (fun _ h9 => h9) rfl d_cRd_readKey_9 ?_
  refine lv_aload_n hx hb d_cRd_readKey_12 rfl (lv_at hl 1 rfl) ?_
  refine va_get (D := D) (ci := 1) (v := .int (S.i 1 4 x0)) (C := R_Rd) (T := F_Rd) (N := 10) hx hb hts i_Rd hown hK hP (cPos N 1 x0) (cw_obj (k := 1) (by decide) hl_x0_1) rfl 4 (by decide) (hts _ kw_349) (fun _ h9 => h9) rfl d_cRd_readKey_13 ?_
  obtain ⟨j_4, hj_5, hl_6, Heq⟩ := gn_some Heq
  refine w_s (st' := [.int (S.i 1 4 x0), .ref (ad 5 j_4)]) (congrArg (fun z9 : Option Nat => [.int (S.i 1 4 x0), rv ad 5 z9]) hj_5) ?_
  obtain ⟨o_7, h_8, Heq⟩ := ob_some Heq
  have hFc := fr_all hD hS hA
  refine va_calli (va_runV (As := [.int (S.i 1 4 x0)]) (rest := []) ⟨hx, hb, hml, hown, hts⟩ (g_cRw_at l D H.size (ad := ad) (cc := cc) (sad := sad) (sav := sav) h_8) (cw_v 1 hts kw_689 kw_871 kw_687 kw_688 kw_4 rfl rfl (by decide +kernel) ⟨Nat.le_of_ble_eq_true rfl, Nat.le_of_ble_eq_true rfl⟩) ⟨c_blind, va_recv hK hP (ci := 5) (q0 := cPos N 5 j_4) rfl (cw_obj (k := 5) (by decide) hl_6), fun U hU hW => c_pre hU hW hP hK hD hev hE hN hNS hS hFc⟩ rfl rfl hl.1 rfl (lv_room (Nat.le_of_ble_eq_true rfl)) d_cRd_readKey_16 ⟨Nat.le_of_ble_eq_true rfl, Nat.le_of_ble_eq_true rfl⟩) hS (fun q _ h => hFc q h) hFc (fun rz u t H1 locs ht hvm hw hB hz1 hk1 hS => ?_)
  obtain ⟨hP, -, hD1⟩ := hB
  rw [ht] at hP
  have hD := hD1.weaken (fun _ q _ h => hFc q.1 h)
  generalize H1 = H at hP hS ⊢
  refine W.cs (cells' := 0) (slots' := 0) rfl rfl ?_
  subst hw
  refine lv_bipush (v := 34) hx hb d_cRd_readKey_19 (by decide) ?_
  refine lv_icmp_ne (tgt := 41) hx hb d_cRd_readKey_21 (by decide) (fun c_9 => ?_) (fun c_9 => ?_)
  · replace Heq := (if_neg c_9).symm.trans Heq
    exact w_cRd_readKey_J41 hC Heq Kr _ _ _ hP hD hS (lv_sub hl [1] rfl)
  · replace Heq := (if_pos c_9).symm.trans Heq
    refine lv_aload_n hx hb d_cRd_readKey_24 rfl (lv_at hl 1 rfl) ?_
    refine lv_bipush (v := 64) hx hb d_cRd_readKey_25 (by decide) ?_
    obtain ⟨o_10, h_11, Heq⟩ := ob_some Heq
    have hFc := fr_all hD hS hA
    refine va_calli (va_runV (As := [.int 64]) (rest := []) ⟨hx, hb, hml, hown, hts⟩ (g_cRd_readString l D H.size (ad := ad) (cc := cc) (sad := sad) (sav := sav) h_11) (cw_v 1 hts kw_894 kw_891 kw_892 kw_893 kw_7 rfl rfl (by decide +kernel) ⟨Nat.le_of_ble_eq_true rfl, Nat.le_of_ble_eq_true rfl⟩) ⟨c_blind, va_recv hK hP (ci := 1) (q0 := cPos N 1 x0) rfl (cw_obj (k := 1) (by decide) hl_x0_1), fun U hU hW => c_pre hU hW hP hK hD hev hE hN hNS hS hFc⟩ rfl rfl hl.1 rfl (lv_room (Nat.le_of_ble_eq_true rfl)) d_cRd_readKey_27 ⟨Nat.le_of_ble_eq_true rfl, Nat.le_of_ble_eq_true rfl⟩) hS (fun q _ h => hFc q h) hFc (fun rz u t H1 locs ht hvm hw hB hz1 hk1 hS => ?_)
    obtain ⟨hP, -, hD1⟩ := hB
    rw [ht] at hP
    have hD := hD1.weaken (fun _ q _ h => hFc q.1 h)
    generalize H1 = H at hP hS ⊢
    refine W.cs (cells' := 0) (slots' := 0) rfl rfl ?_
    subst hw
    refine lv_if_eq (tgt := 41) hx hb d_cRd_readKey_30 (by decide) (fun c_12 => ?_) (fun c_12 => ?_)
    · replace Heq := (if_pos c_12).symm.trans Heq
      exact w_cRd_readKey_J41 hC Heq Kr _ _ _ hP hD hS (lv_sub hl [1] rfl)
    · replace Heq := (if_neg c_12).symm.trans Heq
      refine lv_aload_n hx hb d_cRd_readKey_33 rfl (lv_at hl 1 rfl) ?_
      refine lv_iload_n hx hb d_cRd_readKey_34 rfl (lv_at hl 0 rfl) ?_
      obtain ⟨o_13, h_14, Heq⟩ := ob_some Heq
      have hFc := fr_all hD hS hA
      refine va_calli (va_runV (As := [.int (S.i 5 1 j_1)]) (rest := []) ⟨hx, hb, hml, hown, hts⟩ (g_cRd_isNewKey l D H.size (ad := ad) (cc := cc) (sad := sad) (sav := sav) h_14) (cw_v 1 hts kw_978 kw_975 kw_976 kw_977 kw_7 rfl rfl (by decide +kernel) ⟨Nat.le_of_ble_eq_true rfl, Nat.le_of_ble_eq_true rfl⟩) ⟨c_blind, va_recv hK hP (ci := 1) (q0 := cPos N 1 x0) rfl (cw_obj (k := 1) (by decide) hl_x0_1), fun U hU hW => c_pre hU hW hP hK hD hev hE hN hNS hS hFc⟩ rfl rfl hl.1 rfl (lv_room (Nat.le_of_ble_eq_true rfl)) d_cRd_readKey_35 ⟨Nat.le_of_ble_eq_true rfl, Nat.le_of_ble_eq_true rfl⟩) hS (fun q _ h => hFc q h) hFc (fun rz u t H1 locs ht hvm hw hB hz1 hk1 hS => ?_)
      obtain ⟨hP, -, hD1⟩ := hB
      rw [ht] at hP
      have hD := hD1.weaken (fun _ q _ h => hFc q.1 h)
      generalize H1 = H at hP hS ⊢
      refine W.cs (cells' := 0) (slots' := 0) rfl rfl ?_
      subst hw
      refine lv_if_ne (tgt := 43) hx hb d_cRd_readKey_38 (by decide) (fun c_15 => ?_) (fun c_15 => ?_)
      · replace Heq := (if_neg c_15).symm.trans Heq
        refine lv_aload_n hx hb d_cRd_readKey_43 rfl (lv_at hl 1 rfl) ?_
        refine lv_iload_n hx hb d_cRd_readKey_44 rfl (lv_at hl 0 rfl) ?_
        refine va_put (D := D) (ci := 1) (v := .int (S.i 5 1 j_1)) (ty := .int) (C := R_Rd) (T := F_Rd) (N := 10) hx hb hts i_Rd t_Rd t_Rd_ok n_Rd hown hK hP hD hS (cPos N 1 x0) (cw_obj (k := 1) (by decide) hl_x0_1) rfl 8 (by decide) (hts _ kw_354) (fun _ h9 => h9) rfl (by decide +kernel) rfl rfl (Nat.le_of_ble_eq_true rfl) d_cRd_readKey_45 (fun H locs hP hD hS => ?_)
        have hD := (congrArg (fun w9 => va_D A w9) (cw_setI (ad := ad) (cc := cc) (S := o_13.1) (k := 1) (f := 8) (v := S.i 5 1 j_1) (by decide) rfl hl_x0_1)).mp hD
        have hP := (congrArg (fun w9 => va_P D cls w9 H) (cw_setI (ad := ad) (cc := cc) (S := o_13.1) (k := 1) (f := 8) (v := S.i 5 1 j_1) (by decide) rfl hl_x0_1)).mp hP
        refine lv_aload_n hx hb d_cRd_readKey_48 rfl (lv_at hl 1 rfl) ?_
        refine lv_aload_n hx hb d_cRd_readKey_49 rfl (lv_at hl 1 rfl) ?_
        refine va_get (D := D) (ci := 1) (v := rv ad 5 ((o_13.1.setI 1 8 x0 (S.i 5 1 j_1)).r 1 1 x0)) (C := R_Rd) (T := F_Rd) (N := 10) hx hb hts i_Rd hown hK hP (cPos N 1 x0) (cw_obj (k := 1) (by decide) hl_x0_1) rfl 1 (by decide) (hts _ kw_344) (fun _ h9 => h9) rfl d_cRd_readKey_50 ?_
        refine w_v (y := rv ad 5 (o_13.1.r 1 1 x0)) (congrArg (rv ad 5) rfl) ?_
        obtain ⟨j_16, hj_17, hl_18, Heq⟩ := gn_some Heq
        refine w_s (st' := [.ref (ad 5 j_16), .ref (ad 1 x0)]) (congrArg (fun z9 : Option Nat => [rv ad 5 z9, .ref (ad 1 x0)]) hj_17) ?_
        refine va_get (D := D) (ci := 5) (v := .int ((o_13.1.setI 1 8 x0 (S.i 5 1 j_1)).i 5 1 j_16)) (C := R_Rw) (T := F_Rw) (N := 3) hx hb hts i_Rw hown hK hP (cPos N 5 j_16) (cw_obj (k := 5) (by decide) hl_18) rfl 1 (by decide) (hts _ kw_146) (fun _ h9 => h9) rfl d_cRd_readKey_53 ?_
        refine w_i (y := o_13.1.i 5 1 j_16) rfl ?_
        refine lv_iload_n hx hb d_cRd_readKey_56 rfl (lv_at hl 0 rfl) ?_
        refine lv_isub hx hb d_cRd_readKey_57 ?_
        refine w_i (y := (o_13.1.i 5 1 j_16) - (S.i 5 1 j_1)) rfl ?_
        refine va_put (D := D) (ci := 1) (v := .int ((o_13.1.i 5 1 j_16) - (S.i 5 1 j_1))) (ty := .int) (C := R_Rd) (T := F_Rd) (N := 10) hx hb hts i_Rd t_Rd t_Rd_ok n_Rd hown hK hP hD hS (cPos N 1 x0) (cw_obj (k := 1) (by decide) hl_x0_1) rfl 9 (by decide) (hts _ kw_355) (fun _ h9 => h9) rfl (by decide +kernel) rfl rfl (Nat.le_of_ble_eq_true rfl) d_cRd_readKey_58 (fun H locs hP hD hS => ?_)
        have hD := (congrArg (fun w9 => va_D A w9) (cw_setI (ad := ad) (cc := cc) (S := (o_13.1.setI 1 8 x0 (S.i 5 1 j_1))) (k := 1) (f := 9) (v := (o_13.1.i 5 1 j_16) - (S.i 5 1 j_1)) (by decide) rfl hl_x0_1)).mp hD
        have hP := (congrArg (fun w9 => va_P D cls w9 H) (cw_setI (ad := ad) (cc := cc) (S := (o_13.1.setI 1 8 x0 (S.i 5 1 j_1))) (k := 1) (f := 9) (v := (o_13.1.i 5 1 j_16) - (S.i 5 1 j_1)) (by decide) rfl hl_x0_1)).mp hP
        refine lv_aload_n hx hb d_cRd_readKey_61 rfl (lv_at hl 1 rfl) ?_
        refine lv_dup hx hb d_cRd_readKey_62 (by first | rfl | exact rv_cat) ?_
        refine va_get (D := D) (ci := 1) (v := .int (((o_13.1.setI 1 8 x0 (S.i 5 1 j_1)).setI 1 9 x0 ((o_13.1.i 5 1 j_16) - (S.i 5 1 j_1))).i 1 4 x0)) (C := R_Rd) (T := F_Rd) (N := 10) hx hb hts i_Rd hown hK hP (cPos N 1 x0) (cw_obj (k := 1) (by decide) hl_x0_1) rfl 4 (by decide) (hts _ kw_349) (fun _ h9 => h9) rfl d_cRd_readKey_63 ?_
        refine w_i (y := o_13.1.i 1 4 x0) rfl ?_
        refine lv_iconst (v := 1) hx hb d_cRd_readKey_66 (by decide) ?_
        refine lv_iadd hx hb d_cRd_readKey_67 ?_
        refine w_i (y := (o_13.1.i 1 4 x0) + 1) rfl ?_
        refine va_put (D := D) (ci := 1) (v := .int ((o_13.1.i 1 4 x0) + 1)) (ty := .int) (C := R_Rd) (T := F_Rd) (N := 10) hx hb hts i_Rd t_Rd t_Rd_ok n_Rd hown hK hP hD hS (cPos N 1 x0) (cw_obj (k := 1) (by decide) hl_x0_1) rfl 4 (by decide) (hts _ kw_349) (fun _ h9 => h9) rfl (by decide +kernel) rfl rfl (Nat.le_of_ble_eq_true rfl) d_cRd_readKey_68 (fun H locs hP hD hS => ?_)
        have hD := (congrArg (fun w9 => va_D A w9) (cw_setI (ad := ad) (cc := cc) (S := ((o_13.1.setI 1 8 x0 (S.i 5 1 j_1)).setI 1 9 x0 ((o_13.1.i 5 1 j_16) - (S.i 5 1 j_1)))) (k := 1) (f := 4) (v := (o_13.1.i 1 4 x0) + 1) (by decide) rfl hl_x0_1)).mp hD
        have hP := (congrArg (fun w9 => va_P D cls w9 H) (cw_setI (ad := ad) (cc := cc) (S := ((o_13.1.setI 1 8 x0 (S.i 5 1 j_1)).setI 1 9 x0 ((o_13.1.i 5 1 j_16) - (S.i 5 1 j_1)))) (k := 1) (f := 4) (v := (o_13.1.i 1 4 x0) + 1) (by decide) rfl hl_x0_1)).mp hP
        refine lv_aload_n hx hb d_cRd_readKey_71 rfl (lv_at hl 1 rfl) ?_
        obtain ⟨o_19, h_20, Heq⟩ := ob_some Heq
        have hFc := fr_all hD hS hA
        refine va_callv (va_runV (As := []) (rest := []) ⟨hx, hb, hml, hown, hts⟩ (g_cRd_skipBlanks l D H.size (ad := ad) (cc := cc) (sad := sad) (sav := sav) h_20) (cw_v 0 hts kw_870 kw_867 kw_868 kw_869 kw_7 rfl rfl (by decide +kernel) ⟨Nat.le_of_ble_eq_true rfl, Nat.le_of_ble_eq_true rfl⟩) ⟨c_blind, va_recv hK hP (ci := 1) (q0 := cPos N 1 x0) rfl (cw_obj (k := 1) (by decide) hl_x0_1), fun U hU hW => c_pre hU hW hP hK hD hev hE hN hNS hS hFc⟩ rfl rfl hl.1 rfl (lv_room (Nat.le_of_ble_eq_true rfl)) d_cRd_readKey_72 ⟨Nat.le_of_ble_eq_true rfl, Nat.le_of_ble_eq_true rfl⟩) hS (fun q _ h => hFc q h) hFc (fun u t H1 locs ht hvm hw hB hz1 hk1 hS => ?_)
        obtain ⟨hP, -, hD1⟩ := hB
        rw [ht] at hP
        have hD := hD1.weaken (fun _ q _ h => hFc q.1 h)
        generalize H1 = H at hP hS ⊢
        refine W.cs (cells' := 0) (slots' := 0) rfl rfl ?_
        refine lv_aload_n hx hb d_cRd_readKey_75 rfl (lv_at hl 1 rfl) ?_
        refine va_get (D := D) (ci := 1) (v := rv ad 5 (o_19.r 1 2 x0)) (C := R_Rd) (T := F_Rd) (N := 10) hx hb hts i_Rd hown hK hP (cPos N 1 x0) (cw_obj (k := 1) (by decide) hl_x0_1) rfl 2 (by decide) (hts _ kw_346) (fun _ h9 => h9) rfl d_cRd_readKey_76 ?_
        refine lv_aload_n hx hb d_cRd_readKey_79 rfl (lv_at hl 1 rfl) ?_
        refine va_get (D := D) (ci := 1) (v := .int (o_19.i 1 4 x0)) (C := R_Rd) (T := F_Rd) (N := 10) hx hb hts i_Rd hown hK hP (cPos N 1 x0) (cw_obj (k := 1) (by decide) hl_x0_1) rfl 4 (by decide) (hts _ kw_349) (fun _ h9 => h9) rfl d_cRd_readKey_80 ?_
        obtain ⟨j_21, hj_22, hl_23, Heq⟩ := gn_some Heq
        refine w_s (st' := [.int (o_19.i 1 4 x0), .ref (ad 5 j_21)]) (congrArg (fun z9 : Option Nat => [.int (o_19.i 1 4 x0), rv ad 5 z9]) hj_22) ?_
        obtain ⟨o_24, h_25, Heq⟩ := ob_some Heq
        have hFc := fr_all hD hS hA
        refine va_calli (va_runV (As := [.int (o_19.i 1 4 x0)]) (rest := []) ⟨hx, hb, hml, hown, hts⟩ (g_cRw_at l D H.size (ad := ad) (cc := cc) (sad := sad) (sav := sav) h_25) (cw_v 1 hts kw_689 kw_871 kw_687 kw_688 kw_4 rfl rfl (by decide +kernel) ⟨Nat.le_of_ble_eq_true rfl, Nat.le_of_ble_eq_true rfl⟩) ⟨c_blind, va_recv hK hP (ci := 5) (q0 := cPos N 5 j_21) rfl (cw_obj (k := 5) (by decide) hl_23), fun U hU hW => c_pre hU hW hP hK hD hev hE hN hNS hS hFc⟩ rfl rfl hl.1 rfl (lv_room (Nat.le_of_ble_eq_true rfl)) d_cRd_readKey_83 ⟨Nat.le_of_ble_eq_true rfl, Nat.le_of_ble_eq_true rfl⟩) hS (fun q _ h => hFc q h) hFc (fun rz u t H1 locs ht hvm hw hB hz1 hk1 hS => ?_)
        obtain ⟨hP, -, hD1⟩ := hB
        rw [ht] at hP
        have hD := hD1.weaken (fun _ q _ h => hFc q.1 h)
        generalize H1 = H at hP hS ⊢
        refine W.cs (cells' := 0) (slots' := 0) rfl rfl ?_
        subst hw
        refine lv_bipush (v := 58) hx hb d_cRd_readKey_86 (by decide) ?_
        refine lv_icmp_eq (tgt := 93) hx hb d_cRd_readKey_88 (by decide) (fun c_26 => ?_) (fun c_26 => ?_)
        · replace Heq := (if_pos c_26).symm.trans Heq
          refine lv_aload_n hx hb d_cRd_readKey_93 rfl (lv_at hl 1 rfl) ?_
          refine lv_dup hx hb d_cRd_readKey_94 (by first | rfl | exact rv_cat) ?_
          refine va_get (D := D) (ci := 1) (v := .int (o_24.1.i 1 4 x0)) (C := R_Rd) (T := F_Rd) (N := 10) hx hb hts i_Rd hown hK hP (cPos N 1 x0) (cw_obj (k := 1) (by decide) hl_x0_1) rfl 4 (by decide) (hts _ kw_349) (fun _ h9 => h9) rfl d_cRd_readKey_95 ?_
          refine lv_iconst (v := 1) hx hb d_cRd_readKey_98 (by decide) ?_
          refine lv_iadd hx hb d_cRd_readKey_99 ?_
          refine w_i (y := (o_24.1.i 1 4 x0) + 1) rfl ?_
          refine va_put (D := D) (ci := 1) (v := .int ((o_24.1.i 1 4 x0) + 1)) (ty := .int) (C := R_Rd) (T := F_Rd) (N := 10) hx hb hts i_Rd t_Rd t_Rd_ok n_Rd hown hK hP hD hS (cPos N 1 x0) (cw_obj (k := 1) (by decide) hl_x0_1) rfl 4 (by decide) (hts _ kw_349) (fun _ h9 => h9) rfl (by decide +kernel) rfl rfl (Nat.le_of_ble_eq_true rfl) d_cRd_readKey_100 (fun H locs hP hD hS => ?_)
          have hD := (congrArg (fun w9 => va_D A w9) (cw_setI (ad := ad) (cc := cc) (S := o_24.1) (k := 1) (f := 4) (v := (o_24.1.i 1 4 x0) + 1) (by decide) rfl hl_x0_1)).mp hD
          have hP := (congrArg (fun w9 => va_P D cls w9 H) (cw_setI (ad := ad) (cc := cc) (S := o_24.1) (k := 1) (f := 4) (v := (o_24.1.i 1 4 x0) + 1) (by decide) rfl hl_x0_1)).mp hP
          refine lv_aload_n hx hb d_cRd_readKey_103 rfl (lv_at hl 1 rfl) ?_
          obtain ⟨o_27, h_28, Heq⟩ := ob_some Heq
          have hFc := fr_all hD hS hA
          refine va_callv (va_runV (As := []) (rest := []) ⟨hx, hb, hml, hown, hts⟩ (g_cRd_skipBlanks l D H.size (ad := ad) (cc := cc) (sad := sad) (sav := sav) h_28) (cw_v 0 hts kw_870 kw_867 kw_868 kw_869 kw_7 rfl rfl (by decide +kernel) ⟨Nat.le_of_ble_eq_true rfl, Nat.le_of_ble_eq_true rfl⟩) ⟨c_blind, va_recv hK hP (ci := 1) (q0 := cPos N 1 x0) rfl (cw_obj (k := 1) (by decide) hl_x0_1), fun U hU hW => c_pre hU hW hP hK hD hev hE hN hNS hS hFc⟩ rfl rfl hl.1 rfl (lv_room (Nat.le_of_ble_eq_true rfl)) d_cRd_readKey_104 ⟨Nat.le_of_ble_eq_true rfl, Nat.le_of_ble_eq_true rfl⟩) hS (fun q _ h => hFc q h) hFc (fun u t H1 locs ht hvm hw hB hz1 hk1 hS => ?_)
          obtain ⟨hP, -, hD1⟩ := hB
          rw [ht] at hP
          have hD := hD1.weaken (fun _ q _ h => hFc q.1 h)
          generalize H1 = H at hP hS ⊢
          refine W.cs (cells' := 0) (slots' := 0) rfl rfl ?_
          refine lv_iconst (v := 1) hx hb d_cRd_readKey_107 (by decide) ?_
          exact Kr _ (Option.some.inj Heq).symm 108 _ _ _ d_cRd_readKey_108 (Or.inr rfl) hP hD hS
        · replace Heq := (if_neg c_26).symm.trans Heq
          refine lv_iconst (v := 0) hx hb d_cRd_readKey_91 (by decide) ?_
          exact Kr _ (Option.some.inj Heq).symm 92 _ _ _ d_cRd_readKey_92 (Or.inl rfl) hP hD hS
      · replace Heq := (if_pos c_15).symm.trans Heq
        exact w_cRd_readKey_J41 hC Heq Kr _ _ _ hP hD hS (lv_sub hl [1] rfl)
def m_cRd_readKey (N : Nat → Nat) (x0 : Nat) (S : CS) : Option (CS × Int32) := m_cRd_readKey_J0 N x0 S
set_option maxHeartbeats 4000000 in
theorem g_cRd_readKey (l : Launch) (D : va_G) (sz : Nat) {ad : Nat → Nat → Nat} {cc : Nat → ClassId} {sad sav : Nat → Nat} {N : Nat → Nat} {x0 : Nat} {S : CS} {o : CS × Int32} (Heq : m_cRd_readKey N x0 S = some o) : Met l ⟨"JoinedTrees$JsonReader", "readKey", "()Z"⟩ (Cond.code ⟨"JoinedTrees$JsonReader", "readKey", "()Z"⟩ prog_3_method_6_code 2 (some .boolean) :: gb) ({ frames := 3, cells := 0, slots := 0, locals := 72 }) (cPc sad sav D (cw ad cc N S) (cty cc) sz [.ref (ad 1 x0)]) (va_Qi (fun (r : Int32) (_ : Unit) => r = o.2) (fun _ t => gO D (cw ad cc N o.1) (cty cc) (va_A (cw ad cc N S) sz) t) (va_A (cw ad cc N S) sz)) 0 0 (va_A (cw ad cc N S) sz) := by
  refine Met.ofW (cc := prog_3_method_6_code) (maxL := 2) (ret := (some .boolean)) (by decide) rfl ?_
  intro p e s m args below meth c s₁ B hml hv
  obtain ⟨rfl, hsz, hP, hK, hD0, hev, hE, hN⟩ := hv
  have hx := B.exec
  have hb := B.bytes
  have hr := B.returns
  have hts : ∀ w9 ∈ gb, w9.before [.ref (ad 1 x0)].toArray s = true := fun w9 h => atoms_spec (ws := Cond.code ⟨"JoinedTrees$JsonReader", "readKey", "()Z"⟩ prog_3_method_6_code 2 (some .boolean) :: gb) B.pre w9 (List.mem_cons_of_mem _ h)
  have hown : s.vm.findClass "JoinedTrees$JsonReader" = some m.cls := findClass_of_methodNamed B.named
  have hlocks := B.notSynchronized
  have hNS := ns_of hP
  subst hsz
  have hD := hD0.self (sz := s.heap.size)
  generalize hAe : va_A (cw ad cc N S) s.heap.size = A at hD hev hE hNS ⊢
  have hA : ∀ q : Nat, s.heap.size ≤ q → A q := fun q h => by rw [← hAe]; exact Or.inr h
  have hS : va_S A s.heap s.heap [] := va_S.rf
  obtain ⟨ls, hl, hle⟩ : ∃ ls : Array Slot, lv_has ls 2 [(0, .ref (ad 1 x0))] ∧ entryFrame m ([.ref (ad 1 x0)] : List Value).toArray 2 = F0 m 0 ls [] := by
    exact ⟨_, lv_entry (n := 2) _ (Nat.le_of_ble_eq_true rfl), lg_entry_eq ..⟩
  rw [hle]
  refine w_cRd_readKey_J0 ⟨hx, hb, hr, hml, hown, hts, hK, hA, hev, hE, hN, hNS⟩ Heq (fun r h pc H locs ls hd hz hP hD hS => ?_) _ _ _ hP hD hS (lv_sub hl [0] rfl)
  subst h
  exact W.zret (ty := .boolean) hx hb hr (by rcases hz with hz | hz <;> rw [hz] <;> rfl) (fun t ht hW => ⟨⟨_, (), rfl, rfl, by rw [ht]; exact hP, va_K.moved hW.alike hK, hD⟩, hS.F ht⟩) hS.2.2 hd
def m_cRd_readInside_J149 (N : Nat → Nat) (x0 : Nat) (S : CS) (t0 : Int32) : Option (CS × Int32) := (if t0 = 0 ∨ t0 = 1 then some (S, t0) else none)
theorem d_cRd_readInside_0 : decode prog_3_method_5_code 0 = .ok (.aload_n 0, 1) := by decide +kernel
theorem d_cRd_readInside_1 : decode prog_3_method_5_code 1 = .ok (.invokevirtual 53, 3) := by decide +kernel
theorem d_cRd_readInside_4 : decode prog_3_method_5_code 4 = .ok (.aload_n 0, 1) := by decide +kernel
theorem d_cRd_readInside_5 : decode prog_3_method_5_code 5 = .ok (.getfield 27, 3) := by decide +kernel
theorem d_cRd_readInside_8 : decode prog_3_method_5_code 8 = .ok (.aload_n 0, 1) := by decide +kernel
theorem d_cRd_readInside_9 : decode prog_3_method_5_code 9 = .ok (.getfield 34, 3) := by decide +kernel
theorem d_cRd_readInside_12 : decode prog_3_method_5_code 12 = .ok (.invokevirtual 70, 3) := by decide +kernel
theorem d_cRd_readInside_15 : decode prog_3_method_5_code 15 = .ok (.aload_n 0, 1) := by decide +kernel
theorem d_cRd_readInside_16 : decode prog_3_method_5_code 16 = .ok (.getfield 40, 3) := by decide +kernel
theorem d_cRd_readInside_19 : decode prog_3_method_5_code 19 = .ok (.getfield 77, 3) := by decide +kernel
theorem d_cRd_readInside_22 : decode prog_3_method_5_code 22 = .ok (.bipush 6, 2) := by decide +kernel
theorem d_cRd_readInside_24 : decode prog_3_method_5_code 24 = .ok (.if_icmp .ne 8, 3) := by decide +kernel
theorem d_cRd_readInside_32 : decode prog_3_method_5_code 32 = .ok (.bipush 93, 2) := by decide +kernel
theorem d_cRd_readInside_34 : decode prog_3_method_5_code 34 = .ok (.if_icmp .ne 36, 3) := by decide +kernel
theorem d_cRd_readInside_70 : decode prog_3_method_5_code 70 = .ok (.aload_n 0, 1) := by decide +kernel
theorem d_cRd_readInside_71 : decode prog_3_method_5_code 71 = .ok (.getfield 40, 3) := by decide +kernel
theorem d_cRd_readInside_74 : decode prog_3_method_5_code 74 = .ok (.getfield 83, 3) := by decide +kernel
theorem d_cRd_readInside_77 : decode prog_3_method_5_code 77 = .ok (.ifCond .eq 35, 3) := by decide +kernel
theorem d_cRd_readInside_112 : decode prog_3_method_5_code 112 = .ok (.aload_n 0, 1) := by decide +kernel
theorem d_cRd_readInside_113 : decode prog_3_method_5_code 113 = .ok (.getfield 40, 3) := by decide +kernel
theorem d_cRd_readInside_116 : decode prog_3_method_5_code 116 = .ok (.iconst 1, 1) := by decide +kernel
theorem d_cRd_readInside_117 : decode prog_3_method_5_code 117 = .ok (.putfield 83, 3) := by decide +kernel
theorem d_cRd_readInside_120 : decode prog_3_method_5_code 120 = .ok (.aload_n 0, 1) := by decide +kernel
theorem d_cRd_readInside_121 : decode prog_3_method_5_code 121 = .ok (.iconst 1, 1) := by decide +kernel
theorem d_cRd_readInside_122 : decode prog_3_method_5_code 122 = .ok (.putfield 63, 3) := by decide +kernel
theorem d_cRd_readInside_125 : decode prog_3_method_5_code 125 = .ok (.aload_n 0, 1) := by decide +kernel
theorem d_cRd_readInside_126 : decode prog_3_method_5_code 126 = .ok (.getfield 40, 3) := by decide +kernel
theorem d_cRd_readInside_129 : decode prog_3_method_5_code 129 = .ok (.getfield 77, 3) := by decide +kernel
theorem d_cRd_readInside_132 : decode prog_3_method_5_code 132 = .ok (.bipush 6, 2) := by decide +kernel
theorem d_cRd_readInside_134 : decode prog_3_method_5_code 134 = .ok (.if_icmp .ne 10, 3) := by decide +kernel
theorem d_cRd_readInside_144 : decode prog_3_method_5_code 144 = .ok (.iconst 1, 1) := by decide +kernel
theorem d_cRd_readInside_145 : decode prog_3_method_5_code 145 = .ok (.goto 4, 3) := by decide +kernel
theorem d_cRd_readInside_149 : decode prog_3_method_5_code 149 = .ok (.ireturn, 1) := by decide +kernel
set_option maxHeartbeats 4000000 in
set_option maxRecDepth 100000 in
theorem w_cRd_readInside_J149 {p : Program} {l : Launch} {e : Env} {s : State} {m : MethodId} {args : Array Value} {below : List Frame} {meth : Method} {c : Code} {A : Nat → Prop} {D : va_G} {ad : Nat → Nat → Nat} {cc : Nat → ClassId} {sad sav : Nat → Nat} {Q : State → Prop} (hC : MCc sad sav "JoinedTrees$JsonReader" prog_3_method_5_code 1 (some .boolean) p s m args meth c A D cc) {N : Nat → Nat} {x0 : Nat} {S : CS} {t0 : Int32} {o : CS × Int32} (Heq : m_cRd_readInside_J149 N x0 S t0 = some o) (Kr : ∀ r : CS × Int32, o = r → ∀ (pc : Nat) (H : Heap) (locs : List Loc) (ls : Array Slot), decode prog_3_method_5_code pc = .ok (.ireturn, 1) → (r.2 = 0 ∨ r.2 = 1) → va_P D cls (cw ad cc N r.1) H → va_D A (cw ad cc N r.1) → va_S A s.heap H locs → W p l e ({ frames := 4, cells := 0, slots := 0, locals := 93 }) s m args below meth c H locs 0 0 Q (F0 m pc ls [.int r.2])) : ∀ (H : Heap) (locs : List Loc) (ls : Array Slot), va_P D cls (cw ad cc N S) H → va_D A (cw ad cc N S) → va_S A s.heap H locs → lv_has ls 1 [(0, .ref (ad 1 x0))] → W p l e ({ frames := 4, cells := 0, slots := 0, locals := 93 }) s m args below meth c H locs 0 0 Q (F0 m 149 ls [.int t0]) := by
  intro H locs ls hP hD hS hl
  obtain ⟨hx, hb, hr, hml, hown, hts, hK, hA, hev, hE, hN, hNS⟩ := id hC
  unfold m_cRd_readInside_J149 at Heq
  by_cases hz_1 : t0 = 0 ∨ t0 = 1
  case neg => rw [if_neg hz_1] at Heq; cases Heq
  replace Heq := (if_pos hz_1).symm.trans Heq
  exact Kr _ (Option.some.inj Heq).symm 149 _ _ _ d_cRd_readInside_149 hz_1 hP hD hS
def m_cRd_readInside_J144 (N : Nat → Nat) (x0 : Nat) (S : CS) : Option (CS × Int32) := m_cRd_readInside_J149 N x0 S 1
set_option maxHeartbeats 4000000 in
set_option maxRecDepth 100000 in
theorem w_cRd_readInside_J144 {p : Program} {l : Launch} {e : Env} {s : State} {m : MethodId} {args : Array Value} {below : List Frame} {meth : Method} {c : Code} {A : Nat → Prop} {D : va_G} {ad : Nat → Nat → Nat} {cc : Nat → ClassId} {sad sav : Nat → Nat} {Q : State → Prop} (hC : MCc sad sav "JoinedTrees$JsonReader" prog_3_method_5_code 1 (some .boolean) p s m args meth c A D cc) {N : Nat → Nat} {x0 : Nat} {S : CS} {o : CS × Int32} (Heq : m_cRd_readInside_J144 N x0 S = some o) (Kr : ∀ r : CS × Int32, o = r → ∀ (pc : Nat) (H : Heap) (locs : List Loc) (ls : Array Slot), decode prog_3_method_5_code pc = .ok (.ireturn, 1) → (r.2 = 0 ∨ r.2 = 1) → va_P D cls (cw ad cc N r.1) H → va_D A (cw ad cc N r.1) → va_S A s.heap H locs → W p l e ({ frames := 4, cells := 0, slots := 0, locals := 93 }) s m args below meth c H locs 0 0 Q (F0 m pc ls [.int r.2])) : ∀ (H : Heap) (locs : List Loc) (ls : Array Slot), va_P D cls (cw ad cc N S) H → va_D A (cw ad cc N S) → va_S A s.heap H locs → lv_has ls 1 [(0, .ref (ad 1 x0))] → W p l e ({ frames := 4, cells := 0, slots := 0, locals := 93 }) s m args below meth c H locs 0 0 Q (F0 m 144 ls []) := by
  intro H locs ls hP hD hS hl
  obtain ⟨hx, hb, hr, hml, hown, hts, hK, hA, hev, hE, hN, hNS⟩ := id hC
  unfold m_cRd_readInside_J144 at Heq
  refine lv_iconst (v := 1) hx hb d_cRd_readInside_144 (by decide) ?_
  refine lv_goto (tgt := 149) hx hb d_cRd_readInside_145 (by decide) ?_
  exact w_cRd_readInside_J149 hC Heq Kr _ _ _ hP hD hS (lv_sub hl [0] rfl)
def m_cRd_readInside_J112 (N : Nat → Nat) (x0 : Nat) (S : CS) : Option (CS × Int32) := gl x0 (N 1) (gn (S.r 1 6 x0) (N 9) (fun j_1 => (if S.i 9 0 j_1 = 6 then ob (m_cRd_readKey N x0 ((S.setI 9 7 j_1 1).setI 1 7 x0 1)) (fun o_5 => (if o_5.2 = 0 then m_cRd_readInside_J149 N x0 o_5.1 0 else m_cRd_readInside_J144 N x0 o_5.1)) else m_cRd_readInside_J144 N x0 ((S.setI 9 7 j_1 1).setI 1 7 x0 1))))
theorem d_cRd_readInside_137 : decode prog_3_method_5_code 137 = .ok (.aload_n 0, 1) := by decide +kernel
theorem d_cRd_readInside_138 : decode prog_3_method_5_code 138 = .ok (.invokevirtual 86, 3) := by decide +kernel
theorem d_cRd_readInside_141 : decode prog_3_method_5_code 141 = .ok (.ifCond .eq 7, 3) := by decide +kernel
theorem d_cRd_readInside_148 : decode prog_3_method_5_code 148 = .ok (.iconst 0, 1) := by decide +kernel
set_option maxHeartbeats 4000000 in
set_option maxRecDepth 100000 in
theorem w_cRd_readInside_J112 {p : Program} {l : Launch} {e : Env} {s : State} {m : MethodId} {args : Array Value} {below : List Frame} {meth : Method} {c : Code} {A : Nat → Prop} {D : va_G} {ad : Nat → Nat → Nat} {cc : Nat → ClassId} {sad sav : Nat → Nat} {Q : State → Prop} (hC : MCc sad sav "JoinedTrees$JsonReader" prog_3_method_5_code 1 (some .boolean) p s m args meth c A D cc) {N : Nat → Nat} {x0 : Nat} {S : CS} {o : CS × Int32} (Heq : m_cRd_readInside_J112 N x0 S = some o) (Kr : ∀ r : CS × Int32, o = r → ∀ (pc : Nat) (H : Heap) (locs : List Loc) (ls : Array Slot), decode prog_3_method_5_code pc = .ok (.ireturn, 1) → (r.2 = 0 ∨ r.2 = 1) → va_P D cls (cw ad cc N r.1) H → va_D A (cw ad cc N r.1) → va_S A s.heap H locs → W p l e ({ frames := 4, cells := 0, slots := 0, locals := 93 }) s m args below meth c H locs 0 0 Q (F0 m pc ls [.int r.2])) : ∀ (H : Heap) (locs : List Loc) (ls : Array Slot), va_P D cls (cw ad cc N S) H → va_D A (cw ad cc N S) → va_S A s.heap H locs → lv_has ls 1 [(0, .ref (ad 1 x0))] → W p l e ({ frames := 4, cells := 0, slots := 0, locals := 93 }) s m args below meth c H locs 0 0 Q (F0 m 112 ls []) := by
  intro H locs ls hP hD hS hl
  obtain ⟨hx, hb, hr, hml, hown, hts, hK, hA, hev, hE, hN, hNS⟩ := id hC
  unfold m_cRd_readInside_J112 at Heq
  refine lv_aload_n hx hb d_cRd_readInside_112 rfl (lv_at hl 0 rfl) ?_
  obtain ⟨hl_x0_1, Heq⟩ := gl_some Heq
  refine va_get (D := D) (ci := 1) (v := rv ad 9 (S.r 1 6 x0)) (C := R_Rd) (T := F_Rd) (N := 10) hx hb hts i_Rd hown hK hP (cPos N 1 x0) (cw_obj (k := 1) (by decide) hl_x0_1) rfl 6 (by decide) (hts _ kw_352) (fun _ h9 => h9) rfl d_cRd_readInside_113 ?_
  refine lv_iconst (v := 1) hx hb d_cRd_readInside_116 (by decide) ?_
  obtain ⟨j_1, hj_2, hl_3, Heq⟩ := gn_some Heq
  refine w_s (st' := [.int 1, .ref (ad 9 j_1)]) (congrArg (fun z9 : Option Nat => [.int 1, rv ad 9 z9]) hj_2) ?_
  refine va_put (D := D) (ci := 9) (v := .int 1) (ty := .boolean) (C := R_Va) (T := F_Va) (N := 10) hx hb hts i_Va t_Va t_Va_ok n_Va hown hK hP hD hS (cPos N 9 j_1) (cw_obj (k := 9) (by decide) hl_3) rfl 7 (by decide) (hts _ kw_316) (fun _ h9 => h9) rfl (by decide +kernel) (by decide) (by decide) (Nat.le_of_ble_eq_true rfl) d_cRd_readInside_117 (fun H locs hP hD hS => ?_)
  have hD := (congrArg (fun w9 => va_D A w9) (cw_setI (ad := ad) (cc := cc) (S := S) (k := 9) (f := 7) (v := 1) (by decide) rfl hl_3)).mp hD
  have hP := (congrArg (fun w9 => va_P D cls w9 H) (cw_setI (ad := ad) (cc := cc) (S := S) (k := 9) (f := 7) (v := 1) (by decide) rfl hl_3)).mp hP
  refine lv_aload_n hx hb d_cRd_readInside_120 rfl (lv_at hl 0 rfl) ?_
  refine lv_iconst (v := 1) hx hb d_cRd_readInside_121 (by decide) ?_
  refine va_put (D := D) (ci := 1) (v := .int 1) (ty := .boolean) (C := R_Rd) (T := F_Rd) (N := 10) hx hb hts i_Rd t_Rd t_Rd_ok n_Rd hown hK hP hD hS (cPos N 1 x0) (cw_obj (k := 1) (by decide) hl_x0_1) rfl 7 (by decide) (hts _ kw_353) (fun _ h9 => h9) rfl (by decide +kernel) (by decide) (by decide) (Nat.le_of_ble_eq_true rfl) d_cRd_readInside_122 (fun H locs hP hD hS => ?_)
  have hD := (congrArg (fun w9 => va_D A w9) (cw_setI (ad := ad) (cc := cc) (S := (S.setI 9 7 j_1 1)) (k := 1) (f := 7) (v := 1) (by decide) rfl hl_x0_1)).mp hD
  have hP := (congrArg (fun w9 => va_P D cls w9 H) (cw_setI (ad := ad) (cc := cc) (S := (S.setI 9 7 j_1 1)) (k := 1) (f := 7) (v := 1) (by decide) rfl hl_x0_1)).mp hP
  refine lv_aload_n hx hb d_cRd_readInside_125 rfl (lv_at hl 0 rfl) ?_
  refine va_get (D := D) (ci := 1) (v := rv ad 9 (((S.setI 9 7 j_1 1).setI 1 7 x0 1).r 1 6 x0)) (C := R_Rd) (T := F_Rd) (N := 10) hx hb hts i_Rd hown hK hP (cPos N 1 x0) (cw_obj (k := 1) (by decide) hl_x0_1) rfl 6 (by decide) (hts _ kw_352) (fun _ h9 => h9) rfl d_cRd_readInside_126 ?_
  refine w_v (y := rv ad 9 (S.r 1 6 x0)) (congrArg (rv ad 9) rfl) ?_
  refine w_s (st' := [.ref (ad 9 j_1)]) (congrArg (fun z9 : Option Nat => [rv ad 9 z9]) hj_2) ?_
  refine va_get (D := D) (ci := 9) (v := .int (((S.setI 9 7 j_1 1).setI 1 7 x0 1).i 9 0 j_1)) (C := R_Va) (T := F_Va) (N := 10) hx hb hts i_Va hown hK hP (cPos N 9 j_1) (cw_obj (k := 9) (by decide) hl_3) rfl 0 (by decide) (hts _ kw_295) (fun _ h9 => h9) rfl d_cRd_readInside_129 ?_
  refine w_i (y := S.i 9 0 j_1) rfl ?_
  refine lv_bipush (v := 6) hx hb d_cRd_readInside_132 (by decide) ?_
  refine lv_icmp_ne (tgt := 144) hx hb d_cRd_readInside_134 (by decide) (fun c_4 => ?_) (fun c_4 => ?_)
  · replace Heq := (if_neg c_4).symm.trans Heq
    exact w_cRd_readInside_J144 hC Heq Kr _ _ _ hP hD hS (lv_sub hl [0] rfl)
  · replace Heq := (if_pos c_4).symm.trans Heq
    refine lv_aload_n hx hb d_cRd_readInside_137 rfl (lv_at hl 0 rfl) ?_
    obtain ⟨o_5, h_6, Heq⟩ := ob_some Heq
    have hFc := fr_all hD hS hA
    refine va_calli (va_runV (As := []) (rest := []) ⟨hx, hb, hml, hown, hts⟩ (g_cRd_readKey l D H.size (ad := ad) (cc := cc) (sad := sad) (sav := sav) h_6) (cw_v 0 hts kw_974 kw_971 kw_972 kw_973 kw_7 rfl rfl (by decide +kernel) ⟨Nat.le_of_ble_eq_true rfl, Nat.le_of_ble_eq_true rfl⟩) ⟨c_blind, va_recv hK hP (ci := 1) (q0 := cPos N 1 x0) rfl (cw_obj (k := 1) (by decide) hl_x0_1), fun U hU hW => c_pre hU hW hP hK hD hev hE hN hNS hS hFc⟩ rfl rfl hl.1 rfl (lv_room (Nat.le_of_ble_eq_true rfl)) d_cRd_readInside_138 ⟨Nat.le_of_ble_eq_true rfl, Nat.le_of_ble_eq_true rfl⟩) hS (fun q _ h => hFc q h) hFc (fun rz u t H1 locs ht hvm hw hB hz1 hk1 hS => ?_)
    obtain ⟨hP, -, hD1⟩ := hB
    rw [ht] at hP
    have hD := hD1.weaken (fun _ q _ h => hFc q.1 h)
    generalize H1 = H at hP hS ⊢
    refine W.cs (cells' := 0) (slots' := 0) rfl rfl ?_
    subst hw
    refine lv_if_eq (tgt := 148) hx hb d_cRd_readInside_141 (by decide) (fun c_7 => ?_) (fun c_7 => ?_)
    · replace Heq := (if_pos c_7).symm.trans Heq
      refine lv_iconst (v := 0) hx hb d_cRd_readInside_148 (by decide) ?_
      exact w_cRd_readInside_J149 hC Heq Kr _ _ _ hP hD hS (lv_sub hl [0] rfl)
    · replace Heq := (if_neg c_7).symm.trans Heq
      exact w_cRd_readInside_J144 hC Heq Kr _ _ _ hP hD hS (lv_sub hl [0] rfl)
def m_cRd_readInside_J34 (N : Nat → Nat) (x0 : Nat) (S : CS) (t0 : Int32) (t1 : Int32) : Option (CS × Int32) := (if t1 = t0 then gl x0 (N 1) (gn (S.r 1 6 x0) (N 9) (fun j_14 => some ((((S.setI 1 4 x0 ((S.i 1 4 x0) + 1)).setI 1 5 x0 ((S.i 1 5 x0) - 1)).setR 1 6 x0 (S.r 9 2 j_14)), 1))) else gl x0 (N 1) (gn (S.r 1 6 x0) (N 9) (fun j_2 => (if S.i 9 7 j_2 = 0 then m_cRd_readInside_J112 N x0 S else gn (S.r 1 2 x0) (N 5) (fun j_6 => ob (m_cRw_at N j_6 S (S.i 1 4 x0)) (fun o_9 => (if o_9.2 = 44 then ob (m_cRd_skipBlanks N x0 (o_9.1.setI 1 4 x0 ((o_9.1.i 1 4 x0) + 1))) (fun o_12 => m_cRd_readInside_J112 N x0 o_12) else some (o_9.1, 0))))))))
theorem d_cRd_readInside_80 : decode prog_3_method_5_code 80 = .ok (.aload_n 0, 1) := by decide +kernel
theorem d_cRd_readInside_81 : decode prog_3_method_5_code 81 = .ok (.getfield 27, 3) := by decide +kernel
theorem d_cRd_readInside_84 : decode prog_3_method_5_code 84 = .ok (.aload_n 0, 1) := by decide +kernel
theorem d_cRd_readInside_85 : decode prog_3_method_5_code 85 = .ok (.getfield 34, 3) := by decide +kernel
theorem d_cRd_readInside_88 : decode prog_3_method_5_code 88 = .ok (.invokevirtual 70, 3) := by decide +kernel
theorem d_cRd_readInside_91 : decode prog_3_method_5_code 91 = .ok (.bipush 44, 2) := by decide +kernel
theorem d_cRd_readInside_93 : decode prog_3_method_5_code 93 = .ok (.if_icmp .eq 5, 3) := by decide +kernel
theorem d_cRd_readInside_98 : decode prog_3_method_5_code 98 = .ok (.aload_n 0, 1) := by decide +kernel
theorem d_cRd_readInside_99 : decode prog_3_method_5_code 99 = .ok (.dup, 1) := by decide +kernel
theorem d_cRd_readInside_100 : decode prog_3_method_5_code 100 = .ok (.getfield 34, 3) := by decide +kernel
theorem d_cRd_readInside_103 : decode prog_3_method_5_code 103 = .ok (.iconst 1, 1) := by decide +kernel
theorem d_cRd_readInside_104 : decode prog_3_method_5_code 104 = .ok (.iadd, 1) := by decide +kernel
theorem d_cRd_readInside_105 : decode prog_3_method_5_code 105 = .ok (.putfield 34, 3) := by decide +kernel
theorem d_cRd_readInside_108 : decode prog_3_method_5_code 108 = .ok (.aload_n 0, 1) := by decide +kernel
theorem d_cRd_readInside_109 : decode prog_3_method_5_code 109 = .ok (.invokevirtual 53, 3) := by decide +kernel
theorem d_cRd_readInside_96 : decode prog_3_method_5_code 96 = .ok (.iconst 0, 1) := by decide +kernel
theorem d_cRd_readInside_97 : decode prog_3_method_5_code 97 = .ok (.ireturn, 1) := by decide +kernel
theorem d_cRd_readInside_37 : decode prog_3_method_5_code 37 = .ok (.aload_n 0, 1) := by decide +kernel
theorem d_cRd_readInside_38 : decode prog_3_method_5_code 38 = .ok (.dup, 1) := by decide +kernel
theorem d_cRd_readInside_39 : decode prog_3_method_5_code 39 = .ok (.getfield 34, 3) := by decide +kernel
theorem d_cRd_readInside_42 : decode prog_3_method_5_code 42 = .ok (.iconst 1, 1) := by decide +kernel
theorem d_cRd_readInside_43 : decode prog_3_method_5_code 43 = .ok (.iadd, 1) := by decide +kernel
theorem d_cRd_readInside_44 : decode prog_3_method_5_code 44 = .ok (.putfield 34, 3) := by decide +kernel
theorem d_cRd_readInside_47 : decode prog_3_method_5_code 47 = .ok (.aload_n 0, 1) := by decide +kernel
theorem d_cRd_readInside_48 : decode prog_3_method_5_code 48 = .ok (.dup, 1) := by decide +kernel
theorem d_cRd_readInside_49 : decode prog_3_method_5_code 49 = .ok (.getfield 37, 3) := by decide +kernel
theorem d_cRd_readInside_52 : decode prog_3_method_5_code 52 = .ok (.iconst 1, 1) := by decide +kernel
theorem d_cRd_readInside_53 : decode prog_3_method_5_code 53 = .ok (.isub, 1) := by decide +kernel
theorem d_cRd_readInside_54 : decode prog_3_method_5_code 54 = .ok (.putfield 37, 3) := by decide +kernel
theorem d_cRd_readInside_57 : decode prog_3_method_5_code 57 = .ok (.aload_n 0, 1) := by decide +kernel
theorem d_cRd_readInside_58 : decode prog_3_method_5_code 58 = .ok (.aload_n 0, 1) := by decide +kernel
theorem d_cRd_readInside_59 : decode prog_3_method_5_code 59 = .ok (.getfield 40, 3) := by decide +kernel
theorem d_cRd_readInside_62 : decode prog_3_method_5_code 62 = .ok (.getfield 80, 3) := by decide +kernel
theorem d_cRd_readInside_65 : decode prog_3_method_5_code 65 = .ok (.putfield 40, 3) := by decide +kernel
theorem d_cRd_readInside_68 : decode prog_3_method_5_code 68 = .ok (.iconst 1, 1) := by decide +kernel
theorem d_cRd_readInside_69 : decode prog_3_method_5_code 69 = .ok (.ireturn, 1) := by decide +kernel
set_option maxHeartbeats 4000000 in
set_option maxRecDepth 100000 in
theorem w_cRd_readInside_J34 {p : Program} {l : Launch} {e : Env} {s : State} {m : MethodId} {args : Array Value} {below : List Frame} {meth : Method} {c : Code} {A : Nat → Prop} {D : va_G} {ad : Nat → Nat → Nat} {cc : Nat → ClassId} {sad sav : Nat → Nat} {Q : State → Prop} (hC : MCc sad sav "JoinedTrees$JsonReader" prog_3_method_5_code 1 (some .boolean) p s m args meth c A D cc) {N : Nat → Nat} {x0 : Nat} {S : CS} {t0 : Int32} {t1 : Int32} {o : CS × Int32} (Heq : m_cRd_readInside_J34 N x0 S t0 t1 = some o) (Kr : ∀ r : CS × Int32, o = r → ∀ (pc : Nat) (H : Heap) (locs : List Loc) (ls : Array Slot), decode prog_3_method_5_code pc = .ok (.ireturn, 1) → (r.2 = 0 ∨ r.2 = 1) → va_P D cls (cw ad cc N r.1) H → va_D A (cw ad cc N r.1) → va_S A s.heap H locs → W p l e ({ frames := 4, cells := 0, slots := 0, locals := 93 }) s m args below meth c H locs 0 0 Q (F0 m pc ls [.int r.2])) : ∀ (H : Heap) (locs : List Loc) (ls : Array Slot), va_P D cls (cw ad cc N S) H → va_D A (cw ad cc N S) → va_S A s.heap H locs → lv_has ls 1 [(0, .ref (ad 1 x0))] → W p l e ({ frames := 4, cells := 0, slots := 0, locals := 93 }) s m args below meth c H locs 0 0 Q (F0 m 34 ls [.int t0, .int t1]) := by
  intro H locs ls hP hD hS hl
  obtain ⟨hx, hb, hr, hml, hown, hts, hK, hA, hev, hE, hN, hNS⟩ := id hC
  unfold m_cRd_readInside_J34 at Heq
  refine lv_icmp_ne (tgt := 70) hx hb d_cRd_readInside_34 (by decide) (fun c_1 => ?_) (fun c_1 => ?_)
  · replace Heq := (if_neg c_1).symm.trans Heq
    refine lv_aload_n hx hb d_cRd_readInside_70 rfl (lv_at hl 0 rfl) ?_
    obtain ⟨hl_x0_1, Heq⟩ := gl_some Heq
    refine va_get (D := D) (ci := 1) (v := rv ad 9 (S.r 1 6 x0)) (C := R_Rd) (T := F_Rd) (N := 10) hx hb hts i_Rd hown hK hP (cPos N 1 x0) (cw_obj (k := 1) (by decide) hl_x0_1) rfl 6 (by decide) (hts _ kw_352) (fun _ h9 => h9) rfl d_cRd_readInside_71 ?_
    obtain ⟨j_2, hj_3, hl_4, Heq⟩ := gn_some Heq
    refine w_s (st' := [.ref (ad 9 j_2)]) (congrArg (fun z9 : Option Nat => [rv ad 9 z9]) hj_3) ?_
    refine va_get (D := D) (ci := 9) (v := .int (S.i 9 7 j_2)) (C := R_Va) (T := F_Va) (N := 10) hx hb hts i_Va hown hK hP (cPos N 9 j_2) (cw_obj (k := 9) (by decide) hl_4) rfl 7 (by decide) (hts _ kw_316) (fun _ h9 => h9) rfl d_cRd_readInside_74 ?_
    refine lv_if_eq (tgt := 112) hx hb d_cRd_readInside_77 (by decide) (fun c_5 => ?_) (fun c_5 => ?_)
    · replace Heq := (if_pos c_5).symm.trans Heq
      exact w_cRd_readInside_J112 hC Heq Kr _ _ _ hP hD hS (lv_sub hl [0] rfl)
    · replace Heq := (if_neg c_5).symm.trans Heq
      refine lv_aload_n hx hb d_cRd_readInside_80 rfl (lv_at hl 0 rfl) ?_
      refine va_get (D := D) (ci := 1) (v := rv ad 5 (S.r 1 2 x0)) (C := R_Rd) (T := F_Rd) (N := 10) hx hb hts i_Rd hown hK hP (cPos N 1 x0) (cw_obj (k := 1) (by decide) hl_x0_1) rfl 2 (by decide) (hts _ kw_346) (fun _ h9 => h9) rfl d_cRd_readInside_81 ?_
      refine lv_aload_n hx hb d_cRd_readInside_84 rfl (lv_at hl 0 rfl) ?_
      refine va_get (D := D) (ci := 1) (v := .int (S.i 1 4 x0)) (C := R_Rd) (T := F_Rd) (N := 10) hx hb hts i_Rd hown hK hP (cPos N 1 x0) (cw_obj (k := 1) (by decide) hl_x0_1) rfl 4 (by decide) (hts _ kw_349) (fun _ h9 => h9) rfl d_cRd_readInside_85 ?_
      obtain ⟨j_6, hj_7, hl_8, Heq⟩ := gn_some Heq
      refine w_s (st' := [.int (S.i 1 4 x0), .ref (ad 5 j_6)]) (congrArg (fun z9 : Option Nat => [.int (S.i 1 4 x0), rv ad 5 z9]) hj_7) ?_
      obtain ⟨o_9, h_10, Heq⟩ := ob_some Heq
      have hFc := fr_all hD hS hA
      refine va_calli (va_runV (As := [.int (S.i 1 4 x0)]) (rest := []) ⟨hx, hb, hml, hown, hts⟩ (g_cRw_at l D H.size (ad := ad) (cc := cc) (sad := sad) (sav := sav) h_10) (cw_v 1 hts kw_689 kw_871 kw_687 kw_688 kw_4 rfl rfl (by decide +kernel) ⟨Nat.le_of_ble_eq_true rfl, Nat.le_of_ble_eq_true rfl⟩) ⟨c_blind, va_recv hK hP (ci := 5) (q0 := cPos N 5 j_6) rfl (cw_obj (k := 5) (by decide) hl_8), fun U hU hW => c_pre hU hW hP hK hD hev hE hN hNS hS hFc⟩ rfl rfl hl.1 rfl (lv_room (Nat.le_of_ble_eq_true rfl)) d_cRd_readInside_88 ⟨Nat.le_of_ble_eq_true rfl, Nat.le_of_ble_eq_true rfl⟩) hS (fun q _ h => hFc q h) hFc (fun rz u t H1 locs ht hvm hw hB hz1 hk1 hS => ?_)
      obtain ⟨hP, -, hD1⟩ := hB
      rw [ht] at hP
      have hD := hD1.weaken (fun _ q _ h => hFc q.1 h)
      generalize H1 = H at hP hS ⊢
      refine W.cs (cells' := 0) (slots' := 0) rfl rfl ?_
      subst hw
      refine lv_bipush (v := 44) hx hb d_cRd_readInside_91 (by decide) ?_
      refine lv_icmp_eq (tgt := 98) hx hb d_cRd_readInside_93 (by decide) (fun c_11 => ?_) (fun c_11 => ?_)
      · replace Heq := (if_pos c_11).symm.trans Heq
        refine lv_aload_n hx hb d_cRd_readInside_98 rfl (lv_at hl 0 rfl) ?_
        refine lv_dup hx hb d_cRd_readInside_99 (by first | rfl | exact rv_cat) ?_
        refine va_get (D := D) (ci := 1) (v := .int (o_9.1.i 1 4 x0)) (C := R_Rd) (T := F_Rd) (N := 10) hx hb hts i_Rd hown hK hP (cPos N 1 x0) (cw_obj (k := 1) (by decide) hl_x0_1) rfl 4 (by decide) (hts _ kw_349) (fun _ h9 => h9) rfl d_cRd_readInside_100 ?_
        refine lv_iconst (v := 1) hx hb d_cRd_readInside_103 (by decide) ?_
        refine lv_iadd hx hb d_cRd_readInside_104 ?_
        refine w_i (y := (o_9.1.i 1 4 x0) + 1) rfl ?_
        refine va_put (D := D) (ci := 1) (v := .int ((o_9.1.i 1 4 x0) + 1)) (ty := .int) (C := R_Rd) (T := F_Rd) (N := 10) hx hb hts i_Rd t_Rd t_Rd_ok n_Rd hown hK hP hD hS (cPos N 1 x0) (cw_obj (k := 1) (by decide) hl_x0_1) rfl 4 (by decide) (hts _ kw_349) (fun _ h9 => h9) rfl (by decide +kernel) rfl rfl (Nat.le_of_ble_eq_true rfl) d_cRd_readInside_105 (fun H locs hP hD hS => ?_)
        have hD := (congrArg (fun w9 => va_D A w9) (cw_setI (ad := ad) (cc := cc) (S := o_9.1) (k := 1) (f := 4) (v := (o_9.1.i 1 4 x0) + 1) (by decide) rfl hl_x0_1)).mp hD
        have hP := (congrArg (fun w9 => va_P D cls w9 H) (cw_setI (ad := ad) (cc := cc) (S := o_9.1) (k := 1) (f := 4) (v := (o_9.1.i 1 4 x0) + 1) (by decide) rfl hl_x0_1)).mp hP
        refine lv_aload_n hx hb d_cRd_readInside_108 rfl (lv_at hl 0 rfl) ?_
        obtain ⟨o_12, h_13, Heq⟩ := ob_some Heq
        have hFc := fr_all hD hS hA
        refine va_callv (va_runV (As := []) (rest := []) ⟨hx, hb, hml, hown, hts⟩ (g_cRd_skipBlanks l D H.size (ad := ad) (cc := cc) (sad := sad) (sav := sav) h_13) (cw_v 0 hts kw_870 kw_867 kw_868 kw_869 kw_7 rfl rfl (by decide +kernel) ⟨Nat.le_of_ble_eq_true rfl, Nat.le_of_ble_eq_true rfl⟩) ⟨c_blind, va_recv hK hP (ci := 1) (q0 := cPos N 1 x0) rfl (cw_obj (k := 1) (by decide) hl_x0_1), fun U hU hW => c_pre hU hW hP hK hD hev hE hN hNS hS hFc⟩ rfl rfl hl.1 rfl (lv_room (Nat.le_of_ble_eq_true rfl)) d_cRd_readInside_109 ⟨Nat.le_of_ble_eq_true rfl, Nat.le_of_ble_eq_true rfl⟩) hS (fun q _ h => hFc q h) hFc (fun u t H1 locs ht hvm hw hB hz1 hk1 hS => ?_)
        obtain ⟨hP, -, hD1⟩ := hB
        rw [ht] at hP
        have hD := hD1.weaken (fun _ q _ h => hFc q.1 h)
        generalize H1 = H at hP hS ⊢
        refine W.cs (cells' := 0) (slots' := 0) rfl rfl ?_
        exact w_cRd_readInside_J112 hC Heq Kr _ _ _ hP hD hS (lv_sub hl [0] rfl)
      · replace Heq := (if_neg c_11).symm.trans Heq
        refine lv_iconst (v := 0) hx hb d_cRd_readInside_96 (by decide) ?_
        exact Kr _ (Option.some.inj Heq).symm 97 _ _ _ d_cRd_readInside_97 (Or.inl rfl) hP hD hS
  · replace Heq := (if_pos c_1).symm.trans Heq
    refine lv_aload_n hx hb d_cRd_readInside_37 rfl (lv_at hl 0 rfl) ?_
    refine lv_dup hx hb d_cRd_readInside_38 (by first | rfl | exact rv_cat) ?_
    obtain ⟨hl_x0_1, Heq⟩ := gl_some Heq
    refine va_get (D := D) (ci := 1) (v := .int (S.i 1 4 x0)) (C := R_Rd) (T := F_Rd) (N := 10) hx hb hts i_Rd hown hK hP (cPos N 1 x0) (cw_obj (k := 1) (by decide) hl_x0_1) rfl 4 (by decide) (hts _ kw_349) (fun _ h9 => h9) rfl d_cRd_readInside_39 ?_
    refine lv_iconst (v := 1) hx hb d_cRd_readInside_42 (by decide) ?_
    refine lv_iadd hx hb d_cRd_readInside_43 ?_
    refine w_i (y := (S.i 1 4 x0) + 1) rfl ?_
    refine va_put (D := D) (ci := 1) (v := .int ((S.i 1 4 x0) + 1)) (ty := .int) (C := R_Rd) (T := F_Rd) (N := 10) hx hb hts i_Rd t_Rd t_Rd_ok n_Rd hown hK hP hD hS (cPos N 1 x0) (cw_obj (k := 1) (by decide) hl_x0_1) rfl 4 (by decide) (hts _ kw_349) (fun _ h9 => h9) rfl (by decide +kernel) rfl rfl (Nat.le_of_ble_eq_true rfl) d_cRd_readInside_44 (fun H locs hP hD hS => ?_)
    have hD := (congrArg (fun w9 => va_D A w9) (cw_setI (ad := ad) (cc := cc) (S := S) (k := 1) (f := 4) (v := (S.i 1 4 x0) + 1) (by decide) rfl hl_x0_1)).mp hD
    have hP := (congrArg (fun w9 => va_P D cls w9 H) (cw_setI (ad := ad) (cc := cc) (S := S) (k := 1) (f := 4) (v := (S.i 1 4 x0) + 1) (by decide) rfl hl_x0_1)).mp hP
    refine lv_aload_n hx hb d_cRd_readInside_47 rfl (lv_at hl 0 rfl) ?_
    refine lv_dup hx hb d_cRd_readInside_48 (by first | rfl | exact rv_cat) ?_
    refine va_get (D := D) (ci := 1) (v := .int ((S.setI 1 4 x0 ((S.i 1 4 x0) + 1)).i 1 5 x0)) (C := R_Rd) (T := F_Rd) (N := 10) hx hb hts i_Rd hown hK hP (cPos N 1 x0) (cw_obj (k := 1) (by decide) hl_x0_1) rfl 5 (by decide) (hts _ kw_351) (fun _ h9 => h9) rfl d_cRd_readInside_49 ?_
    refine w_i (y := S.i 1 5 x0) rfl ?_
    refine lv_iconst (v := 1) hx hb d_cRd_readInside_52 (by decide) ?_
    refine lv_isub hx hb d_cRd_readInside_53 ?_
    refine w_i (y := (S.i 1 5 x0) - 1) rfl ?_
    refine va_put (D := D) (ci := 1) (v := .int ((S.i 1 5 x0) - 1)) (ty := .int) (C := R_Rd) (T := F_Rd) (N := 10) hx hb hts i_Rd t_Rd t_Rd_ok n_Rd hown hK hP hD hS (cPos N 1 x0) (cw_obj (k := 1) (by decide) hl_x0_1) rfl 5 (by decide) (hts _ kw_351) (fun _ h9 => h9) rfl (by decide +kernel) rfl rfl (Nat.le_of_ble_eq_true rfl) d_cRd_readInside_54 (fun H locs hP hD hS => ?_)
    have hD := (congrArg (fun w9 => va_D A w9) (cw_setI (ad := ad) (cc := cc) (S := (S.setI 1 4 x0 ((S.i 1 4 x0) + 1))) (k := 1) (f := 5) (v := (S.i 1 5 x0) - 1) (by decide) rfl hl_x0_1)).mp hD
    have hP := (congrArg (fun w9 => va_P D cls w9 H) (cw_setI (ad := ad) (cc := cc) (S := (S.setI 1 4 x0 ((S.i 1 4 x0) + 1))) (k := 1) (f := 5) (v := (S.i 1 5 x0) - 1) (by decide) rfl hl_x0_1)).mp hP
    refine lv_aload_n hx hb d_cRd_readInside_57 rfl (lv_at hl 0 rfl) ?_
    refine lv_aload_n hx hb d_cRd_readInside_58 rfl (lv_at hl 0 rfl) ?_
    refine va_get (D := D) (ci := 1) (v := rv ad 9 (((S.setI 1 4 x0 ((S.i 1 4 x0) + 1)).setI 1 5 x0 ((S.i 1 5 x0) - 1)).r 1 6 x0)) (C := R_Rd) (T := F_Rd) (N := 10) hx hb hts i_Rd hown hK hP (cPos N 1 x0) (cw_obj (k := 1) (by decide) hl_x0_1) rfl 6 (by decide) (hts _ kw_352) (fun _ h9 => h9) rfl d_cRd_readInside_59 ?_
    refine w_v (y := rv ad 9 (S.r 1 6 x0)) (congrArg (rv ad 9) rfl) ?_
    obtain ⟨j_14, hj_15, hl_16, Heq⟩ := gn_some Heq
    refine w_s (st' := [.ref (ad 9 j_14), .ref (ad 1 x0)]) (congrArg (fun z9 : Option Nat => [rv ad 9 z9, .ref (ad 1 x0)]) hj_15) ?_
    refine va_get (D := D) (ci := 9) (v := rv ad 9 (((S.setI 1 4 x0 ((S.i 1 4 x0) + 1)).setI 1 5 x0 ((S.i 1 5 x0) - 1)).r 9 2 j_14)) (C := R_Va) (T := F_Va) (N := 10) hx hb hts i_Va hown hK hP (cPos N 9 j_14) (cw_obj (k := 9) (by decide) hl_16) rfl 2 (by decide) (hts _ kw_301) (fun _ h9 => h9) rfl d_cRd_readInside_62 ?_
    refine w_v (y := rv ad 9 (S.r 9 2 j_14)) (congrArg (rv ad 9) rfl) ?_
    refine w_v (y := rv ad 9 (S.r 9 2 j_14)) rfl ?_
    refine va_put (D := D) (ci := 1) (v := rv ad 9 (S.r 9 2 j_14)) (ty := .object "JoinedTrees$Value") (C := R_Rd) (T := F_Rd) (N := 10) hx hb hts i_Rd t_Rd t_Rd_ok n_Rd hown hK hP hD hS (cPos N 1 x0) (cw_obj (k := 1) (by decide) hl_x0_1) rfl 6 (by decide) (hts _ kw_352) (fun _ h9 => h9) rfl (by decide +kernel) (rv_nar (Or.inl ⟨_, rfl⟩)) (rv_fit (Or.inl ⟨_, rfl⟩)) (Nat.le_of_ble_eq_true rfl) d_cRd_readInside_65 (fun H locs hP hD hS => ?_)
    have hD := (congrArg (fun w9 => va_D A w9) (cw_setR (ad := ad) (cc := cc) (S := ((S.setI 1 4 x0 ((S.i 1 4 x0) + 1)).setI 1 5 x0 ((S.i 1 5 x0) - 1))) (k := 1) (f := 6) (t := 9) (v := (S.r 9 2 j_14)) (by decide) rfl hl_x0_1)).mp hD
    have hP := (congrArg (fun w9 => va_P D cls w9 H) (cw_setR (ad := ad) (cc := cc) (S := ((S.setI 1 4 x0 ((S.i 1 4 x0) + 1)).setI 1 5 x0 ((S.i 1 5 x0) - 1))) (k := 1) (f := 6) (t := 9) (v := (S.r 9 2 j_14)) (by decide) rfl hl_x0_1)).mp hP
    refine lv_iconst (v := 1) hx hb d_cRd_readInside_68 (by decide) ?_
    exact Kr _ (Option.some.inj Heq).symm 69 _ _ _ d_cRd_readInside_69 (Or.inr rfl) hP hD hS
def m_cRd_readInside_J0 (N : Nat → Nat) (x0 : Nat) (S : CS) : Option (CS × Int32) := gl x0 (N 1) (ob (m_cRd_skipBlanks N x0 S) (fun o_1 => gn (o_1.r 1 2 x0) (N 5) (fun j_3 => ob (m_cRw_at N j_3 o_1 (o_1.i 1 4 x0)) (fun o_6 => gn (o_6.1.r 1 6 x0) (N 9) (fun j_8 => (if o_6.1.i 9 0 j_8 = 6 then m_cRd_readInside_J34 N x0 o_6.1 125 o_6.2 else m_cRd_readInside_J34 N x0 o_6.1 93 o_6.2))))))
theorem d_cRd_readInside_27 : decode prog_3_method_5_code 27 = .ok (.bipush 125, 2) := by decide +kernel
theorem d_cRd_readInside_29 : decode prog_3_method_5_code 29 = .ok (.goto 5, 3) := by decide +kernel
set_option maxHeartbeats 4000000 in
set_option maxRecDepth 100000 in
theorem w_cRd_readInside_J0 {p : Program} {l : Launch} {e : Env} {s : State} {m : MethodId} {args : Array Value} {below : List Frame} {meth : Method} {c : Code} {A : Nat → Prop} {D : va_G} {ad : Nat → Nat → Nat} {cc : Nat → ClassId} {sad sav : Nat → Nat} {Q : State → Prop} (hC : MCc sad sav "JoinedTrees$JsonReader" prog_3_method_5_code 1 (some .boolean) p s m args meth c A D cc) {N : Nat → Nat} {x0 : Nat} {S : CS} {o : CS × Int32} (Heq : m_cRd_readInside_J0 N x0 S = some o) (Kr : ∀ r : CS × Int32, o = r → ∀ (pc : Nat) (H : Heap) (locs : List Loc) (ls : Array Slot), decode prog_3_method_5_code pc = .ok (.ireturn, 1) → (r.2 = 0 ∨ r.2 = 1) → va_P D cls (cw ad cc N r.1) H → va_D A (cw ad cc N r.1) → va_S A s.heap H locs → W p l e ({ frames := 4, cells := 0, slots := 0, locals := 93 }) s m args below meth c H locs 0 0 Q (F0 m pc ls [.int r.2])) : ∀ (H : Heap) (locs : List Loc) (ls : Array Slot), va_P D cls (cw ad cc N S) H → va_D A (cw ad cc N S) → va_S A s.heap H locs → lv_has ls 1 [(0, .ref (ad 1 x0))] → W p l e ({ frames := 4, cells := 0, slots := 0, locals := 93 }) s m args below meth c H locs 0 0 Q (F0 m 0 ls []) := by
  intro H locs ls hP hD hS hl
  obtain ⟨hx, hb, hr, hml, hown, hts, hK, hA, hev, hE, hN, hNS⟩ := id hC
  unfold m_cRd_readInside_J0 at Heq
  refine lv_aload_n hx hb d_cRd_readInside_0 rfl (lv_at hl 0 rfl) ?_
  obtain ⟨hl_x0_1, Heq⟩ := gl_some Heq
  obtain ⟨o_1, h_2, Heq⟩ := ob_some Heq
  have hFc := fr_all hD hS hA
  refine va_callv (va_runV (As := []) (rest := []) ⟨hx, hb, hml, hown, hts⟩ (g_cRd_skipBlanks l D H.size (ad := ad) (cc := cc) (sad := sad) (sav := sav) h_2) (cw_v 0 hts kw_870 kw_867 kw_868 kw_869 kw_7 rfl rfl (by decide +kernel) ⟨Nat.le_of_ble_eq_true rfl, Nat.le_of_ble_eq_true rfl⟩) ⟨c_blind, va_recv hK hP (ci := 1) (q0 := cPos N 1 x0) rfl (cw_obj (k := 1) (by decide) hl_x0_1), fun U hU hW => c_pre hU hW hP hK hD hev hE hN hNS hS hFc⟩ rfl rfl hl.1 rfl (lv_room (Nat.le_of_ble_eq_true rfl)) d_cRd_readInside_1 ⟨Nat.le_of_ble_eq_true rfl, Nat.le_of_ble_eq_true rfl⟩) hS (fun q _ h => hFc q h) hFc (fun u t H1 locs ht hvm hw hB hz1 hk1 hS => ?_)
  obtain ⟨hP, -, hD1⟩ := hB
  rw [ht] at hP
  have hD := hD1.weaken (fun _ q _ h => hFc q.1 h)
  generalize H1 = H at hP hS ⊢
  refine W.cs (cells' := 0) (slots' := 0) rfl rfl ?_
  refine lv_aload_n hx hb d_cRd_readInside_4 rfl (lv_at hl 0 rfl) ?_
  refine va_get (D := D) (ci := 1) (v := rv ad 5 (o_1.r 1 2 x0)) (C := R_Rd) (T := F_Rd) (N := 10) hx hb hts i_Rd hown hK hP (cPos N 1 x0) (cw_obj (k := 1) (by decide) hl_x0_1) rfl 2 (by decide) (hts _ kw_346) (fun _ h9 => h9) rfl d_cRd_readInside_5 ?_
  refine lv_aload_n hx hb d_cRd_readInside_8 rfl (lv_at hl 0 rfl) ?_
  refine va_get (D := D) (ci := 1) (v := .int (o_1.i 1 4 x0)) (C := R_Rd) (T := F_Rd) (N := 10) hx hb hts i_Rd hown hK hP (cPos N 1 x0) (cw_obj (k := 1) (by decide) hl_x0_1) rfl 4 (by decide) (hts _ kw_349) (fun _ h9 => h9) rfl d_cRd_readInside_9 ?_
  obtain ⟨j_3, hj_4, hl_5, Heq⟩ := gn_some Heq
  refine w_s (st' := [.int (o_1.i 1 4 x0), .ref (ad 5 j_3)]) (congrArg (fun z9 : Option Nat => [.int (o_1.i 1 4 x0), rv ad 5 z9]) hj_4) ?_
  obtain ⟨o_6, h_7, Heq⟩ := ob_some Heq
  have hFc := fr_all hD hS hA
  refine va_calli (va_runV (As := [.int (o_1.i 1 4 x0)]) (rest := []) ⟨hx, hb, hml, hown, hts⟩ (g_cRw_at l D H.size (ad := ad) (cc := cc) (sad := sad) (sav := sav) h_7) (cw_v 1 hts kw_689 kw_871 kw_687 kw_688 kw_4 rfl rfl (by decide +kernel) ⟨Nat.le_of_ble_eq_true rfl, Nat.le_of_ble_eq_true rfl⟩) ⟨c_blind, va_recv hK hP (ci := 5) (q0 := cPos N 5 j_3) rfl (cw_obj (k := 5) (by decide) hl_5), fun U hU hW => c_pre hU hW hP hK hD hev hE hN hNS hS hFc⟩ rfl rfl hl.1 rfl (lv_room (Nat.le_of_ble_eq_true rfl)) d_cRd_readInside_12 ⟨Nat.le_of_ble_eq_true rfl, Nat.le_of_ble_eq_true rfl⟩) hS (fun q _ h => hFc q h) hFc (fun rz u t H1 locs ht hvm hw hB hz1 hk1 hS => ?_)
  obtain ⟨hP, -, hD1⟩ := hB
  rw [ht] at hP
  have hD := hD1.weaken (fun _ q _ h => hFc q.1 h)
  generalize H1 = H at hP hS ⊢
  refine W.cs (cells' := 0) (slots' := 0) rfl rfl ?_
  subst hw
  refine lv_aload_n hx hb d_cRd_readInside_15 rfl (lv_at hl 0 rfl) ?_
  refine va_get (D := D) (ci := 1) (v := rv ad 9 (o_6.1.r 1 6 x0)) (C := R_Rd) (T := F_Rd) (N := 10) hx hb hts i_Rd hown hK hP (cPos N 1 x0) (cw_obj (k := 1) (by decide) hl_x0_1) rfl 6 (by decide) (hts _ kw_352) (fun _ h9 => h9) rfl d_cRd_readInside_16 ?_
  obtain ⟨j_8, hj_9, hl_10, Heq⟩ := gn_some Heq
  refine w_s (st' := [.ref (ad 9 j_8), .int o_6.2]) (congrArg (fun z9 : Option Nat => [rv ad 9 z9, .int o_6.2]) hj_9) ?_
  refine va_get (D := D) (ci := 9) (v := .int (o_6.1.i 9 0 j_8)) (C := R_Va) (T := F_Va) (N := 10) hx hb hts i_Va hown hK hP (cPos N 9 j_8) (cw_obj (k := 9) (by decide) hl_10) rfl 0 (by decide) (hts _ kw_295) (fun _ h9 => h9) rfl d_cRd_readInside_19 ?_
  refine lv_bipush (v := 6) hx hb d_cRd_readInside_22 (by decide) ?_
  refine lv_icmp_ne (tgt := 32) hx hb d_cRd_readInside_24 (by decide) (fun c_11 => ?_) (fun c_11 => ?_)
  · replace Heq := (if_neg c_11).symm.trans Heq
    refine lv_bipush (v := 93) hx hb d_cRd_readInside_32 (by decide) ?_
    exact w_cRd_readInside_J34 hC Heq Kr _ _ _ hP hD hS (lv_sub hl [0] rfl)
  · replace Heq := (if_pos c_11).symm.trans Heq
    refine lv_bipush (v := 125) hx hb d_cRd_readInside_27 (by decide) ?_
    refine lv_goto (tgt := 34) hx hb d_cRd_readInside_29 (by decide) ?_
    exact w_cRd_readInside_J34 hC Heq Kr _ _ _ hP hD hS (lv_sub hl [0] rfl)
def m_cRd_readInside (N : Nat → Nat) (x0 : Nat) (S : CS) : Option (CS × Int32) := m_cRd_readInside_J0 N x0 S
set_option maxHeartbeats 4000000 in
theorem g_cRd_readInside (l : Launch) (D : va_G) (sz : Nat) {ad : Nat → Nat → Nat} {cc : Nat → ClassId} {sad sav : Nat → Nat} {N : Nat → Nat} {x0 : Nat} {S : CS} {o : CS × Int32} (Heq : m_cRd_readInside N x0 S = some o) : Met l ⟨"JoinedTrees$JsonReader", "readInside", "()Z"⟩ (Cond.code ⟨"JoinedTrees$JsonReader", "readInside", "()Z"⟩ prog_3_method_5_code 1 (some .boolean) :: gb) ({ frames := 4, cells := 0, slots := 0, locals := 93 }) (cPc sad sav D (cw ad cc N S) (cty cc) sz [.ref (ad 1 x0)]) (va_Qi (fun (r : Int32) (_ : Unit) => r = o.2) (fun _ t => gO D (cw ad cc N o.1) (cty cc) (va_A (cw ad cc N S) sz) t) (va_A (cw ad cc N S) sz)) 0 0 (va_A (cw ad cc N S) sz) := by
  refine Met.ofW (cc := prog_3_method_5_code) (maxL := 1) (ret := (some .boolean)) (by decide) rfl ?_
  intro p e s m args below meth c s₁ B hml hv
  obtain ⟨rfl, hsz, hP, hK, hD0, hev, hE, hN⟩ := hv
  have hx := B.exec
  have hb := B.bytes
  have hr := B.returns
  have hts : ∀ w9 ∈ gb, w9.before [.ref (ad 1 x0)].toArray s = true := fun w9 h => atoms_spec (ws := Cond.code ⟨"JoinedTrees$JsonReader", "readInside", "()Z"⟩ prog_3_method_5_code 1 (some .boolean) :: gb) B.pre w9 (List.mem_cons_of_mem _ h)
  have hown : s.vm.findClass "JoinedTrees$JsonReader" = some m.cls := findClass_of_methodNamed B.named
  have hlocks := B.notSynchronized
  have hNS := ns_of hP
  subst hsz
  have hD := hD0.self (sz := s.heap.size)
  generalize hAe : va_A (cw ad cc N S) s.heap.size = A at hD hev hE hNS ⊢
  have hA : ∀ q : Nat, s.heap.size ≤ q → A q := fun q h => by rw [← hAe]; exact Or.inr h
  have hS : va_S A s.heap s.heap [] := va_S.rf
  obtain ⟨ls, hl, hle⟩ : ∃ ls : Array Slot, lv_has ls 1 [(0, .ref (ad 1 x0))] ∧ entryFrame m ([.ref (ad 1 x0)] : List Value).toArray 1 = F0 m 0 ls [] := by
    exact ⟨_, lv_entry (n := 1) _ (Nat.le_of_ble_eq_true rfl), lg_entry_eq ..⟩
  rw [hle]
  refine w_cRd_readInside_J0 ⟨hx, hb, hr, hml, hown, hts, hK, hA, hev, hE, hN, hNS⟩ Heq (fun r h pc H locs ls hd hz hP hD hS => ?_) _ _ _ hP hD hS (lv_sub hl [0] rfl)
  subst h
  exact W.zret (ty := .boolean) hx hb hr (by rcases hz with hz | hz <;> rw [hz] <;> rfl) (fun t ht hW => ⟨⟨_, (), rfl, rfl, by rw [ht]; exact hP, va_K.moved hW.alike hK, hD⟩, hS.F ht⟩) hS.2.2 hd
def m_cRd_parse_J97 (N : Nat → Nat) (x0 : Nat) (S : CS) (x3 : Int32) (t0 : Int32) : Option ((CS × Int32 × Int32) ⊕ (CS × Int32)) := some (.inl (S, t0, (x3 + 1)))
theorem d_cRd_parse_0 : decode prog_3_method_2_code 0 = .ok (.aload_n 0, 1) := by decide +kernel
theorem d_cRd_parse_1 : decode prog_3_method_2_code 1 = .ok (.aload_n 1, 1) := by decide +kernel
theorem d_cRd_parse_2 : decode prog_3_method_2_code 2 = .ok (.putfield 27, 3) := by decide +kernel
theorem d_cRd_parse_5 : decode prog_3_method_2_code 5 = .ok (.aload_n 0, 1) := by decide +kernel
theorem d_cRd_parse_6 : decode prog_3_method_2_code 6 = .ok (.iconst 0, 1) := by decide +kernel
theorem d_cRd_parse_7 : decode prog_3_method_2_code 7 = .ok (.putfield 30, 3) := by decide +kernel
theorem d_cRd_parse_10 : decode prog_3_method_2_code 10 = .ok (.aload_n 0, 1) := by decide +kernel
theorem d_cRd_parse_11 : decode prog_3_method_2_code 11 = .ok (.iconst 0, 1) := by decide +kernel
theorem d_cRd_parse_12 : decode prog_3_method_2_code 12 = .ok (.putfield 34, 3) := by decide +kernel
theorem d_cRd_parse_15 : decode prog_3_method_2_code 15 = .ok (.aload_n 0, 1) := by decide +kernel
theorem d_cRd_parse_16 : decode prog_3_method_2_code 16 = .ok (.iconst 0, 1) := by decide +kernel
theorem d_cRd_parse_17 : decode prog_3_method_2_code 17 = .ok (.putfield 37, 3) := by decide +kernel
theorem d_cRd_parse_20 : decode prog_3_method_2_code 20 = .ok (.aload_n 0, 1) := by decide +kernel
theorem d_cRd_parse_21 : decode prog_3_method_2_code 21 = .ok (.aconst_null, 1) := by decide +kernel
theorem d_cRd_parse_22 : decode prog_3_method_2_code 22 = .ok (.putfield 40, 3) := by decide +kernel
theorem d_cRd_parse_25 : decode prog_3_method_2_code 25 = .ok (.aload_n 0, 1) := by decide +kernel
theorem d_cRd_parse_26 : decode prog_3_method_2_code 26 = .ok (.iconst 0, 1) := by decide +kernel
theorem d_cRd_parse_27 : decode prog_3_method_2_code 27 = .ok (.putfield 44, 3) := by decide +kernel
theorem d_cRd_parse_30 : decode prog_3_method_2_code 30 = .ok (.aload_n 0, 1) := by decide +kernel
theorem d_cRd_parse_31 : decode prog_3_method_2_code 31 = .ok (.iconst 0, 1) := by decide +kernel
theorem d_cRd_parse_32 : decode prog_3_method_2_code 32 = .ok (.putfield 47, 3) := by decide +kernel
theorem d_cRd_parse_35 : decode prog_3_method_2_code 35 = .ok (.aload_n 0, 1) := by decide +kernel
theorem d_cRd_parse_36 : decode prog_3_method_2_code 36 = .ok (.getfield 22, 3) := by decide +kernel
theorem d_cRd_parse_39 : decode prog_3_method_2_code 39 = .ok (.invokevirtual 50, 3) := by decide +kernel
theorem d_cRd_parse_42 : decode prog_3_method_2_code 42 = .ok (.aload_n 0, 1) := by decide +kernel
theorem d_cRd_parse_43 : decode prog_3_method_2_code 43 = .ok (.invokevirtual 53, 3) := by decide +kernel
theorem d_cRd_parse_46 : decode prog_3_method_2_code 46 = .ok (.aload_n 0, 1) := by decide +kernel
theorem d_cRd_parse_47 : decode prog_3_method_2_code 47 = .ok (.invokevirtual 56, 3) := by decide +kernel
theorem d_cRd_parse_50 : decode prog_3_method_2_code 50 = .ok (.istore_n 2, 1) := by decide +kernel
theorem d_cRd_parse_51 : decode prog_3_method_2_code 51 = .ok (.iconst 0, 1) := by decide +kernel
theorem d_cRd_parse_52 : decode prog_3_method_2_code 52 = .ok (.istore_n 3, 1) := by decide +kernel
theorem d_cRd_parse_53 : decode prog_3_method_2_code 53 = .ok (.iload_n 3, 1) := by decide +kernel
theorem d_cRd_parse_54 : decode prog_3_method_2_code 54 = .ok (.sipush 8192, 3) := by decide +kernel
theorem d_cRd_parse_57 : decode prog_3_method_2_code 57 = .ok (.if_icmp .gt 47, 3) := by decide +kernel
theorem d_cRd_parse_60 : decode prog_3_method_2_code 60 = .ok (.iload_n 2, 1) := by decide +kernel
theorem d_cRd_parse_61 : decode prog_3_method_2_code 61 = .ok (.ifCond .eq 43, 3) := by decide +kernel
theorem d_cRd_parse_64 : decode prog_3_method_2_code 64 = .ok (.aload_n 0, 1) := by decide +kernel
theorem d_cRd_parse_65 : decode prog_3_method_2_code 65 = .ok (.getfield 40, 3) := by decide +kernel
theorem d_cRd_parse_68 : decode prog_3_method_2_code 68 = .ok (.ifnull 36, 3) := by decide +kernel
theorem d_cRd_parse_71 : decode prog_3_method_2_code 71 = .ok (.aload_n 0, 1) := by decide +kernel
theorem d_cRd_parse_72 : decode prog_3_method_2_code 72 = .ok (.invokevirtual 60, 3) := by decide +kernel
theorem d_cRd_parse_75 : decode prog_3_method_2_code 75 = .ok (.ifCond .eq 21, 3) := by decide +kernel
theorem d_cRd_parse_96 : decode prog_3_method_2_code 96 = .ok (.iconst 0, 1) := by decide +kernel
theorem d_cRd_parse_97 : decode prog_3_method_2_code 97 = .ok (.istore_n 2, 1) := by decide +kernel
theorem d_cRd_parse_98 : decode prog_3_method_2_code 98 = .ok (.iinc 3 1, 3) := by decide +kernel
theorem d_cRd_parse_101 : decode prog_3_method_2_code 101 = .ok (.goto (-48), 3) := by decide +kernel
set_option maxHeartbeats 4000000 in
set_option maxRecDepth 100000 in
theorem w_cRd_parse_J97 {p : Program} {l : Launch} {e : Env} {s : State} {m : MethodId} {args : Array Value} {below : List Frame} {meth : Method} {c : Code} {A : Nat → Prop} {D : va_G} {ad : Nat → Nat → Nat} {cc : Nat → ClassId} {sad sav : Nat → Nat} {Q : State → Prop} (hC : MCc sad sav "JoinedTrees$JsonReader" prog_3_method_2_code 4 (some .boolean) p s m args meth c A D cc) {N : Nat → Nat} {x0 : Nat} {S : CS} {x3 : Int32} {t0 : Int32} {o : ((CS × Int32 × Int32) ⊕ (CS × Int32))} (Heq : m_cRd_parse_J97 N x0 S x3 t0 = some o) (Ka : ∀ b : CS × Int32 × Int32, o = .inl b → ∀ (H : Heap) (locs : List Loc) (ls : Array Slot), va_P D cls (cw ad cc N b.1) H → va_D A (cw ad cc N b.1) → va_S A s.heap H locs → lv_has ls 4 [(0, .ref (ad 1 x0)), (2, .int b.2.1), (3, .int b.2.2)] → W p l e ({ frames := 6, cells := 0, slots := 0, locals := 156 }) s m args below meth c H locs 0 0 Q (F0 m 53 ls [])) (K0 : ∀ b : CS × Int32, o = .inr b → ∀ (H : Heap) (locs : List Loc) (ls : Array Slot), va_P D cls (cw ad cc N b.1) H → va_D A (cw ad cc N b.1) → va_S A s.heap H locs → lv_has ls 4 [(0, .ref (ad 1 x0)), (2, .int b.2)] → W p l e ({ frames := 6, cells := 0, slots := 0, locals := 156 }) s m args below meth c H locs 0 0 Q (F0 m 104 ls [])) : ∀ (H : Heap) (locs : List Loc) (ls : Array Slot), va_P D cls (cw ad cc N S) H → va_D A (cw ad cc N S) → va_S A s.heap H locs → lv_has ls 4 [(0, .ref (ad 1 x0)), (3, .int x3)] → W p l e ({ frames := 6, cells := 0, slots := 0, locals := 156 }) s m args below meth c H locs 0 0 Q (F0 m 97 ls [.int t0]) := by
  intro H locs ls hP hD hS hl
  obtain ⟨hx, hb, hr, hml, hown, hts, hK, hA, hev, hE, hN, hNS⟩ := id hC
  unfold m_cRd_parse_J97 at Heq
  refine lv_istore_n (lv' := [(2, .int t0), (0, .ref (ad 1 x0)), (3, .int x3)]) hx hb d_cRd_parse_97 rfl hl (by decide) rfl (fun ls hl => ?_)
  refine lv_iinc (v := x3 + 1) (lv' := [(3, .int (x3 + 1)), (2, .int t0), (0, .ref (ad 1 x0))]) hx hb d_cRd_parse_98 hl (k := 2) rfl rfl (by decide) rfl (fun ls hl => ?_)
  refine lv_goto (tgt := 53) hx hb d_cRd_parse_101 (by decide) ?_
  exact Ka _ (Option.some.inj Heq).symm _ _ _ hP hD hS (lv_sub hl [2, 1, 0] rfl)
def m_cRd_parse_J96 (N : Nat → Nat) (x0 : Nat) (S : CS) (x3 : Int32) : Option ((CS × Int32 × Int32) ⊕ (CS × Int32)) := m_cRd_parse_J97 N x0 S x3 0
set_option maxHeartbeats 4000000 in
set_option maxRecDepth 100000 in
theorem w_cRd_parse_J96 {p : Program} {l : Launch} {e : Env} {s : State} {m : MethodId} {args : Array Value} {below : List Frame} {meth : Method} {c : Code} {A : Nat → Prop} {D : va_G} {ad : Nat → Nat → Nat} {cc : Nat → ClassId} {sad sav : Nat → Nat} {Q : State → Prop} (hC : MCc sad sav "JoinedTrees$JsonReader" prog_3_method_2_code 4 (some .boolean) p s m args meth c A D cc) {N : Nat → Nat} {x0 : Nat} {S : CS} {x3 : Int32} {o : ((CS × Int32 × Int32) ⊕ (CS × Int32))} (Heq : m_cRd_parse_J96 N x0 S x3 = some o) (Ka : ∀ b : CS × Int32 × Int32, o = .inl b → ∀ (H : Heap) (locs : List Loc) (ls : Array Slot), va_P D cls (cw ad cc N b.1) H → va_D A (cw ad cc N b.1) → va_S A s.heap H locs → lv_has ls 4 [(0, .ref (ad 1 x0)), (2, .int b.2.1), (3, .int b.2.2)] → W p l e ({ frames := 6, cells := 0, slots := 0, locals := 156 }) s m args below meth c H locs 0 0 Q (F0 m 53 ls [])) (K0 : ∀ b : CS × Int32, o = .inr b → ∀ (H : Heap) (locs : List Loc) (ls : Array Slot), va_P D cls (cw ad cc N b.1) H → va_D A (cw ad cc N b.1) → va_S A s.heap H locs → lv_has ls 4 [(0, .ref (ad 1 x0)), (2, .int b.2)] → W p l e ({ frames := 6, cells := 0, slots := 0, locals := 156 }) s m args below meth c H locs 0 0 Q (F0 m 104 ls [])) : ∀ (H : Heap) (locs : List Loc) (ls : Array Slot), va_P D cls (cw ad cc N S) H → va_D A (cw ad cc N S) → va_S A s.heap H locs → lv_has ls 4 [(0, .ref (ad 1 x0)), (3, .int x3)] → W p l e ({ frames := 6, cells := 0, slots := 0, locals := 156 }) s m args below meth c H locs 0 0 Q (F0 m 96 ls []) := by
  intro H locs ls hP hD hS hl
  obtain ⟨hx, hb, hr, hml, hown, hts, hK, hA, hev, hE, hN, hNS⟩ := id hC
  unfold m_cRd_parse_J96 at Heq
  refine lv_iconst (v := 0) hx hb d_cRd_parse_96 (by decide) ?_
  exact w_cRd_parse_J97 hC Heq Ka K0 _ _ _ hP hD hS (lv_sub hl [0, 1] rfl)
def m_cRd_parse_J92 (N : Nat → Nat) (x0 : Nat) (S : CS) (x3 : Int32) : Option ((CS × Int32 × Int32) ⊕ (CS × Int32)) := m_cRd_parse_J97 N x0 S x3 1
theorem d_cRd_parse_78 : decode prog_3_method_2_code 78 = .ok (.aload_n 0, 1) := by decide +kernel
theorem d_cRd_parse_79 : decode prog_3_method_2_code 79 = .ok (.getfield 63, 3) := by decide +kernel
theorem d_cRd_parse_82 : decode prog_3_method_2_code 82 = .ok (.ifCond .eq 10, 3) := by decide +kernel
theorem d_cRd_parse_92 : decode prog_3_method_2_code 92 = .ok (.iconst 1, 1) := by decide +kernel
theorem d_cRd_parse_93 : decode prog_3_method_2_code 93 = .ok (.goto 4, 3) := by decide +kernel
set_option maxHeartbeats 4000000 in
set_option maxRecDepth 100000 in
theorem w_cRd_parse_J92 {p : Program} {l : Launch} {e : Env} {s : State} {m : MethodId} {args : Array Value} {below : List Frame} {meth : Method} {c : Code} {A : Nat → Prop} {D : va_G} {ad : Nat → Nat → Nat} {cc : Nat → ClassId} {sad sav : Nat → Nat} {Q : State → Prop} (hC : MCc sad sav "JoinedTrees$JsonReader" prog_3_method_2_code 4 (some .boolean) p s m args meth c A D cc) {N : Nat → Nat} {x0 : Nat} {S : CS} {x3 : Int32} {o : ((CS × Int32 × Int32) ⊕ (CS × Int32))} (Heq : m_cRd_parse_J92 N x0 S x3 = some o) (Ka : ∀ b : CS × Int32 × Int32, o = .inl b → ∀ (H : Heap) (locs : List Loc) (ls : Array Slot), va_P D cls (cw ad cc N b.1) H → va_D A (cw ad cc N b.1) → va_S A s.heap H locs → lv_has ls 4 [(0, .ref (ad 1 x0)), (2, .int b.2.1), (3, .int b.2.2)] → W p l e ({ frames := 6, cells := 0, slots := 0, locals := 156 }) s m args below meth c H locs 0 0 Q (F0 m 53 ls [])) (K0 : ∀ b : CS × Int32, o = .inr b → ∀ (H : Heap) (locs : List Loc) (ls : Array Slot), va_P D cls (cw ad cc N b.1) H → va_D A (cw ad cc N b.1) → va_S A s.heap H locs → lv_has ls 4 [(0, .ref (ad 1 x0)), (2, .int b.2)] → W p l e ({ frames := 6, cells := 0, slots := 0, locals := 156 }) s m args below meth c H locs 0 0 Q (F0 m 104 ls [])) : ∀ (H : Heap) (locs : List Loc) (ls : Array Slot), va_P D cls (cw ad cc N S) H → va_D A (cw ad cc N S) → va_S A s.heap H locs → lv_has ls 4 [(0, .ref (ad 1 x0)), (3, .int x3)] → W p l e ({ frames := 6, cells := 0, slots := 0, locals := 156 }) s m args below meth c H locs 0 0 Q (F0 m 92 ls []) := by
  intro H locs ls hP hD hS hl
  obtain ⟨hx, hb, hr, hml, hown, hts, hK, hA, hev, hE, hN, hNS⟩ := id hC
  unfold m_cRd_parse_J92 at Heq
  refine lv_iconst (v := 1) hx hb d_cRd_parse_92 (by decide) ?_
  refine lv_goto (tgt := 97) hx hb d_cRd_parse_93 (by decide) ?_
  exact w_cRd_parse_J97 hC Heq Ka K0 _ _ _ hP hD hS (lv_sub hl [0, 1] rfl)
def m_cRd_parse_B53 (N : Nat → Nat) (x0 : Nat) (S : CS) (x2 : Int32) (x3 : Int32) : Option ((CS × Int32 × Int32) ⊕ (CS × Int32)) := (if 8192 < x3 then some (.inr (S, x2)) else (if x2 = 0 then some (.inr (S, x2)) else gl x0 (N 1) (on (S.r 1 6 x0) (some (.inr (S, x2))) (fun j_3 => ob (m_cRd_readInside N x0 S) (fun o_5 => (if o_5.2 = 0 then m_cRd_parse_J96 N x0 o_5.1 x3 else (if o_5.1.i 1 7 x0 = 0 then m_cRd_parse_J92 N x0 o_5.1 x3 else ob (m_cRd_readValue N x0 o_5.1) (fun o_9 => (if o_9.2 = 0 then m_cRd_parse_J96 N x0 o_9.1 x3 else m_cRd_parse_J92 N x0 o_9.1 x3)))))))))
theorem d_cRd_parse_85 : decode prog_3_method_2_code 85 = .ok (.aload_n 0, 1) := by decide +kernel
theorem d_cRd_parse_86 : decode prog_3_method_2_code 86 = .ok (.invokevirtual 56, 3) := by decide +kernel
theorem d_cRd_parse_89 : decode prog_3_method_2_code 89 = .ok (.ifCond .eq 7, 3) := by decide +kernel
set_option maxHeartbeats 4000000 in
set_option maxRecDepth 100000 in
theorem w_cRd_parse_B53 {p : Program} {l : Launch} {e : Env} {s : State} {m : MethodId} {args : Array Value} {below : List Frame} {meth : Method} {c : Code} {A : Nat → Prop} {D : va_G} {ad : Nat → Nat → Nat} {cc : Nat → ClassId} {sad sav : Nat → Nat} {Q : State → Prop} (hC : MCc sad sav "JoinedTrees$JsonReader" prog_3_method_2_code 4 (some .boolean) p s m args meth c A D cc) {N : Nat → Nat} {x0 : Nat} {S : CS} {x2 : Int32} {x3 : Int32} {o : ((CS × Int32 × Int32) ⊕ (CS × Int32))} (Heq : m_cRd_parse_B53 N x0 S x2 x3 = some o) (Ka : ∀ b : CS × Int32 × Int32, o = .inl b → ∀ (H : Heap) (locs : List Loc) (ls : Array Slot), va_P D cls (cw ad cc N b.1) H → va_D A (cw ad cc N b.1) → va_S A s.heap H locs → lv_has ls 4 [(0, .ref (ad 1 x0)), (2, .int b.2.1), (3, .int b.2.2)] → W p l e ({ frames := 6, cells := 0, slots := 0, locals := 156 }) s m args below meth c H locs 0 0 Q (F0 m 53 ls [])) (K0 : ∀ b : CS × Int32, o = .inr b → ∀ (H : Heap) (locs : List Loc) (ls : Array Slot), va_P D cls (cw ad cc N b.1) H → va_D A (cw ad cc N b.1) → va_S A s.heap H locs → lv_has ls 4 [(0, .ref (ad 1 x0)), (2, .int b.2)] → W p l e ({ frames := 6, cells := 0, slots := 0, locals := 156 }) s m args below meth c H locs 0 0 Q (F0 m 104 ls [])) : ∀ (H : Heap) (locs : List Loc) (ls : Array Slot), va_P D cls (cw ad cc N S) H → va_D A (cw ad cc N S) → va_S A s.heap H locs → lv_has ls 4 [(0, .ref (ad 1 x0)), (2, .int x2), (3, .int x3)] → W p l e ({ frames := 6, cells := 0, slots := 0, locals := 156 }) s m args below meth c H locs 0 0 Q (F0 m 53 ls []) := by
  intro H locs ls hP hD hS hl
  obtain ⟨hx, hb, hr, hml, hown, hts, hK, hA, hev, hE, hN, hNS⟩ := id hC
  unfold m_cRd_parse_B53 at Heq
  refine lv_iload_n hx hb d_cRd_parse_53 rfl (lv_at hl 2 rfl) ?_
  refine lv_sipush (v := 8192) hx hb d_cRd_parse_54 (by decide) ?_
  refine lv_icmp_gt (tgt := 104) hx hb d_cRd_parse_57 (by decide) (fun c_1 => ?_) (fun c_1 => ?_)
  · replace Heq := (if_pos c_1).symm.trans Heq
    exact K0 _ (Option.some.inj Heq).symm _ _ _ hP hD hS (lv_sub hl [0, 1] rfl)
  · replace Heq := (if_neg c_1).symm.trans Heq
    refine lv_iload_n hx hb d_cRd_parse_60 rfl (lv_at hl 1 rfl) ?_
    refine lv_if_eq (tgt := 104) hx hb d_cRd_parse_61 (by decide) (fun c_2 => ?_) (fun c_2 => ?_)
    · replace Heq := (if_pos c_2).symm.trans Heq
      exact K0 _ (Option.some.inj Heq).symm _ _ _ hP hD hS (lv_sub hl [0, 1] rfl)
    · replace Heq := (if_neg c_2).symm.trans Heq
      refine lv_aload_n hx hb d_cRd_parse_64 rfl (lv_at hl 0 rfl) ?_
      obtain ⟨hl_x0_1, Heq⟩ := gl_some Heq
      refine va_get (D := D) (ci := 1) (v := rv ad 9 (S.r 1 6 x0)) (C := R_Rd) (T := F_Rd) (N := 10) hx hb hts i_Rd hown hK hP (cPos N 1 x0) (cw_obj (k := 1) (by decide) hl_x0_1) rfl 6 (by decide) (hts _ kw_352) (fun _ h9 => h9) rfl d_cRd_parse_65 ?_
      rcases on_some Heq with ⟨hj_4, Heq⟩ | ⟨j_3, hj_4, Heq⟩
      · refine w_s (st' := [.null]) (congrArg (fun z9 : Option Nat => [rv ad 9 z9]) hj_4) ?_
        refine lv_ifnullN (tgt := 104) hx hb d_cRd_parse_68 (by decide) ?_
        exact K0 _ (Option.some.inj Heq).symm _ _ _ hP hD hS (lv_sub hl [0, 1] rfl)
      · refine w_s (st' := [.ref (ad 9 j_3)]) (congrArg (fun z9 : Option Nat => [rv ad 9 z9]) hj_4) ?_
        refine lv_ifnull hx hb d_cRd_parse_68 ?_
        refine lv_aload_n hx hb d_cRd_parse_71 rfl (lv_at hl 0 rfl) ?_
        obtain ⟨o_5, h_6, Heq⟩ := ob_some Heq
        have hFc := fr_all hD hS hA
        refine va_calli (va_runV (As := []) (rest := []) ⟨hx, hb, hml, hown, hts⟩ (g_cRd_readInside l D H.size (ad := ad) (cc := cc) (sad := sad) (sav := sav) h_6) (cw_v 0 hts kw_970 kw_967 kw_968 kw_969 kw_7 rfl rfl (by decide +kernel) ⟨Nat.le_of_ble_eq_true rfl, Nat.le_of_ble_eq_true rfl⟩) ⟨c_blind, va_recv hK hP (ci := 1) (q0 := cPos N 1 x0) rfl (cw_obj (k := 1) (by decide) hl_x0_1), fun U hU hW => c_pre hU hW hP hK hD hev hE hN hNS hS hFc⟩ rfl rfl hl.1 rfl (lv_room (Nat.le_of_ble_eq_true rfl)) d_cRd_parse_72 ⟨Nat.le_of_ble_eq_true rfl, Nat.le_of_ble_eq_true rfl⟩) hS (fun q _ h => hFc q h) hFc (fun rz u t H1 locs ht hvm hw hB hz1 hk1 hS => ?_)
        obtain ⟨hP, -, hD1⟩ := hB
        rw [ht] at hP
        have hD := hD1.weaken (fun _ q _ h => hFc q.1 h)
        generalize H1 = H at hP hS ⊢
        refine W.cs (cells' := 0) (slots' := 0) rfl rfl ?_
        subst hw
        refine lv_if_eq (tgt := 96) hx hb d_cRd_parse_75 (by decide) (fun c_7 => ?_) (fun c_7 => ?_)
        · replace Heq := (if_pos c_7).symm.trans Heq
          exact w_cRd_parse_J96 hC Heq Ka K0 _ _ _ hP hD hS (lv_sub hl [0, 2] rfl)
        · replace Heq := (if_neg c_7).symm.trans Heq
          refine lv_aload_n hx hb d_cRd_parse_78 rfl (lv_at hl 0 rfl) ?_
          refine va_get (D := D) (ci := 1) (v := .int (o_5.1.i 1 7 x0)) (C := R_Rd) (T := F_Rd) (N := 10) hx hb hts i_Rd hown hK hP (cPos N 1 x0) (cw_obj (k := 1) (by decide) hl_x0_1) rfl 7 (by decide) (hts _ kw_353) (fun _ h9 => h9) rfl d_cRd_parse_79 ?_
          refine lv_if_eq (tgt := 92) hx hb d_cRd_parse_82 (by decide) (fun c_8 => ?_) (fun c_8 => ?_)
          · replace Heq := (if_pos c_8).symm.trans Heq
            exact w_cRd_parse_J92 hC Heq Ka K0 _ _ _ hP hD hS (lv_sub hl [0, 2] rfl)
          · replace Heq := (if_neg c_8).symm.trans Heq
            refine lv_aload_n hx hb d_cRd_parse_85 rfl (lv_at hl 0 rfl) ?_
            obtain ⟨o_9, h_10, Heq⟩ := ob_some Heq
            have hFc := fr_all hD hS hA
            refine va_calli (va_runV (As := []) (rest := []) ⟨hx, hb, hml, hown, hts⟩ (g_cRd_readValue l D H.size (ad := ad) (cc := cc) (sad := sad) (sav := sav) h_10) (cw_v 0 hts kw_878 kw_875 kw_876 kw_877 kw_7 rfl rfl (by decide +kernel) ⟨Nat.le_of_ble_eq_true rfl, Nat.le_of_ble_eq_true rfl⟩) ⟨c_blind, va_recv hK hP (ci := 1) (q0 := cPos N 1 x0) rfl (cw_obj (k := 1) (by decide) hl_x0_1), fun U hU hW => c_pre hU hW hP hK hD hev hE hN hNS hS hFc⟩ rfl rfl hl.1 rfl (lv_room (Nat.le_of_ble_eq_true rfl)) d_cRd_parse_86 ⟨Nat.le_of_ble_eq_true rfl, Nat.le_of_ble_eq_true rfl⟩) hS (fun q _ h => hFc q h) hFc (fun rz u t H1 locs ht hvm hw hB hz1 hk1 hS => ?_)
            obtain ⟨hP, -, hD1⟩ := hB
            rw [ht] at hP
            have hD := hD1.weaken (fun _ q _ h => hFc q.1 h)
            generalize H1 = H at hP hS ⊢
            refine W.cs (cells' := 0) (slots' := 0) rfl rfl ?_
            subst hw
            refine lv_if_eq (tgt := 96) hx hb d_cRd_parse_89 (by decide) (fun c_11 => ?_) (fun c_11 => ?_)
            · replace Heq := (if_pos c_11).symm.trans Heq
              exact w_cRd_parse_J96 hC Heq Ka K0 _ _ _ hP hD hS (lv_sub hl [0, 2] rfl)
            · replace Heq := (if_neg c_11).symm.trans Heq
              exact w_cRd_parse_J92 hC Heq Ka K0 _ _ _ hP hD hS (lv_sub hl [0, 2] rfl)
def m_cRd_parse_L53 (N : Nat → Nat) (x0 : Nat) (S : CS) (x2 : Int32) (x3 : Int32) : Option (CS × Int32) := lp (fun a : CS × Int32 × Int32 => m_cRd_parse_B53 N x0 a.1 a.2.1 a.2.2) FU (S, x2, x3)
theorem w_cRd_parse_L53 {p : Program} {l : Launch} {e : Env} {s : State} {m : MethodId} {args : Array Value} {below : List Frame} {meth : Method} {c : Code} {A : Nat → Prop} {D : va_G} {ad : Nat → Nat → Nat} {cc : Nat → ClassId} {sad sav : Nat → Nat} {Q : State → Prop} (hC : MCc sad sav "JoinedTrees$JsonReader" prog_3_method_2_code 4 (some .boolean) p s m args meth c A D cc) {N : Nat → Nat} {x0 : Nat} {S : CS} {x2 : Int32} {x3 : Int32} {o : CS × Int32} (Heq : m_cRd_parse_L53 N x0 S x2 x3 = some o) (K0 : ∀ b : CS × Int32, o = b → ∀ (H : Heap) (locs : List Loc) (ls : Array Slot), va_P D cls (cw ad cc N b.1) H → va_D A (cw ad cc N b.1) → va_S A s.heap H locs → lv_has ls 4 [(0, .ref (ad 1 x0)), (2, .int b.2)] → W p l e ({ frames := 6, cells := 0, slots := 0, locals := 156 }) s m args below meth c H locs 0 0 Q (F0 m 104 ls [])) : ∀ (H : Heap) (locs : List Loc) (ls : Array Slot), va_P D cls (cw ad cc N S) H → va_D A (cw ad cc N S) → va_S A s.heap H locs → lv_has ls 4 [(0, .ref (ad 1 x0)), (2, .int x2), (3, .int x3)] → W p l e ({ frames := 6, cells := 0, slots := 0, locals := 156 }) s m args below meth c H locs 0 0 Q (F0 m 53 ls []) := by
  refine lp_w (G := fun a : CS × Int32 × Int32 => ∀ (H : Heap) (locs : List Loc) (ls : Array Slot), va_P D cls (cw ad cc N a.1) H → va_D A (cw ad cc N a.1) → va_S A s.heap H locs → lv_has ls 4 [(0, .ref (ad 1 x0)), (2, .int a.2.1), (3, .int a.2.2)] → W p l e ({ frames := 6, cells := 0, slots := 0, locals := 156 }) s m args below meth c H locs 0 0 Q (F0 m 53 ls [])) ?_ FU (S, x2, x3) Heq
  intro a o1 ho Ka Ke
  exact w_cRd_parse_B53 hC ho (fun b h => Ka b h) (fun b h => K0 b (Ke _ h).symm)
def m_cRd_parse_J135 (N : Nat → Nat) (x0 : Nat) (S : CS) (t0 : Int32) : Option (CS × Int32) := (if t0 = 0 ∨ t0 = 1 then some (S, t0) else none)
theorem d_cRd_parse_104 : decode prog_3_method_2_code 104 = .ok (.iload_n 2, 1) := by decide +kernel
theorem d_cRd_parse_105 : decode prog_3_method_2_code 105 = .ok (.ifCond .eq 7, 3) := by decide +kernel
theorem d_cRd_parse_112 : decode prog_3_method_2_code 112 = .ok (.iload_n 2, 1) := by decide +kernel
theorem d_cRd_parse_113 : decode prog_3_method_2_code 113 = .ok (.ifCond .eq 21, 3) := by decide +kernel
theorem d_cRd_parse_134 : decode prog_3_method_2_code 134 = .ok (.iconst 0, 1) := by decide +kernel
theorem d_cRd_parse_135 : decode prog_3_method_2_code 135 = .ok (.ireturn, 1) := by decide +kernel
set_option maxHeartbeats 4000000 in
set_option maxRecDepth 100000 in
theorem w_cRd_parse_J135 {p : Program} {l : Launch} {e : Env} {s : State} {m : MethodId} {args : Array Value} {below : List Frame} {meth : Method} {c : Code} {A : Nat → Prop} {D : va_G} {ad : Nat → Nat → Nat} {cc : Nat → ClassId} {sad sav : Nat → Nat} {Q : State → Prop} (hC : MCc sad sav "JoinedTrees$JsonReader" prog_3_method_2_code 4 (some .boolean) p s m args meth c A D cc) {N : Nat → Nat} {x0 : Nat} {S : CS} {t0 : Int32} {o : CS × Int32} (Heq : m_cRd_parse_J135 N x0 S t0 = some o) (Kr : ∀ r : CS × Int32, o = r → ∀ (pc : Nat) (H : Heap) (locs : List Loc) (ls : Array Slot), decode prog_3_method_2_code pc = .ok (.ireturn, 1) → (r.2 = 0 ∨ r.2 = 1) → va_P D cls (cw ad cc N r.1) H → va_D A (cw ad cc N r.1) → va_S A s.heap H locs → W p l e ({ frames := 6, cells := 0, slots := 0, locals := 156 }) s m args below meth c H locs 0 0 Q (F0 m pc ls [.int r.2])) : ∀ (H : Heap) (locs : List Loc) (ls : Array Slot), va_P D cls (cw ad cc N S) H → va_D A (cw ad cc N S) → va_S A s.heap H locs → lv_has ls 4 [(0, .ref (ad 1 x0))] → W p l e ({ frames := 6, cells := 0, slots := 0, locals := 156 }) s m args below meth c H locs 0 0 Q (F0 m 135 ls [.int t0]) := by
  intro H locs ls hP hD hS hl
  obtain ⟨hx, hb, hr, hml, hown, hts, hK, hA, hev, hE, hN, hNS⟩ := id hC
  unfold m_cRd_parse_J135 at Heq
  by_cases hz_1 : t0 = 0 ∨ t0 = 1
  case neg => rw [if_neg hz_1] at Heq; cases Heq
  replace Heq := (if_pos hz_1).symm.trans Heq
  exact Kr _ (Option.some.inj Heq).symm 135 _ _ _ d_cRd_parse_135 hz_1 hP hD hS
def m_cRd_parse_J134 (N : Nat → Nat) (x0 : Nat) (S : CS) : Option (CS × Int32) := m_cRd_parse_J135 N x0 S 0
set_option maxHeartbeats 4000000 in
set_option maxRecDepth 100000 in
theorem w_cRd_parse_J134 {p : Program} {l : Launch} {e : Env} {s : State} {m : MethodId} {args : Array Value} {below : List Frame} {meth : Method} {c : Code} {A : Nat → Prop} {D : va_G} {ad : Nat → Nat → Nat} {cc : Nat → ClassId} {sad sav : Nat → Nat} {Q : State → Prop} (hC : MCc sad sav "JoinedTrees$JsonReader" prog_3_method_2_code 4 (some .boolean) p s m args meth c A D cc) {N : Nat → Nat} {x0 : Nat} {S : CS} {o : CS × Int32} (Heq : m_cRd_parse_J134 N x0 S = some o) (Kr : ∀ r : CS × Int32, o = r → ∀ (pc : Nat) (H : Heap) (locs : List Loc) (ls : Array Slot), decode prog_3_method_2_code pc = .ok (.ireturn, 1) → (r.2 = 0 ∨ r.2 = 1) → va_P D cls (cw ad cc N r.1) H → va_D A (cw ad cc N r.1) → va_S A s.heap H locs → W p l e ({ frames := 6, cells := 0, slots := 0, locals := 156 }) s m args below meth c H locs 0 0 Q (F0 m pc ls [.int r.2])) : ∀ (H : Heap) (locs : List Loc) (ls : Array Slot), va_P D cls (cw ad cc N S) H → va_D A (cw ad cc N S) → va_S A s.heap H locs → lv_has ls 4 [(0, .ref (ad 1 x0))] → W p l e ({ frames := 6, cells := 0, slots := 0, locals := 156 }) s m args below meth c H locs 0 0 Q (F0 m 134 ls []) := by
  intro H locs ls hP hD hS hl
  obtain ⟨hx, hb, hr, hml, hown, hts, hK, hA, hev, hE, hN, hNS⟩ := id hC
  unfold m_cRd_parse_J134 at Heq
  refine lv_iconst (v := 0) hx hb d_cRd_parse_134 (by decide) ?_
  exact w_cRd_parse_J135 hC Heq Kr _ _ _ hP hD hS (lv_sub hl [0] rfl)
def m_cRd_parse_J112 (N : Nat → Nat) (x0 : Nat) (S : CS) (x2 : Int32) : Option (CS × Int32) := (if x2 = 0 then m_cRd_parse_J134 N x0 S else gl x0 (N 1) (gn (S.r 1 2 x0) (N 5) (fun j_2 => (if S.i 1 4 x0 = S.i 5 1 j_2 then m_cRd_parse_J135 N x0 S 1 else m_cRd_parse_J134 N x0 S))))
theorem d_cRd_parse_116 : decode prog_3_method_2_code 116 = .ok (.aload_n 0, 1) := by decide +kernel
theorem d_cRd_parse_117 : decode prog_3_method_2_code 117 = .ok (.getfield 34, 3) := by decide +kernel
theorem d_cRd_parse_120 : decode prog_3_method_2_code 120 = .ok (.aload_n 0, 1) := by decide +kernel
theorem d_cRd_parse_121 : decode prog_3_method_2_code 121 = .ok (.getfield 27, 3) := by decide +kernel
theorem d_cRd_parse_124 : decode prog_3_method_2_code 124 = .ok (.getfield 67, 3) := by decide +kernel
theorem d_cRd_parse_127 : decode prog_3_method_2_code 127 = .ok (.if_icmp .ne 7, 3) := by decide +kernel
theorem d_cRd_parse_130 : decode prog_3_method_2_code 130 = .ok (.iconst 1, 1) := by decide +kernel
theorem d_cRd_parse_131 : decode prog_3_method_2_code 131 = .ok (.goto 4, 3) := by decide +kernel
set_option maxHeartbeats 4000000 in
set_option maxRecDepth 100000 in
theorem w_cRd_parse_J112 {p : Program} {l : Launch} {e : Env} {s : State} {m : MethodId} {args : Array Value} {below : List Frame} {meth : Method} {c : Code} {A : Nat → Prop} {D : va_G} {ad : Nat → Nat → Nat} {cc : Nat → ClassId} {sad sav : Nat → Nat} {Q : State → Prop} (hC : MCc sad sav "JoinedTrees$JsonReader" prog_3_method_2_code 4 (some .boolean) p s m args meth c A D cc) {N : Nat → Nat} {x0 : Nat} {S : CS} {x2 : Int32} {o : CS × Int32} (Heq : m_cRd_parse_J112 N x0 S x2 = some o) (Kr : ∀ r : CS × Int32, o = r → ∀ (pc : Nat) (H : Heap) (locs : List Loc) (ls : Array Slot), decode prog_3_method_2_code pc = .ok (.ireturn, 1) → (r.2 = 0 ∨ r.2 = 1) → va_P D cls (cw ad cc N r.1) H → va_D A (cw ad cc N r.1) → va_S A s.heap H locs → W p l e ({ frames := 6, cells := 0, slots := 0, locals := 156 }) s m args below meth c H locs 0 0 Q (F0 m pc ls [.int r.2])) : ∀ (H : Heap) (locs : List Loc) (ls : Array Slot), va_P D cls (cw ad cc N S) H → va_D A (cw ad cc N S) → va_S A s.heap H locs → lv_has ls 4 [(0, .ref (ad 1 x0)), (2, .int x2)] → W p l e ({ frames := 6, cells := 0, slots := 0, locals := 156 }) s m args below meth c H locs 0 0 Q (F0 m 112 ls []) := by
  intro H locs ls hP hD hS hl
  obtain ⟨hx, hb, hr, hml, hown, hts, hK, hA, hev, hE, hN, hNS⟩ := id hC
  unfold m_cRd_parse_J112 at Heq
  refine lv_iload_n hx hb d_cRd_parse_112 rfl (lv_at hl 1 rfl) ?_
  refine lv_if_eq (tgt := 134) hx hb d_cRd_parse_113 (by decide) (fun c_1 => ?_) (fun c_1 => ?_)
  · replace Heq := (if_pos c_1).symm.trans Heq
    exact w_cRd_parse_J134 hC Heq Kr _ _ _ hP hD hS (lv_sub hl [0] rfl)
  · replace Heq := (if_neg c_1).symm.trans Heq
    refine lv_aload_n hx hb d_cRd_parse_116 rfl (lv_at hl 0 rfl) ?_
    obtain ⟨hl_x0_1, Heq⟩ := gl_some Heq
    refine va_get (D := D) (ci := 1) (v := .int (S.i 1 4 x0)) (C := R_Rd) (T := F_Rd) (N := 10) hx hb hts i_Rd hown hK hP (cPos N 1 x0) (cw_obj (k := 1) (by decide) hl_x0_1) rfl 4 (by decide) (hts _ kw_349) (fun _ h9 => h9) rfl d_cRd_parse_117 ?_
    refine lv_aload_n hx hb d_cRd_parse_120 rfl (lv_at hl 0 rfl) ?_
    refine va_get (D := D) (ci := 1) (v := rv ad 5 (S.r 1 2 x0)) (C := R_Rd) (T := F_Rd) (N := 10) hx hb hts i_Rd hown hK hP (cPos N 1 x0) (cw_obj (k := 1) (by decide) hl_x0_1) rfl 2 (by decide) (hts _ kw_346) (fun _ h9 => h9) rfl d_cRd_parse_121 ?_
    obtain ⟨j_2, hj_3, hl_4, Heq⟩ := gn_some Heq
    refine w_s (st' := [.ref (ad 5 j_2), .int (S.i 1 4 x0)]) (congrArg (fun z9 : Option Nat => [rv ad 5 z9, .int (S.i 1 4 x0)]) hj_3) ?_
    refine va_get (D := D) (ci := 5) (v := .int (S.i 5 1 j_2)) (C := R_Rw) (T := F_Rw) (N := 3) hx hb hts i_Rw hown hK hP (cPos N 5 j_2) (cw_obj (k := 5) (by decide) hl_4) rfl 1 (by decide) (hts _ kw_146) (fun _ h9 => h9) rfl d_cRd_parse_124 ?_
    refine lv_icmp_ne (tgt := 134) hx hb d_cRd_parse_127 (by decide) (fun c_5 => ?_) (fun c_5 => ?_)
    · replace Heq := (if_neg c_5).symm.trans Heq
      exact w_cRd_parse_J134 hC Heq Kr _ _ _ hP hD hS (lv_sub hl [0] rfl)
    · replace Heq := (if_pos c_5).symm.trans Heq
      refine lv_iconst (v := 1) hx hb d_cRd_parse_130 (by decide) ?_
      refine lv_goto (tgt := 135) hx hb d_cRd_parse_131 (by decide) ?_
      exact w_cRd_parse_J135 hC Heq Kr _ _ _ hP hD hS (lv_sub hl [0] rfl)
def m_cRd_parse_J104 (N : Nat → Nat) (x0 : Nat) (S : CS) (x2 : Int32) : Option (CS × Int32) := (if x2 = 0 then m_cRd_parse_J112 N x0 S x2 else gl x0 (N 1) (ob (m_cRd_skipBlanks N x0 S) (fun o_2 => m_cRd_parse_J112 N x0 o_2 x2)))
theorem d_cRd_parse_108 : decode prog_3_method_2_code 108 = .ok (.aload_n 0, 1) := by decide +kernel
theorem d_cRd_parse_109 : decode prog_3_method_2_code 109 = .ok (.invokevirtual 53, 3) := by decide +kernel
set_option maxHeartbeats 4000000 in
set_option maxRecDepth 100000 in
theorem w_cRd_parse_J104 {p : Program} {l : Launch} {e : Env} {s : State} {m : MethodId} {args : Array Value} {below : List Frame} {meth : Method} {c : Code} {A : Nat → Prop} {D : va_G} {ad : Nat → Nat → Nat} {cc : Nat → ClassId} {sad sav : Nat → Nat} {Q : State → Prop} (hC : MCc sad sav "JoinedTrees$JsonReader" prog_3_method_2_code 4 (some .boolean) p s m args meth c A D cc) {N : Nat → Nat} {x0 : Nat} {S : CS} {x2 : Int32} {o : CS × Int32} (Heq : m_cRd_parse_J104 N x0 S x2 = some o) (Kr : ∀ r : CS × Int32, o = r → ∀ (pc : Nat) (H : Heap) (locs : List Loc) (ls : Array Slot), decode prog_3_method_2_code pc = .ok (.ireturn, 1) → (r.2 = 0 ∨ r.2 = 1) → va_P D cls (cw ad cc N r.1) H → va_D A (cw ad cc N r.1) → va_S A s.heap H locs → W p l e ({ frames := 6, cells := 0, slots := 0, locals := 156 }) s m args below meth c H locs 0 0 Q (F0 m pc ls [.int r.2])) : ∀ (H : Heap) (locs : List Loc) (ls : Array Slot), va_P D cls (cw ad cc N S) H → va_D A (cw ad cc N S) → va_S A s.heap H locs → lv_has ls 4 [(0, .ref (ad 1 x0)), (2, .int x2)] → W p l e ({ frames := 6, cells := 0, slots := 0, locals := 156 }) s m args below meth c H locs 0 0 Q (F0 m 104 ls []) := by
  intro H locs ls hP hD hS hl
  obtain ⟨hx, hb, hr, hml, hown, hts, hK, hA, hev, hE, hN, hNS⟩ := id hC
  unfold m_cRd_parse_J104 at Heq
  refine lv_iload_n hx hb d_cRd_parse_104 rfl (lv_at hl 1 rfl) ?_
  refine lv_if_eq (tgt := 112) hx hb d_cRd_parse_105 (by decide) (fun c_1 => ?_) (fun c_1 => ?_)
  · replace Heq := (if_pos c_1).symm.trans Heq
    exact w_cRd_parse_J112 hC Heq Kr _ _ _ hP hD hS (lv_sub hl [0, 1] rfl)
  · replace Heq := (if_neg c_1).symm.trans Heq
    refine lv_aload_n hx hb d_cRd_parse_108 rfl (lv_at hl 0 rfl) ?_
    obtain ⟨hl_x0_1, Heq⟩ := gl_some Heq
    obtain ⟨o_2, h_3, Heq⟩ := ob_some Heq
    have hFc := fr_all hD hS hA
    refine va_callv (va_runV (As := []) (rest := []) ⟨hx, hb, hml, hown, hts⟩ (g_cRd_skipBlanks l D H.size (ad := ad) (cc := cc) (sad := sad) (sav := sav) h_3) (cw_v 0 hts kw_870 kw_867 kw_868 kw_869 kw_7 rfl rfl (by decide +kernel) ⟨Nat.le_of_ble_eq_true rfl, Nat.le_of_ble_eq_true rfl⟩) ⟨c_blind, va_recv hK hP (ci := 1) (q0 := cPos N 1 x0) rfl (cw_obj (k := 1) (by decide) hl_x0_1), fun U hU hW => c_pre hU hW hP hK hD hev hE hN hNS hS hFc⟩ rfl rfl hl.1 rfl (lv_room (Nat.le_of_ble_eq_true rfl)) d_cRd_parse_109 ⟨Nat.le_of_ble_eq_true rfl, Nat.le_of_ble_eq_true rfl⟩) hS (fun q _ h => hFc q h) hFc (fun u t H1 locs ht hvm hw hB hz1 hk1 hS => ?_)
    obtain ⟨hP, -, hD1⟩ := hB
    rw [ht] at hP
    have hD := hD1.weaken (fun _ q _ h => hFc q.1 h)
    generalize H1 = H at hP hS ⊢
    refine W.cs (cells' := 0) (slots' := 0) rfl rfl ?_
    exact w_cRd_parse_J112 hC Heq Kr _ _ _ hP hD hS (lv_sub hl [0, 1] rfl)
def m_cRd_parse_J0 (N : Nat → Nat) (x0 : Nat) (S : CS) (x1 : Nat) : Option (CS × Int32) := gl x0 (N 1) (gn (S.r 1 1 x0) (N 5) (fun j_1 => ob (m_cRw_clear N j_1 (((((((S.setR 1 2 x0 (some x1)).setI 1 3 x0 0).setI 1 4 x0 0).setI 1 5 x0 0).setR 1 6 x0 none).setI 1 8 x0 0).setI 1 9 x0 0)) (fun o_4 => ob (m_cRd_skipBlanks N x0 o_4) (fun o_6 => ob (m_cRd_readValue N x0 o_6) (fun o_8 => ob (m_cRd_parse_L53 N x0 o_8.1 o_8.2 0) (fun b_10 => m_cRd_parse_J104 N x0 b_10.1 b_10.2))))))
set_option maxHeartbeats 4000000 in
set_option maxRecDepth 100000 in
theorem w_cRd_parse_J0 {p : Program} {l : Launch} {e : Env} {s : State} {m : MethodId} {args : Array Value} {below : List Frame} {meth : Method} {c : Code} {A : Nat → Prop} {D : va_G} {ad : Nat → Nat → Nat} {cc : Nat → ClassId} {sad sav : Nat → Nat} {Q : State → Prop} (hC : MCc sad sav "JoinedTrees$JsonReader" prog_3_method_2_code 4 (some .boolean) p s m args meth c A D cc) {N : Nat → Nat} {x0 : Nat} {S : CS} {x1 : Nat} {o : CS × Int32} (Heq : m_cRd_parse_J0 N x0 S x1 = some o) (Kr : ∀ r : CS × Int32, o = r → ∀ (pc : Nat) (H : Heap) (locs : List Loc) (ls : Array Slot), decode prog_3_method_2_code pc = .ok (.ireturn, 1) → (r.2 = 0 ∨ r.2 = 1) → va_P D cls (cw ad cc N r.1) H → va_D A (cw ad cc N r.1) → va_S A s.heap H locs → W p l e ({ frames := 6, cells := 0, slots := 0, locals := 156 }) s m args below meth c H locs 0 0 Q (F0 m pc ls [.int r.2])) : ∀ (H : Heap) (locs : List Loc) (ls : Array Slot), va_P D cls (cw ad cc N S) H → va_D A (cw ad cc N S) → va_S A s.heap H locs → lv_has ls 4 [(0, .ref (ad 1 x0)), (1, .ref (ad 5 x1))] → W p l e ({ frames := 6, cells := 0, slots := 0, locals := 156 }) s m args below meth c H locs 0 0 Q (F0 m 0 ls []) := by
  intro H locs ls hP hD hS hl
  obtain ⟨hx, hb, hr, hml, hown, hts, hK, hA, hev, hE, hN, hNS⟩ := id hC
  unfold m_cRd_parse_J0 at Heq
  refine lv_aload_n hx hb d_cRd_parse_0 rfl (lv_at hl 0 rfl) ?_
  refine lv_aload_n hx hb d_cRd_parse_1 rfl (lv_at hl 1 rfl) ?_
  obtain ⟨hl_x0_1, Heq⟩ := gl_some Heq
  refine w_v (y := rv ad 5 (some x1)) rfl ?_
  refine va_put (D := D) (ci := 1) (v := rv ad 5 (some x1)) (ty := .object "JoinedTrees$Row") (C := R_Rd) (T := F_Rd) (N := 10) hx hb hts i_Rd t_Rd t_Rd_ok n_Rd hown hK hP hD hS (cPos N 1 x0) (cw_obj (k := 1) (by decide) hl_x0_1) rfl 2 (by decide) (hts _ kw_346) (fun _ h9 => h9) rfl (by decide +kernel) (rv_nar (Or.inl ⟨_, rfl⟩)) (rv_fit (Or.inl ⟨_, rfl⟩)) (Nat.le_of_ble_eq_true rfl) d_cRd_parse_2 (fun H locs hP hD hS => ?_)
  have hD := (congrArg (fun w9 => va_D A w9) (cw_setR (ad := ad) (cc := cc) (S := S) (k := 1) (f := 2) (t := 5) (v := (some x1)) (by decide) rfl hl_x0_1)).mp hD
  have hP := (congrArg (fun w9 => va_P D cls w9 H) (cw_setR (ad := ad) (cc := cc) (S := S) (k := 1) (f := 2) (t := 5) (v := (some x1)) (by decide) rfl hl_x0_1)).mp hP
  refine lv_aload_n hx hb d_cRd_parse_5 rfl (lv_at hl 0 rfl) ?_
  refine lv_iconst (v := 0) hx hb d_cRd_parse_6 (by decide) ?_
  refine va_put (D := D) (ci := 1) (v := .int 0) (ty := .int) (C := R_Rd) (T := F_Rd) (N := 10) hx hb hts i_Rd t_Rd t_Rd_ok n_Rd hown hK hP hD hS (cPos N 1 x0) (cw_obj (k := 1) (by decide) hl_x0_1) rfl 3 (by decide) (hts _ kw_347) (fun _ h9 => h9) rfl (by decide +kernel) rfl rfl (Nat.le_of_ble_eq_true rfl) d_cRd_parse_7 (fun H locs hP hD hS => ?_)
  have hD := (congrArg (fun w9 => va_D A w9) (cw_setI (ad := ad) (cc := cc) (S := (S.setR 1 2 x0 (some x1))) (k := 1) (f := 3) (v := 0) (by decide) rfl hl_x0_1)).mp hD
  have hP := (congrArg (fun w9 => va_P D cls w9 H) (cw_setI (ad := ad) (cc := cc) (S := (S.setR 1 2 x0 (some x1))) (k := 1) (f := 3) (v := 0) (by decide) rfl hl_x0_1)).mp hP
  refine lv_aload_n hx hb d_cRd_parse_10 rfl (lv_at hl 0 rfl) ?_
  refine lv_iconst (v := 0) hx hb d_cRd_parse_11 (by decide) ?_
  refine va_put (D := D) (ci := 1) (v := .int 0) (ty := .int) (C := R_Rd) (T := F_Rd) (N := 10) hx hb hts i_Rd t_Rd t_Rd_ok n_Rd hown hK hP hD hS (cPos N 1 x0) (cw_obj (k := 1) (by decide) hl_x0_1) rfl 4 (by decide) (hts _ kw_349) (fun _ h9 => h9) rfl (by decide +kernel) rfl rfl (Nat.le_of_ble_eq_true rfl) d_cRd_parse_12 (fun H locs hP hD hS => ?_)
  have hD := (congrArg (fun w9 => va_D A w9) (cw_setI (ad := ad) (cc := cc) (S := ((S.setR 1 2 x0 (some x1)).setI 1 3 x0 0)) (k := 1) (f := 4) (v := 0) (by decide) rfl hl_x0_1)).mp hD
  have hP := (congrArg (fun w9 => va_P D cls w9 H) (cw_setI (ad := ad) (cc := cc) (S := ((S.setR 1 2 x0 (some x1)).setI 1 3 x0 0)) (k := 1) (f := 4) (v := 0) (by decide) rfl hl_x0_1)).mp hP
  refine lv_aload_n hx hb d_cRd_parse_15 rfl (lv_at hl 0 rfl) ?_
  refine lv_iconst (v := 0) hx hb d_cRd_parse_16 (by decide) ?_
  refine va_put (D := D) (ci := 1) (v := .int 0) (ty := .int) (C := R_Rd) (T := F_Rd) (N := 10) hx hb hts i_Rd t_Rd t_Rd_ok n_Rd hown hK hP hD hS (cPos N 1 x0) (cw_obj (k := 1) (by decide) hl_x0_1) rfl 5 (by decide) (hts _ kw_351) (fun _ h9 => h9) rfl (by decide +kernel) rfl rfl (Nat.le_of_ble_eq_true rfl) d_cRd_parse_17 (fun H locs hP hD hS => ?_)
  have hD := (congrArg (fun w9 => va_D A w9) (cw_setI (ad := ad) (cc := cc) (S := (((S.setR 1 2 x0 (some x1)).setI 1 3 x0 0).setI 1 4 x0 0)) (k := 1) (f := 5) (v := 0) (by decide) rfl hl_x0_1)).mp hD
  have hP := (congrArg (fun w9 => va_P D cls w9 H) (cw_setI (ad := ad) (cc := cc) (S := (((S.setR 1 2 x0 (some x1)).setI 1 3 x0 0).setI 1 4 x0 0)) (k := 1) (f := 5) (v := 0) (by decide) rfl hl_x0_1)).mp hP
  refine lv_aload_n hx hb d_cRd_parse_20 rfl (lv_at hl 0 rfl) ?_
  refine lv_null hx hb d_cRd_parse_21 ?_
  refine w_v (y := rv ad 9 none) rfl ?_
  refine va_put (D := D) (ci := 1) (v := rv ad 9 none) (ty := .object "JoinedTrees$Value") (C := R_Rd) (T := F_Rd) (N := 10) hx hb hts i_Rd t_Rd t_Rd_ok n_Rd hown hK hP hD hS (cPos N 1 x0) (cw_obj (k := 1) (by decide) hl_x0_1) rfl 6 (by decide) (hts _ kw_352) (fun _ h9 => h9) rfl (by decide +kernel) (rv_nar (Or.inl ⟨_, rfl⟩)) (rv_fit (Or.inl ⟨_, rfl⟩)) (Nat.le_of_ble_eq_true rfl) d_cRd_parse_22 (fun H locs hP hD hS => ?_)
  have hD := (congrArg (fun w9 => va_D A w9) (cw_setR (ad := ad) (cc := cc) (S := ((((S.setR 1 2 x0 (some x1)).setI 1 3 x0 0).setI 1 4 x0 0).setI 1 5 x0 0)) (k := 1) (f := 6) (t := 9) (v := none) (by decide) rfl hl_x0_1)).mp hD
  have hP := (congrArg (fun w9 => va_P D cls w9 H) (cw_setR (ad := ad) (cc := cc) (S := ((((S.setR 1 2 x0 (some x1)).setI 1 3 x0 0).setI 1 4 x0 0).setI 1 5 x0 0)) (k := 1) (f := 6) (t := 9) (v := none) (by decide) rfl hl_x0_1)).mp hP
  refine lv_aload_n hx hb d_cRd_parse_25 rfl (lv_at hl 0 rfl) ?_
  refine lv_iconst (v := 0) hx hb d_cRd_parse_26 (by decide) ?_
  refine va_put (D := D) (ci := 1) (v := .int 0) (ty := .int) (C := R_Rd) (T := F_Rd) (N := 10) hx hb hts i_Rd t_Rd t_Rd_ok n_Rd hown hK hP hD hS (cPos N 1 x0) (cw_obj (k := 1) (by decide) hl_x0_1) rfl 8 (by decide) (hts _ kw_354) (fun _ h9 => h9) rfl (by decide +kernel) rfl rfl (Nat.le_of_ble_eq_true rfl) d_cRd_parse_27 (fun H locs hP hD hS => ?_)
  have hD := (congrArg (fun w9 => va_D A w9) (cw_setI (ad := ad) (cc := cc) (S := (((((S.setR 1 2 x0 (some x1)).setI 1 3 x0 0).setI 1 4 x0 0).setI 1 5 x0 0).setR 1 6 x0 none)) (k := 1) (f := 8) (v := 0) (by decide) rfl hl_x0_1)).mp hD
  have hP := (congrArg (fun w9 => va_P D cls w9 H) (cw_setI (ad := ad) (cc := cc) (S := (((((S.setR 1 2 x0 (some x1)).setI 1 3 x0 0).setI 1 4 x0 0).setI 1 5 x0 0).setR 1 6 x0 none)) (k := 1) (f := 8) (v := 0) (by decide) rfl hl_x0_1)).mp hP
  refine lv_aload_n hx hb d_cRd_parse_30 rfl (lv_at hl 0 rfl) ?_
  refine lv_iconst (v := 0) hx hb d_cRd_parse_31 (by decide) ?_
  refine va_put (D := D) (ci := 1) (v := .int 0) (ty := .int) (C := R_Rd) (T := F_Rd) (N := 10) hx hb hts i_Rd t_Rd t_Rd_ok n_Rd hown hK hP hD hS (cPos N 1 x0) (cw_obj (k := 1) (by decide) hl_x0_1) rfl 9 (by decide) (hts _ kw_355) (fun _ h9 => h9) rfl (by decide +kernel) rfl rfl (Nat.le_of_ble_eq_true rfl) d_cRd_parse_32 (fun H locs hP hD hS => ?_)
  have hD := (congrArg (fun w9 => va_D A w9) (cw_setI (ad := ad) (cc := cc) (S := ((((((S.setR 1 2 x0 (some x1)).setI 1 3 x0 0).setI 1 4 x0 0).setI 1 5 x0 0).setR 1 6 x0 none).setI 1 8 x0 0)) (k := 1) (f := 9) (v := 0) (by decide) rfl hl_x0_1)).mp hD
  have hP := (congrArg (fun w9 => va_P D cls w9 H) (cw_setI (ad := ad) (cc := cc) (S := ((((((S.setR 1 2 x0 (some x1)).setI 1 3 x0 0).setI 1 4 x0 0).setI 1 5 x0 0).setR 1 6 x0 none).setI 1 8 x0 0)) (k := 1) (f := 9) (v := 0) (by decide) rfl hl_x0_1)).mp hP
  refine lv_aload_n hx hb d_cRd_parse_35 rfl (lv_at hl 0 rfl) ?_
  refine va_get (D := D) (ci := 1) (v := rv ad 5 ((((((((S.setR 1 2 x0 (some x1)).setI 1 3 x0 0).setI 1 4 x0 0).setI 1 5 x0 0).setR 1 6 x0 none).setI 1 8 x0 0).setI 1 9 x0 0).r 1 1 x0)) (C := R_Rd) (T := F_Rd) (N := 10) hx hb hts i_Rd hown hK hP (cPos N 1 x0) (cw_obj (k := 1) (by decide) hl_x0_1) rfl 1 (by decide) (hts _ kw_344) (fun _ h9 => h9) rfl d_cRd_parse_36 ?_
  refine w_v (y := rv ad 5 (S.r 1 1 x0)) (congrArg (rv ad 5) rfl) ?_
  obtain ⟨j_1, hj_2, hl_3, Heq⟩ := gn_some Heq
  refine w_s (st' := [.ref (ad 5 j_1)]) (congrArg (fun z9 : Option Nat => [rv ad 5 z9]) hj_2) ?_
  obtain ⟨o_4, h_5, Heq⟩ := ob_some Heq
  have hFc := fr_all hD hS hA
  refine va_callv (va_runV (As := []) (rest := []) ⟨hx, hb, hml, hown, hts⟩ (g_cRw_clear l D H.size (ad := ad) (cc := cc) (sad := sad) (sav := sav) h_5) (cw_v 0 hts kw_576 kw_866 kw_574 kw_575 kw_4 rfl rfl (by decide +kernel) ⟨Nat.le_of_ble_eq_true rfl, Nat.le_of_ble_eq_true rfl⟩) ⟨c_blind, va_recv hK hP (ci := 5) (q0 := cPos N 5 j_1) rfl (cw_obj (k := 5) (by decide) hl_3), fun U hU hW => c_pre hU hW hP hK hD hev hE hN hNS hS hFc⟩ rfl rfl hl.1 rfl (lv_room (Nat.le_of_ble_eq_true rfl)) d_cRd_parse_39 ⟨Nat.le_of_ble_eq_true rfl, Nat.le_of_ble_eq_true rfl⟩) hS (fun q _ h => hFc q h) hFc (fun u t H1 locs ht hvm hw hB hz1 hk1 hS => ?_)
  obtain ⟨hP, -, hD1⟩ := hB
  rw [ht] at hP
  have hD := hD1.weaken (fun _ q _ h => hFc q.1 h)
  generalize H1 = H at hP hS ⊢
  refine W.cs (cells' := 0) (slots' := 0) rfl rfl ?_
  refine lv_aload_n hx hb d_cRd_parse_42 rfl (lv_at hl 0 rfl) ?_
  obtain ⟨o_6, h_7, Heq⟩ := ob_some Heq
  have hFc := fr_all hD hS hA
  refine va_callv (va_runV (As := []) (rest := []) ⟨hx, hb, hml, hown, hts⟩ (g_cRd_skipBlanks l D H.size (ad := ad) (cc := cc) (sad := sad) (sav := sav) h_7) (cw_v 0 hts kw_870 kw_867 kw_868 kw_869 kw_7 rfl rfl (by decide +kernel) ⟨Nat.le_of_ble_eq_true rfl, Nat.le_of_ble_eq_true rfl⟩) ⟨c_blind, va_recv hK hP (ci := 1) (q0 := cPos N 1 x0) rfl (cw_obj (k := 1) (by decide) hl_x0_1), fun U hU hW => c_pre hU hW hP hK hD hev hE hN hNS hS hFc⟩ rfl rfl hl.1 rfl (lv_room (Nat.le_of_ble_eq_true rfl)) d_cRd_parse_43 ⟨Nat.le_of_ble_eq_true rfl, Nat.le_of_ble_eq_true rfl⟩) hS (fun q _ h => hFc q h) hFc (fun u t H1 locs ht hvm hw hB hz1 hk1 hS => ?_)
  obtain ⟨hP, -, hD1⟩ := hB
  rw [ht] at hP
  have hD := hD1.weaken (fun _ q _ h => hFc q.1 h)
  generalize H1 = H at hP hS ⊢
  refine W.cs (cells' := 0) (slots' := 0) rfl rfl ?_
  refine lv_aload_n hx hb d_cRd_parse_46 rfl (lv_at hl 0 rfl) ?_
  obtain ⟨o_8, h_9, Heq⟩ := ob_some Heq
  have hFc := fr_all hD hS hA
  refine va_calli (va_runV (As := []) (rest := []) ⟨hx, hb, hml, hown, hts⟩ (g_cRd_readValue l D H.size (ad := ad) (cc := cc) (sad := sad) (sav := sav) h_9) (cw_v 0 hts kw_878 kw_875 kw_876 kw_877 kw_7 rfl rfl (by decide +kernel) ⟨Nat.le_of_ble_eq_true rfl, Nat.le_of_ble_eq_true rfl⟩) ⟨c_blind, va_recv hK hP (ci := 1) (q0 := cPos N 1 x0) rfl (cw_obj (k := 1) (by decide) hl_x0_1), fun U hU hW => c_pre hU hW hP hK hD hev hE hN hNS hS hFc⟩ rfl rfl hl.1 rfl (lv_room (Nat.le_of_ble_eq_true rfl)) d_cRd_parse_47 ⟨Nat.le_of_ble_eq_true rfl, Nat.le_of_ble_eq_true rfl⟩) hS (fun q _ h => hFc q h) hFc (fun rz u t H1 locs ht hvm hw hB hz1 hk1 hS => ?_)
  obtain ⟨hP, -, hD1⟩ := hB
  rw [ht] at hP
  have hD := hD1.weaken (fun _ q _ h => hFc q.1 h)
  generalize H1 = H at hP hS ⊢
  refine W.cs (cells' := 0) (slots' := 0) rfl rfl ?_
  subst hw
  refine lv_istore_n (lv' := [(2, .int o_8.2), (0, .ref (ad 1 x0)), (1, .ref (ad 5 x1))]) hx hb d_cRd_parse_50 rfl hl (by decide) rfl (fun ls hl => ?_)
  refine lv_iconst (v := 0) hx hb d_cRd_parse_51 (by decide) ?_
  refine lv_istore_n (lv' := [(3, .int 0), (2, .int o_8.2), (0, .ref (ad 1 x0)), (1, .ref (ad 5 x1))]) hx hb d_cRd_parse_52 rfl hl (by decide) rfl (fun ls hl => ?_)
  obtain ⟨b_10, h_11, Heq⟩ := ob_some Heq
  refine w_cRd_parse_L53 hC h_11 (fun b h => ?_) _ _ _ hP hD hS (lv_sub hl [2, 1, 0] rfl)
  subst h
  intro H locs ls hP hD hS hl
  exact w_cRd_parse_J104 hC Heq Kr _ _ _ hP hD hS (lv_sub hl [0, 1] rfl)
def m_cRd_parse (N : Nat → Nat) (x0 : Nat) (S : CS) (x1 : Nat) : Option (CS × Int32) := m_cRd_parse_J0 N x0 S x1
set_option maxHeartbeats 4000000 in
theorem g_cRd_parse (l : Launch) (D : va_G) (sz : Nat) {ad : Nat → Nat → Nat} {cc : Nat → ClassId} {sad sav : Nat → Nat} {N : Nat → Nat} {x0 : Nat} {S : CS} {x1 : Nat} {o : CS × Int32} (Heq : m_cRd_parse N x0 S x1 = some o) : Met l ⟨"JoinedTrees$JsonReader", "parse", "(LJoinedTrees$Row;)Z"⟩ (Cond.code ⟨"JoinedTrees$JsonReader", "parse", "(LJoinedTrees$Row;)Z"⟩ prog_3_method_2_code 4 (some .boolean) :: gb) ({ frames := 6, cells := 0, slots := 0, locals := 156 }) (cPc sad sav D (cw ad cc N S) (cty cc) sz [.ref (ad 1 x0), .ref (ad 5 x1)]) (va_Qi (fun (r : Int32) (_ : Unit) => r = o.2) (fun _ t => gO D (cw ad cc N o.1) (cty cc) (va_A (cw ad cc N S) sz) t) (va_A (cw ad cc N S) sz)) 0 0 (va_A (cw ad cc N S) sz) := by
  refine Met.ofW (cc := prog_3_method_2_code) (maxL := 4) (ret := (some .boolean)) (by decide) rfl ?_
  intro p e s m args below meth c s₁ B hml hv
  obtain ⟨rfl, hsz, hP, hK, hD0, hev, hE, hN⟩ := hv
  have hx := B.exec
  have hb := B.bytes
  have hr := B.returns
  have hts : ∀ w9 ∈ gb, w9.before [.ref (ad 1 x0), .ref (ad 5 x1)].toArray s = true := fun w9 h => atoms_spec (ws := Cond.code ⟨"JoinedTrees$JsonReader", "parse", "(LJoinedTrees$Row;)Z"⟩ prog_3_method_2_code 4 (some .boolean) :: gb) B.pre w9 (List.mem_cons_of_mem _ h)
  have hown : s.vm.findClass "JoinedTrees$JsonReader" = some m.cls := findClass_of_methodNamed B.named
  have hlocks := B.notSynchronized
  have hNS := ns_of hP
  subst hsz
  have hD := hD0.self (sz := s.heap.size)
  generalize hAe : va_A (cw ad cc N S) s.heap.size = A at hD hev hE hNS ⊢
  have hA : ∀ q : Nat, s.heap.size ≤ q → A q := fun q h => by rw [← hAe]; exact Or.inr h
  have hS : va_S A s.heap s.heap [] := va_S.rf
  obtain ⟨ls, hl, hle⟩ : ∃ ls : Array Slot, lv_has ls 4 [(0, .ref (ad 1 x0)), (1, .ref (ad 5 x1))] ∧ entryFrame m ([.ref (ad 1 x0), .ref (ad 5 x1)] : List Value).toArray 4 = F0 m 0 ls [] := by
    exact ⟨_, lv_entry (n := 4) _ (Nat.le_of_ble_eq_true rfl), lg_entry_eq ..⟩
  rw [hle]
  refine w_cRd_parse_J0 ⟨hx, hb, hr, hml, hown, hts, hK, hA, hev, hE, hN, hNS⟩ Heq (fun r h pc H locs ls hd hz hP hD hS => ?_) _ _ _ hP hD hS (lv_sub hl [0, 1] rfl)
  subst h
  exact W.zret (ty := .boolean) hx hb hr (by rcases hz with hz | hz <;> rw [hz] <;> rfl) (fun t ht hW => ⟨⟨_, (), rfl, rfl, by rw [ht]; exact hP, va_K.moved hW.alike hK, hD⟩, hS.F ht⟩) hS.2.2 hd
