noncomputable def m_cRw_init_J0 (N : Nat → Nat) (x0 : Nat) (S : CS) (x1 : Int32) : Option (((Nat → Nat) × CS) × Nat × Nat) := gA x1 (nw (x1.toNatClampNeg) 13 (x1.toNatClampNeg) N S (fun N_2 S_3 j_4 => gl x0 (N_2 5) (some ((N_2, (S_3.setR 5 0 x0 (some j_4))), 0, 0))))
theorem d_cRw_init_0 : decode prog_7_method_1_code 0 = .ok (.aload_n 0, 1) := by decide +kernel
theorem d_cRw_init_1 : decode prog_7_method_1_code 1 = .ok (.invokespecial 1, 3) := by decide +kernel
theorem d_cRw_init_4 : decode prog_7_method_1_code 4 = .ok (.aload_n 0, 1) := by decide +kernel
theorem d_cRw_init_5 : decode prog_7_method_1_code 5 = .ok (.iload_n 1, 1) := by decide +kernel
theorem d_cRw_init_6 : decode prog_7_method_1_code 6 = .ok (.newarray .byte, 2) := by decide +kernel
theorem d_cRw_init_8 : decode prog_7_method_1_code 8 = .ok (.putfield 7, 3) := by decide +kernel
theorem d_cRw_init_11 : decode prog_7_method_1_code 11 = .ok (.return_, 1) := by decide +kernel
set_option maxHeartbeats 4000000 in
set_option maxRecDepth 100000 in
theorem w_cRw_init_J0 {p : Program} {l : Launch} {e : Env} {s : State} {m : MethodId} {args : Array Value} {below : List Frame} {meth : Method} {c : Code} {A : Nat → Prop} {D : va_G} {cc : Nat → ClassId} {sad sav : Nat → Nat} {Q : State → Prop} {ad0 : Nat → Nat → Nat} {N0 : Nat → Nat} {CT ST cR sR : Nat} (hin : meth.name = "<init>") (hC : MCc sad sav "JoinedTrees$Row" prog_7_method_1_code 2 none p s m args meth c A D cc) (hCT : CT ≤ cR) (hST : ST ≤ sR) {N : Nat → Nat} {x0 : Nat} {S : CS} {x1 : Int32} {o : (Nat → Nat) × CS} {oc os : Nat} (Heq : m_cRw_init_J0 N x0 S x1 = some (o, oc, os)) (Kr : ∀ r : (Nat → Nat) × CS, o = r → ∀ (pc : Nat) (ad : Nat → Nat → Nat) (H : Heap) (locs : List Loc) (ls : Array Slot), decode prog_7_method_1_code pc = .ok (.return_, 1) → Ext ad0 N0 ad (r.1) → va_P D cls (cw ad cc r.1 r.2) H → va_D A (cw ad cc r.1 r.2) → va_S A s.heap H locs → W p l e ({ frames := 1, cells := cR, slots := sR, locals := 24 }) s m args below meth c H locs CT ST Q (F0 m pc ls [])) : ∀ (ad : Nat → Nat → Nat) (H : Heap) (locs : List Loc) (ls : Array Slot) (cells slots : Nat), Ext ad0 N0 ad N → cells + oc = CT → slots + os = ST → va_P D cls (cw ad cc N S) H → va_D A (cw ad cc N S) → va_S A s.heap H locs → lv_has ls 2 [(0, .ref (ad 5 x0)), (1, .int x1)] → W p l e ({ frames := 1, cells := cR, slots := sR, locals := 24 }) s m args below meth c H locs cells slots Q (F0 m 0 ls []) := by
  intro ad H locs ls cells slots hX hcu hsu hP hD hS hl
  obtain ⟨hx, hb, hr, hml, hown, hts, hK, hA, hev, hE, hN, hNS⟩ := id hC
  unfold m_cRw_init_J0 at Heq
  refine lv_aload_n hx hb d_cRw_init_0 rfl (lv_at hl 0 rfl) ?_
  refine W.objInit hx hb hown (hts _ kw_139) (hts _ kw_34) (hts _ kw_35) rfl (by rw [hml]; exact hl.1) rfl d_cRw_init_1 (Nat.le_of_ble_eq_true rfl) (Nat.le_of_ble_eq_true rfl) ?_
  refine W.eq (g2 := F0 m 4 ls []) rfl ?_
  refine lv_aload_n hx hb d_cRw_init_4 rfl (lv_at hl 0 rfl) ?_
  refine lv_iload_n hx hb d_cRw_init_5 rfl (lv_at hl 1 rfl) ?_
  have hl : lv_has ls 2 [(0, .ref (ad 5 x0))] := lv_sub hl [0] rfl
  obtain ⟨hn_1a, hn_1b, Heq⟩ := gA_some Heq
  obtain ⟨N_2, S_3, j_4, a9, b9, Heq, e9a, e9b, hw9, eN9, eS9, ej9⟩ := nw_some Heq
  refine va_newa (atype := .byte) (N' := (x1.toNatClampNeg)) (a0 := ((x1.toNatClampNeg), .inl (fun _ => 0))) (ty := .byte) hx hb (hts _ kw_158) rfl hK hP hD hS hA (fun _ => rfl) hn_1a rfl (by show (x1.toNatClampNeg) * 1 ≤ 536870912; omega) (Nat.le_trans (m := CT) (by omega) hCT) (Nat.le_trans (m := ST) (by omega) hST) d_cRw_init_6 (fun q9 cA9 H hK9 hP hD hS => ?_)
  obtain rfl := cA_eq hK9 1 rfl
  obtain ⟨ad, hX1, hq1, hne1, hl_j_4, hP, hD⟩ := cw_born2 hw9 eN9 eS9 ej9 (by decide) (cell_newA (by decide)) hP hD
  have hX := hX.tr hX1
  have hl : lv_has ls 2 [(0, .ref (ad 5 x0))] := lv_cast hl (by first | rfl | simp only [hq1, hne1 5 x0 (by decide)])
  refine w_s (st' := [.ref (ad 13 j_4), .ref (ad 5 x0)]) (by first | rfl | simp only [hq1, hne1 5 x0 (by decide)]) ?_
  obtain ⟨hl_x0_5, Heq⟩ := gl_some Heq
  refine w_v (y := rv ad 13 (some j_4)) rfl ?_
  refine va_putF (D := D) (ci := 5) (v := rv ad 13 (some j_4)) (ty := .array (.byte)) (C := R_Rw) (T := F_Rw) (N := 3) hx hb hts i_Rw t_Rw t_Rw_ok n_Rw hown hK hP hD hS (cPos N_2 5 x0) (cw_obj (k := 5) (by decide) hl_x0_5) rfl 0 (by decide) (hts _ kw_140) (fun _ h9 => h9) rfl hin rfl (by decide +kernel) (rv_nar (Or.inr ⟨_, rfl⟩)) (rv_fit (Or.inr ⟨_, rfl⟩)) (Nat.le_of_ble_eq_true rfl) d_cRw_init_8 (fun H locs hP hD hS => ?_)
  have hD := (congrArg (fun w9 => va_D A w9) (cw_setR (ad := ad) (cc := cc) (S := S_3) (k := 5) (f := 0) (t := 13) (v := (some j_4)) (by decide) rfl hl_x0_5)).mp hD
  have hP := (congrArg (fun w9 => va_P D cls w9 H) (cw_setR (ad := ad) (cc := cc) (S := S_3) (k := 5) (f := 0) (t := 13) (v := (some j_4)) (by decide) rfl hl_x0_5)).mp hP
  obtain ⟨e9, e9a, e9b⟩ := tri Heq
  refine W.cs (cells' := CT) (slots' := ST) (by omega) (by omega) ?_
  exact Kr _ e9 11 _ _ _ _ d_cRw_init_11 hX hP hD hS
noncomputable def m_cRw_init (N : Nat → Nat) (x0 : Nat) (S : CS) (x1 : Int32) : Option (((Nat → Nat) × CS) × Nat × Nat) := m_cRw_init_J0 N x0 S x1
set_option maxHeartbeats 4000000 in
theorem g_cRw_init (l : Launch) (D : va_G) (sz : Nat) {ad : Nat → Nat → Nat} {cc : Nat → ClassId} {sad sav : Nat → Nat} {N : Nat → Nat} {x0 : Nat} {S : CS} {x1 : Int32} {o : (Nat → Nat) × CS} {oc os : Nat} (Heq : m_cRw_init N x0 S x1 = some (o, oc, os)) : Met l ⟨"JoinedTrees$Row", "<init>", "(I)V"⟩ (Cond.code ⟨"JoinedTrees$Row", "<init>", "(I)V"⟩ prog_7_method_1_code 2 none :: gb) ({ frames := 1, cells := oc, slots := os, locals := 24 }) (cPc sad sav D (cw ad cc N S) (cty cc) sz [.ref (ad 5 x0), .int x1]) (va_Qv (fun _ : Nat → Nat → Nat => True) (fun (u : Nat → Nat → Nat) t => Ext ad N u o.1 ∧ gO D (cw u cc o.1 o.2) (cty cc) (va_A (cw ad cc N S) sz) t) (va_A (cw ad cc N S) sz)) oc os (va_A (cw ad cc N S) sz) := by
  refine Met.ofW (cc := prog_7_method_1_code) (maxL := 2) (ret := none) (by decide) rfl ?_
  intro p e s m args below meth c s₁ B hml hv
  obtain ⟨rfl, hsz, hP, hK, hD0, hev, hE, hN⟩ := hv
  have hx := B.exec
  have hb := B.bytes
  have hr := B.returns
  have hts : ∀ w9 ∈ gb, w9.before [.ref (ad 5 x0), .int x1].toArray s = true := fun w9 h => atoms_spec (ws := Cond.code ⟨"JoinedTrees$Row", "<init>", "(I)V"⟩ prog_7_method_1_code 2 none :: gb) B.pre w9 (List.mem_cons_of_mem _ h)
  have hown : s.vm.findClass "JoinedTrees$Row" = some m.cls := findClass_of_methodNamed B.named
  have hlocks := B.notSynchronized
  have hNS := ns_of hP
  subst hsz
  have hD := hD0.self (sz := s.heap.size)
  generalize hAe : va_A (cw ad cc N S) s.heap.size = A at hD hev hE hNS ⊢
  have hA : ∀ q : Nat, s.heap.size ≤ q → A q := fun q h => by rw [← hAe]; exact Or.inr h
  have hS : va_S A s.heap s.heap [] := va_S.rf
  obtain ⟨ls, hl, hle⟩ : ∃ ls : Array Slot, lv_has ls 2 [(0, .ref (ad 5 x0)), (1, .int x1)] ∧ entryFrame m ([.ref (ad 5 x0), .int x1] : List Value).toArray 2 = F0 m 0 ls [] := by
    exact ⟨_, lv_entry (n := 2) _ (Nat.le_of_ble_eq_true rfl), lg_entry_eq ..⟩
  rw [hle]
  have hin : meth.name = "<init>" := (name_of_methodNamed B.named B.method).1
  refine w_cRw_init_J0 (ad0 := ad) (N0 := N) (CT := oc) (ST := os) (cR := oc) (sR := os) hin ⟨hx, hb, hr, hml, hown, hts, hK, hA, hev, hE, hN, hNS⟩ (Nat.le_refl _) (Nat.le_refl _) Heq (fun r h pc ad1 H locs ls hd hX hP hD hS => ?_) _ _ _ _ 0 0 Ext.rf (Nat.zero_add _) (Nat.zero_add _) hP hD hS (lv_sub hl [0, 1] rfl)
  subst h
  exact W.vret hx hb hr (fun t ht hW => ⟨⟨ad1, rfl, trivial, hX, by rw [ht]; exact hP, va_K.moved hW.alike hK, hD⟩, hS.F ht⟩) hS.2.2 hd
noncomputable def m_cSt_init_J0 (N : Nat → Nat) (x0 : Nat) (S : CS) : Option (((Nat → Nat) × CS) × Nat × Nat) := nw 15 3 0 N S (fun N_1 S_2 j_3 => ob (m_cOp_init N_1 j_3 S_2 0 none 6 0) (fun o_4 => gl x0 (N_1 8) (nw 32008 15 32008 N_1 (o_4.setR 8 0 x0 (some j_3)) (fun N_6 S_7 j_8 => nw 3 5 0 N_6 (S_7.setR 8 1 x0 (some j_8)) (fun N_9 S_10 j_11 => ov (m_cRw_init N_9 j_11 S_10 24576) (fun N_14 S_15 => nw 1000 16 1000 N_14 (S_15.setR 8 2 x0 (some j_11)) (fun N_17 S_18 j_19 => some ((N_17, (S_18.setR 8 3 x0 (some j_19))), 0, 0))))))))
theorem d_cSt_init_0 : decode prog_10_method_1_code 0 = .ok (.aload_n 0, 1) := by decide +kernel
theorem d_cSt_init_1 : decode prog_10_method_1_code 1 = .ok (.invokespecial 3, 3) := by decide +kernel
theorem d_cSt_init_4 : decode prog_10_method_1_code 4 = .ok (.aload_n 0, 1) := by decide +kernel
theorem d_cSt_init_5 : decode prog_10_method_1_code 5 = .ok (.new 9, 3) := by decide +kernel
theorem d_cSt_init_8 : decode prog_10_method_1_code 8 = .ok (.dup, 1) := by decide +kernel
theorem d_cSt_init_9 : decode prog_10_method_1_code 9 = .ok (.iconst 0, 1) := by decide +kernel
theorem d_cSt_init_10 : decode prog_10_method_1_code 10 = .ok (.aconst_null, 1) := by decide +kernel
theorem d_cSt_init_11 : decode prog_10_method_1_code 11 = .ok (.bipush 6, 2) := by decide +kernel
theorem d_cSt_init_13 : decode prog_10_method_1_code 13 = .ok (.lconst 0, 1) := by decide +kernel
theorem d_cSt_init_14 : decode prog_10_method_1_code 14 = .ok (.invokespecial 11, 3) := by decide +kernel
theorem d_cSt_init_17 : decode prog_10_method_1_code 17 = .ok (.putfield 14, 3) := by decide +kernel
theorem d_cSt_init_20 : decode prog_10_method_1_code 20 = .ok (.aload_n 0, 1) := by decide +kernel
theorem d_cSt_init_21 : decode prog_10_method_1_code 21 = .ok (.sipush 32008, 3) := by decide +kernel
theorem d_cSt_init_24 : decode prog_10_method_1_code 24 = .ok (.anewarray 9, 3) := by decide +kernel
theorem d_cSt_init_27 : decode prog_10_method_1_code 27 = .ok (.putfield 20, 3) := by decide +kernel
theorem d_cSt_init_30 : decode prog_10_method_1_code 30 = .ok (.aload_n 0, 1) := by decide +kernel
theorem d_cSt_init_31 : decode prog_10_method_1_code 31 = .ok (.new 24, 3) := by decide +kernel
theorem d_cSt_init_34 : decode prog_10_method_1_code 34 = .ok (.dup, 1) := by decide +kernel
theorem d_cSt_init_35 : decode prog_10_method_1_code 35 = .ok (.sipush 24576, 3) := by decide +kernel
theorem d_cSt_init_38 : decode prog_10_method_1_code 38 = .ok (.invokespecial 26, 3) := by decide +kernel
theorem d_cSt_init_41 : decode prog_10_method_1_code 41 = .ok (.putfield 29, 3) := by decide +kernel
theorem d_cSt_init_44 : decode prog_10_method_1_code 44 = .ok (.aload_n 0, 1) := by decide +kernel
theorem d_cSt_init_45 : decode prog_10_method_1_code 45 = .ok (.sipush 1000, 3) := by decide +kernel
theorem d_cSt_init_48 : decode prog_10_method_1_code 48 = .ok (.anewarray 33, 3) := by decide +kernel
theorem d_cSt_init_51 : decode prog_10_method_1_code 51 = .ok (.putfield 35, 3) := by decide +kernel
theorem d_cSt_init_54 : decode prog_10_method_1_code 54 = .ok (.return_, 1) := by decide +kernel
set_option maxHeartbeats 4000000 in
set_option maxRecDepth 100000 in
theorem w_cSt_init_J0 {p : Program} {l : Launch} {e : Env} {s : State} {m : MethodId} {args : Array Value} {below : List Frame} {meth : Method} {c : Code} {A : Nat → Prop} {D : va_G} {cc : Nat → ClassId} {sad sav : Nat → Nat} {Q : State → Prop} {ad0 : Nat → Nat → Nat} {N0 : Nat → Nat} {CT ST cR sR : Nat} (hin : meth.name = "<init>") (hC : MCc sad sav "JoinedTrees$Store" prog_10_method_1_code 1 none p s m args meth c A D cc) (hCT : CT ≤ cR) (hST : ST ≤ sR) {N : Nat → Nat} {x0 : Nat} {S : CS} {o : (Nat → Nat) × CS} {oc os : Nat} (Heq : m_cSt_init_J0 N x0 S = some (o, oc, os)) (Kr : ∀ r : (Nat → Nat) × CS, o = r → ∀ (pc : Nat) (ad : Nat → Nat → Nat) (H : Heap) (locs : List Loc) (ls : Array Slot), decode prog_10_method_1_code pc = .ok (.return_, 1) → Ext ad0 N0 ad (r.1) → va_P D cls (cw ad cc r.1 r.2) H → va_D A (cw ad cc r.1 r.2) → va_S A s.heap H locs → W p l e ({ frames := 2, cells := cR, slots := sR, locals := 49 }) s m args below meth c H locs CT ST Q (F0 m pc ls [])) : ∀ (ad : Nat → Nat → Nat) (H : Heap) (locs : List Loc) (ls : Array Slot) (cells slots : Nat), Ext ad0 N0 ad N → cells + oc = CT → slots + os = ST → va_P D cls (cw ad cc N S) H → va_D A (cw ad cc N S) → va_S A s.heap H locs → lv_has ls 1 [(0, .ref (ad 8 x0))] → W p l e ({ frames := 2, cells := cR, slots := sR, locals := 49 }) s m args below meth c H locs cells slots Q (F0 m 0 ls []) := by
  intro ad H locs ls cells slots hX hcu hsu hP hD hS hl
  obtain ⟨hx, hb, hr, hml, hown, hts, hK, hA, hev, hE, hN, hNS⟩ := id hC
  unfold m_cSt_init_J0 at Heq
  refine lv_aload_n hx hb d_cSt_init_0 rfl (lv_at hl 0 rfl) ?_
  refine W.objInit hx hb hown (hts _ kw_41) (hts _ kw_34) (hts _ kw_35) rfl (by rw [hml]; exact hl.1) rfl d_cSt_init_1 (Nat.le_of_ble_eq_true rfl) (Nat.le_of_ble_eq_true rfl) ?_
  refine W.eq (g2 := F0 m 4 ls []) rfl ?_
  refine lv_aload_n hx hb d_cSt_init_4 rfl (lv_at hl 0 rfl) ?_
  obtain ⟨N_1, S_2, j_3, a9, b9, Heq, e9a, e9b, hw9, eN9, eS9, ej9⟩ := nw_some Heq
  refine va_new (D := D) (ci := 3) (fs := [.int 0, .null, .int 0, .long 0, .int 0, .int 0, .null, .null, .int 0, .int 0, .int 0, .null, .null, .null, .int 0]) (C := R_Op) (T := F_Op) (N := 15) hx hb hts i_Op t_Op t_Op_ok hown (hts _ kw_42) (hts _ kw_43) (hts _ kw_3) hK hP hD hS hA rfl (by decide +kernel) (Nat.le_trans (m := CT) (by omega) hCT) (Nat.le_trans (m := ST) (by omega) hST) d_cSt_init_5 (fun q9 H hP hD hS => ?_)
  obtain ⟨ad, hX1, hq1, hne1, hl_j_3, hP, hD⟩ := cw_born2 hw9 eN9 eS9 ej9 (by decide) (cell_newO (by decide)) hP hD
  have hX := hX.tr hX1
  have hl : lv_has ls 1 [(0, .ref (ad 8 x0))] := lv_cast hl (by first | rfl | simp only [hq1, hne1 8 x0 (by decide)])
  refine w_s (st' := [.ref (ad 3 j_3), .ref (ad 8 x0)]) (by first | rfl | simp only [hq1, hne1 8 x0 (by decide)]) ?_
  refine lv_dup hx hb d_cSt_init_8 (by first | rfl | exact rv_cat) ?_
  refine lv_iconst (v := 0) hx hb d_cSt_init_9 (by decide) ?_
  refine lv_null hx hb d_cSt_init_10 ?_
  refine lv_bipush (v := 6) hx hb d_cSt_init_11 (by decide) ?_
  refine lv_lconst (v := 0) hx hb d_cSt_init_13 (by decide) ?_
  obtain ⟨o_4, h_5, Heq⟩ := ob_some Heq
  refine w_s (st' := [.long 0, .int 6, rv ad 3 none, .int 0, .ref (ad 3 j_3), .ref (ad 3 j_3), .ref (ad 8 x0)]) rfl ?_
  have hFc := fr_all hD hS hA
  refine va_callv (va_runI (As := [.int 0, rv ad 3 none, .int 6, .long 0]) (rest := [.ref (ad 3 j_3), .ref (ad 8 x0)]) ⟨hx, hb, hml, hown, hts⟩ (g_cOp_init l D H.size (ad := ad) (cc := cc) (sad := sad) (sav := sav) h_5) (cw_i 4 hts kw_46 kw_44 kw_45 kw_3 rfl rfl rfl (by decide +kernel) ⟨Nat.le_of_ble_eq_true rfl, Nat.le_of_ble_eq_true rfl⟩) ⟨c_blind, fun U hU hW => c_pre hU hW hP hK hD hev hE hN hNS hS hFc⟩ rfl rfl hl.1 rfl (lv_room (Nat.le_of_ble_eq_true rfl)) d_cSt_init_14 ⟨(Nat.le_trans (m := CT) (by omega) hCT), (Nat.le_trans (m := ST) (by omega) hST)⟩) hS (fun q _ h => hFc q h) hFc (fun u t H1 locs ht hvm hw hB hz1 hk1 hS => ?_)
  obtain ⟨hP, -, hD1⟩ := hB
  rw [ht] at hP
  have hD := hD1.weaken (fun _ q _ h => hFc q.1 h)
  generalize H1 = H at hP hS ⊢
  obtain ⟨hl_x0_8, Heq⟩ := gl_some Heq
  refine w_v (y := rv ad 3 (some j_3)) rfl ?_
  refine va_putF (D := D) (ci := 8) (v := rv ad 3 (some j_3)) (ty := .object "JoinedTrees$Op") (C := R_St) (T := F_St) (N := 6) hx hb hts i_St t_St t_St_ok n_St hown hK hP hD hS (cPos N_1 8 x0) (cw_obj (k := 8) (by decide) hl_x0_8) rfl 0 (by decide) (hts _ kw_161) (fun _ h9 => h9) rfl hin rfl (by decide +kernel) (rv_nar (Or.inl ⟨_, rfl⟩)) (rv_fit (Or.inl ⟨_, rfl⟩)) (Nat.le_of_ble_eq_true rfl) d_cSt_init_17 (fun H locs hP hD hS => ?_)
  have hD := (congrArg (fun w9 => va_D A w9) (cw_setR (ad := ad) (cc := cc) (S := o_4) (k := 8) (f := 0) (t := 3) (v := (some j_3)) (by decide) rfl hl_x0_8)).mp hD
  have hP := (congrArg (fun w9 => va_P D cls w9 H) (cw_setR (ad := ad) (cc := cc) (S := o_4) (k := 8) (f := 0) (t := 3) (v := (some j_3)) (by decide) rfl hl_x0_8)).mp hP
  refine lv_aload_n hx hb d_cSt_init_20 rfl (lv_at hl 0 rfl) ?_
  refine lv_sipush (v := 32008) hx hb d_cSt_init_21 (by decide) ?_
  obtain ⟨N_6, S_7, j_8, a9, b9, Heq, e9a, e9b, hw9, eN9, eS9, ej9⟩ := nw_some Heq
  refine va_newq (C := "JoinedTrees$Op") (N' := 32008) hx hb hown (hts _ kw_42) hev.2.2.2.2.1.1 hK hP hD hS hA (by decide) (by decide) (by decide) (Nat.le_trans (m := CT) (by omega) hCT) (Nat.le_trans (m := ST) (by omega) hST) d_cSt_init_24 (fun q9 cA9 H hK9 hP hD hS => ?_)
  obtain rfl := cA_eq hK9 3 rfl
  obtain ⟨ad, hX1, hq1, hne1, hl_j_8, hP, hD⟩ := cw_born2 hw9 eN9 eS9 ej9 (by decide) (cell_newQ (by decide)) hP hD
  have hX := hX.tr hX1
  have hl : lv_has ls 1 [(0, .ref (ad 8 x0))] := lv_cast hl (by first | rfl | simp only [hq1, hne1 8 x0 (by decide)])
  refine w_s (st' := [.ref (ad 15 j_8), .ref (ad 8 x0)]) (by first | rfl | simp only [hq1, hne1 8 x0 (by decide)]) ?_
  have hl_j_3 := Nat.lt_of_lt_of_le hl_j_3 (hX1.1 3)
  have hl_x0_8 := Nat.lt_of_lt_of_le hl_x0_8 (hX1.1 8)
  refine w_v (y := rv ad 15 (some j_8)) rfl ?_
  refine va_putF (D := D) (ci := 8) (v := rv ad 15 (some j_8)) (ty := .array (.object "JoinedTrees$Op")) (C := R_St) (T := F_St) (N := 6) hx hb hts i_St t_St t_St_ok n_St hown hK hP hD hS (cPos N_6 8 x0) (cw_obj (k := 8) (by decide) hl_x0_8) rfl 1 (by decide) (hts _ kw_164) (fun _ h9 => h9) rfl hin rfl (by decide +kernel) (rv_nar (Or.inr ⟨_, rfl⟩)) (rv_fit (Or.inr ⟨_, rfl⟩)) (Nat.le_of_ble_eq_true rfl) d_cSt_init_27 (fun H locs hP hD hS => ?_)
  have hD := (congrArg (fun w9 => va_D A w9) (cw_setR (ad := ad) (cc := cc) (S := S_7) (k := 8) (f := 1) (t := 15) (v := (some j_8)) (by decide) rfl hl_x0_8)).mp hD
  have hP := (congrArg (fun w9 => va_P D cls w9 H) (cw_setR (ad := ad) (cc := cc) (S := S_7) (k := 8) (f := 1) (t := 15) (v := (some j_8)) (by decide) rfl hl_x0_8)).mp hP
  refine lv_aload_n hx hb d_cSt_init_30 rfl (lv_at hl 0 rfl) ?_
  obtain ⟨N_9, S_10, j_11, a9, b9, Heq, e9a, e9b, hw9, eN9, eS9, ej9⟩ := nw_some Heq
  refine va_new (D := D) (ci := 5) (fs := [.null, .int 0, .int 0]) (C := R_Rw) (T := F_Rw) (N := 3) hx hb hts i_Rw t_Rw t_Rw_ok hown (hts _ kw_134) (hts _ kw_135) (hts _ kw_4) hK hP hD hS hA rfl (by decide +kernel) (Nat.le_trans (m := CT) (by omega) hCT) (Nat.le_trans (m := ST) (by omega) hST) d_cSt_init_31 (fun q9 H hP hD hS => ?_)
  obtain ⟨ad, hX1, hq1, hne1, hl_j_11, hP, hD⟩ := cw_born2 hw9 eN9 eS9 ej9 (by decide) (cell_newO (by decide)) hP hD
  have hX := hX.tr hX1
  have hl : lv_has ls 1 [(0, .ref (ad 8 x0))] := lv_cast hl (by first | rfl | simp only [hq1, hne1 8 x0 (by decide)])
  refine w_s (st' := [.ref (ad 5 j_11), .ref (ad 8 x0)]) (by first | rfl | simp only [hq1, hne1 8 x0 (by decide)]) ?_
  have hl_j_3 := Nat.lt_of_lt_of_le hl_j_3 (hX1.1 3)
  have hl_x0_8 := Nat.lt_of_lt_of_le hl_x0_8 (hX1.1 8)
  have hl_j_8 := Nat.lt_of_lt_of_le hl_j_8 (hX1.1 15)
  refine lv_dup hx hb d_cSt_init_34 (by first | rfl | exact rv_cat) ?_
  refine lv_sipush (v := 24576) hx hb d_cSt_init_35 (by decide) ?_
  obtain ⟨N_14, S_15, a9, b9, a8, b8, h_13, Heq, e9a, e9b⟩ := ov_some Heq
  have hFc := fr_all hD hS hA
  refine va_callv (va_runI (As := [.int 24576]) (rest := [.ref (ad 5 j_11), .ref (ad 8 x0)]) ⟨hx, hb, hml, hown, hts⟩ (g_cRw_init l D H.size (ad := ad) (cc := cc) (sad := sad) (sav := sav) h_13) (cw_i 1 hts kw_138 kw_136 kw_137 kw_4 rfl rfl rfl (by decide +kernel) ⟨Nat.le_of_ble_eq_true rfl, Nat.le_of_ble_eq_true rfl⟩) ⟨c_blind, fun U hU hW => c_pre hU hW hP hK hD hev hE hN hNS hS hFc⟩ rfl rfl hl.1 rfl (lv_room (Nat.le_of_ble_eq_true rfl)) d_cSt_init_38 ⟨(Nat.le_trans (m := CT) (by omega) hCT), (Nat.le_trans (m := ST) (by omega) hST)⟩) hS (fun q _ h => hFc q h) hFc (fun ad t H1 locs ht hvm hw hB hz1 hk1 hS => ?_)
  obtain ⟨hX1, hP, -, hD1⟩ := hB
  rw [ht] at hP
  have hD := hD1.weaken (fun _ q _ h => hFc q.1 h)
  generalize H1 = H at hP hS ⊢
  have hX := hX.tr hX1
  have hl : lv_has ls 1 [(0, .ref (ad 8 x0))] := lv_cast hl (by first | rfl | simp only [hX1.2 8 x0 hl_x0_8, hX1.2 5 j_11 hl_j_11])
  refine w_s (st' := [.ref (ad 5 j_11), .ref (ad 8 x0)]) (by first | rfl | simp only [hX1.2 8 x0 hl_x0_8, hX1.2 5 j_11 hl_j_11]) ?_
  have hl_j_3 := Nat.lt_of_lt_of_le hl_j_3 (hX1.1 3)
  have hl_x0_8 := Nat.lt_of_lt_of_le hl_x0_8 (hX1.1 8)
  have hl_j_8 := Nat.lt_of_lt_of_le hl_j_8 (hX1.1 15)
  have hl_j_11 := Nat.lt_of_lt_of_le hl_j_11 (hX1.1 5)
  refine w_v (y := rv ad 5 (some j_11)) rfl ?_
  refine va_putF (D := D) (ci := 8) (v := rv ad 5 (some j_11)) (ty := .object "JoinedTrees$Row") (C := R_St) (T := F_St) (N := 6) hx hb hts i_St t_St t_St_ok n_St hown hK hP hD hS (cPos N_14 8 x0) (cw_obj (k := 8) (by decide) hl_x0_8) rfl 2 (by decide) (hts _ kw_167) (fun _ h9 => h9) rfl hin rfl (by decide +kernel) (rv_nar (Or.inl ⟨_, rfl⟩)) (rv_fit (Or.inl ⟨_, rfl⟩)) (Nat.le_of_ble_eq_true rfl) d_cSt_init_41 (fun H locs hP hD hS => ?_)
  have hD := (congrArg (fun w9 => va_D A w9) (cw_setR (ad := ad) (cc := cc) (S := S_15) (k := 8) (f := 2) (t := 5) (v := (some j_11)) (by decide) rfl hl_x0_8)).mp hD
  have hP := (congrArg (fun w9 => va_P D cls w9 H) (cw_setR (ad := ad) (cc := cc) (S := S_15) (k := 8) (f := 2) (t := 5) (v := (some j_11)) (by decide) rfl hl_x0_8)).mp hP
  refine lv_aload_n hx hb d_cSt_init_44 rfl (lv_at hl 0 rfl) ?_
  refine lv_sipush (v := 1000) hx hb d_cSt_init_45 (by decide) ?_
  obtain ⟨N_17, S_18, j_19, a9, b9, Heq, e9a, e9b, hw9, eN9, eS9, ej9⟩ := nw_some Heq
  refine va_newq (C := "JoinedTrees$Change") (N' := 1000) hx hb hown (hts _ kw_159) hev.2.2.2.2.1.2.1 hK hP hD hS hA (by decide) (by decide) (by decide) (Nat.le_trans (m := CT) (by omega) hCT) (Nat.le_trans (m := ST) (by omega) hST) d_cSt_init_48 (fun q9 cA9 H hK9 hP hD hS => ?_)
  obtain rfl := cA_eq hK9 4 rfl
  obtain ⟨ad, hX1, hq1, hne1, hl_j_19, hP, hD⟩ := cw_born2 hw9 eN9 eS9 ej9 (by decide) (cell_newQ (by decide)) hP hD
  have hX := hX.tr hX1
  have hl : lv_has ls 1 [(0, .ref (ad 8 x0))] := lv_cast hl (by first | rfl | simp only [hq1, hne1 8 x0 (by decide)])
  refine w_s (st' := [.ref (ad 16 j_19), .ref (ad 8 x0)]) (by first | rfl | simp only [hq1, hne1 8 x0 (by decide)]) ?_
  have hl_j_3 := Nat.lt_of_lt_of_le hl_j_3 (hX1.1 3)
  have hl_x0_8 := Nat.lt_of_lt_of_le hl_x0_8 (hX1.1 8)
  have hl_j_8 := Nat.lt_of_lt_of_le hl_j_8 (hX1.1 15)
  have hl_j_11 := Nat.lt_of_lt_of_le hl_j_11 (hX1.1 5)
  refine w_v (y := rv ad 16 (some j_19)) rfl ?_
  refine va_putF (D := D) (ci := 8) (v := rv ad 16 (some j_19)) (ty := .array (.object "JoinedTrees$Change")) (C := R_St) (T := F_St) (N := 6) hx hb hts i_St t_St t_St_ok n_St hown hK hP hD hS (cPos N_17 8 x0) (cw_obj (k := 8) (by decide) hl_x0_8) rfl 3 (by decide) (hts _ kw_171) (fun _ h9 => h9) rfl hin rfl (by decide +kernel) (rv_nar (Or.inr ⟨_, rfl⟩)) (rv_fit (Or.inr ⟨_, rfl⟩)) (Nat.le_of_ble_eq_true rfl) d_cSt_init_51 (fun H locs hP hD hS => ?_)
  have hD := (congrArg (fun w9 => va_D A w9) (cw_setR (ad := ad) (cc := cc) (S := S_18) (k := 8) (f := 3) (t := 16) (v := (some j_19)) (by decide) rfl hl_x0_8)).mp hD
  have hP := (congrArg (fun w9 => va_P D cls w9 H) (cw_setR (ad := ad) (cc := cc) (S := S_18) (k := 8) (f := 3) (t := 16) (v := (some j_19)) (by decide) rfl hl_x0_8)).mp hP
  obtain ⟨e9, e9a, e9b⟩ := tri Heq
  refine W.cs (cells' := CT) (slots' := ST) (by omega) (by omega) ?_
  exact Kr _ e9 54 _ _ _ _ d_cSt_init_54 hX hP hD hS
noncomputable def m_cSt_init (N : Nat → Nat) (x0 : Nat) (S : CS) : Option (((Nat → Nat) × CS) × Nat × Nat) := m_cSt_init_J0 N x0 S
set_option maxHeartbeats 4000000 in
theorem g_cSt_init (l : Launch) (D : va_G) (sz : Nat) {ad : Nat → Nat → Nat} {cc : Nat → ClassId} {sad sav : Nat → Nat} {N : Nat → Nat} {x0 : Nat} {S : CS} {o : (Nat → Nat) × CS} {oc os : Nat} (Heq : m_cSt_init N x0 S = some (o, oc, os)) : Met l ⟨"JoinedTrees$Store", "<init>", "()V"⟩ (Cond.code ⟨"JoinedTrees$Store", "<init>", "()V"⟩ prog_10_method_1_code 1 none :: gb) ({ frames := 2, cells := oc, slots := os, locals := 49 }) (cPc sad sav D (cw ad cc N S) (cty cc) sz [.ref (ad 8 x0)]) (va_Qv (fun _ : Nat → Nat → Nat => True) (fun (u : Nat → Nat → Nat) t => Ext ad N u o.1 ∧ gO D (cw u cc o.1 o.2) (cty cc) (va_A (cw ad cc N S) sz) t) (va_A (cw ad cc N S) sz)) oc os (va_A (cw ad cc N S) sz) := by
  refine Met.ofW (cc := prog_10_method_1_code) (maxL := 1) (ret := none) (by decide) rfl ?_
  intro p e s m args below meth c s₁ B hml hv
  obtain ⟨rfl, hsz, hP, hK, hD0, hev, hE, hN⟩ := hv
  have hx := B.exec
  have hb := B.bytes
  have hr := B.returns
  have hts : ∀ w9 ∈ gb, w9.before [.ref (ad 8 x0)].toArray s = true := fun w9 h => atoms_spec (ws := Cond.code ⟨"JoinedTrees$Store", "<init>", "()V"⟩ prog_10_method_1_code 1 none :: gb) B.pre w9 (List.mem_cons_of_mem _ h)
  have hown : s.vm.findClass "JoinedTrees$Store" = some m.cls := findClass_of_methodNamed B.named
  have hlocks := B.notSynchronized
  have hNS := ns_of hP
  subst hsz
  have hD := hD0.self (sz := s.heap.size)
  generalize hAe : va_A (cw ad cc N S) s.heap.size = A at hD hev hE hNS ⊢
  have hA : ∀ q : Nat, s.heap.size ≤ q → A q := fun q h => by rw [← hAe]; exact Or.inr h
  have hS : va_S A s.heap s.heap [] := va_S.rf
  obtain ⟨ls, hl, hle⟩ : ∃ ls : Array Slot, lv_has ls 1 [(0, .ref (ad 8 x0))] ∧ entryFrame m ([.ref (ad 8 x0)] : List Value).toArray 1 = F0 m 0 ls [] := by
    exact ⟨_, lv_entry (n := 1) _ (Nat.le_of_ble_eq_true rfl), lg_entry_eq ..⟩
  rw [hle]
  have hin : meth.name = "<init>" := (name_of_methodNamed B.named B.method).1
  refine w_cSt_init_J0 (ad0 := ad) (N0 := N) (CT := oc) (ST := os) (cR := oc) (sR := os) hin ⟨hx, hb, hr, hml, hown, hts, hK, hA, hev, hE, hN, hNS⟩ (Nat.le_refl _) (Nat.le_refl _) Heq (fun r h pc ad1 H locs ls hd hX hP hD hS => ?_) _ _ _ _ 0 0 Ext.rf (Nat.zero_add _) (Nat.zero_add _) hP hD hS (lv_sub hl [0] rfl)
  subst h
  exact W.vret hx hb hr (fun t ht hW => ⟨⟨ad1, rfl, trivial, hX, by rw [ht]; exact hP, va_K.moved hW.alike hK, hD⟩, hS.F ht⟩) hS.2.2 hd
noncomputable def m_cRp_init_J0 (N : Nat → Nat) (x0 : Nat) (S : CS) (x1 : Int32) : Option (((Nat → Nat) × CS) × Nat × Nat) := nw 8 12 8 N S (fun N_1 S_2 j_3 => gl x0 (N_1 4) (nw 1000 14 1000 N_1 (S_2.setR 4 1 x0 (some j_3)) (fun N_4 S_5 j_6 => nw 8 16 8 N_4 (S_5.setR 4 2 x0 (some j_6)) (fun N_7 S_8 j_9 => some ((N_7, ((S_8.setR 4 3 x0 (some j_9)).setI 4 0 x0 x1)), 0, 0)))))
theorem d_cRp_init_0 : decode prog_6_method_1_code 0 = .ok (.aload_n 0, 1) := by decide +kernel
theorem d_cRp_init_1 : decode prog_6_method_1_code 1 = .ok (.invokespecial 3, 3) := by decide +kernel
theorem d_cRp_init_4 : decode prog_6_method_1_code 4 = .ok (.aload_n 0, 1) := by decide +kernel
theorem d_cRp_init_5 : decode prog_6_method_1_code 5 = .ok (.bipush 8, 2) := by decide +kernel
theorem d_cRp_init_7 : decode prog_6_method_1_code 7 = .ok (.newarray .int, 2) := by decide +kernel
theorem d_cRp_init_9 : decode prog_6_method_1_code 9 = .ok (.putfield 9, 3) := by decide +kernel
theorem d_cRp_init_12 : decode prog_6_method_1_code 12 = .ok (.aload_n 0, 1) := by decide +kernel
theorem d_cRp_init_13 : decode prog_6_method_1_code 13 = .ok (.sipush 1000, 3) := by decide +kernel
theorem d_cRp_init_16 : decode prog_6_method_1_code 16 = .ok (.newarray .boolean, 2) := by decide +kernel
theorem d_cRp_init_18 : decode prog_6_method_1_code 18 = .ok (.putfield 15, 3) := by decide +kernel
theorem d_cRp_init_21 : decode prog_6_method_1_code 21 = .ok (.aload_n 0, 1) := by decide +kernel
theorem d_cRp_init_22 : decode prog_6_method_1_code 22 = .ok (.bipush 8, 2) := by decide +kernel
theorem d_cRp_init_24 : decode prog_6_method_1_code 24 = .ok (.anewarray 19, 3) := by decide +kernel
theorem d_cRp_init_27 : decode prog_6_method_1_code 27 = .ok (.putfield 21, 3) := by decide +kernel
theorem d_cRp_init_30 : decode prog_6_method_1_code 30 = .ok (.aload_n 0, 1) := by decide +kernel
theorem d_cRp_init_31 : decode prog_6_method_1_code 31 = .ok (.iload_n 1, 1) := by decide +kernel
theorem d_cRp_init_32 : decode prog_6_method_1_code 32 = .ok (.putfield 25, 3) := by decide +kernel
theorem d_cRp_init_35 : decode prog_6_method_1_code 35 = .ok (.return_, 1) := by decide +kernel
set_option maxHeartbeats 4000000 in
set_option maxRecDepth 100000 in
theorem w_cRp_init_J0 {p : Program} {l : Launch} {e : Env} {s : State} {m : MethodId} {args : Array Value} {below : List Frame} {meth : Method} {c : Code} {A : Nat → Prop} {D : va_G} {cc : Nat → ClassId} {sad sav : Nat → Nat} {Q : State → Prop} {ad0 : Nat → Nat → Nat} {N0 : Nat → Nat} {CT ST cR sR : Nat} (hin : meth.name = "<init>") (hC : MCc sad sav "JoinedTrees$Replica" prog_6_method_1_code 2 none p s m args meth c A D cc) (hCT : CT ≤ cR) (hST : ST ≤ sR) {N : Nat → Nat} {x0 : Nat} {S : CS} {x1 : Int32} {o : (Nat → Nat) × CS} {oc os : Nat} (Heq : m_cRp_init_J0 N x0 S x1 = some (o, oc, os)) (Kr : ∀ r : (Nat → Nat) × CS, o = r → ∀ (pc : Nat) (ad : Nat → Nat → Nat) (H : Heap) (locs : List Loc) (ls : Array Slot), decode prog_6_method_1_code pc = .ok (.return_, 1) → Ext ad0 N0 ad (r.1) → va_P D cls (cw ad cc r.1 r.2) H → va_D A (cw ad cc r.1 r.2) → va_S A s.heap H locs → W p l e ({ frames := 1, cells := cR, slots := sR, locals := 24 }) s m args below meth c H locs CT ST Q (F0 m pc ls [])) : ∀ (ad : Nat → Nat → Nat) (H : Heap) (locs : List Loc) (ls : Array Slot) (cells slots : Nat), Ext ad0 N0 ad N → cells + oc = CT → slots + os = ST → va_P D cls (cw ad cc N S) H → va_D A (cw ad cc N S) → va_S A s.heap H locs → lv_has ls 2 [(0, .ref (ad 4 x0)), (1, .int x1)] → W p l e ({ frames := 1, cells := cR, slots := sR, locals := 24 }) s m args below meth c H locs cells slots Q (F0 m 0 ls []) := by
  intro ad H locs ls cells slots hX hcu hsu hP hD hS hl
  obtain ⟨hx, hb, hr, hml, hown, hts, hK, hA, hev, hE, hN, hNS⟩ := id hC
  unfold m_cRp_init_J0 at Heq
  refine lv_aload_n hx hb d_cRp_init_0 rfl (lv_at hl 0 rfl) ?_
  refine W.objInit hx hb hown (hts _ kw_198) (hts _ kw_34) (hts _ kw_35) rfl (by rw [hml]; exact hl.1) rfl d_cRp_init_1 (Nat.le_of_ble_eq_true rfl) (Nat.le_of_ble_eq_true rfl) ?_
  refine W.eq (g2 := F0 m 4 ls []) rfl ?_
  refine lv_aload_n hx hb d_cRp_init_4 rfl (lv_at hl 0 rfl) ?_
  refine lv_bipush (v := 8) hx hb d_cRp_init_5 (by decide) ?_
  obtain ⟨N_1, S_2, j_3, a9, b9, Heq, e9a, e9b, hw9, eN9, eS9, ej9⟩ := nw_some Heq
  refine va_newa (atype := .int) (N' := 8) (a0 := (8, .inl (fun _ => 0))) (ty := .int) hx hb (hts _ kw_252) rfl hK hP hD hS hA (fun _ => rfl) (by decide) (by decide) (by decide) (Nat.le_trans (m := CT) (by omega) hCT) (Nat.le_trans (m := ST) (by omega) hST) d_cRp_init_7 (fun q9 cA9 H hK9 hP hD hS => ?_)
  obtain rfl := cA_eq hK9 0 rfl
  obtain ⟨ad, hX1, hq1, hne1, hl_j_3, hP, hD⟩ := cw_born2 hw9 eN9 eS9 ej9 (by decide) (cell_newA (by decide)) hP hD
  have hX := hX.tr hX1
  have hl : lv_has ls 2 [(0, .ref (ad 4 x0)), (1, .int x1)] := lv_cast hl (by first | rfl | simp only [hq1, hne1 4 x0 (by decide)])
  refine w_s (st' := [.ref (ad 12 j_3), .ref (ad 4 x0)]) (by first | rfl | simp only [hq1, hne1 4 x0 (by decide)]) ?_
  obtain ⟨hl_x0_4, Heq⟩ := gl_some Heq
  refine w_v (y := rv ad 12 (some j_3)) rfl ?_
  refine va_putF (D := D) (ci := 4) (v := rv ad 12 (some j_3)) (ty := .array (.int)) (C := R_Rp) (T := F_Rp) (N := 10) hx hb hts i_Rp t_Rp t_Rp_ok n_Rp hown hK hP hD hS (cPos N_1 4 x0) (cw_obj (k := 4) (by decide) hl_x0_4) rfl 1 (by decide) (hts _ kw_205) (fun _ h9 => h9) rfl hin rfl (by decide +kernel) (rv_nar (Or.inr ⟨_, rfl⟩)) (rv_fit (Or.inr ⟨_, rfl⟩)) (Nat.le_of_ble_eq_true rfl) d_cRp_init_9 (fun H locs hP hD hS => ?_)
  have hD := (congrArg (fun w9 => va_D A w9) (cw_setR (ad := ad) (cc := cc) (S := S_2) (k := 4) (f := 1) (t := 12) (v := (some j_3)) (by decide) rfl hl_x0_4)).mp hD
  have hP := (congrArg (fun w9 => va_P D cls w9 H) (cw_setR (ad := ad) (cc := cc) (S := S_2) (k := 4) (f := 1) (t := 12) (v := (some j_3)) (by decide) rfl hl_x0_4)).mp hP
  refine lv_aload_n hx hb d_cRp_init_12 rfl (lv_at hl 0 rfl) ?_
  refine lv_sipush (v := 1000) hx hb d_cRp_init_13 (by decide) ?_
  obtain ⟨N_4, S_5, j_6, a9, b9, Heq, e9a, e9b, hw9, eN9, eS9, ej9⟩ := nw_some Heq
  refine va_newa (atype := .boolean) (N' := 1000) (a0 := (1000, .inl (fun _ => 0))) (ty := .boolean) hx hb (hts _ kw_253) rfl hK hP hD hS hA (fun _ => rfl) (by decide) (by decide) (by decide) (Nat.le_trans (m := CT) (by omega) hCT) (Nat.le_trans (m := ST) (by omega) hST) d_cRp_init_16 (fun q9 cA9 H hK9 hP hD hS => ?_)
  obtain rfl := cA_eq hK9 2 rfl
  obtain ⟨ad, hX1, hq1, hne1, hl_j_6, hP, hD⟩ := cw_born2 hw9 eN9 eS9 ej9 (by decide) (cell_newA (by decide)) hP hD
  have hX := hX.tr hX1
  have hl : lv_has ls 2 [(0, .ref (ad 4 x0)), (1, .int x1)] := lv_cast hl (by first | rfl | simp only [hq1, hne1 4 x0 (by decide)])
  refine w_s (st' := [.ref (ad 14 j_6), .ref (ad 4 x0)]) (by first | rfl | simp only [hq1, hne1 4 x0 (by decide)]) ?_
  have hl_j_3 := Nat.lt_of_lt_of_le hl_j_3 (hX1.1 12)
  have hl_x0_4 := Nat.lt_of_lt_of_le hl_x0_4 (hX1.1 4)
  refine w_v (y := rv ad 14 (some j_6)) rfl ?_
  refine va_putF (D := D) (ci := 4) (v := rv ad 14 (some j_6)) (ty := .array (.boolean)) (C := R_Rp) (T := F_Rp) (N := 10) hx hb hts i_Rp t_Rp t_Rp_ok n_Rp hown hK hP hD hS (cPos N_4 4 x0) (cw_obj (k := 4) (by decide) hl_x0_4) rfl 2 (by decide) (hts _ kw_210) (fun _ h9 => h9) rfl hin rfl (by decide +kernel) (rv_nar (Or.inr ⟨_, rfl⟩)) (rv_fit (Or.inr ⟨_, rfl⟩)) (Nat.le_of_ble_eq_true rfl) d_cRp_init_18 (fun H locs hP hD hS => ?_)
  have hD := (congrArg (fun w9 => va_D A w9) (cw_setR (ad := ad) (cc := cc) (S := S_5) (k := 4) (f := 2) (t := 14) (v := (some j_6)) (by decide) rfl hl_x0_4)).mp hD
  have hP := (congrArg (fun w9 => va_P D cls w9 H) (cw_setR (ad := ad) (cc := cc) (S := S_5) (k := 4) (f := 2) (t := 14) (v := (some j_6)) (by decide) rfl hl_x0_4)).mp hP
  refine lv_aload_n hx hb d_cRp_init_21 rfl (lv_at hl 0 rfl) ?_
  refine lv_bipush (v := 8) hx hb d_cRp_init_22 (by decide) ?_
  obtain ⟨N_7, S_8, j_9, a9, b9, Heq, e9a, e9b, hw9, eN9, eS9, ej9⟩ := nw_some Heq
  refine va_newq (C := "JoinedTrees$Change") (N' := 8) hx hb hown (hts _ kw_199) hev.2.2.2.2.1.2.1 hK hP hD hS hA (by decide) (by decide) (by decide) (Nat.le_trans (m := CT) (by omega) hCT) (Nat.le_trans (m := ST) (by omega) hST) d_cRp_init_24 (fun q9 cA9 H hK9 hP hD hS => ?_)
  obtain rfl := cA_eq hK9 4 rfl
  obtain ⟨ad, hX1, hq1, hne1, hl_j_9, hP, hD⟩ := cw_born2 hw9 eN9 eS9 ej9 (by decide) (cell_newQ (by decide)) hP hD
  have hX := hX.tr hX1
  have hl : lv_has ls 2 [(0, .ref (ad 4 x0)), (1, .int x1)] := lv_cast hl (by first | rfl | simp only [hq1, hne1 4 x0 (by decide)])
  refine w_s (st' := [.ref (ad 16 j_9), .ref (ad 4 x0)]) (by first | rfl | simp only [hq1, hne1 4 x0 (by decide)]) ?_
  have hl_j_3 := Nat.lt_of_lt_of_le hl_j_3 (hX1.1 12)
  have hl_x0_4 := Nat.lt_of_lt_of_le hl_x0_4 (hX1.1 4)
  have hl_j_6 := Nat.lt_of_lt_of_le hl_j_6 (hX1.1 14)
  refine w_v (y := rv ad 16 (some j_9)) rfl ?_
  refine va_putF (D := D) (ci := 4) (v := rv ad 16 (some j_9)) (ty := .array (.object "JoinedTrees$Change")) (C := R_Rp) (T := F_Rp) (N := 10) hx hb hts i_Rp t_Rp t_Rp_ok n_Rp hown hK hP hD hS (cPos N_7 4 x0) (cw_obj (k := 4) (by decide) hl_x0_4) rfl 3 (by decide) (hts _ kw_213) (fun _ h9 => h9) rfl hin rfl (by decide +kernel) (rv_nar (Or.inr ⟨_, rfl⟩)) (rv_fit (Or.inr ⟨_, rfl⟩)) (Nat.le_of_ble_eq_true rfl) d_cRp_init_27 (fun H locs hP hD hS => ?_)
  have hD := (congrArg (fun w9 => va_D A w9) (cw_setR (ad := ad) (cc := cc) (S := S_8) (k := 4) (f := 3) (t := 16) (v := (some j_9)) (by decide) rfl hl_x0_4)).mp hD
  have hP := (congrArg (fun w9 => va_P D cls w9 H) (cw_setR (ad := ad) (cc := cc) (S := S_8) (k := 4) (f := 3) (t := 16) (v := (some j_9)) (by decide) rfl hl_x0_4)).mp hP
  refine lv_aload_n hx hb d_cRp_init_30 rfl (lv_at hl 0 rfl) ?_
  refine lv_iload_n hx hb d_cRp_init_31 rfl (lv_at hl 1 rfl) ?_
  refine va_putF (D := D) (ci := 4) (v := .int x1) (ty := .int) (C := R_Rp) (T := F_Rp) (N := 10) hx hb hts i_Rp t_Rp t_Rp_ok n_Rp hown hK hP hD hS (cPos N_7 4 x0) (cw_obj (k := 4) (by decide) hl_x0_4) rfl 0 (by decide) (hts _ kw_201) (fun _ h9 => h9) rfl hin rfl (by decide +kernel) rfl rfl (Nat.le_of_ble_eq_true rfl) d_cRp_init_32 (fun H locs hP hD hS => ?_)
  have hD := (congrArg (fun w9 => va_D A w9) (cw_setI (ad := ad) (cc := cc) (S := (S_8.setR 4 3 x0 (some j_9))) (k := 4) (f := 0) (v := x1) (by decide) rfl hl_x0_4)).mp hD
  have hP := (congrArg (fun w9 => va_P D cls w9 H) (cw_setI (ad := ad) (cc := cc) (S := (S_8.setR 4 3 x0 (some j_9))) (k := 4) (f := 0) (v := x1) (by decide) rfl hl_x0_4)).mp hP
  obtain ⟨e9, e9a, e9b⟩ := tri Heq
  refine W.cs (cells' := CT) (slots' := ST) (by omega) (by omega) ?_
  exact Kr _ e9 35 _ _ _ _ d_cRp_init_35 hX hP hD hS
noncomputable def m_cRp_init (N : Nat → Nat) (x0 : Nat) (S : CS) (x1 : Int32) : Option (((Nat → Nat) × CS) × Nat × Nat) := m_cRp_init_J0 N x0 S x1
set_option maxHeartbeats 4000000 in
theorem g_cRp_init (l : Launch) (D : va_G) (sz : Nat) {ad : Nat → Nat → Nat} {cc : Nat → ClassId} {sad sav : Nat → Nat} {N : Nat → Nat} {x0 : Nat} {S : CS} {x1 : Int32} {o : (Nat → Nat) × CS} {oc os : Nat} (Heq : m_cRp_init N x0 S x1 = some (o, oc, os)) : Met l ⟨"JoinedTrees$Replica", "<init>", "(I)V"⟩ (Cond.code ⟨"JoinedTrees$Replica", "<init>", "(I)V"⟩ prog_6_method_1_code 2 none :: gb) ({ frames := 1, cells := oc, slots := os, locals := 24 }) (cPc sad sav D (cw ad cc N S) (cty cc) sz [.ref (ad 4 x0), .int x1]) (va_Qv (fun _ : Nat → Nat → Nat => True) (fun (u : Nat → Nat → Nat) t => Ext ad N u o.1 ∧ gO D (cw u cc o.1 o.2) (cty cc) (va_A (cw ad cc N S) sz) t) (va_A (cw ad cc N S) sz)) oc os (va_A (cw ad cc N S) sz) := by
  refine Met.ofW (cc := prog_6_method_1_code) (maxL := 2) (ret := none) (by decide) rfl ?_
  intro p e s m args below meth c s₁ B hml hv
  obtain ⟨rfl, hsz, hP, hK, hD0, hev, hE, hN⟩ := hv
  have hx := B.exec
  have hb := B.bytes
  have hr := B.returns
  have hts : ∀ w9 ∈ gb, w9.before [.ref (ad 4 x0), .int x1].toArray s = true := fun w9 h => atoms_spec (ws := Cond.code ⟨"JoinedTrees$Replica", "<init>", "(I)V"⟩ prog_6_method_1_code 2 none :: gb) B.pre w9 (List.mem_cons_of_mem _ h)
  have hown : s.vm.findClass "JoinedTrees$Replica" = some m.cls := findClass_of_methodNamed B.named
  have hlocks := B.notSynchronized
  have hNS := ns_of hP
  subst hsz
  have hD := hD0.self (sz := s.heap.size)
  generalize hAe : va_A (cw ad cc N S) s.heap.size = A at hD hev hE hNS ⊢
  have hA : ∀ q : Nat, s.heap.size ≤ q → A q := fun q h => by rw [← hAe]; exact Or.inr h
  have hS : va_S A s.heap s.heap [] := va_S.rf
  obtain ⟨ls, hl, hle⟩ : ∃ ls : Array Slot, lv_has ls 2 [(0, .ref (ad 4 x0)), (1, .int x1)] ∧ entryFrame m ([.ref (ad 4 x0), .int x1] : List Value).toArray 2 = F0 m 0 ls [] := by
    exact ⟨_, lv_entry (n := 2) _ (Nat.le_of_ble_eq_true rfl), lg_entry_eq ..⟩
  rw [hle]
  have hin : meth.name = "<init>" := (name_of_methodNamed B.named B.method).1
  refine w_cRp_init_J0 (ad0 := ad) (N0 := N) (CT := oc) (ST := os) (cR := oc) (sR := os) hin ⟨hx, hb, hr, hml, hown, hts, hK, hA, hev, hE, hN, hNS⟩ (Nat.le_refl _) (Nat.le_refl _) Heq (fun r h pc ad1 H locs ls hd hX hP hD hS => ?_) _ _ _ _ 0 0 Ext.rf (Nat.zero_add _) (Nat.zero_add _) hP hD hS (lv_sub hl [0, 1] rfl)
  subst h
  exact W.vret hx hb hr (fun t ht hW => ⟨⟨ad1, rfl, trivial, hX, by rw [ht]; exact hP, va_K.moved hW.alike hK, hD⟩, hS.F ht⟩) hS.2.2 hd
noncomputable def m_cVw_init_J0 (N : Nat → Nat) (x0 : Nat) (S : CS) (x1 : Nat) : Option (((Nat → Nat) × CS) × Nat × Nat) := nw 8 12 8 N S (fun N_1 S_2 j_3 => gl x0 (N_1 10) (nw 8 15 8 N_1 (S_2.setR 10 1 x0 (some j_3)) (fun N_4 S_5 j_6 => some ((N_4, ((S_5.setR 10 2 x0 (some j_6)).setR 10 0 x0 (some x1))), 0, 0))))
theorem d_cVw_init_0 : decode prog_12_method_1_code 0 = .ok (.aload_n 0, 1) := by decide +kernel
theorem d_cVw_init_1 : decode prog_12_method_1_code 1 = .ok (.invokespecial 3, 3) := by decide +kernel
theorem d_cVw_init_4 : decode prog_12_method_1_code 4 = .ok (.aload_n 0, 1) := by decide +kernel
theorem d_cVw_init_5 : decode prog_12_method_1_code 5 = .ok (.bipush 8, 2) := by decide +kernel
theorem d_cVw_init_7 : decode prog_12_method_1_code 7 = .ok (.newarray .int, 2) := by decide +kernel
theorem d_cVw_init_9 : decode prog_12_method_1_code 9 = .ok (.putfield 9, 3) := by decide +kernel
theorem d_cVw_init_12 : decode prog_12_method_1_code 12 = .ok (.aload_n 0, 1) := by decide +kernel
theorem d_cVw_init_13 : decode prog_12_method_1_code 13 = .ok (.bipush 8, 2) := by decide +kernel
theorem d_cVw_init_15 : decode prog_12_method_1_code 15 = .ok (.anewarray 15, 3) := by decide +kernel
theorem d_cVw_init_18 : decode prog_12_method_1_code 18 = .ok (.putfield 17, 3) := by decide +kernel
theorem d_cVw_init_21 : decode prog_12_method_1_code 21 = .ok (.aload_n 0, 1) := by decide +kernel
theorem d_cVw_init_22 : decode prog_12_method_1_code 22 = .ok (.aload_n 1, 1) := by decide +kernel
theorem d_cVw_init_23 : decode prog_12_method_1_code 23 = .ok (.putfield 21, 3) := by decide +kernel
theorem d_cVw_init_26 : decode prog_12_method_1_code 26 = .ok (.return_, 1) := by decide +kernel
set_option maxHeartbeats 4000000 in
set_option maxRecDepth 100000 in
theorem w_cVw_init_J0 {p : Program} {l : Launch} {e : Env} {s : State} {m : MethodId} {args : Array Value} {below : List Frame} {meth : Method} {c : Code} {A : Nat → Prop} {D : va_G} {cc : Nat → ClassId} {sad sav : Nat → Nat} {Q : State → Prop} {ad0 : Nat → Nat → Nat} {N0 : Nat → Nat} {CT ST cR sR : Nat} (hin : meth.name = "<init>") (hC : MCc sad sav "JoinedTrees$View" prog_12_method_1_code 2 none p s m args meth c A D cc) (hCT : CT ≤ cR) (hST : ST ≤ sR) {N : Nat → Nat} {x0 : Nat} {S : CS} {x1 : Nat} {o : (Nat → Nat) × CS} {oc os : Nat} (Heq : m_cVw_init_J0 N x0 S x1 = some (o, oc, os)) (Kr : ∀ r : (Nat → Nat) × CS, o = r → ∀ (pc : Nat) (ad : Nat → Nat → Nat) (H : Heap) (locs : List Loc) (ls : Array Slot), decode prog_12_method_1_code pc = .ok (.return_, 1) → Ext ad0 N0 ad (r.1) → va_P D cls (cw ad cc r.1 r.2) H → va_D A (cw ad cc r.1 r.2) → va_S A s.heap H locs → W p l e ({ frames := 1, cells := cR, slots := sR, locals := 24 }) s m args below meth c H locs CT ST Q (F0 m pc ls [])) : ∀ (ad : Nat → Nat → Nat) (H : Heap) (locs : List Loc) (ls : Array Slot) (cells slots : Nat), Ext ad0 N0 ad N → cells + oc = CT → slots + os = ST → va_P D cls (cw ad cc N S) H → va_D A (cw ad cc N S) → va_S A s.heap H locs → lv_has ls 2 [(0, .ref (ad 10 x0)), (1, .ref (ad 8 x1))] → W p l e ({ frames := 1, cells := cR, slots := sR, locals := 24 }) s m args below meth c H locs cells slots Q (F0 m 0 ls []) := by
  intro ad H locs ls cells slots hX hcu hsu hP hD hS hl
  obtain ⟨hx, hb, hr, hml, hown, hts, hK, hA, hev, hE, hN, hNS⟩ := id hC
  unfold m_cVw_init_J0 at Heq
  refine lv_aload_n hx hb d_cVw_init_0 rfl (lv_at hl 0 rfl) ?_
  refine W.objInit hx hb hown (hts _ kw_259) (hts _ kw_34) (hts _ kw_35) rfl (by rw [hml]; exact hl.1) rfl d_cVw_init_1 (Nat.le_of_ble_eq_true rfl) (Nat.le_of_ble_eq_true rfl) ?_
  refine W.eq (g2 := F0 m 4 ls []) rfl ?_
  refine lv_aload_n hx hb d_cVw_init_4 rfl (lv_at hl 0 rfl) ?_
  refine lv_bipush (v := 8) hx hb d_cVw_init_5 (by decide) ?_
  obtain ⟨N_1, S_2, j_3, a9, b9, Heq, e9a, e9b, hw9, eN9, eS9, ej9⟩ := nw_some Heq
  refine va_newa (atype := .int) (N' := 8) (a0 := (8, .inl (fun _ => 0))) (ty := .int) hx hb (hts _ kw_252) rfl hK hP hD hS hA (fun _ => rfl) (by decide) (by decide) (by decide) (Nat.le_trans (m := CT) (by omega) hCT) (Nat.le_trans (m := ST) (by omega) hST) d_cVw_init_7 (fun q9 cA9 H hK9 hP hD hS => ?_)
  obtain rfl := cA_eq hK9 0 rfl
  obtain ⟨ad, hX1, hq1, hne1, hl_j_3, hP, hD⟩ := cw_born2 hw9 eN9 eS9 ej9 (by decide) (cell_newA (by decide)) hP hD
  have hX := hX.tr hX1
  have hl : lv_has ls 2 [(0, .ref (ad 10 x0)), (1, .ref (ad 8 x1))] := lv_cast hl (by first | rfl | simp only [hq1, hne1 10 x0 (by decide), hne1 8 x1 (by decide)])
  refine w_s (st' := [.ref (ad 12 j_3), .ref (ad 10 x0)]) (by first | rfl | simp only [hq1, hne1 10 x0 (by decide), hne1 8 x1 (by decide)]) ?_
  obtain ⟨hl_x0_10, Heq⟩ := gl_some Heq
  refine w_v (y := rv ad 12 (some j_3)) rfl ?_
  refine va_putF (D := D) (ci := 10) (v := rv ad 12 (some j_3)) (ty := .array (.int)) (C := R_Vw) (T := F_Vw) (N := 5) hx hb hts i_Vw t_Vw t_Vw_ok n_Vw hown hK hP hD hS (cPos N_1 10 x0) (cw_obj (k := 10) (by decide) hl_x0_10) rfl 1 (by decide) (hts _ kw_263) (fun _ h9 => h9) rfl hin rfl (by decide +kernel) (rv_nar (Or.inr ⟨_, rfl⟩)) (rv_fit (Or.inr ⟨_, rfl⟩)) (Nat.le_of_ble_eq_true rfl) d_cVw_init_9 (fun H locs hP hD hS => ?_)
  have hD := (congrArg (fun w9 => va_D A w9) (cw_setR (ad := ad) (cc := cc) (S := S_2) (k := 10) (f := 1) (t := 12) (v := (some j_3)) (by decide) rfl hl_x0_10)).mp hD
  have hP := (congrArg (fun w9 => va_P D cls w9 H) (cw_setR (ad := ad) (cc := cc) (S := S_2) (k := 10) (f := 1) (t := 12) (v := (some j_3)) (by decide) rfl hl_x0_10)).mp hP
  refine lv_aload_n hx hb d_cVw_init_12 rfl (lv_at hl 0 rfl) ?_
  refine lv_bipush (v := 8) hx hb d_cVw_init_13 (by decide) ?_
  obtain ⟨N_4, S_5, j_6, a9, b9, Heq, e9a, e9b, hw9, eN9, eS9, ej9⟩ := nw_some Heq
  refine va_newq (C := "JoinedTrees$Op") (N' := 8) hx hb hown (hts _ kw_260) hev.2.2.2.2.1.1 hK hP hD hS hA (by decide) (by decide) (by decide) (Nat.le_trans (m := CT) (by omega) hCT) (Nat.le_trans (m := ST) (by omega) hST) d_cVw_init_15 (fun q9 cA9 H hK9 hP hD hS => ?_)
  obtain rfl := cA_eq hK9 3 rfl
  obtain ⟨ad, hX1, hq1, hne1, hl_j_6, hP, hD⟩ := cw_born2 hw9 eN9 eS9 ej9 (by decide) (cell_newQ (by decide)) hP hD
  have hX := hX.tr hX1
  have hl : lv_has ls 2 [(0, .ref (ad 10 x0)), (1, .ref (ad 8 x1))] := lv_cast hl (by first | rfl | simp only [hq1, hne1 10 x0 (by decide), hne1 8 x1 (by decide)])
  refine w_s (st' := [.ref (ad 15 j_6), .ref (ad 10 x0)]) (by first | rfl | simp only [hq1, hne1 10 x0 (by decide), hne1 8 x1 (by decide)]) ?_
  have hl_j_3 := Nat.lt_of_lt_of_le hl_j_3 (hX1.1 12)
  have hl_x0_10 := Nat.lt_of_lt_of_le hl_x0_10 (hX1.1 10)
  refine w_v (y := rv ad 15 (some j_6)) rfl ?_
  refine va_putF (D := D) (ci := 10) (v := rv ad 15 (some j_6)) (ty := .array (.object "JoinedTrees$Op")) (C := R_Vw) (T := F_Vw) (N := 5) hx hb hts i_Vw t_Vw t_Vw_ok n_Vw hown hK hP hD hS (cPos N_4 10 x0) (cw_obj (k := 10) (by decide) hl_x0_10) rfl 2 (by decide) (hts _ kw_264) (fun _ h9 => h9) rfl hin rfl (by decide +kernel) (rv_nar (Or.inr ⟨_, rfl⟩)) (rv_fit (Or.inr ⟨_, rfl⟩)) (Nat.le_of_ble_eq_true rfl) d_cVw_init_18 (fun H locs hP hD hS => ?_)
  have hD := (congrArg (fun w9 => va_D A w9) (cw_setR (ad := ad) (cc := cc) (S := S_5) (k := 10) (f := 2) (t := 15) (v := (some j_6)) (by decide) rfl hl_x0_10)).mp hD
  have hP := (congrArg (fun w9 => va_P D cls w9 H) (cw_setR (ad := ad) (cc := cc) (S := S_5) (k := 10) (f := 2) (t := 15) (v := (some j_6)) (by decide) rfl hl_x0_10)).mp hP
  refine lv_aload_n hx hb d_cVw_init_21 rfl (lv_at hl 0 rfl) ?_
  refine lv_aload_n hx hb d_cVw_init_22 rfl (lv_at hl 1 rfl) ?_
  refine w_v (y := rv ad 8 (some x1)) rfl ?_
  refine va_putF (D := D) (ci := 10) (v := rv ad 8 (some x1)) (ty := .object "JoinedTrees$Store") (C := R_Vw) (T := F_Vw) (N := 5) hx hb hts i_Vw t_Vw t_Vw_ok n_Vw hown hK hP hD hS (cPos N_4 10 x0) (cw_obj (k := 10) (by decide) hl_x0_10) rfl 0 (by decide) (hts _ kw_261) (fun _ h9 => h9) rfl hin rfl (by decide +kernel) (rv_nar (Or.inl ⟨_, rfl⟩)) (rv_fit (Or.inl ⟨_, rfl⟩)) (Nat.le_of_ble_eq_true rfl) d_cVw_init_23 (fun H locs hP hD hS => ?_)
  have hD := (congrArg (fun w9 => va_D A w9) (cw_setR (ad := ad) (cc := cc) (S := (S_5.setR 10 2 x0 (some j_6))) (k := 10) (f := 0) (t := 8) (v := (some x1)) (by decide) rfl hl_x0_10)).mp hD
  have hP := (congrArg (fun w9 => va_P D cls w9 H) (cw_setR (ad := ad) (cc := cc) (S := (S_5.setR 10 2 x0 (some j_6))) (k := 10) (f := 0) (t := 8) (v := (some x1)) (by decide) rfl hl_x0_10)).mp hP
  obtain ⟨e9, e9a, e9b⟩ := tri Heq
  refine W.cs (cells' := CT) (slots' := ST) (by omega) (by omega) ?_
  exact Kr _ e9 26 _ _ _ _ d_cVw_init_26 hX hP hD hS
noncomputable def m_cVw_init (N : Nat → Nat) (x0 : Nat) (S : CS) (x1 : Nat) : Option (((Nat → Nat) × CS) × Nat × Nat) := m_cVw_init_J0 N x0 S x1
set_option maxHeartbeats 4000000 in
theorem g_cVw_init (l : Launch) (D : va_G) (sz : Nat) {ad : Nat → Nat → Nat} {cc : Nat → ClassId} {sad sav : Nat → Nat} {N : Nat → Nat} {x0 : Nat} {S : CS} {x1 : Nat} {o : (Nat → Nat) × CS} {oc os : Nat} (Heq : m_cVw_init N x0 S x1 = some (o, oc, os)) : Met l ⟨"JoinedTrees$View", "<init>", "(LJoinedTrees$Store;)V"⟩ (Cond.code ⟨"JoinedTrees$View", "<init>", "(LJoinedTrees$Store;)V"⟩ prog_12_method_1_code 2 none :: gb) ({ frames := 1, cells := oc, slots := os, locals := 24 }) (cPc sad sav D (cw ad cc N S) (cty cc) sz [.ref (ad 10 x0), .ref (ad 8 x1)]) (va_Qv (fun _ : Nat → Nat → Nat => True) (fun (u : Nat → Nat → Nat) t => Ext ad N u o.1 ∧ gO D (cw u cc o.1 o.2) (cty cc) (va_A (cw ad cc N S) sz) t) (va_A (cw ad cc N S) sz)) oc os (va_A (cw ad cc N S) sz) := by
  refine Met.ofW (cc := prog_12_method_1_code) (maxL := 2) (ret := none) (by decide) rfl ?_
  intro p e s m args below meth c s₁ B hml hv
  obtain ⟨rfl, hsz, hP, hK, hD0, hev, hE, hN⟩ := hv
  have hx := B.exec
  have hb := B.bytes
  have hr := B.returns
  have hts : ∀ w9 ∈ gb, w9.before [.ref (ad 10 x0), .ref (ad 8 x1)].toArray s = true := fun w9 h => atoms_spec (ws := Cond.code ⟨"JoinedTrees$View", "<init>", "(LJoinedTrees$Store;)V"⟩ prog_12_method_1_code 2 none :: gb) B.pre w9 (List.mem_cons_of_mem _ h)
  have hown : s.vm.findClass "JoinedTrees$View" = some m.cls := findClass_of_methodNamed B.named
  have hlocks := B.notSynchronized
  have hNS := ns_of hP
  subst hsz
  have hD := hD0.self (sz := s.heap.size)
  generalize hAe : va_A (cw ad cc N S) s.heap.size = A at hD hev hE hNS ⊢
  have hA : ∀ q : Nat, s.heap.size ≤ q → A q := fun q h => by rw [← hAe]; exact Or.inr h
  have hS : va_S A s.heap s.heap [] := va_S.rf
  obtain ⟨ls, hl, hle⟩ : ∃ ls : Array Slot, lv_has ls 2 [(0, .ref (ad 10 x0)), (1, .ref (ad 8 x1))] ∧ entryFrame m ([.ref (ad 10 x0), .ref (ad 8 x1)] : List Value).toArray 2 = F0 m 0 ls [] := by
    exact ⟨_, lv_entry (n := 2) _ (Nat.le_of_ble_eq_true rfl), lg_entry_eq ..⟩
  rw [hle]
  have hin : meth.name = "<init>" := (name_of_methodNamed B.named B.method).1
  refine w_cVw_init_J0 (ad0 := ad) (N0 := N) (CT := oc) (ST := os) (cR := oc) (sR := os) hin ⟨hx, hb, hr, hml, hown, hts, hK, hA, hev, hE, hN, hNS⟩ (Nat.le_refl _) (Nat.le_refl _) Heq (fun r h pc ad1 H locs ls hd hX hP hD hS => ?_) _ _ _ _ 0 0 Ext.rf (Nat.zero_add _) (Nat.zero_add _) hP hD hS (lv_sub hl [0, 1] rfl)
  subst h
  exact W.vret hx hb hr (fun t ht hW => ⟨⟨ad1, rfl, trivial, hX, by rw [ht]; exact hP, va_K.moved hW.alike hK, hD⟩, hS.F ht⟩) hS.2.2 hd
noncomputable def m_cRd_init_B30 (N : Nat → Nat) (x0 : Nat) (S : CS) (x1 : Int32) : Option ((((Nat → Nat) × CS × Int32) ⊕ ((Nat → Nat) × CS)) × Nat × Nat) := (if 500 ≤ x1 then some ((.inr (N, S)), 0, 0) else gl x0 (N 1) (nw 10 9 0 N S (fun N_2 S_3 j_4 => ob (m_cVa_init N_2 j_4 S_3) (fun o_5 => gn (S.r 1 0 x0) (N_2 18) (fun j_7 => gd x1 (o_5.z 18 j_7) (some ((.inl (N_2, (o_5.setQ 18 j_7 x1.toNatClampNeg (some j_4)), (x1 + 1))), 0, 0)))))))
theorem d_cRd_init_0 : decode prog_3_method_1_code 0 = .ok (.aload_n 0, 1) := by decide +kernel
theorem d_cRd_init_1 : decode prog_3_method_1_code 1 = .ok (.invokespecial 3, 3) := by decide +kernel
theorem d_cRd_init_4 : decode prog_3_method_1_code 4 = .ok (.aload_n 0, 1) := by decide +kernel
theorem d_cRd_init_5 : decode prog_3_method_1_code 5 = .ok (.sipush 500, 3) := by decide +kernel
theorem d_cRd_init_8 : decode prog_3_method_1_code 8 = .ok (.anewarray 9, 3) := by decide +kernel
theorem d_cRd_init_11 : decode prog_3_method_1_code 11 = .ok (.putfield 11, 3) := by decide +kernel
theorem d_cRd_init_14 : decode prog_3_method_1_code 14 = .ok (.aload_n 0, 1) := by decide +kernel
theorem d_cRd_init_15 : decode prog_3_method_1_code 15 = .ok (.new 17, 3) := by decide +kernel
theorem d_cRd_init_18 : decode prog_3_method_1_code 18 = .ok (.dup, 1) := by decide +kernel
theorem d_cRd_init_19 : decode prog_3_method_1_code 19 = .ok (.sipush 8192, 3) := by decide +kernel
theorem d_cRd_init_22 : decode prog_3_method_1_code 22 = .ok (.invokespecial 19, 3) := by decide +kernel
theorem d_cRd_init_25 : decode prog_3_method_1_code 25 = .ok (.putfield 22, 3) := by decide +kernel
theorem d_cRd_init_28 : decode prog_3_method_1_code 28 = .ok (.iconst 0, 1) := by decide +kernel
theorem d_cRd_init_29 : decode prog_3_method_1_code 29 = .ok (.istore_n 1, 1) := by decide +kernel
theorem d_cRd_init_30 : decode prog_3_method_1_code 30 = .ok (.iload_n 1, 1) := by decide +kernel
theorem d_cRd_init_31 : decode prog_3_method_1_code 31 = .ok (.sipush 500, 3) := by decide +kernel
theorem d_cRd_init_34 : decode prog_3_method_1_code 34 = .ok (.if_icmp .ge 22, 3) := by decide +kernel
theorem d_cRd_init_37 : decode prog_3_method_1_code 37 = .ok (.aload_n 0, 1) := by decide +kernel
theorem d_cRd_init_38 : decode prog_3_method_1_code 38 = .ok (.getfield 11, 3) := by decide +kernel
theorem d_cRd_init_41 : decode prog_3_method_1_code 41 = .ok (.iload_n 1, 1) := by decide +kernel
theorem d_cRd_init_42 : decode prog_3_method_1_code 42 = .ok (.new 9, 3) := by decide +kernel
theorem d_cRd_init_45 : decode prog_3_method_1_code 45 = .ok (.dup, 1) := by decide +kernel
theorem d_cRd_init_46 : decode prog_3_method_1_code 46 = .ok (.invokespecial 26, 3) := by decide +kernel
theorem d_cRd_init_49 : decode prog_3_method_1_code 49 = .ok (.aastore, 1) := by decide +kernel
theorem d_cRd_init_50 : decode prog_3_method_1_code 50 = .ok (.iinc 1 1, 3) := by decide +kernel
theorem d_cRd_init_53 : decode prog_3_method_1_code 53 = .ok (.goto (-23), 3) := by decide +kernel
set_option maxHeartbeats 4000000 in
set_option maxRecDepth 100000 in
theorem w_cRd_init_B30 {p : Program} {l : Launch} {e : Env} {s : State} {m : MethodId} {args : Array Value} {below : List Frame} {meth : Method} {c : Code} {A : Nat → Prop} {D : va_G} {cc : Nat → ClassId} {sad sav : Nat → Nat} {Q : State → Prop} {ad0 : Nat → Nat → Nat} {N0 : Nat → Nat} {CT ST cR sR : Nat} (hin : meth.name = "<init>") (hC : MCc sad sav "JoinedTrees$JsonReader" prog_3_method_1_code 2 none p s m args meth c A D cc) (hCT : CT ≤ cR) (hST : ST ≤ sR) {N : Nat → Nat} {x0 : Nat} {S : CS} {x1 : Int32} {o : (((Nat → Nat) × CS × Int32) ⊕ ((Nat → Nat) × CS))} {oc os : Nat} (Heq : m_cRd_init_B30 N x0 S x1 = some (o, oc, os)) (Ka : ∀ (N : Nat → Nat) (b : CS × Int32), o = .inl (N, b) → ∀ (ad : Nat → Nat → Nat) (H : Heap) (locs : List Loc) (ls : Array Slot), Ext ad0 N0 ad N → va_P D cls (cw ad cc N b.1) H → va_D A (cw ad cc N b.1) → va_S A s.heap H locs → lv_has ls 2 [(0, .ref (ad 1 x0)), (1, .int b.2)] → W p l e ({ frames := 2, cells := cR, slots := sR, locals := 45 }) s m args below meth c H locs CT ST Q (F0 m 30 ls [])) (K0 : ∀ (N : Nat → Nat) (b : CS), o = .inr (N, b) → ∀ (ad : Nat → Nat → Nat) (H : Heap) (locs : List Loc) (ls : Array Slot), Ext ad0 N0 ad N → va_P D cls (cw ad cc N b) H → va_D A (cw ad cc N b) → va_S A s.heap H locs → lv_has ls 2 [(0, .ref (ad 1 x0))] → W p l e ({ frames := 2, cells := cR, slots := sR, locals := 45 }) s m args below meth c H locs CT ST Q (F0 m 56 ls [])) : ∀ (ad : Nat → Nat → Nat) (H : Heap) (locs : List Loc) (ls : Array Slot) (cells slots : Nat), Ext ad0 N0 ad N → cells + oc = CT → slots + os = ST → va_P D cls (cw ad cc N S) H → va_D A (cw ad cc N S) → va_S A s.heap H locs → lv_has ls 2 [(0, .ref (ad 1 x0)), (1, .int x1)] → W p l e ({ frames := 2, cells := cR, slots := sR, locals := 45 }) s m args below meth c H locs cells slots Q (F0 m 30 ls []) := by
  intro ad H locs ls cells slots hX hcu hsu hP hD hS hl
  obtain ⟨hx, hb, hr, hml, hown, hts, hK, hA, hev, hE, hN, hNS⟩ := id hC
  unfold m_cRd_init_B30 at Heq
  refine lv_iload_n hx hb d_cRd_init_30 rfl (lv_at hl 1 rfl) ?_
  refine lv_sipush (v := 500) hx hb d_cRd_init_31 (by decide) ?_
  refine lv_icmp_ge (tgt := 56) hx hb d_cRd_init_34 (by decide) (fun c_1 => ?_) (fun c_1 => ?_)
  · replace Heq := (if_pos c_1).symm.trans Heq
    obtain ⟨e9, e9a, e9b⟩ := tri Heq
    refine W.cs (cells' := CT) (slots' := ST) (by omega) (by omega) ?_
    exact K0 _ _ e9 _ _ _ _ hX hP hD hS (lv_sub hl [0] rfl)
  · replace Heq := (if_neg c_1).symm.trans Heq
    refine lv_aload_n hx hb d_cRd_init_37 rfl (lv_at hl 0 rfl) ?_
    obtain ⟨hl_x0_1, Heq⟩ := gl_some Heq
    refine va_get (D := D) (ci := 1) (v := rv ad 18 (S.r 1 0 x0)) (C := R_Rd) (T := F_Rd) (N := 10) hx hb hts i_Rd hown hK hP (cPos N 1 x0) (cw_obj (k := 1) (by decide) hl_x0_1) rfl 0 (by decide) (hts _ kw_342) (fun _ h9 => h9) rfl d_cRd_init_38 ?_
    refine lv_iload_n hx hb d_cRd_init_41 rfl (lv_at hl 1 rfl) ?_
    obtain ⟨N_2, S_3, j_4, a9, b9, Heq, e9a, e9b, hw9, eN9, eS9, ej9⟩ := nw_some Heq
    refine va_new (D := D) (ci := 9) (fs := [.int 0, .long 0, .null, .int 0, .int 0, .int 0, .int 0, .int 0, .null, .null]) (C := R_Va) (T := F_Va) (N := 10) hx hb hts i_Va t_Va t_Va_ok hown (hts _ kw_286) (hts _ kw_290) (hts _ kw_8) hK hP hD hS hA rfl (by decide +kernel) (Nat.le_trans (m := CT) (by omega) hCT) (Nat.le_trans (m := ST) (by omega) hST) d_cRd_init_42 (fun q9 H hP hD hS => ?_)
    obtain ⟨ad, hX1, hq1, hne1, hl_j_4, hP, hD⟩ := cw_born2 hw9 eN9 eS9 ej9 (by decide) (cell_newO (by decide)) hP hD
    have hX := hX.tr hX1
    have hl : lv_has ls 2 [(0, .ref (ad 1 x0)), (1, .int x1)] := lv_cast hl (by first | rfl | simp only [hq1, hne1 1 x0 (by decide), ne_rv hne1 18 (by decide) (S.r 1 0 x0)])
    refine w_s (st' := [.ref (ad 9 j_4), .int x1, rv ad 18 (S.r 1 0 x0)]) (by first | rfl | simp only [hq1, hne1 1 x0 (by decide), ne_rv hne1 18 (by decide) (S.r 1 0 x0)]) ?_
    have hl_x0_1 := Nat.lt_of_lt_of_le hl_x0_1 (hX1.1 1)
    refine lv_dup hx hb d_cRd_init_45 (by first | rfl | exact rv_cat) ?_
    obtain ⟨o_5, h_6, Heq⟩ := ob_some Heq
    have hFc := fr_all hD hS hA
    refine va_callv (va_runIN (As := []) (rest := [.ref (ad 9 j_4), .int x1, rv ad 18 (S.r 1 0 x0)]) ⟨hx, hb, hml, hown, hts⟩ (g_cVa_init l D H.size (ad := ad) (cc := cc) (sad := sad) (sav := sav) h_6) ⟨cw_n 0 hts kw_293 hev.2.2.2.2.2.2.1.2 kw_8 rfl rfl (by decide +kernel) ⟨Nat.le_of_ble_eq_true rfl, Nat.le_of_ble_eq_true rfl⟩, rfl, hts _ kw_292⟩ ⟨c_blind, fun U hU hW => c_pre hU hW hP hK hD hev hE hN hNS hS hFc⟩ rfl rfl hl.1 rfl (lv_room (by simp only [List.map_cons, List.map_nil, List.sum_cons, List.sum_nil, rv_cat]; exact Nat.le_of_ble_eq_true rfl)) d_cRd_init_46 ⟨(Nat.le_trans (m := CT) (by omega) hCT), (Nat.le_trans (m := ST) (by omega) hST)⟩) hS (fun q _ h => hFc q h) hFc (fun u t H1 locs ht hvm hw hB hz1 hk1 hS => ?_)
    obtain ⟨hP, -, hD1⟩ := hB
    rw [ht] at hP
    have hD := hD1.weaken (fun _ q _ h => hFc q.1 h)
    generalize H1 = H at hP hS ⊢
    obtain ⟨j_7, hj_8, hl_9, Heq⟩ := gn_some Heq
    refine w_s (st' := [.ref (ad 9 j_4), .int x1, .ref (ad 18 j_7)]) (congrArg (fun z9 : Option Nat => [.ref (ad 9 j_4), .int x1, rv ad 18 z9]) hj_8) ?_
    obtain ⟨hi_10, Heq⟩ := gd_some Heq
    refine va_astq hx hb hK hP hD hS (cPos N_2 18 j_7) 6 (cPos N_2 9 j_4) 9 (cw_refs (k := 18) (by decide) hl_9) rfl (cw_obj (k := 9) (by decide) hl_j_4) rfl (i := x1) hi_10 d_cRd_init_49 (fun H locs hP hD hS => ?_)
    have hD := (congrArg (fun w9 => va_D A w9) (cw_setQ (ad := ad) (cc := cc) (S := o_5) (k := 18) (i := x1.toNatClampNeg) (v := (some j_4)) (by decide) hl_9)).mp hD
    have hP := (congrArg (fun w9 => va_P D cls w9 H) (cw_setQ (ad := ad) (cc := cc) (S := o_5) (k := 18) (i := x1.toNatClampNeg) (v := (some j_4)) (by decide) hl_9)).mp hP
    refine lv_iinc (v := x1 + 1) (lv' := [(1, .int (x1 + 1)), (0, .ref (ad 1 x0))]) hx hb d_cRd_init_50 hl (k := 1) rfl rfl (by decide) rfl (fun ls hl => ?_)
    refine lv_goto (tgt := 30) hx hb d_cRd_init_53 (by decide) ?_
    obtain ⟨e9, e9a, e9b⟩ := tri Heq
    refine W.cs (cells' := CT) (slots' := ST) (by omega) (by omega) ?_
    exact Ka _ _ e9 _ _ _ _ hX hP hD hS (lv_sub hl [1, 0] rfl)
noncomputable def m_cRd_init_L30 (N : Nat → Nat) (x0 : Nat) (S : CS) (x1 : Int32) : Option (((Nat → Nat) × CS) × Nat × Nat) := lpA (fun a : (Nat → Nat) × CS × Int32 => m_cRd_init_B30 a.1 x0 a.2.1 a.2.2) FU (N, S, x1)
set_option maxHeartbeats 4000000 in
theorem w_cRd_init_L30 {p : Program} {l : Launch} {e : Env} {s : State} {m : MethodId} {args : Array Value} {below : List Frame} {meth : Method} {c : Code} {A : Nat → Prop} {D : va_G} {cc : Nat → ClassId} {sad sav : Nat → Nat} {Q : State → Prop} {ad0 : Nat → Nat → Nat} {N0 : Nat → Nat} {CT ST cR sR : Nat} (hin : meth.name = "<init>") (hC : MCc sad sav "JoinedTrees$JsonReader" prog_3_method_1_code 2 none p s m args meth c A D cc) (hCT : CT ≤ cR) (hST : ST ≤ sR) {N : Nat → Nat} {x0 : Nat} {S : CS} {x1 : Int32} {o : (Nat → Nat) × CS} {oc os : Nat} (Heq : m_cRd_init_L30 N x0 S x1 = some (o, oc, os)) (K0 : ∀ (N : Nat → Nat) (b : CS), o = (N, b) → ∀ (ad : Nat → Nat → Nat) (H : Heap) (locs : List Loc) (ls : Array Slot), Ext ad0 N0 ad N → va_P D cls (cw ad cc N b) H → va_D A (cw ad cc N b) → va_S A s.heap H locs → lv_has ls 2 [(0, .ref (ad 1 x0))] → W p l e ({ frames := 2, cells := cR, slots := sR, locals := 45 }) s m args below meth c H locs CT ST Q (F0 m 56 ls [])) : ∀ (ad : Nat → Nat → Nat) (H : Heap) (locs : List Loc) (ls : Array Slot) (cells slots : Nat), Ext ad0 N0 ad N → cells + oc = CT → slots + os = ST → va_P D cls (cw ad cc N S) H → va_D A (cw ad cc N S) → va_S A s.heap H locs → lv_has ls 2 [(0, .ref (ad 1 x0)), (1, .int x1)] → W p l e ({ frames := 2, cells := cR, slots := sR, locals := 45 }) s m args below meth c H locs cells slots Q (F0 m 30 ls []) := by
  refine lpA_w2 (e := o) (G := fun (a : (Nat → Nat) × CS × Int32) u9 v9 => ∀ (ad : Nat → Nat → Nat) (H : Heap) (locs : List Loc) (ls : Array Slot) (cells slots : Nat), Ext ad0 N0 ad a.1 → cells + u9 = CT → slots + v9 = ST → va_P D cls (cw ad cc a.1 a.2.1) H → va_D A (cw ad cc a.1 a.2.1) → va_S A s.heap H locs → lv_has ls 2 [(0, .ref (ad 1 x0)), (1, .int a.2.2)] → W p l e ({ frames := 2, cells := cR, slots := sR, locals := 45 }) s m args below meth c H locs cells slots Q (F0 m 30 ls [])) ?_ FU (N, S, x1) oc os Heq
  intro a o1 c9 s9 u9 v9 ho hc9 hs9 Ka Ke ad H locs ls cells slots hX hcu hsu hP hD hS hl
  refine w_cRd_init_B30 (CT := cells + c9) (ST := slots + s9) hin hC (Nat.le_trans (m := CT) (by omega) hCT) (Nat.le_trans (m := ST) (by omega) hST) ho (fun N b h => ?_) (fun N b h => ?_) _ _ _ _ _ _ hX rfl rfl hP hD hS hl
  · obtain ⟨u1, v1, h1, h2, h3⟩ := Ka _ h
    intro ad H locs ls hX hP hD hS hl
    exact h3 ad H locs ls _ _ hX (by omega) (by omega) hP hD hS hl
  · obtain ⟨h1, h2, h3⟩ := Ke _ h
    intro ad H locs ls hX hP hD hS hl
    refine W.cs (cells' := CT) (slots' := ST) (by omega) (by omega) ?_
    exact K0 N b h1.symm ad H locs ls hX hP hD hS hl
noncomputable def m_cRd_init_J0 (N : Nat → Nat) (x0 : Nat) (S : CS) : Option (((Nat → Nat) × CS) × Nat × Nat) := nw 500 18 500 N S (fun N_1 S_2 j_3 => gl x0 (N_1 1) (nw 3 5 0 N_1 (S_2.setR 1 0 x0 (some j_3)) (fun N_4 S_5 j_6 => ov (m_cRw_init N_4 j_6 S_5 8192) (fun N_9 S_10 => ov (m_cRd_init_L30 N_9 x0 (S_10.setR 1 1 x0 (some j_6)) 0) (fun N_12 b_13 => some ((N_12, b_13), 0, 0))))))
theorem d_cRd_init_56 : decode prog_3_method_1_code 56 = .ok (.return_, 1) := by decide +kernel
set_option maxHeartbeats 4000000 in
set_option maxRecDepth 100000 in
theorem w_cRd_init_J0 {p : Program} {l : Launch} {e : Env} {s : State} {m : MethodId} {args : Array Value} {below : List Frame} {meth : Method} {c : Code} {A : Nat → Prop} {D : va_G} {cc : Nat → ClassId} {sad sav : Nat → Nat} {Q : State → Prop} {ad0 : Nat → Nat → Nat} {N0 : Nat → Nat} {CT ST cR sR : Nat} (hin : meth.name = "<init>") (hC : MCc sad sav "JoinedTrees$JsonReader" prog_3_method_1_code 2 none p s m args meth c A D cc) (hCT : CT ≤ cR) (hST : ST ≤ sR) {N : Nat → Nat} {x0 : Nat} {S : CS} {o : (Nat → Nat) × CS} {oc os : Nat} (Heq : m_cRd_init_J0 N x0 S = some (o, oc, os)) (Kr : ∀ r : (Nat → Nat) × CS, o = r → ∀ (pc : Nat) (ad : Nat → Nat → Nat) (H : Heap) (locs : List Loc) (ls : Array Slot), decode prog_3_method_1_code pc = .ok (.return_, 1) → Ext ad0 N0 ad (r.1) → va_P D cls (cw ad cc r.1 r.2) H → va_D A (cw ad cc r.1 r.2) → va_S A s.heap H locs → W p l e ({ frames := 2, cells := cR, slots := sR, locals := 45 }) s m args below meth c H locs CT ST Q (F0 m pc ls [])) : ∀ (ad : Nat → Nat → Nat) (H : Heap) (locs : List Loc) (ls : Array Slot) (cells slots : Nat), Ext ad0 N0 ad N → cells + oc = CT → slots + os = ST → va_P D cls (cw ad cc N S) H → va_D A (cw ad cc N S) → va_S A s.heap H locs → lv_has ls 2 [(0, .ref (ad 1 x0))] → W p l e ({ frames := 2, cells := cR, slots := sR, locals := 45 }) s m args below meth c H locs cells slots Q (F0 m 0 ls []) := by
  intro ad H locs ls cells slots hX hcu hsu hP hD hS hl
  obtain ⟨hx, hb, hr, hml, hown, hts, hK, hA, hev, hE, hN, hNS⟩ := id hC
  unfold m_cRd_init_J0 at Heq
  refine lv_aload_n hx hb d_cRd_init_0 rfl (lv_at hl 0 rfl) ?_
  refine W.objInit hx hb hown (hts _ kw_285) (hts _ kw_34) (hts _ kw_35) rfl (by rw [hml]; exact hl.1) rfl d_cRd_init_1 (Nat.le_of_ble_eq_true rfl) (Nat.le_of_ble_eq_true rfl) ?_
  refine W.eq (g2 := F0 m 4 ls []) rfl ?_
  refine lv_aload_n hx hb d_cRd_init_4 rfl (lv_at hl 0 rfl) ?_
  refine lv_sipush (v := 500) hx hb d_cRd_init_5 (by decide) ?_
  obtain ⟨N_1, S_2, j_3, a9, b9, Heq, e9a, e9b, hw9, eN9, eS9, ej9⟩ := nw_some Heq
  refine va_newq (C := "JoinedTrees$Value") (N' := 500) hx hb hown (hts _ kw_286) hev.2.2.2.2.1.2.2.2.1 hK hP hD hS hA (by decide) (by decide) (by decide) (Nat.le_trans (m := CT) (by omega) hCT) (Nat.le_trans (m := ST) (by omega) hST) d_cRd_init_8 (fun q9 cA9 H hK9 hP hD hS => ?_)
  obtain rfl := cA_eq hK9 6 rfl
  obtain ⟨ad, hX1, hq1, hne1, hl_j_3, hP, hD⟩ := cw_born2 hw9 eN9 eS9 ej9 (by decide) (cell_newQ (by decide)) hP hD
  have hX := hX.tr hX1
  have hl : lv_has ls 2 [(0, .ref (ad 1 x0))] := lv_cast hl (by first | rfl | simp only [hq1, hne1 1 x0 (by decide)])
  refine w_s (st' := [.ref (ad 18 j_3), .ref (ad 1 x0)]) (by first | rfl | simp only [hq1, hne1 1 x0 (by decide)]) ?_
  obtain ⟨hl_x0_1, Heq⟩ := gl_some Heq
  refine w_v (y := rv ad 18 (some j_3)) rfl ?_
  refine va_putF (D := D) (ci := 1) (v := rv ad 18 (some j_3)) (ty := .array (.object "JoinedTrees$Value")) (C := R_Rd) (T := F_Rd) (N := 10) hx hb hts i_Rd t_Rd t_Rd_ok n_Rd hown hK hP hD hS (cPos N_1 1 x0) (cw_obj (k := 1) (by decide) hl_x0_1) rfl 0 (by decide) (hts _ kw_342) (fun _ h9 => h9) rfl hin rfl (by decide +kernel) (rv_nar (Or.inr ⟨_, rfl⟩)) (rv_fit (Or.inr ⟨_, rfl⟩)) (Nat.le_of_ble_eq_true rfl) d_cRd_init_11 (fun H locs hP hD hS => ?_)
  have hD := (congrArg (fun w9 => va_D A w9) (cw_setR (ad := ad) (cc := cc) (S := S_2) (k := 1) (f := 0) (t := 18) (v := (some j_3)) (by decide) rfl hl_x0_1)).mp hD
  have hP := (congrArg (fun w9 => va_P D cls w9 H) (cw_setR (ad := ad) (cc := cc) (S := S_2) (k := 1) (f := 0) (t := 18) (v := (some j_3)) (by decide) rfl hl_x0_1)).mp hP
  refine lv_aload_n hx hb d_cRd_init_14 rfl (lv_at hl 0 rfl) ?_
  obtain ⟨N_4, S_5, j_6, a9, b9, Heq, e9a, e9b, hw9, eN9, eS9, ej9⟩ := nw_some Heq
  refine va_new (D := D) (ci := 5) (fs := [.null, .int 0, .int 0]) (C := R_Rw) (T := F_Rw) (N := 3) hx hb hts i_Rw t_Rw t_Rw_ok hown (hts _ kw_288) (hts _ kw_135) (hts _ kw_4) hK hP hD hS hA rfl (by decide +kernel) (Nat.le_trans (m := CT) (by omega) hCT) (Nat.le_trans (m := ST) (by omega) hST) d_cRd_init_15 (fun q9 H hP hD hS => ?_)
  obtain ⟨ad, hX1, hq1, hne1, hl_j_6, hP, hD⟩ := cw_born2 hw9 eN9 eS9 ej9 (by decide) (cell_newO (by decide)) hP hD
  have hX := hX.tr hX1
  have hl : lv_has ls 2 [(0, .ref (ad 1 x0))] := lv_cast hl (by first | rfl | simp only [hq1, hne1 1 x0 (by decide)])
  refine w_s (st' := [.ref (ad 5 j_6), .ref (ad 1 x0)]) (by first | rfl | simp only [hq1, hne1 1 x0 (by decide)]) ?_
  have hl_j_3 := Nat.lt_of_lt_of_le hl_j_3 (hX1.1 18)
  have hl_x0_1 := Nat.lt_of_lt_of_le hl_x0_1 (hX1.1 1)
  refine lv_dup hx hb d_cRd_init_18 (by first | rfl | exact rv_cat) ?_
  refine lv_sipush (v := 8192) hx hb d_cRd_init_19 (by decide) ?_
  obtain ⟨N_9, S_10, a9, b9, a8, b8, h_8, Heq, e9a, e9b⟩ := ov_some Heq
  have hFc := fr_all hD hS hA
  refine va_callv (va_runI (As := [.int 8192]) (rest := [.ref (ad 5 j_6), .ref (ad 1 x0)]) ⟨hx, hb, hml, hown, hts⟩ (g_cRw_init l D H.size (ad := ad) (cc := cc) (sad := sad) (sav := sav) h_8) (cw_i 1 hts kw_138 kw_289 kw_137 kw_4 rfl rfl rfl (by decide +kernel) ⟨Nat.le_of_ble_eq_true rfl, Nat.le_of_ble_eq_true rfl⟩) ⟨c_blind, fun U hU hW => c_pre hU hW hP hK hD hev hE hN hNS hS hFc⟩ rfl rfl hl.1 rfl (lv_room (Nat.le_of_ble_eq_true rfl)) d_cRd_init_22 ⟨(Nat.le_trans (m := CT) (by omega) hCT), (Nat.le_trans (m := ST) (by omega) hST)⟩) hS (fun q _ h => hFc q h) hFc (fun ad t H1 locs ht hvm hw hB hz1 hk1 hS => ?_)
  obtain ⟨hX1, hP, -, hD1⟩ := hB
  rw [ht] at hP
  have hD := hD1.weaken (fun _ q _ h => hFc q.1 h)
  generalize H1 = H at hP hS ⊢
  have hX := hX.tr hX1
  have hl : lv_has ls 2 [(0, .ref (ad 1 x0))] := lv_cast hl (by first | rfl | simp only [hX1.2 1 x0 hl_x0_1, hX1.2 5 j_6 hl_j_6])
  refine w_s (st' := [.ref (ad 5 j_6), .ref (ad 1 x0)]) (by first | rfl | simp only [hX1.2 1 x0 hl_x0_1, hX1.2 5 j_6 hl_j_6]) ?_
  have hl_j_3 := Nat.lt_of_lt_of_le hl_j_3 (hX1.1 18)
  have hl_x0_1 := Nat.lt_of_lt_of_le hl_x0_1 (hX1.1 1)
  have hl_j_6 := Nat.lt_of_lt_of_le hl_j_6 (hX1.1 5)
  refine w_v (y := rv ad 5 (some j_6)) rfl ?_
  refine va_putF (D := D) (ci := 1) (v := rv ad 5 (some j_6)) (ty := .object "JoinedTrees$Row") (C := R_Rd) (T := F_Rd) (N := 10) hx hb hts i_Rd t_Rd t_Rd_ok n_Rd hown hK hP hD hS (cPos N_9 1 x0) (cw_obj (k := 1) (by decide) hl_x0_1) rfl 1 (by decide) (hts _ kw_344) (fun _ h9 => h9) rfl hin rfl (by decide +kernel) (rv_nar (Or.inl ⟨_, rfl⟩)) (rv_fit (Or.inl ⟨_, rfl⟩)) (Nat.le_of_ble_eq_true rfl) d_cRd_init_25 (fun H locs hP hD hS => ?_)
  have hD := (congrArg (fun w9 => va_D A w9) (cw_setR (ad := ad) (cc := cc) (S := S_10) (k := 1) (f := 1) (t := 5) (v := (some j_6)) (by decide) rfl hl_x0_1)).mp hD
  have hP := (congrArg (fun w9 => va_P D cls w9 H) (cw_setR (ad := ad) (cc := cc) (S := S_10) (k := 1) (f := 1) (t := 5) (v := (some j_6)) (by decide) rfl hl_x0_1)).mp hP
  refine lv_iconst (v := 0) hx hb d_cRd_init_28 (by decide) ?_
  refine lv_istore_n (lv' := [(1, .int 0), (0, .ref (ad 1 x0))]) hx hb d_cRd_init_29 rfl hl (by decide) rfl (fun ls hl => ?_)
  obtain ⟨N_12, b_13, a9, b9, a8, b8, h_14, Heq, e9a, e9b⟩ := ov_some Heq
  refine w_cRd_init_L30 hin hC (Nat.le_trans (m := CT) (by omega) hCT) (Nat.le_trans (m := ST) (by omega) hST) h_14 (fun N9 b9 h9 => ?_) _ _ _ _ _ _ hX rfl rfl hP hD hS (lv_sub hl [1, 0] rfl)
  cases h9
  intro ad H locs ls hX hP hD hS hl
  obtain ⟨e9, e9a, e9b⟩ := tri Heq
  refine W.cs (cells' := CT) (slots' := ST) (by omega) (by omega) ?_
  exact Kr _ e9 56 _ _ _ _ d_cRd_init_56 hX hP hD hS
noncomputable def m_cRd_init (N : Nat → Nat) (x0 : Nat) (S : CS) : Option (((Nat → Nat) × CS) × Nat × Nat) := m_cRd_init_J0 N x0 S
set_option maxHeartbeats 4000000 in
theorem g_cRd_init (l : Launch) (D : va_G) (sz : Nat) {ad : Nat → Nat → Nat} {cc : Nat → ClassId} {sad sav : Nat → Nat} {N : Nat → Nat} {x0 : Nat} {S : CS} {o : (Nat → Nat) × CS} {oc os : Nat} (Heq : m_cRd_init N x0 S = some (o, oc, os)) : Met l ⟨"JoinedTrees$JsonReader", "<init>", "()V"⟩ (Cond.code ⟨"JoinedTrees$JsonReader", "<init>", "()V"⟩ prog_3_method_1_code 2 none :: gb) ({ frames := 2, cells := oc, slots := os, locals := 45 }) (cPc sad sav D (cw ad cc N S) (cty cc) sz [.ref (ad 1 x0)]) (va_Qv (fun _ : Nat → Nat → Nat => True) (fun (u : Nat → Nat → Nat) t => Ext ad N u o.1 ∧ gO D (cw u cc o.1 o.2) (cty cc) (va_A (cw ad cc N S) sz) t) (va_A (cw ad cc N S) sz)) oc os (va_A (cw ad cc N S) sz) := by
  refine Met.ofW (cc := prog_3_method_1_code) (maxL := 2) (ret := none) (by decide) rfl ?_
  intro p e s m args below meth c s₁ B hml hv
  obtain ⟨rfl, hsz, hP, hK, hD0, hev, hE, hN⟩ := hv
  have hx := B.exec
  have hb := B.bytes
  have hr := B.returns
  have hts : ∀ w9 ∈ gb, w9.before [.ref (ad 1 x0)].toArray s = true := fun w9 h => atoms_spec (ws := Cond.code ⟨"JoinedTrees$JsonReader", "<init>", "()V"⟩ prog_3_method_1_code 2 none :: gb) B.pre w9 (List.mem_cons_of_mem _ h)
  have hown : s.vm.findClass "JoinedTrees$JsonReader" = some m.cls := findClass_of_methodNamed B.named
  have hlocks := B.notSynchronized
  have hNS := ns_of hP
  subst hsz
  have hD := hD0.self (sz := s.heap.size)
  generalize hAe : va_A (cw ad cc N S) s.heap.size = A at hD hev hE hNS ⊢
  have hA : ∀ q : Nat, s.heap.size ≤ q → A q := fun q h => by rw [← hAe]; exact Or.inr h
  have hS : va_S A s.heap s.heap [] := va_S.rf
  obtain ⟨ls, hl, hle⟩ : ∃ ls : Array Slot, lv_has ls 2 [(0, .ref (ad 1 x0))] ∧ entryFrame m ([.ref (ad 1 x0)] : List Value).toArray 2 = F0 m 0 ls [] := by
    exact ⟨_, lv_entry (n := 2) _ (Nat.le_of_ble_eq_true rfl), lg_entry_eq ..⟩
  rw [hle]
  have hin : meth.name = "<init>" := (name_of_methodNamed B.named B.method).1
  refine w_cRd_init_J0 (ad0 := ad) (N0 := N) (CT := oc) (ST := os) (cR := oc) (sR := os) hin ⟨hx, hb, hr, hml, hown, hts, hK, hA, hev, hE, hN, hNS⟩ (Nat.le_refl _) (Nat.le_refl _) Heq (fun r h pc ad1 H locs ls hd hX hP hD hS => ?_) _ _ _ _ 0 0 Ext.rf (Nat.zero_add _) (Nat.zero_add _) hP hD hS (lv_sub hl [0] rfl)
  subst h
  exact W.vret hx hb hr (fun t ht hW => ⟨⟨ad1, rfl, trivial, hX, by rw [ht]; exact hP, va_K.moved hW.alike hK, hD⟩, hS.F ht⟩) hS.2.2 hd
noncomputable def m_cWr_init_J0 (N : Nat → Nat) (x0 : Nat) (S : CS) (x1 : Nat) : Option (((Nat → Nat) × CS) × Nat × Nat) := nw 3 5 0 N S (fun N_1 S_2 j_3 => gl x0 (N_1 2) (gl x1 (N_1 10) (ov (m_cRw_init N_1 j_3 S_2 16384) (fun N_6 S_7 => some ((N_6, ((S_7.setR 2 1 x0 (some j_3)).setR 2 0 x0 (some x1))), 0, 0)))))
theorem d_cWr_init_0 : decode prog_4_method_1_code 0 = .ok (.aload_n 0, 1) := by decide +kernel
theorem d_cWr_init_1 : decode prog_4_method_1_code 1 = .ok (.invokespecial 3, 3) := by decide +kernel
theorem d_cWr_init_4 : decode prog_4_method_1_code 4 = .ok (.aload_n 0, 1) := by decide +kernel
theorem d_cWr_init_5 : decode prog_4_method_1_code 5 = .ok (.new 9, 3) := by decide +kernel
theorem d_cWr_init_8 : decode prog_4_method_1_code 8 = .ok (.dup, 1) := by decide +kernel
theorem d_cWr_init_9 : decode prog_4_method_1_code 9 = .ok (.sipush 16384, 3) := by decide +kernel
theorem d_cWr_init_12 : decode prog_4_method_1_code 12 = .ok (.invokespecial 11, 3) := by decide +kernel
theorem d_cWr_init_15 : decode prog_4_method_1_code 15 = .ok (.putfield 14, 3) := by decide +kernel
theorem d_cWr_init_18 : decode prog_4_method_1_code 18 = .ok (.aload_n 0, 1) := by decide +kernel
theorem d_cWr_init_19 : decode prog_4_method_1_code 19 = .ok (.aload_n 1, 1) := by decide +kernel
theorem d_cWr_init_20 : decode prog_4_method_1_code 20 = .ok (.putfield 20, 3) := by decide +kernel
theorem d_cWr_init_23 : decode prog_4_method_1_code 23 = .ok (.return_, 1) := by decide +kernel
set_option maxHeartbeats 4000000 in
set_option maxRecDepth 100000 in
theorem w_cWr_init_J0 {p : Program} {l : Launch} {e : Env} {s : State} {m : MethodId} {args : Array Value} {below : List Frame} {meth : Method} {c : Code} {A : Nat → Prop} {D : va_G} {cc : Nat → ClassId} {sad sav : Nat → Nat} {Q : State → Prop} {ad0 : Nat → Nat → Nat} {N0 : Nat → Nat} {CT ST cR sR : Nat} (hin : meth.name = "<init>") (hC : MCc sad sav "JoinedTrees$JsonWriter" prog_4_method_1_code 2 none p s m args meth c A D cc) (hCT : CT ≤ cR) (hST : ST ≤ sR) {N : Nat → Nat} {x0 : Nat} {S : CS} {x1 : Nat} {o : (Nat → Nat) × CS} {oc os : Nat} (Heq : m_cWr_init_J0 N x0 S x1 = some (o, oc, os)) (Kr : ∀ r : (Nat → Nat) × CS, o = r → ∀ (pc : Nat) (ad : Nat → Nat → Nat) (H : Heap) (locs : List Loc) (ls : Array Slot), decode prog_4_method_1_code pc = .ok (.return_, 1) → Ext ad0 N0 ad (r.1) → va_P D cls (cw ad cc r.1 r.2) H → va_D A (cw ad cc r.1 r.2) → va_S A s.heap H locs → W p l e ({ frames := 2, cells := cR, slots := sR, locals := 45 }) s m args below meth c H locs CT ST Q (F0 m pc ls [])) : ∀ (ad : Nat → Nat → Nat) (H : Heap) (locs : List Loc) (ls : Array Slot) (cells slots : Nat), Ext ad0 N0 ad N → cells + oc = CT → slots + os = ST → va_P D cls (cw ad cc N S) H → va_D A (cw ad cc N S) → va_S A s.heap H locs → lv_has ls 2 [(0, .ref (ad 2 x0)), (1, .ref (ad 10 x1))] → W p l e ({ frames := 2, cells := cR, slots := sR, locals := 45 }) s m args below meth c H locs cells slots Q (F0 m 0 ls []) := by
  intro ad H locs ls cells slots hX hcu hsu hP hD hS hl
  obtain ⟨hx, hb, hr, hml, hown, hts, hK, hA, hev, hE, hN, hNS⟩ := id hC
  unfold m_cWr_init_J0 at Heq
  refine lv_aload_n hx hb d_cWr_init_0 rfl (lv_at hl 0 rfl) ?_
  refine W.objInit hx hb hown (hts _ kw_382) (hts _ kw_34) (hts _ kw_35) rfl (by rw [hml]; exact hl.1) rfl d_cWr_init_1 (Nat.le_of_ble_eq_true rfl) (Nat.le_of_ble_eq_true rfl) ?_
  refine W.eq (g2 := F0 m 4 ls []) rfl ?_
  refine lv_aload_n hx hb d_cWr_init_4 rfl (lv_at hl 0 rfl) ?_
  obtain ⟨N_1, S_2, j_3, a9, b9, Heq, e9a, e9b, hw9, eN9, eS9, ej9⟩ := nw_some Heq
  refine va_new (D := D) (ci := 5) (fs := [.null, .int 0, .int 0]) (C := R_Rw) (T := F_Rw) (N := 3) hx hb hts i_Rw t_Rw t_Rw_ok hown (hts _ kw_383) (hts _ kw_135) (hts _ kw_4) hK hP hD hS hA rfl (by decide +kernel) (Nat.le_trans (m := CT) (by omega) hCT) (Nat.le_trans (m := ST) (by omega) hST) d_cWr_init_5 (fun q9 H hP hD hS => ?_)
  obtain ⟨ad, hX1, hq1, hne1, hl_j_3, hP, hD⟩ := cw_born2 hw9 eN9 eS9 ej9 (by decide) (cell_newO (by decide)) hP hD
  have hX := hX.tr hX1
  have hl : lv_has ls 2 [(0, .ref (ad 2 x0)), (1, .ref (ad 10 x1))] := lv_cast hl (by first | rfl | simp only [hq1, hne1 2 x0 (by decide), hne1 10 x1 (by decide)])
  refine w_s (st' := [.ref (ad 5 j_3), .ref (ad 2 x0)]) (by first | rfl | simp only [hq1, hne1 2 x0 (by decide), hne1 10 x1 (by decide)]) ?_
  refine lv_dup hx hb d_cWr_init_8 (by first | rfl | exact rv_cat) ?_
  refine lv_sipush (v := 16384) hx hb d_cWr_init_9 (by decide) ?_
  obtain ⟨hl_x0_2, Heq⟩ := gl_some Heq
  obtain ⟨hl_x1_10, Heq⟩ := gl_some Heq
  obtain ⟨N_6, S_7, a9, b9, a8, b8, h_5, Heq, e9a, e9b⟩ := ov_some Heq
  have hFc := fr_all hD hS hA
  refine va_callv (va_runI (As := [.int 16384]) (rest := [.ref (ad 5 j_3), .ref (ad 2 x0)]) ⟨hx, hb, hml, hown, hts⟩ (g_cRw_init l D H.size (ad := ad) (cc := cc) (sad := sad) (sav := sav) h_5) (cw_i 1 hts kw_138 kw_384 kw_137 kw_4 rfl rfl rfl (by decide +kernel) ⟨Nat.le_of_ble_eq_true rfl, Nat.le_of_ble_eq_true rfl⟩) ⟨c_blind, fun U hU hW => c_pre hU hW hP hK hD hev hE hN hNS hS hFc⟩ rfl rfl hl.1 rfl (lv_room (Nat.le_of_ble_eq_true rfl)) d_cWr_init_12 ⟨(Nat.le_trans (m := CT) (by omega) hCT), (Nat.le_trans (m := ST) (by omega) hST)⟩) hS (fun q _ h => hFc q h) hFc (fun ad t H1 locs ht hvm hw hB hz1 hk1 hS => ?_)
  obtain ⟨hX1, hP, -, hD1⟩ := hB
  rw [ht] at hP
  have hD := hD1.weaken (fun _ q _ h => hFc q.1 h)
  generalize H1 = H at hP hS ⊢
  have hX := hX.tr hX1
  have hl : lv_has ls 2 [(0, .ref (ad 2 x0)), (1, .ref (ad 10 x1))] := lv_cast hl (by first | rfl | simp only [hX1.2 2 x0 hl_x0_2, hX1.2 10 x1 hl_x1_10, hX1.2 5 j_3 hl_j_3])
  refine w_s (st' := [.ref (ad 5 j_3), .ref (ad 2 x0)]) (by first | rfl | simp only [hX1.2 2 x0 hl_x0_2, hX1.2 10 x1 hl_x1_10, hX1.2 5 j_3 hl_j_3]) ?_
  have hl_j_3 := Nat.lt_of_lt_of_le hl_j_3 (hX1.1 5)
  have hl_x0_2 := Nat.lt_of_lt_of_le hl_x0_2 (hX1.1 2)
  have hl_x1_10 := Nat.lt_of_lt_of_le hl_x1_10 (hX1.1 10)
  refine w_v (y := rv ad 5 (some j_3)) rfl ?_
  refine va_putF (D := D) (ci := 2) (v := rv ad 5 (some j_3)) (ty := .object "JoinedTrees$Row") (C := R_Wr) (T := F_Wr) (N := 2) hx hb hts i_Wr t_Wr t_Wr_ok n_Wr hown hK hP hD hS (cPos N_6 2 x0) (cw_obj (k := 2) (by decide) hl_x0_2) rfl 1 (by decide) (hts _ kw_386) (fun _ h9 => h9) rfl hin rfl (by decide +kernel) (rv_nar (Or.inl ⟨_, rfl⟩)) (rv_fit (Or.inl ⟨_, rfl⟩)) (Nat.le_of_ble_eq_true rfl) d_cWr_init_15 (fun H locs hP hD hS => ?_)
  have hD := (congrArg (fun w9 => va_D A w9) (cw_setR (ad := ad) (cc := cc) (S := S_7) (k := 2) (f := 1) (t := 5) (v := (some j_3)) (by decide) rfl hl_x0_2)).mp hD
  have hP := (congrArg (fun w9 => va_P D cls w9 H) (cw_setR (ad := ad) (cc := cc) (S := S_7) (k := 2) (f := 1) (t := 5) (v := (some j_3)) (by decide) rfl hl_x0_2)).mp hP
  refine lv_aload_n hx hb d_cWr_init_18 rfl (lv_at hl 0 rfl) ?_
  refine lv_aload_n hx hb d_cWr_init_19 rfl (lv_at hl 1 rfl) ?_
  refine w_v (y := rv ad 10 (some x1)) rfl ?_
  refine va_putF (D := D) (ci := 2) (v := rv ad 10 (some x1)) (ty := .object "JoinedTrees$View") (C := R_Wr) (T := F_Wr) (N := 2) hx hb hts i_Wr t_Wr t_Wr_ok n_Wr hown hK hP hD hS (cPos N_6 2 x0) (cw_obj (k := 2) (by decide) hl_x0_2) rfl 0 (by decide) (hts _ kw_385) (fun _ h9 => h9) rfl hin rfl (by decide +kernel) (rv_nar (Or.inl ⟨_, rfl⟩)) (rv_fit (Or.inl ⟨_, rfl⟩)) (Nat.le_of_ble_eq_true rfl) d_cWr_init_20 (fun H locs hP hD hS => ?_)
  have hD := (congrArg (fun w9 => va_D A w9) (cw_setR (ad := ad) (cc := cc) (S := (S_7.setR 2 1 x0 (some j_3))) (k := 2) (f := 0) (t := 10) (v := (some x1)) (by decide) rfl hl_x0_2)).mp hD
  have hP := (congrArg (fun w9 => va_P D cls w9 H) (cw_setR (ad := ad) (cc := cc) (S := (S_7.setR 2 1 x0 (some j_3))) (k := 2) (f := 0) (t := 10) (v := (some x1)) (by decide) rfl hl_x0_2)).mp hP
  obtain ⟨e9, e9a, e9b⟩ := tri Heq
  refine W.cs (cells' := CT) (slots' := ST) (by omega) (by omega) ?_
  exact Kr _ e9 23 _ _ _ _ d_cWr_init_23 hX hP hD hS
noncomputable def m_cWr_init (N : Nat → Nat) (x0 : Nat) (S : CS) (x1 : Nat) : Option (((Nat → Nat) × CS) × Nat × Nat) := m_cWr_init_J0 N x0 S x1
set_option maxHeartbeats 4000000 in
theorem g_cWr_init (l : Launch) (D : va_G) (sz : Nat) {ad : Nat → Nat → Nat} {cc : Nat → ClassId} {sad sav : Nat → Nat} {N : Nat → Nat} {x0 : Nat} {S : CS} {x1 : Nat} {o : (Nat → Nat) × CS} {oc os : Nat} (Heq : m_cWr_init N x0 S x1 = some (o, oc, os)) : Met l ⟨"JoinedTrees$JsonWriter", "<init>", "(LJoinedTrees$View;)V"⟩ (Cond.code ⟨"JoinedTrees$JsonWriter", "<init>", "(LJoinedTrees$View;)V"⟩ prog_4_method_1_code 2 none :: gb) ({ frames := 2, cells := oc, slots := os, locals := 45 }) (cPc sad sav D (cw ad cc N S) (cty cc) sz [.ref (ad 2 x0), .ref (ad 10 x1)]) (va_Qv (fun _ : Nat → Nat → Nat => True) (fun (u : Nat → Nat → Nat) t => Ext ad N u o.1 ∧ gO D (cw u cc o.1 o.2) (cty cc) (va_A (cw ad cc N S) sz) t) (va_A (cw ad cc N S) sz)) oc os (va_A (cw ad cc N S) sz) := by
  refine Met.ofW (cc := prog_4_method_1_code) (maxL := 2) (ret := none) (by decide) rfl ?_
  intro p e s m args below meth c s₁ B hml hv
  obtain ⟨rfl, hsz, hP, hK, hD0, hev, hE, hN⟩ := hv
  have hx := B.exec
  have hb := B.bytes
  have hr := B.returns
  have hts : ∀ w9 ∈ gb, w9.before [.ref (ad 2 x0), .ref (ad 10 x1)].toArray s = true := fun w9 h => atoms_spec (ws := Cond.code ⟨"JoinedTrees$JsonWriter", "<init>", "(LJoinedTrees$View;)V"⟩ prog_4_method_1_code 2 none :: gb) B.pre w9 (List.mem_cons_of_mem _ h)
  have hown : s.vm.findClass "JoinedTrees$JsonWriter" = some m.cls := findClass_of_methodNamed B.named
  have hlocks := B.notSynchronized
  have hNS := ns_of hP
  subst hsz
  have hD := hD0.self (sz := s.heap.size)
  generalize hAe : va_A (cw ad cc N S) s.heap.size = A at hD hev hE hNS ⊢
  have hA : ∀ q : Nat, s.heap.size ≤ q → A q := fun q h => by rw [← hAe]; exact Or.inr h
  have hS : va_S A s.heap s.heap [] := va_S.rf
  obtain ⟨ls, hl, hle⟩ : ∃ ls : Array Slot, lv_has ls 2 [(0, .ref (ad 2 x0)), (1, .ref (ad 10 x1))] ∧ entryFrame m ([.ref (ad 2 x0), .ref (ad 10 x1)] : List Value).toArray 2 = F0 m 0 ls [] := by
    exact ⟨_, lv_entry (n := 2) _ (Nat.le_of_ble_eq_true rfl), lg_entry_eq ..⟩
  rw [hle]
  have hin : meth.name = "<init>" := (name_of_methodNamed B.named B.method).1
  refine w_cWr_init_J0 (ad0 := ad) (N0 := N) (CT := oc) (ST := os) (cR := oc) (sR := os) hin ⟨hx, hb, hr, hml, hown, hts, hK, hA, hev, hE, hN, hNS⟩ (Nat.le_refl _) (Nat.le_refl _) Heq (fun r h pc ad1 H locs ls hd hX hP hD hS => ?_) _ _ _ _ 0 0 Ext.rf (Nat.zero_add _) (Nat.zero_add _) hP hD hS (lv_sub hl [0, 1] rfl)
  subst h
  exact W.vret hx hb hr (fun t ht hW => ⟨⟨ad1, rfl, trivial, hX, by rw [ht]; exact hP, va_K.moved hW.alike hK, hD⟩, hS.F ht⟩) hS.2.2 hd
noncomputable def m_cSv_init_J0 (N : Nat → Nat) (x0 : Nat) (S : CS) (x1 : Nat) (x2 : Nat) : Option (((Nat → Nat) × CS) × Nat × Nat) := nw 8 12 8 N S (fun N_1 S_2 j_3 => gl x0 (N_1 6) (some ((N_1, (((S_2.setR 6 2 x0 (some j_3)).setR 6 0 x0 (some x1)).setR 6 1 x0 (some x2))), 0, 0)))
theorem d_cSv_init_0 : decode prog_8_method_1_code 0 = .ok (.aload_n 0, 1) := by decide +kernel
theorem d_cSv_init_1 : decode prog_8_method_1_code 1 = .ok (.invokespecial 3, 3) := by decide +kernel
theorem d_cSv_init_4 : decode prog_8_method_1_code 4 = .ok (.aload_n 0, 1) := by decide +kernel
theorem d_cSv_init_5 : decode prog_8_method_1_code 5 = .ok (.bipush 8, 2) := by decide +kernel
theorem d_cSv_init_7 : decode prog_8_method_1_code 7 = .ok (.newarray .int, 2) := by decide +kernel
theorem d_cSv_init_9 : decode prog_8_method_1_code 9 = .ok (.putfield 9, 3) := by decide +kernel
theorem d_cSv_init_12 : decode prog_8_method_1_code 12 = .ok (.aload_n 0, 1) := by decide +kernel
theorem d_cSv_init_13 : decode prog_8_method_1_code 13 = .ok (.aload_n 1, 1) := by decide +kernel
theorem d_cSv_init_14 : decode prog_8_method_1_code 14 = .ok (.putfield 15, 3) := by decide +kernel
theorem d_cSv_init_17 : decode prog_8_method_1_code 17 = .ok (.aload_n 0, 1) := by decide +kernel
theorem d_cSv_init_18 : decode prog_8_method_1_code 18 = .ok (.aload_n 2, 1) := by decide +kernel
theorem d_cSv_init_19 : decode prog_8_method_1_code 19 = .ok (.putfield 19, 3) := by decide +kernel
theorem d_cSv_init_22 : decode prog_8_method_1_code 22 = .ok (.return_, 1) := by decide +kernel
set_option maxHeartbeats 4000000 in
set_option maxRecDepth 100000 in
theorem w_cSv_init_J0 {p : Program} {l : Launch} {e : Env} {s : State} {m : MethodId} {args : Array Value} {below : List Frame} {meth : Method} {c : Code} {A : Nat → Prop} {D : va_G} {cc : Nat → ClassId} {sad sav : Nat → Nat} {Q : State → Prop} {ad0 : Nat → Nat → Nat} {N0 : Nat → Nat} {CT ST cR sR : Nat} (hin : meth.name = "<init>") (hC : MCc sad sav "JoinedTrees$Saver" prog_8_method_1_code 3 none p s m args meth c A D cc) (hCT : CT ≤ cR) (hST : ST ≤ sR) {N : Nat → Nat} {x0 : Nat} {S : CS} {x1 : Nat} {x2 : Nat} {o : (Nat → Nat) × CS} {oc os : Nat} (Heq : m_cSv_init_J0 N x0 S x1 x2 = some (o, oc, os)) (Kr : ∀ r : (Nat → Nat) × CS, o = r → ∀ (pc : Nat) (ad : Nat → Nat → Nat) (H : Heap) (locs : List Loc) (ls : Array Slot), decode prog_8_method_1_code pc = .ok (.return_, 1) → Ext ad0 N0 ad (r.1) → va_P D cls (cw ad cc r.1 r.2) H → va_D A (cw ad cc r.1 r.2) → va_S A s.heap H locs → W p l e ({ frames := 1, cells := cR, slots := sR, locals := 24 }) s m args below meth c H locs CT ST Q (F0 m pc ls [])) : ∀ (ad : Nat → Nat → Nat) (H : Heap) (locs : List Loc) (ls : Array Slot) (cells slots : Nat), Ext ad0 N0 ad N → cells + oc = CT → slots + os = ST → va_P D cls (cw ad cc N S) H → va_D A (cw ad cc N S) → va_S A s.heap H locs → lv_has ls 3 [(0, .ref (ad 6 x0)), (1, .ref (ad 8 x1)), (2, .ref (ad 5 x2))] → W p l e ({ frames := 1, cells := cR, slots := sR, locals := 24 }) s m args below meth c H locs cells slots Q (F0 m 0 ls []) := by
  intro ad H locs ls cells slots hX hcu hsu hP hD hS hl
  obtain ⟨hx, hb, hr, hml, hown, hts, hK, hA, hev, hE, hN, hNS⟩ := id hC
  unfold m_cSv_init_J0 at Heq
  refine lv_aload_n hx hb d_cSv_init_0 rfl (lv_at hl 0 rfl) ?_
  refine W.objInit hx hb hown (hts _ kw_400) (hts _ kw_34) (hts _ kw_35) rfl (by rw [hml]; exact hl.1) rfl d_cSv_init_1 (Nat.le_of_ble_eq_true rfl) (Nat.le_of_ble_eq_true rfl) ?_
  refine W.eq (g2 := F0 m 4 ls []) rfl ?_
  refine lv_aload_n hx hb d_cSv_init_4 rfl (lv_at hl 0 rfl) ?_
  refine lv_bipush (v := 8) hx hb d_cSv_init_5 (by decide) ?_
  obtain ⟨N_1, S_2, j_3, a9, b9, Heq, e9a, e9b, hw9, eN9, eS9, ej9⟩ := nw_some Heq
  refine va_newa (atype := .int) (N' := 8) (a0 := (8, .inl (fun _ => 0))) (ty := .int) hx hb (hts _ kw_252) rfl hK hP hD hS hA (fun _ => rfl) (by decide) (by decide) (by decide) (Nat.le_trans (m := CT) (by omega) hCT) (Nat.le_trans (m := ST) (by omega) hST) d_cSv_init_7 (fun q9 cA9 H hK9 hP hD hS => ?_)
  obtain rfl := cA_eq hK9 0 rfl
  obtain ⟨ad, hX1, hq1, hne1, hl_j_3, hP, hD⟩ := cw_born2 hw9 eN9 eS9 ej9 (by decide) (cell_newA (by decide)) hP hD
  have hX := hX.tr hX1
  have hl : lv_has ls 3 [(0, .ref (ad 6 x0)), (1, .ref (ad 8 x1)), (2, .ref (ad 5 x2))] := lv_cast hl (by first | rfl | simp only [hq1, hne1 6 x0 (by decide), hne1 8 x1 (by decide), hne1 5 x2 (by decide)])
  refine w_s (st' := [.ref (ad 12 j_3), .ref (ad 6 x0)]) (by first | rfl | simp only [hq1, hne1 6 x0 (by decide), hne1 8 x1 (by decide), hne1 5 x2 (by decide)]) ?_
  obtain ⟨hl_x0_6, Heq⟩ := gl_some Heq
  refine w_v (y := rv ad 12 (some j_3)) rfl ?_
  refine va_putF (D := D) (ci := 6) (v := rv ad 12 (some j_3)) (ty := .array (.int)) (C := R_Sv) (T := F_Sv) (N := 6) hx hb hts i_Sv t_Sv t_Sv_ok n_Sv hown hK hP hD hS (cPos N_1 6 x0) (cw_obj (k := 6) (by decide) hl_x0_6) rfl 2 (by decide) (hts _ kw_403) (fun _ h9 => h9) rfl hin rfl (by decide +kernel) (rv_nar (Or.inr ⟨_, rfl⟩)) (rv_fit (Or.inr ⟨_, rfl⟩)) (Nat.le_of_ble_eq_true rfl) d_cSv_init_9 (fun H locs hP hD hS => ?_)
  have hD := (congrArg (fun w9 => va_D A w9) (cw_setR (ad := ad) (cc := cc) (S := S_2) (k := 6) (f := 2) (t := 12) (v := (some j_3)) (by decide) rfl hl_x0_6)).mp hD
  have hP := (congrArg (fun w9 => va_P D cls w9 H) (cw_setR (ad := ad) (cc := cc) (S := S_2) (k := 6) (f := 2) (t := 12) (v := (some j_3)) (by decide) rfl hl_x0_6)).mp hP
  refine lv_aload_n hx hb d_cSv_init_12 rfl (lv_at hl 0 rfl) ?_
  refine lv_aload_n hx hb d_cSv_init_13 rfl (lv_at hl 1 rfl) ?_
  refine w_v (y := rv ad 8 (some x1)) rfl ?_
  refine va_putF (D := D) (ci := 6) (v := rv ad 8 (some x1)) (ty := .object "JoinedTrees$Store") (C := R_Sv) (T := F_Sv) (N := 6) hx hb hts i_Sv t_Sv t_Sv_ok n_Sv hown hK hP hD hS (cPos N_1 6 x0) (cw_obj (k := 6) (by decide) hl_x0_6) rfl 0 (by decide) (hts _ kw_401) (fun _ h9 => h9) rfl hin rfl (by decide +kernel) (rv_nar (Or.inl ⟨_, rfl⟩)) (rv_fit (Or.inl ⟨_, rfl⟩)) (Nat.le_of_ble_eq_true rfl) d_cSv_init_14 (fun H locs hP hD hS => ?_)
  have hD := (congrArg (fun w9 => va_D A w9) (cw_setR (ad := ad) (cc := cc) (S := (S_2.setR 6 2 x0 (some j_3))) (k := 6) (f := 0) (t := 8) (v := (some x1)) (by decide) rfl hl_x0_6)).mp hD
  have hP := (congrArg (fun w9 => va_P D cls w9 H) (cw_setR (ad := ad) (cc := cc) (S := (S_2.setR 6 2 x0 (some j_3))) (k := 6) (f := 0) (t := 8) (v := (some x1)) (by decide) rfl hl_x0_6)).mp hP
  refine lv_aload_n hx hb d_cSv_init_17 rfl (lv_at hl 0 rfl) ?_
  refine lv_aload_n hx hb d_cSv_init_18 rfl (lv_at hl 2 rfl) ?_
  refine w_v (y := rv ad 5 (some x2)) rfl ?_
  refine va_putF (D := D) (ci := 6) (v := rv ad 5 (some x2)) (ty := .object "JoinedTrees$Row") (C := R_Sv) (T := F_Sv) (N := 6) hx hb hts i_Sv t_Sv t_Sv_ok n_Sv hown hK hP hD hS (cPos N_1 6 x0) (cw_obj (k := 6) (by decide) hl_x0_6) rfl 1 (by decide) (hts _ kw_402) (fun _ h9 => h9) rfl hin rfl (by decide +kernel) (rv_nar (Or.inl ⟨_, rfl⟩)) (rv_fit (Or.inl ⟨_, rfl⟩)) (Nat.le_of_ble_eq_true rfl) d_cSv_init_19 (fun H locs hP hD hS => ?_)
  have hD := (congrArg (fun w9 => va_D A w9) (cw_setR (ad := ad) (cc := cc) (S := ((S_2.setR 6 2 x0 (some j_3)).setR 6 0 x0 (some x1))) (k := 6) (f := 1) (t := 5) (v := (some x2)) (by decide) rfl hl_x0_6)).mp hD
  have hP := (congrArg (fun w9 => va_P D cls w9 H) (cw_setR (ad := ad) (cc := cc) (S := ((S_2.setR 6 2 x0 (some j_3)).setR 6 0 x0 (some x1))) (k := 6) (f := 1) (t := 5) (v := (some x2)) (by decide) rfl hl_x0_6)).mp hP
  obtain ⟨e9, e9a, e9b⟩ := tri Heq
  refine W.cs (cells' := CT) (slots' := ST) (by omega) (by omega) ?_
  exact Kr _ e9 22 _ _ _ _ d_cSv_init_22 hX hP hD hS
noncomputable def m_cSv_init (N : Nat → Nat) (x0 : Nat) (S : CS) (x1 : Nat) (x2 : Nat) : Option (((Nat → Nat) × CS) × Nat × Nat) := m_cSv_init_J0 N x0 S x1 x2
set_option maxHeartbeats 4000000 in
theorem g_cSv_init (l : Launch) (D : va_G) (sz : Nat) {ad : Nat → Nat → Nat} {cc : Nat → ClassId} {sad sav : Nat → Nat} {N : Nat → Nat} {x0 : Nat} {S : CS} {x1 : Nat} {x2 : Nat} {o : (Nat → Nat) × CS} {oc os : Nat} (Heq : m_cSv_init N x0 S x1 x2 = some (o, oc, os)) : Met l ⟨"JoinedTrees$Saver", "<init>", "(LJoinedTrees$Store;LJoinedTrees$Row;)V"⟩ (Cond.code ⟨"JoinedTrees$Saver", "<init>", "(LJoinedTrees$Store;LJoinedTrees$Row;)V"⟩ prog_8_method_1_code 3 none :: gb) ({ frames := 1, cells := oc, slots := os, locals := 24 }) (cPc sad sav D (cw ad cc N S) (cty cc) sz [.ref (ad 6 x0), .ref (ad 8 x1), .ref (ad 5 x2)]) (va_Qv (fun _ : Nat → Nat → Nat => True) (fun (u : Nat → Nat → Nat) t => Ext ad N u o.1 ∧ gO D (cw u cc o.1 o.2) (cty cc) (va_A (cw ad cc N S) sz) t) (va_A (cw ad cc N S) sz)) oc os (va_A (cw ad cc N S) sz) := by
  refine Met.ofW (cc := prog_8_method_1_code) (maxL := 3) (ret := none) (by decide) rfl ?_
  intro p e s m args below meth c s₁ B hml hv
  obtain ⟨rfl, hsz, hP, hK, hD0, hev, hE, hN⟩ := hv
  have hx := B.exec
  have hb := B.bytes
  have hr := B.returns
  have hts : ∀ w9 ∈ gb, w9.before [.ref (ad 6 x0), .ref (ad 8 x1), .ref (ad 5 x2)].toArray s = true := fun w9 h => atoms_spec (ws := Cond.code ⟨"JoinedTrees$Saver", "<init>", "(LJoinedTrees$Store;LJoinedTrees$Row;)V"⟩ prog_8_method_1_code 3 none :: gb) B.pre w9 (List.mem_cons_of_mem _ h)
  have hown : s.vm.findClass "JoinedTrees$Saver" = some m.cls := findClass_of_methodNamed B.named
  have hlocks := B.notSynchronized
  have hNS := ns_of hP
  subst hsz
  have hD := hD0.self (sz := s.heap.size)
  generalize hAe : va_A (cw ad cc N S) s.heap.size = A at hD hev hE hNS ⊢
  have hA : ∀ q : Nat, s.heap.size ≤ q → A q := fun q h => by rw [← hAe]; exact Or.inr h
  have hS : va_S A s.heap s.heap [] := va_S.rf
  obtain ⟨ls, hl, hle⟩ : ∃ ls : Array Slot, lv_has ls 3 [(0, .ref (ad 6 x0)), (1, .ref (ad 8 x1)), (2, .ref (ad 5 x2))] ∧ entryFrame m ([.ref (ad 6 x0), .ref (ad 8 x1), .ref (ad 5 x2)] : List Value).toArray 3 = F0 m 0 ls [] := by
    exact ⟨_, lv_entry (n := 3) _ (Nat.le_of_ble_eq_true rfl), lg_entry_eq ..⟩
  rw [hle]
  have hin : meth.name = "<init>" := (name_of_methodNamed B.named B.method).1
  refine w_cSv_init_J0 (ad0 := ad) (N0 := N) (CT := oc) (ST := os) (cR := oc) (sR := os) hin ⟨hx, hb, hr, hml, hown, hts, hK, hA, hev, hE, hN, hNS⟩ (Nat.le_refl _) (Nat.le_refl _) Heq (fun r h pc ad1 H locs ls hd hX hP hD hS => ?_) _ _ _ _ 0 0 Ext.rf (Nat.zero_add _) (Nat.zero_add _) hP hD hS (lv_sub hl [0, 1, 2] rfl)
  subst h
  exact W.vret hx hb hr (fun t ht hW => ⟨⟨ad1, rfl, trivial, hX, by rw [ht]; exact hP, va_K.moved hW.alike hK, hD⟩, hS.F ht⟩) hS.2.2 hd
noncomputable def m_cJT_init_B26 (N : Nat → Nat) (x0 : Nat) (S : CS) (x1 : Int32) : Option ((((Nat → Nat) × CS × Int32) ⊕ ((Nat → Nat) × CS)) × Nat × Nat) := (if 8 ≤ x1 then some ((.inr (N, S)), 0, 0) else gl x0 (N 11) (nw 10 4 0 N S (fun N_2 S_3 j_4 => gv (S.r 11 1 x0) (N_2 17) (ov (m_cRp_init N_2 j_4 S_3 x1) (fun N_8 S_9 => gn (S.r 11 1 x0) (N_8 17) (fun j_11 => gd x1 (S_9.z 17 j_11) (some ((.inl (N_8, (S_9.setQ 17 j_11 x1.toNatClampNeg (some j_4)), (x1 + 1))), 0, 0))))))))
theorem d_cJT_init_0 : decode prog_1_method_1_code 0 = .ok (.aload_n 0, 1) := by decide +kernel
theorem d_cJT_init_1 : decode prog_1_method_1_code 1 = .ok (.invokespecial 3, 3) := by decide +kernel
theorem d_cJT_init_4 : decode prog_1_method_1_code 4 = .ok (.aload_n 0, 1) := by decide +kernel
theorem d_cJT_init_5 : decode prog_1_method_1_code 5 = .ok (.new 9, 3) := by decide +kernel
theorem d_cJT_init_8 : decode prog_1_method_1_code 8 = .ok (.dup, 1) := by decide +kernel
theorem d_cJT_init_9 : decode prog_1_method_1_code 9 = .ok (.invokespecial 11, 3) := by decide +kernel
theorem d_cJT_init_12 : decode prog_1_method_1_code 12 = .ok (.putfield 12, 3) := by decide +kernel
theorem d_cJT_init_15 : decode prog_1_method_1_code 15 = .ok (.aload_n 0, 1) := by decide +kernel
theorem d_cJT_init_16 : decode prog_1_method_1_code 16 = .ok (.bipush 8, 2) := by decide +kernel
theorem d_cJT_init_18 : decode prog_1_method_1_code 18 = .ok (.anewarray 16, 3) := by decide +kernel
theorem d_cJT_init_21 : decode prog_1_method_1_code 21 = .ok (.putfield 18, 3) := by decide +kernel
theorem d_cJT_init_24 : decode prog_1_method_1_code 24 = .ok (.iconst 0, 1) := by decide +kernel
theorem d_cJT_init_25 : decode prog_1_method_1_code 25 = .ok (.istore_n 1, 1) := by decide +kernel
theorem d_cJT_init_26 : decode prog_1_method_1_code 26 = .ok (.iload_n 1, 1) := by decide +kernel
theorem d_cJT_init_27 : decode prog_1_method_1_code 27 = .ok (.bipush 8, 2) := by decide +kernel
theorem d_cJT_init_29 : decode prog_1_method_1_code 29 = .ok (.if_icmp .ge 23, 3) := by decide +kernel
theorem d_cJT_init_32 : decode prog_1_method_1_code 32 = .ok (.aload_n 0, 1) := by decide +kernel
theorem d_cJT_init_33 : decode prog_1_method_1_code 33 = .ok (.getfield 18, 3) := by decide +kernel
theorem d_cJT_init_36 : decode prog_1_method_1_code 36 = .ok (.iload_n 1, 1) := by decide +kernel
theorem d_cJT_init_37 : decode prog_1_method_1_code 37 = .ok (.new 16, 3) := by decide +kernel
theorem d_cJT_init_40 : decode prog_1_method_1_code 40 = .ok (.dup, 1) := by decide +kernel
theorem d_cJT_init_41 : decode prog_1_method_1_code 41 = .ok (.iload_n 1, 1) := by decide +kernel
theorem d_cJT_init_42 : decode prog_1_method_1_code 42 = .ok (.invokespecial 22, 3) := by decide +kernel
theorem d_cJT_init_45 : decode prog_1_method_1_code 45 = .ok (.aastore, 1) := by decide +kernel
theorem d_cJT_init_46 : decode prog_1_method_1_code 46 = .ok (.iinc 1 1, 3) := by decide +kernel
theorem d_cJT_init_49 : decode prog_1_method_1_code 49 = .ok (.goto (-23), 3) := by decide +kernel
set_option maxHeartbeats 4000000 in
set_option maxRecDepth 100000 in
theorem w_cJT_init_B26 {p : Program} {l : Launch} {e : Env} {s : State} {m : MethodId} {args : Array Value} {below : List Frame} {meth : Method} {c : Code} {A : Nat → Prop} {D : va_G} {cc : Nat → ClassId} {sad sav : Nat → Nat} {Q : State → Prop} {ad0 : Nat → Nat → Nat} {N0 : Nat → Nat} {CT ST cR sR : Nat} (hin : meth.name = "<init>") (hC : MCc sad sav "JoinedTrees" prog_1_method_1_code 2 none p s m args meth c A D cc) (hCT : CT ≤ cR) (hST : ST ≤ sR) {N : Nat → Nat} {x0 : Nat} {S : CS} {x1 : Int32} {o : (((Nat → Nat) × CS × Int32) ⊕ ((Nat → Nat) × CS))} {oc os : Nat} (Heq : m_cJT_init_B26 N x0 S x1 = some (o, oc, os)) (Ka : ∀ (N : Nat → Nat) (b : CS × Int32), o = .inl (N, b) → ∀ (ad : Nat → Nat → Nat) (H : Heap) (locs : List Loc) (ls : Array Slot), Ext ad0 N0 ad N → va_P D cls (cw ad cc N b.1) H → va_D A (cw ad cc N b.1) → va_S A s.heap H locs → lv_has ls 2 [(0, .ref (ad 11 x0)), (1, .int b.2)] → W p l e ({ frames := 3, cells := cR, slots := sR, locals := 69 }) s m args below meth c H locs CT ST Q (F0 m 26 ls [])) (K0 : ∀ (N : Nat → Nat) (b : CS), o = .inr (N, b) → ∀ (ad : Nat → Nat → Nat) (H : Heap) (locs : List Loc) (ls : Array Slot), Ext ad0 N0 ad N → va_P D cls (cw ad cc N b) H → va_D A (cw ad cc N b) → va_S A s.heap H locs → lv_has ls 2 [(0, .ref (ad 11 x0))] → W p l e ({ frames := 3, cells := cR, slots := sR, locals := 69 }) s m args below meth c H locs CT ST Q (F0 m 52 ls [])) : ∀ (ad : Nat → Nat → Nat) (H : Heap) (locs : List Loc) (ls : Array Slot) (cells slots : Nat), Ext ad0 N0 ad N → cells + oc = CT → slots + os = ST → va_P D cls (cw ad cc N S) H → va_D A (cw ad cc N S) → va_S A s.heap H locs → lv_has ls 2 [(0, .ref (ad 11 x0)), (1, .int x1)] → W p l e ({ frames := 3, cells := cR, slots := sR, locals := 69 }) s m args below meth c H locs cells slots Q (F0 m 26 ls []) := by
  intro ad H locs ls cells slots hX hcu hsu hP hD hS hl
  obtain ⟨hx, hb, hr, hml, hown, hts, hK, hA, hev, hE, hN, hNS⟩ := id hC
  unfold m_cJT_init_B26 at Heq
  refine lv_iload_n hx hb d_cJT_init_26 rfl (lv_at hl 1 rfl) ?_
  refine lv_bipush (v := 8) hx hb d_cJT_init_27 (by decide) ?_
  refine lv_icmp_ge (tgt := 52) hx hb d_cJT_init_29 (by decide) (fun c_1 => ?_) (fun c_1 => ?_)
  · replace Heq := (if_pos c_1).symm.trans Heq
    obtain ⟨e9, e9a, e9b⟩ := tri Heq
    refine W.cs (cells' := CT) (slots' := ST) (by omega) (by omega) ?_
    exact K0 _ _ e9 _ _ _ _ hX hP hD hS (lv_sub hl [0] rfl)
  · replace Heq := (if_neg c_1).symm.trans Heq
    refine lv_aload_n hx hb d_cJT_init_32 rfl (lv_at hl 0 rfl) ?_
    obtain ⟨hl_x0_11, Heq⟩ := gl_some Heq
    refine va_get (D := D) (ci := 11) (v := rv ad 17 (S.r 11 1 x0)) (C := R_JT) (T := F_JT) (N := 13) hx hb hts i_JT hown hK hP (cPos N 11 x0) (cw_obj (k := 11) (by decide) hl_x0_11) rfl 1 (by decide) (hts _ kw_422) (fun _ h9 => h9) rfl d_cJT_init_33 ?_
    refine lv_iload_n hx hb d_cJT_init_36 rfl (lv_at hl 1 rfl) ?_
    obtain ⟨N_2, S_3, j_4, a9, b9, Heq, e9a, e9b, hw9, eN9, eS9, ej9⟩ := nw_some Heq
    refine va_new (D := D) (ci := 4) (fs := [.int 0, .null, .null, .null, .null, .int 0, .int 0, .int 0, .int 0, .int 0]) (C := R_Rp) (T := F_Rp) (N := 10) hx hb hts i_Rp t_Rp t_Rp_ok hown (hts _ kw_192) (hts _ kw_194) (hts _ kw_5) hK hP hD hS hA rfl (by decide +kernel) (Nat.le_trans (m := CT) (by omega) hCT) (Nat.le_trans (m := ST) (by omega) hST) d_cJT_init_37 (fun q9 H hP hD hS => ?_)
    obtain ⟨ad, hX1, hq1, hne1, hl_j_4, hP, hD⟩ := cw_born2 hw9 eN9 eS9 ej9 (by decide) (cell_newO (by decide)) hP hD
    have hX := hX.tr hX1
    have hl : lv_has ls 2 [(0, .ref (ad 11 x0)), (1, .int x1)] := lv_cast hl (by first | rfl | simp only [hq1, hne1 11 x0 (by decide), ne_rv hne1 17 (by decide) (S.r 11 1 x0)])
    refine w_s (st' := [.ref (ad 4 j_4), .int x1, rv ad 17 (S.r 11 1 x0)]) (by first | rfl | simp only [hq1, hne1 11 x0 (by decide), ne_rv hne1 17 (by decide) (S.r 11 1 x0)]) ?_
    have hl_x0_11 := Nat.lt_of_lt_of_le hl_x0_11 (hX1.1 11)
    refine lv_dup hx hb d_cJT_init_40 (by first | rfl | exact rv_cat) ?_
    refine lv_iload_n hx hb d_cJT_init_41 rfl (lv_at hl 1 rfl) ?_
    obtain ⟨hv_5, Heq⟩ := gv_some Heq
    obtain ⟨N_8, S_9, a9, b9, a8, b8, h_7, Heq, e9a, e9b⟩ := ov_some Heq
    have hFc := fr_all hD hS hA
    refine va_callv (va_runI (As := [.int x1]) (rest := [.ref (ad 4 j_4), .int x1, rv ad 17 (S.r 11 1 x0)]) ⟨hx, hb, hml, hown, hts⟩ (g_cRp_init l D H.size (ad := ad) (cc := cc) (sad := sad) (sav := sav) h_7) (cw_i 1 hts kw_197 kw_195 kw_196 kw_5 rfl rfl rfl (by decide +kernel) ⟨Nat.le_of_ble_eq_true rfl, Nat.le_of_ble_eq_true rfl⟩) ⟨c_blind, fun U hU hW => c_pre hU hW hP hK hD hev hE hN hNS hS hFc⟩ rfl rfl hl.1 rfl (lv_room (by simp only [List.map_cons, List.map_nil, List.sum_cons, List.sum_nil, rv_cat]; exact Nat.le_of_ble_eq_true rfl)) d_cJT_init_42 ⟨(Nat.le_trans (m := CT) (by omega) hCT), (Nat.le_trans (m := ST) (by omega) hST)⟩) hS (fun q _ h => hFc q h) hFc (fun ad t H1 locs ht hvm hw hB hz1 hk1 hS => ?_)
    obtain ⟨hX1, hP, -, hD1⟩ := hB
    rw [ht] at hP
    have hD := hD1.weaken (fun _ q _ h => hFc q.1 h)
    generalize H1 = H at hP hS ⊢
    have hX := hX.tr hX1
    have hl : lv_has ls 2 [(0, .ref (ad 11 x0)), (1, .int x1)] := lv_cast hl (by first | rfl | simp only [hX1.2 11 x0 hl_x0_11, hX1.2 4 j_4 hl_j_4, hX1.rv (k := 17) (x := S.r 11 1 x0) hv_5])
    refine w_s (st' := [.ref (ad 4 j_4), .int x1, rv ad 17 (S.r 11 1 x0)]) (by first | rfl | simp only [hX1.2 11 x0 hl_x0_11, hX1.2 4 j_4 hl_j_4, hX1.rv (k := 17) (x := S.r 11 1 x0) hv_5]) ?_
    have hl_x0_11 := Nat.lt_of_lt_of_le hl_x0_11 (hX1.1 11)
    have hl_j_4 := Nat.lt_of_lt_of_le hl_j_4 (hX1.1 4)
    have hv_5 := fun j9 q9 => Nat.lt_of_lt_of_le (hv_5 j9 q9) (hX1.1 17)
    obtain ⟨j_11, hj_12, hl_13, Heq⟩ := gn_some Heq
    refine w_s (st' := [.ref (ad 4 j_4), .int x1, .ref (ad 17 j_11)]) (congrArg (fun z9 : Option Nat => [.ref (ad 4 j_4), .int x1, rv ad 17 z9]) hj_12) ?_
    obtain ⟨hi_14, Heq⟩ := gd_some Heq
    refine va_astq hx hb hK hP hD hS (cPos N_8 17 j_11) 5 (cPos N_8 4 j_4) 4 (cw_refs (k := 17) (by decide) hl_13) rfl (cw_obj (k := 4) (by decide) hl_j_4) rfl (i := x1) hi_14 d_cJT_init_45 (fun H locs hP hD hS => ?_)
    have hD := (congrArg (fun w9 => va_D A w9) (cw_setQ (ad := ad) (cc := cc) (S := S_9) (k := 17) (i := x1.toNatClampNeg) (v := (some j_4)) (by decide) hl_13)).mp hD
    have hP := (congrArg (fun w9 => va_P D cls w9 H) (cw_setQ (ad := ad) (cc := cc) (S := S_9) (k := 17) (i := x1.toNatClampNeg) (v := (some j_4)) (by decide) hl_13)).mp hP
    refine lv_iinc (v := x1 + 1) (lv' := [(1, .int (x1 + 1)), (0, .ref (ad 11 x0))]) hx hb d_cJT_init_46 hl (k := 1) rfl rfl (by decide) rfl (fun ls hl => ?_)
    refine lv_goto (tgt := 26) hx hb d_cJT_init_49 (by decide) ?_
    obtain ⟨e9, e9a, e9b⟩ := tri Heq
    refine W.cs (cells' := CT) (slots' := ST) (by omega) (by omega) ?_
    exact Ka _ _ e9 _ _ _ _ hX hP hD hS (lv_sub hl [1, 0] rfl)
noncomputable def m_cJT_init_L26 (N : Nat → Nat) (x0 : Nat) (S : CS) (x1 : Int32) : Option (((Nat → Nat) × CS) × Nat × Nat) := lpA (fun a : (Nat → Nat) × CS × Int32 => m_cJT_init_B26 a.1 x0 a.2.1 a.2.2) FU (N, S, x1)
set_option maxHeartbeats 4000000 in
theorem w_cJT_init_L26 {p : Program} {l : Launch} {e : Env} {s : State} {m : MethodId} {args : Array Value} {below : List Frame} {meth : Method} {c : Code} {A : Nat → Prop} {D : va_G} {cc : Nat → ClassId} {sad sav : Nat → Nat} {Q : State → Prop} {ad0 : Nat → Nat → Nat} {N0 : Nat → Nat} {CT ST cR sR : Nat} (hin : meth.name = "<init>") (hC : MCc sad sav "JoinedTrees" prog_1_method_1_code 2 none p s m args meth c A D cc) (hCT : CT ≤ cR) (hST : ST ≤ sR) {N : Nat → Nat} {x0 : Nat} {S : CS} {x1 : Int32} {o : (Nat → Nat) × CS} {oc os : Nat} (Heq : m_cJT_init_L26 N x0 S x1 = some (o, oc, os)) (K0 : ∀ (N : Nat → Nat) (b : CS), o = (N, b) → ∀ (ad : Nat → Nat → Nat) (H : Heap) (locs : List Loc) (ls : Array Slot), Ext ad0 N0 ad N → va_P D cls (cw ad cc N b) H → va_D A (cw ad cc N b) → va_S A s.heap H locs → lv_has ls 2 [(0, .ref (ad 11 x0))] → W p l e ({ frames := 3, cells := cR, slots := sR, locals := 69 }) s m args below meth c H locs CT ST Q (F0 m 52 ls [])) : ∀ (ad : Nat → Nat → Nat) (H : Heap) (locs : List Loc) (ls : Array Slot) (cells slots : Nat), Ext ad0 N0 ad N → cells + oc = CT → slots + os = ST → va_P D cls (cw ad cc N S) H → va_D A (cw ad cc N S) → va_S A s.heap H locs → lv_has ls 2 [(0, .ref (ad 11 x0)), (1, .int x1)] → W p l e ({ frames := 3, cells := cR, slots := sR, locals := 69 }) s m args below meth c H locs cells slots Q (F0 m 26 ls []) := by
  refine lpA_w2 (e := o) (G := fun (a : (Nat → Nat) × CS × Int32) u9 v9 => ∀ (ad : Nat → Nat → Nat) (H : Heap) (locs : List Loc) (ls : Array Slot) (cells slots : Nat), Ext ad0 N0 ad a.1 → cells + u9 = CT → slots + v9 = ST → va_P D cls (cw ad cc a.1 a.2.1) H → va_D A (cw ad cc a.1 a.2.1) → va_S A s.heap H locs → lv_has ls 2 [(0, .ref (ad 11 x0)), (1, .int a.2.2)] → W p l e ({ frames := 3, cells := cR, slots := sR, locals := 69 }) s m args below meth c H locs cells slots Q (F0 m 26 ls [])) ?_ FU (N, S, x1) oc os Heq
  intro a o1 c9 s9 u9 v9 ho hc9 hs9 Ka Ke ad H locs ls cells slots hX hcu hsu hP hD hS hl
  refine w_cJT_init_B26 (CT := cells + c9) (ST := slots + s9) hin hC (Nat.le_trans (m := CT) (by omega) hCT) (Nat.le_trans (m := ST) (by omega) hST) ho (fun N b h => ?_) (fun N b h => ?_) _ _ _ _ _ _ hX rfl rfl hP hD hS hl
  · obtain ⟨u1, v1, h1, h2, h3⟩ := Ka _ h
    intro ad H locs ls hX hP hD hS hl
    exact h3 ad H locs ls _ _ hX (by omega) (by omega) hP hD hS hl
  · obtain ⟨h1, h2, h3⟩ := Ke _ h
    intro ad H locs ls hX hP hD hS hl
    refine W.cs (cells' := CT) (slots' := ST) (by omega) (by omega) ?_
    exact K0 N b h1.symm ad H locs ls hX hP hD hS hl
noncomputable def m_cJT_init_J0 (N : Nat → Nat) (x0 : Nat) (S : CS) : Option (((Nat → Nat) × CS) × Nat × Nat) := nw 6 8 0 N S (fun N_1 S_2 j_3 => gl x0 (N_1 11) (ov (m_cSt_init N_1 j_3 S_2) (fun N_6 S_7 => nw 8 17 8 N_6 (S_7.setR 11 0 x0 (some j_3)) (fun N_9 S_10 j_11 => ov (m_cJT_init_L26 N_9 x0 (S_10.setR 11 1 x0 (some j_11)) 0) (fun N_12 b_13 => nw 5 10 0 N_12 b_13 (fun N_15 S_16 j_17 => gl x0 (N_15 11) (gn (S_16.r 11 0 x0) (N_15 8) (fun j_18 => ov (m_cVw_init N_15 j_17 S_16 j_18) (fun N_23 S_24 => nw 10 1 0 N_23 (S_24.setR 11 2 x0 (some j_17)) (fun N_26 S_27 j_28 => ov (m_cRd_init N_26 j_28 S_27) (fun N_31 S_32 => nw 2 2 0 N_31 (S_32.setR 11 3 x0 (some j_28)) (fun N_34 S_35 j_36 => gn (S_35.r 11 2 x0) (N_34 10) (fun j_37 => ov (m_cWr_init N_34 j_36 S_35 j_37) (fun N_42 S_43 => nw 3 5 0 N_42 (S_43.setR 11 4 x0 (some j_36)) (fun N_45 S_46 j_47 => ov (m_cRw_init N_45 j_47 S_46 224582) (fun N_50 S_51 => nw 6 6 0 N_50 (S_51.setR 11 6 x0 (some j_47)) (fun N_53 S_54 j_55 => gn (S_54.r 11 6 x0) (N_53 5) (fun j_56 => gn (S_54.r 11 0 x0) (N_53 8) (fun j_59 => ov (m_cSv_init N_53 j_55 S_54 j_59 j_56) (fun N_64 S_65 => nw 3 5 0 N_64 (S_65.setR 11 5 x0 (some j_55)) (fun N_67 S_68 j_69 => ov (m_cRw_init N_67 j_69 S_68 8192) (fun N_72 S_73 => nw 3 5 0 N_72 (S_73.setR 11 8 x0 (some j_69)) (fun N_75 S_76 j_77 => ov (m_cRw_init N_75 j_77 S_76 8192) (fun N_80 S_81 => nw 3 5 0 N_80 (S_81.setR 11 9 x0 (some j_77)) (fun N_83 S_84 j_85 => ov (m_cRw_init N_83 j_85 S_84 8192) (fun N_88 S_89 => some ((N_88, ((S_89.setR 11 10 x0 (some j_85)).setI 11 12 x0 (-1))), 0, 0)))))))))))))))))))))))))))
theorem d_cJT_init_52 : decode prog_1_method_1_code 52 = .ok (.aload_n 0, 1) := by decide +kernel
theorem d_cJT_init_53 : decode prog_1_method_1_code 53 = .ok (.new 25, 3) := by decide +kernel
theorem d_cJT_init_56 : decode prog_1_method_1_code 56 = .ok (.dup, 1) := by decide +kernel
theorem d_cJT_init_57 : decode prog_1_method_1_code 57 = .ok (.aload_n 0, 1) := by decide +kernel
theorem d_cJT_init_58 : decode prog_1_method_1_code 58 = .ok (.getfield 12, 3) := by decide +kernel
theorem d_cJT_init_61 : decode prog_1_method_1_code 61 = .ok (.invokespecial 27, 3) := by decide +kernel
theorem d_cJT_init_64 : decode prog_1_method_1_code 64 = .ok (.putfield 30, 3) := by decide +kernel
theorem d_cJT_init_67 : decode prog_1_method_1_code 67 = .ok (.aload_n 0, 1) := by decide +kernel
theorem d_cJT_init_68 : decode prog_1_method_1_code 68 = .ok (.new 34, 3) := by decide +kernel
theorem d_cJT_init_71 : decode prog_1_method_1_code 71 = .ok (.dup, 1) := by decide +kernel
theorem d_cJT_init_72 : decode prog_1_method_1_code 72 = .ok (.invokespecial 36, 3) := by decide +kernel
theorem d_cJT_init_75 : decode prog_1_method_1_code 75 = .ok (.putfield 37, 3) := by decide +kernel
theorem d_cJT_init_78 : decode prog_1_method_1_code 78 = .ok (.aload_n 0, 1) := by decide +kernel
theorem d_cJT_init_79 : decode prog_1_method_1_code 79 = .ok (.new 41, 3) := by decide +kernel
theorem d_cJT_init_82 : decode prog_1_method_1_code 82 = .ok (.dup, 1) := by decide +kernel
theorem d_cJT_init_83 : decode prog_1_method_1_code 83 = .ok (.aload_n 0, 1) := by decide +kernel
theorem d_cJT_init_84 : decode prog_1_method_1_code 84 = .ok (.getfield 30, 3) := by decide +kernel
theorem d_cJT_init_87 : decode prog_1_method_1_code 87 = .ok (.invokespecial 43, 3) := by decide +kernel
theorem d_cJT_init_90 : decode prog_1_method_1_code 90 = .ok (.putfield 46, 3) := by decide +kernel
theorem d_cJT_init_93 : decode prog_1_method_1_code 93 = .ok (.aload_n 0, 1) := by decide +kernel
theorem d_cJT_init_94 : decode prog_1_method_1_code 94 = .ok (.new 50, 3) := by decide +kernel
theorem d_cJT_init_97 : decode prog_1_method_1_code 97 = .ok (.dup, 1) := by decide +kernel
theorem d_cJT_init_98 : decode prog_1_method_1_code 98 = .ok (.ldc 52, 2) := by decide +kernel
theorem d_cJT_init_100 : decode prog_1_method_1_code 100 = .ok (.invokespecial 53, 3) := by decide +kernel
theorem d_cJT_init_103 : decode prog_1_method_1_code 103 = .ok (.putfield 54, 3) := by decide +kernel
theorem d_cJT_init_106 : decode prog_1_method_1_code 106 = .ok (.aload_n 0, 1) := by decide +kernel
theorem d_cJT_init_107 : decode prog_1_method_1_code 107 = .ok (.new 58, 3) := by decide +kernel
theorem d_cJT_init_110 : decode prog_1_method_1_code 110 = .ok (.dup, 1) := by decide +kernel
theorem d_cJT_init_111 : decode prog_1_method_1_code 111 = .ok (.aload_n 0, 1) := by decide +kernel
theorem d_cJT_init_112 : decode prog_1_method_1_code 112 = .ok (.getfield 12, 3) := by decide +kernel
theorem d_cJT_init_115 : decode prog_1_method_1_code 115 = .ok (.aload_n 0, 1) := by decide +kernel
theorem d_cJT_init_116 : decode prog_1_method_1_code 116 = .ok (.getfield 54, 3) := by decide +kernel
theorem d_cJT_init_119 : decode prog_1_method_1_code 119 = .ok (.invokespecial 60, 3) := by decide +kernel
theorem d_cJT_init_122 : decode prog_1_method_1_code 122 = .ok (.putfield 63, 3) := by decide +kernel
theorem d_cJT_init_125 : decode prog_1_method_1_code 125 = .ok (.aload_n 0, 1) := by decide +kernel
theorem d_cJT_init_126 : decode prog_1_method_1_code 126 = .ok (.new 50, 3) := by decide +kernel
theorem d_cJT_init_129 : decode prog_1_method_1_code 129 = .ok (.dup, 1) := by decide +kernel
theorem d_cJT_init_130 : decode prog_1_method_1_code 130 = .ok (.sipush 8192, 3) := by decide +kernel
theorem d_cJT_init_133 : decode prog_1_method_1_code 133 = .ok (.invokespecial 53, 3) := by decide +kernel
theorem d_cJT_init_136 : decode prog_1_method_1_code 136 = .ok (.putfield 67, 3) := by decide +kernel
theorem d_cJT_init_139 : decode prog_1_method_1_code 139 = .ok (.aload_n 0, 1) := by decide +kernel
theorem d_cJT_init_140 : decode prog_1_method_1_code 140 = .ok (.new 50, 3) := by decide +kernel
theorem d_cJT_init_143 : decode prog_1_method_1_code 143 = .ok (.dup, 1) := by decide +kernel
theorem d_cJT_init_144 : decode prog_1_method_1_code 144 = .ok (.sipush 8192, 3) := by decide +kernel
theorem d_cJT_init_147 : decode prog_1_method_1_code 147 = .ok (.invokespecial 53, 3) := by decide +kernel
theorem d_cJT_init_150 : decode prog_1_method_1_code 150 = .ok (.putfield 70, 3) := by decide +kernel
theorem d_cJT_init_153 : decode prog_1_method_1_code 153 = .ok (.aload_n 0, 1) := by decide +kernel
theorem d_cJT_init_154 : decode prog_1_method_1_code 154 = .ok (.new 50, 3) := by decide +kernel
theorem d_cJT_init_157 : decode prog_1_method_1_code 157 = .ok (.dup, 1) := by decide +kernel
theorem d_cJT_init_158 : decode prog_1_method_1_code 158 = .ok (.sipush 8192, 3) := by decide +kernel
theorem d_cJT_init_161 : decode prog_1_method_1_code 161 = .ok (.invokespecial 53, 3) := by decide +kernel
theorem d_cJT_init_164 : decode prog_1_method_1_code 164 = .ok (.putfield 73, 3) := by decide +kernel
theorem d_cJT_init_167 : decode prog_1_method_1_code 167 = .ok (.aload_n 0, 1) := by decide +kernel
theorem d_cJT_init_168 : decode prog_1_method_1_code 168 = .ok (.iconst (-1), 1) := by decide +kernel
theorem d_cJT_init_169 : decode prog_1_method_1_code 169 = .ok (.putfield 76, 3) := by decide +kernel
theorem d_cJT_init_172 : decode prog_1_method_1_code 172 = .ok (.return_, 1) := by decide +kernel
set_option maxHeartbeats 4000000 in
set_option maxRecDepth 100000 in
theorem w_cJT_init_J0 {p : Program} {l : Launch} {e : Env} {s : State} {m : MethodId} {args : Array Value} {below : List Frame} {meth : Method} {c : Code} {A : Nat → Prop} {D : va_G} {cc : Nat → ClassId} {sad sav : Nat → Nat} {Q : State → Prop} {ad0 : Nat → Nat → Nat} {N0 : Nat → Nat} {CT ST cR sR : Nat} (hin : meth.name = "<init>") (hC : MCc sad sav "JoinedTrees" prog_1_method_1_code 2 none p s m args meth c A D cc) (hCT : CT ≤ cR) (hST : ST ≤ sR) {N : Nat → Nat} {x0 : Nat} {S : CS} {o : (Nat → Nat) × CS} {oc os : Nat} (Heq : m_cJT_init_J0 N x0 S = some (o, oc, os)) (Kr : ∀ r : (Nat → Nat) × CS, o = r → ∀ (pc : Nat) (ad : Nat → Nat → Nat) (H : Heap) (locs : List Loc) (ls : Array Slot), decode prog_1_method_1_code pc = .ok (.return_, 1) → Ext ad0 N0 ad (r.1) → va_P D cls (cw ad cc r.1 r.2) H → va_D A (cw ad cc r.1 r.2) → va_S A s.heap H locs → W p l e ({ frames := 3, cells := cR, slots := sR, locals := 69 }) s m args below meth c H locs CT ST Q (F0 m pc ls [])) : ∀ (ad : Nat → Nat → Nat) (H : Heap) (locs : List Loc) (ls : Array Slot) (cells slots : Nat), Ext ad0 N0 ad N → cells + oc = CT → slots + os = ST → va_P D cls (cw ad cc N S) H → va_D A (cw ad cc N S) → va_S A s.heap H locs → lv_has ls 2 [(0, .ref (ad 11 x0))] → W p l e ({ frames := 3, cells := cR, slots := sR, locals := 69 }) s m args below meth c H locs cells slots Q (F0 m 0 ls []) := by
  intro ad H locs ls cells slots hX hcu hsu hP hD hS hl
  obtain ⟨hx, hb, hr, hml, hown, hts, hK, hA, hev, hE, hN, hNS⟩ := id hC
  unfold m_cJT_init_J0 at Heq
  refine lv_aload_n hx hb d_cJT_init_0 rfl (lv_at hl 0 rfl) ?_
  refine W.objInit hx hb hown (hts _ kw_33) (hts _ kw_34) (hts _ kw_35) rfl (by rw [hml]; exact hl.1) rfl d_cJT_init_1 (Nat.le_of_ble_eq_true rfl) (Nat.le_of_ble_eq_true rfl) ?_
  refine W.eq (g2 := F0 m 4 ls []) rfl ?_
  refine lv_aload_n hx hb d_cJT_init_4 rfl (lv_at hl 0 rfl) ?_
  obtain ⟨N_1, S_2, j_3, a9, b9, Heq, e9a, e9b, hw9, eN9, eS9, ej9⟩ := nw_some Heq
  refine va_new (D := D) (ci := 8) (fs := [.null, .null, .null, .null, .int 0, .int 0]) (C := R_St) (T := F_St) (N := 6) hx hb hts i_St t_St t_St_ok hown (hts _ kw_36) (hts _ kw_37) (hts _ kw_2) hK hP hD hS hA rfl (by decide +kernel) (Nat.le_trans (m := CT) (by omega) hCT) (Nat.le_trans (m := ST) (by omega) hST) d_cJT_init_5 (fun q9 H hP hD hS => ?_)
  obtain ⟨ad, hX1, hq1, hne1, hl_j_3, hP, hD⟩ := cw_born2 hw9 eN9 eS9 ej9 (by decide) (cell_newO (by decide)) hP hD
  have hX := hX.tr hX1
  have hl : lv_has ls 2 [(0, .ref (ad 11 x0))] := lv_cast hl (by first | rfl | simp only [hq1, hne1 11 x0 (by decide)])
  refine w_s (st' := [.ref (ad 8 j_3), .ref (ad 11 x0)]) (by first | rfl | simp only [hq1, hne1 11 x0 (by decide)]) ?_
  refine lv_dup hx hb d_cJT_init_8 (by first | rfl | exact rv_cat) ?_
  obtain ⟨hl_x0_11, Heq⟩ := gl_some Heq
  obtain ⟨N_6, S_7, a9, b9, a8, b8, h_5, Heq, e9a, e9b⟩ := ov_some Heq
  have hFc := fr_all hD hS hA
  refine va_callv (va_runIN (As := []) (rest := [.ref (ad 8 j_3), .ref (ad 11 x0)]) ⟨hx, hb, hml, hown, hts⟩ (g_cSt_init l D H.size (ad := ad) (cc := cc) (sad := sad) (sav := sav) h_5) ⟨cw_n 0 hts kw_40 hev.2.2.2.2.2.2.1.1 kw_2 rfl rfl (by decide +kernel) ⟨Nat.le_of_ble_eq_true rfl, Nat.le_of_ble_eq_true rfl⟩, rfl, hts _ kw_39⟩ ⟨c_blind, fun U hU hW => c_pre hU hW hP hK hD hev hE hN hNS hS hFc⟩ rfl rfl hl.1 rfl (lv_room (Nat.le_of_ble_eq_true rfl)) d_cJT_init_9 ⟨(Nat.le_trans (m := CT) (by omega) hCT), (Nat.le_trans (m := ST) (by omega) hST)⟩) hS (fun q _ h => hFc q h) hFc (fun ad t H1 locs ht hvm hw hB hz1 hk1 hS => ?_)
  obtain ⟨hX1, hP, -, hD1⟩ := hB
  rw [ht] at hP
  have hD := hD1.weaken (fun _ q _ h => hFc q.1 h)
  generalize H1 = H at hP hS ⊢
  have hX := hX.tr hX1
  have hl : lv_has ls 2 [(0, .ref (ad 11 x0))] := lv_cast hl (by first | rfl | simp only [hX1.2 11 x0 hl_x0_11, hX1.2 8 j_3 hl_j_3])
  refine w_s (st' := [.ref (ad 8 j_3), .ref (ad 11 x0)]) (by first | rfl | simp only [hX1.2 11 x0 hl_x0_11, hX1.2 8 j_3 hl_j_3]) ?_
  have hl_j_3 := Nat.lt_of_lt_of_le hl_j_3 (hX1.1 8)
  have hl_x0_11 := Nat.lt_of_lt_of_le hl_x0_11 (hX1.1 11)
  refine w_v (y := rv ad 8 (some j_3)) rfl ?_
  refine va_putF (D := D) (ci := 11) (v := rv ad 8 (some j_3)) (ty := .object "JoinedTrees$Store") (C := R_JT) (T := F_JT) (N := 13) hx hb hts i_JT t_JT t_JT_ok n_JT hown hK hP hD hS (cPos N_6 11 x0) (cw_obj (k := 11) (by decide) hl_x0_11) rfl 0 (by decide) (hts _ kw_421) (fun _ h9 => h9) rfl hin rfl (by decide +kernel) (rv_nar (Or.inl ⟨_, rfl⟩)) (rv_fit (Or.inl ⟨_, rfl⟩)) (Nat.le_of_ble_eq_true rfl) d_cJT_init_12 (fun H locs hP hD hS => ?_)
  have hD := (congrArg (fun w9 => va_D A w9) (cw_setR (ad := ad) (cc := cc) (S := S_7) (k := 11) (f := 0) (t := 8) (v := (some j_3)) (by decide) rfl hl_x0_11)).mp hD
  have hP := (congrArg (fun w9 => va_P D cls w9 H) (cw_setR (ad := ad) (cc := cc) (S := S_7) (k := 11) (f := 0) (t := 8) (v := (some j_3)) (by decide) rfl hl_x0_11)).mp hP
  refine lv_aload_n hx hb d_cJT_init_15 rfl (lv_at hl 0 rfl) ?_
  refine lv_bipush (v := 8) hx hb d_cJT_init_16 (by decide) ?_
  obtain ⟨N_9, S_10, j_11, a9, b9, Heq, e9a, e9b, hw9, eN9, eS9, ej9⟩ := nw_some Heq
  refine va_newq (C := "JoinedTrees$Replica") (N' := 8) hx hb hown (hts _ kw_192) hev.2.2.2.2.1.2.2.1 hK hP hD hS hA (by decide) (by decide) (by decide) (Nat.le_trans (m := CT) (by omega) hCT) (Nat.le_trans (m := ST) (by omega) hST) d_cJT_init_18 (fun q9 cA9 H hK9 hP hD hS => ?_)
  obtain rfl := cA_eq hK9 5 rfl
  obtain ⟨ad, hX1, hq1, hne1, hl_j_11, hP, hD⟩ := cw_born2 hw9 eN9 eS9 ej9 (by decide) (cell_newQ (by decide)) hP hD
  have hX := hX.tr hX1
  have hl : lv_has ls 2 [(0, .ref (ad 11 x0))] := lv_cast hl (by first | rfl | simp only [hq1, hne1 11 x0 (by decide)])
  refine w_s (st' := [.ref (ad 17 j_11), .ref (ad 11 x0)]) (by first | rfl | simp only [hq1, hne1 11 x0 (by decide)]) ?_
  have hl_j_3 := Nat.lt_of_lt_of_le hl_j_3 (hX1.1 8)
  have hl_x0_11 := Nat.lt_of_lt_of_le hl_x0_11 (hX1.1 11)
  refine w_v (y := rv ad 17 (some j_11)) rfl ?_
  refine va_putF (D := D) (ci := 11) (v := rv ad 17 (some j_11)) (ty := .array (.object "JoinedTrees$Replica")) (C := R_JT) (T := F_JT) (N := 13) hx hb hts i_JT t_JT t_JT_ok n_JT hown hK hP hD hS (cPos N_9 11 x0) (cw_obj (k := 11) (by decide) hl_x0_11) rfl 1 (by decide) (hts _ kw_422) (fun _ h9 => h9) rfl hin rfl (by decide +kernel) (rv_nar (Or.inr ⟨_, rfl⟩)) (rv_fit (Or.inr ⟨_, rfl⟩)) (Nat.le_of_ble_eq_true rfl) d_cJT_init_21 (fun H locs hP hD hS => ?_)
  have hD := (congrArg (fun w9 => va_D A w9) (cw_setR (ad := ad) (cc := cc) (S := S_10) (k := 11) (f := 1) (t := 17) (v := (some j_11)) (by decide) rfl hl_x0_11)).mp hD
  have hP := (congrArg (fun w9 => va_P D cls w9 H) (cw_setR (ad := ad) (cc := cc) (S := S_10) (k := 11) (f := 1) (t := 17) (v := (some j_11)) (by decide) rfl hl_x0_11)).mp hP
  refine lv_iconst (v := 0) hx hb d_cJT_init_24 (by decide) ?_
  refine lv_istore_n (lv' := [(1, .int 0), (0, .ref (ad 11 x0))]) hx hb d_cJT_init_25 rfl hl (by decide) rfl (fun ls hl => ?_)
  obtain ⟨N_12, b_13, a9, b9, a8, b8, h_14, Heq, e9a, e9b⟩ := ov_some Heq
  refine w_cJT_init_L26 hin hC (Nat.le_trans (m := CT) (by omega) hCT) (Nat.le_trans (m := ST) (by omega) hST) h_14 (fun N9 b9 h9 => ?_) _ _ _ _ _ _ hX rfl rfl hP hD hS (lv_sub hl [1, 0] rfl)
  cases h9
  intro ad H locs ls hX hP hD hS hl
  refine lv_aload_n hx hb d_cJT_init_52 rfl (lv_at hl 0 rfl) ?_
  obtain ⟨N_15, S_16, j_17, a9, b9, Heq, e9a, e9b, hw9, eN9, eS9, ej9⟩ := nw_some Heq
  refine va_new (D := D) (ci := 10) (fs := [.null, .null, .null, .int 0, .int 0]) (C := R_Vw) (T := F_Vw) (N := 5) hx hb hts i_Vw t_Vw t_Vw_ok hown (hts _ kw_254) (hts _ kw_255) (hts _ kw_6) hK hP hD hS hA rfl (by decide +kernel) (Nat.le_trans (m := CT) (by omega) hCT) (Nat.le_trans (m := ST) (by omega) hST) d_cJT_init_53 (fun q9 H hP hD hS => ?_)
  obtain ⟨ad, hX1, hq1, hne1, hl_j_17, hP, hD⟩ := cw_born2 hw9 eN9 eS9 ej9 (by decide) (cell_newO (by decide)) hP hD
  have hX := hX.tr hX1
  have hl : lv_has ls 2 [(0, .ref (ad 11 x0))] := lv_cast hl (by first | rfl | simp only [hq1, hne1 11 x0 (by decide)])
  refine w_s (st' := [.ref (ad 10 j_17), .ref (ad 11 x0)]) (by first | rfl | simp only [hq1, hne1 11 x0 (by decide)]) ?_
  refine lv_dup hx hb d_cJT_init_56 (by first | rfl | exact rv_cat) ?_
  refine lv_aload_n hx hb d_cJT_init_57 rfl (lv_at hl 0 rfl) ?_
  obtain ⟨hl_x0_11, Heq⟩ := gl_some Heq
  refine va_get (D := D) (ci := 11) (v := rv ad 8 (S_16.r 11 0 x0)) (C := R_JT) (T := F_JT) (N := 13) hx hb hts i_JT hown hK hP (cPos N_15 11 x0) (cw_obj (k := 11) (by decide) hl_x0_11) rfl 0 (by decide) (hts _ kw_421) (fun _ h9 => h9) rfl d_cJT_init_58 ?_
  obtain ⟨j_18, hj_19, hl_20, Heq⟩ := gn_some Heq
  refine w_s (st' := [.ref (ad 8 j_18), .ref (ad 10 j_17), .ref (ad 10 j_17), .ref (ad 11 x0)]) (congrArg (fun z9 : Option Nat => [rv ad 8 z9, .ref (ad 10 j_17), .ref (ad 10 j_17), .ref (ad 11 x0)]) hj_19) ?_
  obtain ⟨N_23, S_24, a9, b9, a8, b8, h_22, Heq, e9a, e9b⟩ := ov_some Heq
  have hFc := fr_all hD hS hA
  refine va_callv (va_runI (As := [.ref (ad 8 j_18)]) (rest := [.ref (ad 10 j_17), .ref (ad 11 x0)]) ⟨hx, hb, hml, hown, hts⟩ (g_cVw_init l D H.size (ad := ad) (cc := cc) (sad := sad) (sav := sav) h_22) (cw_i 1 hts kw_258 kw_256 kw_257 kw_6 rfl rfl rfl (by decide +kernel) ⟨Nat.le_of_ble_eq_true rfl, Nat.le_of_ble_eq_true rfl⟩) ⟨c_blind, fun U hU hW => c_pre hU hW hP hK hD hev hE hN hNS hS hFc⟩ rfl rfl hl.1 rfl (lv_room (Nat.le_of_ble_eq_true rfl)) d_cJT_init_61 ⟨(Nat.le_trans (m := CT) (by omega) hCT), (Nat.le_trans (m := ST) (by omega) hST)⟩) hS (fun q _ h => hFc q h) hFc (fun ad t H1 locs ht hvm hw hB hz1 hk1 hS => ?_)
  obtain ⟨hX1, hP, -, hD1⟩ := hB
  rw [ht] at hP
  have hD := hD1.weaken (fun _ q _ h => hFc q.1 h)
  generalize H1 = H at hP hS ⊢
  have hX := hX.tr hX1
  have hl : lv_has ls 2 [(0, .ref (ad 11 x0))] := lv_cast hl (by first | rfl | simp only [hX1.2 11 x0 hl_x0_11, hX1.2 10 j_17 hl_j_17])
  refine w_s (st' := [.ref (ad 10 j_17), .ref (ad 11 x0)]) (by first | rfl | simp only [hX1.2 11 x0 hl_x0_11, hX1.2 10 j_17 hl_j_17]) ?_
  have hl_j_17 := Nat.lt_of_lt_of_le hl_j_17 (hX1.1 10)
  have hl_x0_11 := Nat.lt_of_lt_of_le hl_x0_11 (hX1.1 11)
  have hl_20 := Nat.lt_of_lt_of_le hl_20 (hX1.1 8)
  refine w_v (y := rv ad 10 (some j_17)) rfl ?_
  refine va_putF (D := D) (ci := 11) (v := rv ad 10 (some j_17)) (ty := .object "JoinedTrees$View") (C := R_JT) (T := F_JT) (N := 13) hx hb hts i_JT t_JT t_JT_ok n_JT hown hK hP hD hS (cPos N_23 11 x0) (cw_obj (k := 11) (by decide) hl_x0_11) rfl 2 (by decide) (hts _ kw_423) (fun _ h9 => h9) rfl hin rfl (by decide +kernel) (rv_nar (Or.inl ⟨_, rfl⟩)) (rv_fit (Or.inl ⟨_, rfl⟩)) (Nat.le_of_ble_eq_true rfl) d_cJT_init_64 (fun H locs hP hD hS => ?_)
  have hD := (congrArg (fun w9 => va_D A w9) (cw_setR (ad := ad) (cc := cc) (S := S_24) (k := 11) (f := 2) (t := 10) (v := (some j_17)) (by decide) rfl hl_x0_11)).mp hD
  have hP := (congrArg (fun w9 => va_P D cls w9 H) (cw_setR (ad := ad) (cc := cc) (S := S_24) (k := 11) (f := 2) (t := 10) (v := (some j_17)) (by decide) rfl hl_x0_11)).mp hP
  refine lv_aload_n hx hb d_cJT_init_67 rfl (lv_at hl 0 rfl) ?_
  obtain ⟨N_26, S_27, j_28, a9, b9, Heq, e9a, e9b, hw9, eN9, eS9, ej9⟩ := nw_some Heq
  refine va_new (D := D) (ci := 1) (fs := [.null, .null, .null, .int 0, .int 0, .int 0, .null, .int 0, .int 0, .int 0]) (C := R_Rd) (T := F_Rd) (N := 10) hx hb hts i_Rd t_Rd t_Rd_ok hown (hts _ kw_280) (hts _ kw_281) (hts _ kw_7) hK hP hD hS hA rfl (by decide +kernel) (Nat.le_trans (m := CT) (by omega) hCT) (Nat.le_trans (m := ST) (by omega) hST) d_cJT_init_68 (fun q9 H hP hD hS => ?_)
  obtain ⟨ad, hX1, hq1, hne1, hl_j_28, hP, hD⟩ := cw_born2 hw9 eN9 eS9 ej9 (by decide) (cell_newO (by decide)) hP hD
  have hX := hX.tr hX1
  have hl : lv_has ls 2 [(0, .ref (ad 11 x0))] := lv_cast hl (by first | rfl | simp only [hq1, hne1 11 x0 (by decide)])
  refine w_s (st' := [.ref (ad 1 j_28), .ref (ad 11 x0)]) (by first | rfl | simp only [hq1, hne1 11 x0 (by decide)]) ?_
  have hl_j_17 := Nat.lt_of_lt_of_le hl_j_17 (hX1.1 10)
  have hl_x0_11 := Nat.lt_of_lt_of_le hl_x0_11 (hX1.1 11)
  have hl_20 := Nat.lt_of_lt_of_le hl_20 (hX1.1 8)
  refine lv_dup hx hb d_cJT_init_71 (by first | rfl | exact rv_cat) ?_
  obtain ⟨N_31, S_32, a9, b9, a8, b8, h_30, Heq, e9a, e9b⟩ := ov_some Heq
  have hFc := fr_all hD hS hA
  refine va_callv (va_runI (As := []) (rest := [.ref (ad 1 j_28), .ref (ad 11 x0)]) ⟨hx, hb, hml, hown, hts⟩ (g_cRd_init l D H.size (ad := ad) (cc := cc) (sad := sad) (sav := sav) h_30) (cw_i 0 hts kw_284 kw_282 kw_283 kw_7 rfl rfl rfl (by decide +kernel) ⟨Nat.le_of_ble_eq_true rfl, Nat.le_of_ble_eq_true rfl⟩) ⟨c_blind, fun U hU hW => c_pre hU hW hP hK hD hev hE hN hNS hS hFc⟩ rfl rfl hl.1 rfl (lv_room (Nat.le_of_ble_eq_true rfl)) d_cJT_init_72 ⟨(Nat.le_trans (m := CT) (by omega) hCT), (Nat.le_trans (m := ST) (by omega) hST)⟩) hS (fun q _ h => hFc q h) hFc (fun ad t H1 locs ht hvm hw hB hz1 hk1 hS => ?_)
  obtain ⟨hX1, hP, -, hD1⟩ := hB
  rw [ht] at hP
  have hD := hD1.weaken (fun _ q _ h => hFc q.1 h)
  generalize H1 = H at hP hS ⊢
  have hX := hX.tr hX1
  have hl : lv_has ls 2 [(0, .ref (ad 11 x0))] := lv_cast hl (by first | rfl | simp only [hX1.2 11 x0 hl_x0_11, hX1.2 1 j_28 hl_j_28])
  refine w_s (st' := [.ref (ad 1 j_28), .ref (ad 11 x0)]) (by first | rfl | simp only [hX1.2 11 x0 hl_x0_11, hX1.2 1 j_28 hl_j_28]) ?_
  have hl_j_17 := Nat.lt_of_lt_of_le hl_j_17 (hX1.1 10)
  have hl_x0_11 := Nat.lt_of_lt_of_le hl_x0_11 (hX1.1 11)
  have hl_20 := Nat.lt_of_lt_of_le hl_20 (hX1.1 8)
  have hl_j_28 := Nat.lt_of_lt_of_le hl_j_28 (hX1.1 1)
  refine w_v (y := rv ad 1 (some j_28)) rfl ?_
  refine va_putF (D := D) (ci := 11) (v := rv ad 1 (some j_28)) (ty := .object "JoinedTrees$JsonReader") (C := R_JT) (T := F_JT) (N := 13) hx hb hts i_JT t_JT t_JT_ok n_JT hown hK hP hD hS (cPos N_31 11 x0) (cw_obj (k := 11) (by decide) hl_x0_11) rfl 3 (by decide) (hts _ kw_424) (fun _ h9 => h9) rfl hin rfl (by decide +kernel) (rv_nar (Or.inl ⟨_, rfl⟩)) (rv_fit (Or.inl ⟨_, rfl⟩)) (Nat.le_of_ble_eq_true rfl) d_cJT_init_75 (fun H locs hP hD hS => ?_)
  have hD := (congrArg (fun w9 => va_D A w9) (cw_setR (ad := ad) (cc := cc) (S := S_32) (k := 11) (f := 3) (t := 1) (v := (some j_28)) (by decide) rfl hl_x0_11)).mp hD
  have hP := (congrArg (fun w9 => va_P D cls w9 H) (cw_setR (ad := ad) (cc := cc) (S := S_32) (k := 11) (f := 3) (t := 1) (v := (some j_28)) (by decide) rfl hl_x0_11)).mp hP
  refine lv_aload_n hx hb d_cJT_init_78 rfl (lv_at hl 0 rfl) ?_
  obtain ⟨N_34, S_35, j_36, a9, b9, Heq, e9a, e9b, hw9, eN9, eS9, ej9⟩ := nw_some Heq
  refine va_new (D := D) (ci := 2) (fs := [.null, .null]) (C := R_Wr) (T := F_Wr) (N := 2) hx hb hts i_Wr t_Wr t_Wr_ok hown (hts _ kw_377) (hts _ kw_378) (hts _ kw_9) hK hP hD hS hA rfl (by decide +kernel) (Nat.le_trans (m := CT) (by omega) hCT) (Nat.le_trans (m := ST) (by omega) hST) d_cJT_init_79 (fun q9 H hP hD hS => ?_)
  obtain ⟨ad, hX1, hq1, hne1, hl_j_36, hP, hD⟩ := cw_born2 hw9 eN9 eS9 ej9 (by decide) (cell_newO (by decide)) hP hD
  have hX := hX.tr hX1
  have hl : lv_has ls 2 [(0, .ref (ad 11 x0))] := lv_cast hl (by first | rfl | simp only [hq1, hne1 11 x0 (by decide)])
  refine w_s (st' := [.ref (ad 2 j_36), .ref (ad 11 x0)]) (by first | rfl | simp only [hq1, hne1 11 x0 (by decide)]) ?_
  have hl_j_17 := Nat.lt_of_lt_of_le hl_j_17 (hX1.1 10)
  have hl_x0_11 := Nat.lt_of_lt_of_le hl_x0_11 (hX1.1 11)
  have hl_20 := Nat.lt_of_lt_of_le hl_20 (hX1.1 8)
  have hl_j_28 := Nat.lt_of_lt_of_le hl_j_28 (hX1.1 1)
  refine lv_dup hx hb d_cJT_init_82 (by first | rfl | exact rv_cat) ?_
  refine lv_aload_n hx hb d_cJT_init_83 rfl (lv_at hl 0 rfl) ?_
  refine va_get (D := D) (ci := 11) (v := rv ad 10 (S_35.r 11 2 x0)) (C := R_JT) (T := F_JT) (N := 13) hx hb hts i_JT hown hK hP (cPos N_34 11 x0) (cw_obj (k := 11) (by decide) hl_x0_11) rfl 2 (by decide) (hts _ kw_423) (fun _ h9 => h9) rfl d_cJT_init_84 ?_
  obtain ⟨j_37, hj_38, hl_39, Heq⟩ := gn_some Heq
  refine w_s (st' := [.ref (ad 10 j_37), .ref (ad 2 j_36), .ref (ad 2 j_36), .ref (ad 11 x0)]) (congrArg (fun z9 : Option Nat => [rv ad 10 z9, .ref (ad 2 j_36), .ref (ad 2 j_36), .ref (ad 11 x0)]) hj_38) ?_
  obtain ⟨N_42, S_43, a9, b9, a8, b8, h_41, Heq, e9a, e9b⟩ := ov_some Heq
  have hFc := fr_all hD hS hA
  refine va_callv (va_runI (As := [.ref (ad 10 j_37)]) (rest := [.ref (ad 2 j_36), .ref (ad 11 x0)]) ⟨hx, hb, hml, hown, hts⟩ (g_cWr_init l D H.size (ad := ad) (cc := cc) (sad := sad) (sav := sav) h_41) (cw_i 1 hts kw_381 kw_379 kw_380 kw_9 rfl rfl rfl (by decide +kernel) ⟨Nat.le_of_ble_eq_true rfl, Nat.le_of_ble_eq_true rfl⟩) ⟨c_blind, fun U hU hW => c_pre hU hW hP hK hD hev hE hN hNS hS hFc⟩ rfl rfl hl.1 rfl (lv_room (Nat.le_of_ble_eq_true rfl)) d_cJT_init_87 ⟨(Nat.le_trans (m := CT) (by omega) hCT), (Nat.le_trans (m := ST) (by omega) hST)⟩) hS (fun q _ h => hFc q h) hFc (fun ad t H1 locs ht hvm hw hB hz1 hk1 hS => ?_)
  obtain ⟨hX1, hP, -, hD1⟩ := hB
  rw [ht] at hP
  have hD := hD1.weaken (fun _ q _ h => hFc q.1 h)
  generalize H1 = H at hP hS ⊢
  have hX := hX.tr hX1
  have hl : lv_has ls 2 [(0, .ref (ad 11 x0))] := lv_cast hl (by first | rfl | simp only [hX1.2 11 x0 hl_x0_11, hX1.2 2 j_36 hl_j_36])
  refine w_s (st' := [.ref (ad 2 j_36), .ref (ad 11 x0)]) (by first | rfl | simp only [hX1.2 11 x0 hl_x0_11, hX1.2 2 j_36 hl_j_36]) ?_
  have hl_j_17 := Nat.lt_of_lt_of_le hl_j_17 (hX1.1 10)
  have hl_x0_11 := Nat.lt_of_lt_of_le hl_x0_11 (hX1.1 11)
  have hl_20 := Nat.lt_of_lt_of_le hl_20 (hX1.1 8)
  have hl_j_28 := Nat.lt_of_lt_of_le hl_j_28 (hX1.1 1)
  have hl_j_36 := Nat.lt_of_lt_of_le hl_j_36 (hX1.1 2)
  have hl_39 := Nat.lt_of_lt_of_le hl_39 (hX1.1 10)
  refine w_v (y := rv ad 2 (some j_36)) rfl ?_
  refine va_putF (D := D) (ci := 11) (v := rv ad 2 (some j_36)) (ty := .object "JoinedTrees$JsonWriter") (C := R_JT) (T := F_JT) (N := 13) hx hb hts i_JT t_JT t_JT_ok n_JT hown hK hP hD hS (cPos N_42 11 x0) (cw_obj (k := 11) (by decide) hl_x0_11) rfl 4 (by decide) (hts _ kw_425) (fun _ h9 => h9) rfl hin rfl (by decide +kernel) (rv_nar (Or.inl ⟨_, rfl⟩)) (rv_fit (Or.inl ⟨_, rfl⟩)) (Nat.le_of_ble_eq_true rfl) d_cJT_init_90 (fun H locs hP hD hS => ?_)
  have hD := (congrArg (fun w9 => va_D A w9) (cw_setR (ad := ad) (cc := cc) (S := S_43) (k := 11) (f := 4) (t := 2) (v := (some j_36)) (by decide) rfl hl_x0_11)).mp hD
  have hP := (congrArg (fun w9 => va_P D cls w9 H) (cw_setR (ad := ad) (cc := cc) (S := S_43) (k := 11) (f := 4) (t := 2) (v := (some j_36)) (by decide) rfl hl_x0_11)).mp hP
  refine lv_aload_n hx hb d_cJT_init_93 rfl (lv_at hl 0 rfl) ?_
  obtain ⟨N_45, S_46, j_47, a9, b9, Heq, e9a, e9b, hw9, eN9, eS9, ej9⟩ := nw_some Heq
  refine va_new (D := D) (ci := 5) (fs := [.null, .int 0, .int 0]) (C := R_Rw) (T := F_Rw) (N := 3) hx hb hts i_Rw t_Rw t_Rw_ok hown (hts _ kw_392) (hts _ kw_135) (hts _ kw_4) hK hP hD hS hA rfl (by decide +kernel) (Nat.le_trans (m := CT) (by omega) hCT) (Nat.le_trans (m := ST) (by omega) hST) d_cJT_init_94 (fun q9 H hP hD hS => ?_)
  obtain ⟨ad, hX1, hq1, hne1, hl_j_47, hP, hD⟩ := cw_born2 hw9 eN9 eS9 ej9 (by decide) (cell_newO (by decide)) hP hD
  have hX := hX.tr hX1
  have hl : lv_has ls 2 [(0, .ref (ad 11 x0))] := lv_cast hl (by first | rfl | simp only [hq1, hne1 11 x0 (by decide)])
  refine w_s (st' := [.ref (ad 5 j_47), .ref (ad 11 x0)]) (by first | rfl | simp only [hq1, hne1 11 x0 (by decide)]) ?_
  have hl_j_17 := Nat.lt_of_lt_of_le hl_j_17 (hX1.1 10)
  have hl_x0_11 := Nat.lt_of_lt_of_le hl_x0_11 (hX1.1 11)
  have hl_20 := Nat.lt_of_lt_of_le hl_20 (hX1.1 8)
  have hl_j_28 := Nat.lt_of_lt_of_le hl_j_28 (hX1.1 1)
  have hl_j_36 := Nat.lt_of_lt_of_le hl_j_36 (hX1.1 2)
  have hl_39 := Nat.lt_of_lt_of_le hl_39 (hX1.1 10)
  refine lv_dup hx hb d_cJT_init_97 (by first | rfl | exact rv_cat) ?_
  refine lv_ldc (v := 224582) hx hb hown (hts _ kw_393) d_cJT_init_98 ?_
  obtain ⟨N_50, S_51, a9, b9, a8, b8, h_49, Heq, e9a, e9b⟩ := ov_some Heq
  have hFc := fr_all hD hS hA
  refine va_callv (va_runI (As := [.int 224582]) (rest := [.ref (ad 5 j_47), .ref (ad 11 x0)]) ⟨hx, hb, hml, hown, hts⟩ (g_cRw_init l D H.size (ad := ad) (cc := cc) (sad := sad) (sav := sav) h_49) (cw_i 1 hts kw_138 kw_394 kw_137 kw_4 rfl rfl rfl (by decide +kernel) ⟨Nat.le_of_ble_eq_true rfl, Nat.le_of_ble_eq_true rfl⟩) ⟨c_blind, fun U hU hW => c_pre hU hW hP hK hD hev hE hN hNS hS hFc⟩ rfl rfl hl.1 rfl (lv_room (Nat.le_of_ble_eq_true rfl)) d_cJT_init_100 ⟨(Nat.le_trans (m := CT) (by omega) hCT), (Nat.le_trans (m := ST) (by omega) hST)⟩) hS (fun q _ h => hFc q h) hFc (fun ad t H1 locs ht hvm hw hB hz1 hk1 hS => ?_)
  obtain ⟨hX1, hP, -, hD1⟩ := hB
  rw [ht] at hP
  have hD := hD1.weaken (fun _ q _ h => hFc q.1 h)
  generalize H1 = H at hP hS ⊢
  have hX := hX.tr hX1
  have hl : lv_has ls 2 [(0, .ref (ad 11 x0))] := lv_cast hl (by first | rfl | simp only [hX1.2 11 x0 hl_x0_11, hX1.2 5 j_47 hl_j_47])
  refine w_s (st' := [.ref (ad 5 j_47), .ref (ad 11 x0)]) (by first | rfl | simp only [hX1.2 11 x0 hl_x0_11, hX1.2 5 j_47 hl_j_47]) ?_
  have hl_j_17 := Nat.lt_of_lt_of_le hl_j_17 (hX1.1 10)
  have hl_x0_11 := Nat.lt_of_lt_of_le hl_x0_11 (hX1.1 11)
  have hl_20 := Nat.lt_of_lt_of_le hl_20 (hX1.1 8)
  have hl_j_28 := Nat.lt_of_lt_of_le hl_j_28 (hX1.1 1)
  have hl_j_36 := Nat.lt_of_lt_of_le hl_j_36 (hX1.1 2)
  have hl_39 := Nat.lt_of_lt_of_le hl_39 (hX1.1 10)
  have hl_j_47 := Nat.lt_of_lt_of_le hl_j_47 (hX1.1 5)
  refine w_v (y := rv ad 5 (some j_47)) rfl ?_
  refine va_putF (D := D) (ci := 11) (v := rv ad 5 (some j_47)) (ty := .object "JoinedTrees$Row") (C := R_JT) (T := F_JT) (N := 13) hx hb hts i_JT t_JT t_JT_ok n_JT hown hK hP hD hS (cPos N_50 11 x0) (cw_obj (k := 11) (by decide) hl_x0_11) rfl 6 (by decide) (hts _ kw_427) (fun _ h9 => h9) rfl hin rfl (by decide +kernel) (rv_nar (Or.inl ⟨_, rfl⟩)) (rv_fit (Or.inl ⟨_, rfl⟩)) (Nat.le_of_ble_eq_true rfl) d_cJT_init_103 (fun H locs hP hD hS => ?_)
  have hD := (congrArg (fun w9 => va_D A w9) (cw_setR (ad := ad) (cc := cc) (S := S_51) (k := 11) (f := 6) (t := 5) (v := (some j_47)) (by decide) rfl hl_x0_11)).mp hD
  have hP := (congrArg (fun w9 => va_P D cls w9 H) (cw_setR (ad := ad) (cc := cc) (S := S_51) (k := 11) (f := 6) (t := 5) (v := (some j_47)) (by decide) rfl hl_x0_11)).mp hP
  refine lv_aload_n hx hb d_cJT_init_106 rfl (lv_at hl 0 rfl) ?_
  obtain ⟨N_53, S_54, j_55, a9, b9, Heq, e9a, e9b, hw9, eN9, eS9, ej9⟩ := nw_some Heq
  refine va_new (D := D) (ci := 6) (fs := [.null, .null, .null, .int 0, .int 0, .int 0]) (C := R_Sv) (T := F_Sv) (N := 6) hx hb hts i_Sv t_Sv t_Sv_ok hown (hts _ kw_395) (hts _ kw_396) (hts _ kw_10) hK hP hD hS hA rfl (by decide +kernel) (Nat.le_trans (m := CT) (by omega) hCT) (Nat.le_trans (m := ST) (by omega) hST) d_cJT_init_107 (fun q9 H hP hD hS => ?_)
  obtain ⟨ad, hX1, hq1, hne1, hl_j_55, hP, hD⟩ := cw_born2 hw9 eN9 eS9 ej9 (by decide) (cell_newO (by decide)) hP hD
  have hX := hX.tr hX1
  have hl : lv_has ls 2 [(0, .ref (ad 11 x0))] := lv_cast hl (by first | rfl | simp only [hq1, hne1 11 x0 (by decide)])
  refine w_s (st' := [.ref (ad 6 j_55), .ref (ad 11 x0)]) (by first | rfl | simp only [hq1, hne1 11 x0 (by decide)]) ?_
  have hl_j_17 := Nat.lt_of_lt_of_le hl_j_17 (hX1.1 10)
  have hl_x0_11 := Nat.lt_of_lt_of_le hl_x0_11 (hX1.1 11)
  have hl_20 := Nat.lt_of_lt_of_le hl_20 (hX1.1 8)
  have hl_j_28 := Nat.lt_of_lt_of_le hl_j_28 (hX1.1 1)
  have hl_j_36 := Nat.lt_of_lt_of_le hl_j_36 (hX1.1 2)
  have hl_39 := Nat.lt_of_lt_of_le hl_39 (hX1.1 10)
  have hl_j_47 := Nat.lt_of_lt_of_le hl_j_47 (hX1.1 5)
  refine lv_dup hx hb d_cJT_init_110 (by first | rfl | exact rv_cat) ?_
  refine lv_aload_n hx hb d_cJT_init_111 rfl (lv_at hl 0 rfl) ?_
  refine va_get (D := D) (ci := 11) (v := rv ad 8 (S_54.r 11 0 x0)) (C := R_JT) (T := F_JT) (N := 13) hx hb hts i_JT hown hK hP (cPos N_53 11 x0) (cw_obj (k := 11) (by decide) hl_x0_11) rfl 0 (by decide) (hts _ kw_421) (fun _ h9 => h9) rfl d_cJT_init_112 ?_
  refine lv_aload_n hx hb d_cJT_init_115 rfl (lv_at hl 0 rfl) ?_
  refine va_get (D := D) (ci := 11) (v := rv ad 5 (S_54.r 11 6 x0)) (C := R_JT) (T := F_JT) (N := 13) hx hb hts i_JT hown hK hP (cPos N_53 11 x0) (cw_obj (k := 11) (by decide) hl_x0_11) rfl 6 (by decide) (hts _ kw_427) (fun _ h9 => h9) rfl d_cJT_init_116 ?_
  obtain ⟨j_56, hj_57, hl_58, Heq⟩ := gn_some Heq
  refine w_s (st' := [.ref (ad 5 j_56), rv ad 8 (S_54.r 11 0 x0), .ref (ad 6 j_55), .ref (ad 6 j_55), .ref (ad 11 x0)]) (congrArg (fun z9 : Option Nat => [rv ad 5 z9, rv ad 8 (S_54.r 11 0 x0), .ref (ad 6 j_55), .ref (ad 6 j_55), .ref (ad 11 x0)]) hj_57) ?_
  obtain ⟨j_59, hj_60, hl_61, Heq⟩ := gn_some Heq
  refine w_s (st' := [.ref (ad 5 j_56), .ref (ad 8 j_59), .ref (ad 6 j_55), .ref (ad 6 j_55), .ref (ad 11 x0)]) (congrArg (fun z9 : Option Nat => [.ref (ad 5 j_56), rv ad 8 z9, .ref (ad 6 j_55), .ref (ad 6 j_55), .ref (ad 11 x0)]) hj_60) ?_
  obtain ⟨N_64, S_65, a9, b9, a8, b8, h_63, Heq, e9a, e9b⟩ := ov_some Heq
  have hFc := fr_all hD hS hA
  refine va_callv (va_runI (As := [.ref (ad 8 j_59), .ref (ad 5 j_56)]) (rest := [.ref (ad 6 j_55), .ref (ad 11 x0)]) ⟨hx, hb, hml, hown, hts⟩ (g_cSv_init l D H.size (ad := ad) (cc := cc) (sad := sad) (sav := sav) h_63) (cw_i 2 hts kw_399 kw_397 kw_398 kw_10 rfl rfl rfl (by decide +kernel) ⟨Nat.le_of_ble_eq_true rfl, Nat.le_of_ble_eq_true rfl⟩) ⟨c_blind, fun U hU hW => c_pre hU hW hP hK hD hev hE hN hNS hS hFc⟩ rfl rfl hl.1 rfl (lv_room (Nat.le_of_ble_eq_true rfl)) d_cJT_init_119 ⟨(Nat.le_trans (m := CT) (by omega) hCT), (Nat.le_trans (m := ST) (by omega) hST)⟩) hS (fun q _ h => hFc q h) hFc (fun ad t H1 locs ht hvm hw hB hz1 hk1 hS => ?_)
  obtain ⟨hX1, hP, -, hD1⟩ := hB
  rw [ht] at hP
  have hD := hD1.weaken (fun _ q _ h => hFc q.1 h)
  generalize H1 = H at hP hS ⊢
  have hX := hX.tr hX1
  have hl : lv_has ls 2 [(0, .ref (ad 11 x0))] := lv_cast hl (by first | rfl | simp only [hX1.2 11 x0 hl_x0_11, hX1.2 6 j_55 hl_j_55])
  refine w_s (st' := [.ref (ad 6 j_55), .ref (ad 11 x0)]) (by first | rfl | simp only [hX1.2 11 x0 hl_x0_11, hX1.2 6 j_55 hl_j_55]) ?_
  have hl_j_17 := Nat.lt_of_lt_of_le hl_j_17 (hX1.1 10)
  have hl_x0_11 := Nat.lt_of_lt_of_le hl_x0_11 (hX1.1 11)
  have hl_20 := Nat.lt_of_lt_of_le hl_20 (hX1.1 8)
  have hl_j_28 := Nat.lt_of_lt_of_le hl_j_28 (hX1.1 1)
  have hl_j_36 := Nat.lt_of_lt_of_le hl_j_36 (hX1.1 2)
  have hl_39 := Nat.lt_of_lt_of_le hl_39 (hX1.1 10)
  have hl_j_47 := Nat.lt_of_lt_of_le hl_j_47 (hX1.1 5)
  have hl_j_55 := Nat.lt_of_lt_of_le hl_j_55 (hX1.1 6)
  have hl_58 := Nat.lt_of_lt_of_le hl_58 (hX1.1 5)
  have hl_61 := Nat.lt_of_lt_of_le hl_61 (hX1.1 8)
  refine w_v (y := rv ad 6 (some j_55)) rfl ?_
  refine va_putF (D := D) (ci := 11) (v := rv ad 6 (some j_55)) (ty := .object "JoinedTrees$Saver") (C := R_JT) (T := F_JT) (N := 13) hx hb hts i_JT t_JT t_JT_ok n_JT hown hK hP hD hS (cPos N_64 11 x0) (cw_obj (k := 11) (by decide) hl_x0_11) rfl 5 (by decide) (hts _ kw_426) (fun _ h9 => h9) rfl hin rfl (by decide +kernel) (rv_nar (Or.inl ⟨_, rfl⟩)) (rv_fit (Or.inl ⟨_, rfl⟩)) (Nat.le_of_ble_eq_true rfl) d_cJT_init_122 (fun H locs hP hD hS => ?_)
  have hD := (congrArg (fun w9 => va_D A w9) (cw_setR (ad := ad) (cc := cc) (S := S_65) (k := 11) (f := 5) (t := 6) (v := (some j_55)) (by decide) rfl hl_x0_11)).mp hD
  have hP := (congrArg (fun w9 => va_P D cls w9 H) (cw_setR (ad := ad) (cc := cc) (S := S_65) (k := 11) (f := 5) (t := 6) (v := (some j_55)) (by decide) rfl hl_x0_11)).mp hP
  refine lv_aload_n hx hb d_cJT_init_125 rfl (lv_at hl 0 rfl) ?_
  obtain ⟨N_67, S_68, j_69, a9, b9, Heq, e9a, e9b, hw9, eN9, eS9, ej9⟩ := nw_some Heq
  refine va_new (D := D) (ci := 5) (fs := [.null, .int 0, .int 0]) (C := R_Rw) (T := F_Rw) (N := 3) hx hb hts i_Rw t_Rw t_Rw_ok hown (hts _ kw_392) (hts _ kw_135) (hts _ kw_4) hK hP hD hS hA rfl (by decide +kernel) (Nat.le_trans (m := CT) (by omega) hCT) (Nat.le_trans (m := ST) (by omega) hST) d_cJT_init_126 (fun q9 H hP hD hS => ?_)
  obtain ⟨ad, hX1, hq1, hne1, hl_j_69, hP, hD⟩ := cw_born2 hw9 eN9 eS9 ej9 (by decide) (cell_newO (by decide)) hP hD
  have hX := hX.tr hX1
  have hl : lv_has ls 2 [(0, .ref (ad 11 x0))] := lv_cast hl (by first | rfl | simp only [hq1, hne1 11 x0 (by decide)])
  refine w_s (st' := [.ref (ad 5 j_69), .ref (ad 11 x0)]) (by first | rfl | simp only [hq1, hne1 11 x0 (by decide)]) ?_
  have hl_j_17 := Nat.lt_of_lt_of_le hl_j_17 (hX1.1 10)
  have hl_x0_11 := Nat.lt_of_lt_of_le hl_x0_11 (hX1.1 11)
  have hl_20 := Nat.lt_of_lt_of_le hl_20 (hX1.1 8)
  have hl_j_28 := Nat.lt_of_lt_of_le hl_j_28 (hX1.1 1)
  have hl_j_36 := Nat.lt_of_lt_of_le hl_j_36 (hX1.1 2)
  have hl_39 := Nat.lt_of_lt_of_le hl_39 (hX1.1 10)
  have hl_j_47 := Nat.lt_of_lt_of_le hl_j_47 (hX1.1 5)
  have hl_j_55 := Nat.lt_of_lt_of_le hl_j_55 (hX1.1 6)
  have hl_58 := Nat.lt_of_lt_of_le hl_58 (hX1.1 5)
  have hl_61 := Nat.lt_of_lt_of_le hl_61 (hX1.1 8)
  refine lv_dup hx hb d_cJT_init_129 (by first | rfl | exact rv_cat) ?_
  refine lv_sipush (v := 8192) hx hb d_cJT_init_130 (by decide) ?_
  obtain ⟨N_72, S_73, a9, b9, a8, b8, h_71, Heq, e9a, e9b⟩ := ov_some Heq
  have hFc := fr_all hD hS hA
  refine va_callv (va_runI (As := [.int 8192]) (rest := [.ref (ad 5 j_69), .ref (ad 11 x0)]) ⟨hx, hb, hml, hown, hts⟩ (g_cRw_init l D H.size (ad := ad) (cc := cc) (sad := sad) (sav := sav) h_71) (cw_i 1 hts kw_138 kw_394 kw_137 kw_4 rfl rfl rfl (by decide +kernel) ⟨Nat.le_of_ble_eq_true rfl, Nat.le_of_ble_eq_true rfl⟩) ⟨c_blind, fun U hU hW => c_pre hU hW hP hK hD hev hE hN hNS hS hFc⟩ rfl rfl hl.1 rfl (lv_room (Nat.le_of_ble_eq_true rfl)) d_cJT_init_133 ⟨(Nat.le_trans (m := CT) (by omega) hCT), (Nat.le_trans (m := ST) (by omega) hST)⟩) hS (fun q _ h => hFc q h) hFc (fun ad t H1 locs ht hvm hw hB hz1 hk1 hS => ?_)
  obtain ⟨hX1, hP, -, hD1⟩ := hB
  rw [ht] at hP
  have hD := hD1.weaken (fun _ q _ h => hFc q.1 h)
  generalize H1 = H at hP hS ⊢
  have hX := hX.tr hX1
  have hl : lv_has ls 2 [(0, .ref (ad 11 x0))] := lv_cast hl (by first | rfl | simp only [hX1.2 11 x0 hl_x0_11, hX1.2 5 j_69 hl_j_69])
  refine w_s (st' := [.ref (ad 5 j_69), .ref (ad 11 x0)]) (by first | rfl | simp only [hX1.2 11 x0 hl_x0_11, hX1.2 5 j_69 hl_j_69]) ?_
  have hl_j_17 := Nat.lt_of_lt_of_le hl_j_17 (hX1.1 10)
  have hl_x0_11 := Nat.lt_of_lt_of_le hl_x0_11 (hX1.1 11)
  have hl_20 := Nat.lt_of_lt_of_le hl_20 (hX1.1 8)
  have hl_j_28 := Nat.lt_of_lt_of_le hl_j_28 (hX1.1 1)
  have hl_j_36 := Nat.lt_of_lt_of_le hl_j_36 (hX1.1 2)
  have hl_39 := Nat.lt_of_lt_of_le hl_39 (hX1.1 10)
  have hl_j_47 := Nat.lt_of_lt_of_le hl_j_47 (hX1.1 5)
  have hl_j_55 := Nat.lt_of_lt_of_le hl_j_55 (hX1.1 6)
  have hl_58 := Nat.lt_of_lt_of_le hl_58 (hX1.1 5)
  have hl_61 := Nat.lt_of_lt_of_le hl_61 (hX1.1 8)
  have hl_j_69 := Nat.lt_of_lt_of_le hl_j_69 (hX1.1 5)
  refine w_v (y := rv ad 5 (some j_69)) rfl ?_
  refine va_put (D := D) (ci := 11) (v := rv ad 5 (some j_69)) (ty := .object "JoinedTrees$Row") (C := R_JT) (T := F_JT) (N := 13) hx hb hts i_JT t_JT t_JT_ok n_JT hown hK hP hD hS (cPos N_72 11 x0) (cw_obj (k := 11) (by decide) hl_x0_11) rfl 8 (by decide) (hts _ kw_429) (fun _ h9 => h9) rfl (by decide +kernel) (rv_nar (Or.inl ⟨_, rfl⟩)) (rv_fit (Or.inl ⟨_, rfl⟩)) (Nat.le_of_ble_eq_true rfl) d_cJT_init_136 (fun H locs hP hD hS => ?_)
  have hD := (congrArg (fun w9 => va_D A w9) (cw_setR (ad := ad) (cc := cc) (S := S_73) (k := 11) (f := 8) (t := 5) (v := (some j_69)) (by decide) rfl hl_x0_11)).mp hD
  have hP := (congrArg (fun w9 => va_P D cls w9 H) (cw_setR (ad := ad) (cc := cc) (S := S_73) (k := 11) (f := 8) (t := 5) (v := (some j_69)) (by decide) rfl hl_x0_11)).mp hP
  refine lv_aload_n hx hb d_cJT_init_139 rfl (lv_at hl 0 rfl) ?_
  obtain ⟨N_75, S_76, j_77, a9, b9, Heq, e9a, e9b, hw9, eN9, eS9, ej9⟩ := nw_some Heq
  refine va_new (D := D) (ci := 5) (fs := [.null, .int 0, .int 0]) (C := R_Rw) (T := F_Rw) (N := 3) hx hb hts i_Rw t_Rw t_Rw_ok hown (hts _ kw_392) (hts _ kw_135) (hts _ kw_4) hK hP hD hS hA rfl (by decide +kernel) (Nat.le_trans (m := CT) (by omega) hCT) (Nat.le_trans (m := ST) (by omega) hST) d_cJT_init_140 (fun q9 H hP hD hS => ?_)
  obtain ⟨ad, hX1, hq1, hne1, hl_j_77, hP, hD⟩ := cw_born2 hw9 eN9 eS9 ej9 (by decide) (cell_newO (by decide)) hP hD
  have hX := hX.tr hX1
  have hl : lv_has ls 2 [(0, .ref (ad 11 x0))] := lv_cast hl (by first | rfl | simp only [hq1, hne1 11 x0 (by decide)])
  refine w_s (st' := [.ref (ad 5 j_77), .ref (ad 11 x0)]) (by first | rfl | simp only [hq1, hne1 11 x0 (by decide)]) ?_
  have hl_j_17 := Nat.lt_of_lt_of_le hl_j_17 (hX1.1 10)
  have hl_x0_11 := Nat.lt_of_lt_of_le hl_x0_11 (hX1.1 11)
  have hl_20 := Nat.lt_of_lt_of_le hl_20 (hX1.1 8)
  have hl_j_28 := Nat.lt_of_lt_of_le hl_j_28 (hX1.1 1)
  have hl_j_36 := Nat.lt_of_lt_of_le hl_j_36 (hX1.1 2)
  have hl_39 := Nat.lt_of_lt_of_le hl_39 (hX1.1 10)
  have hl_j_47 := Nat.lt_of_lt_of_le hl_j_47 (hX1.1 5)
  have hl_j_55 := Nat.lt_of_lt_of_le hl_j_55 (hX1.1 6)
  have hl_58 := Nat.lt_of_lt_of_le hl_58 (hX1.1 5)
  have hl_61 := Nat.lt_of_lt_of_le hl_61 (hX1.1 8)
  have hl_j_69 := Nat.lt_of_lt_of_le hl_j_69 (hX1.1 5)
  refine lv_dup hx hb d_cJT_init_143 (by first | rfl | exact rv_cat) ?_
  refine lv_sipush (v := 8192) hx hb d_cJT_init_144 (by decide) ?_
  obtain ⟨N_80, S_81, a9, b9, a8, b8, h_79, Heq, e9a, e9b⟩ := ov_some Heq
  have hFc := fr_all hD hS hA
  refine va_callv (va_runI (As := [.int 8192]) (rest := [.ref (ad 5 j_77), .ref (ad 11 x0)]) ⟨hx, hb, hml, hown, hts⟩ (g_cRw_init l D H.size (ad := ad) (cc := cc) (sad := sad) (sav := sav) h_79) (cw_i 1 hts kw_138 kw_394 kw_137 kw_4 rfl rfl rfl (by decide +kernel) ⟨Nat.le_of_ble_eq_true rfl, Nat.le_of_ble_eq_true rfl⟩) ⟨c_blind, fun U hU hW => c_pre hU hW hP hK hD hev hE hN hNS hS hFc⟩ rfl rfl hl.1 rfl (lv_room (Nat.le_of_ble_eq_true rfl)) d_cJT_init_147 ⟨(Nat.le_trans (m := CT) (by omega) hCT), (Nat.le_trans (m := ST) (by omega) hST)⟩) hS (fun q _ h => hFc q h) hFc (fun ad t H1 locs ht hvm hw hB hz1 hk1 hS => ?_)
  obtain ⟨hX1, hP, -, hD1⟩ := hB
  rw [ht] at hP
  have hD := hD1.weaken (fun _ q _ h => hFc q.1 h)
  generalize H1 = H at hP hS ⊢
  have hX := hX.tr hX1
  have hl : lv_has ls 2 [(0, .ref (ad 11 x0))] := lv_cast hl (by first | rfl | simp only [hX1.2 11 x0 hl_x0_11, hX1.2 5 j_77 hl_j_77])
  refine w_s (st' := [.ref (ad 5 j_77), .ref (ad 11 x0)]) (by first | rfl | simp only [hX1.2 11 x0 hl_x0_11, hX1.2 5 j_77 hl_j_77]) ?_
  have hl_j_17 := Nat.lt_of_lt_of_le hl_j_17 (hX1.1 10)
  have hl_x0_11 := Nat.lt_of_lt_of_le hl_x0_11 (hX1.1 11)
  have hl_20 := Nat.lt_of_lt_of_le hl_20 (hX1.1 8)
  have hl_j_28 := Nat.lt_of_lt_of_le hl_j_28 (hX1.1 1)
  have hl_j_36 := Nat.lt_of_lt_of_le hl_j_36 (hX1.1 2)
  have hl_39 := Nat.lt_of_lt_of_le hl_39 (hX1.1 10)
  have hl_j_47 := Nat.lt_of_lt_of_le hl_j_47 (hX1.1 5)
  have hl_j_55 := Nat.lt_of_lt_of_le hl_j_55 (hX1.1 6)
  have hl_58 := Nat.lt_of_lt_of_le hl_58 (hX1.1 5)
  have hl_61 := Nat.lt_of_lt_of_le hl_61 (hX1.1 8)
  have hl_j_69 := Nat.lt_of_lt_of_le hl_j_69 (hX1.1 5)
  have hl_j_77 := Nat.lt_of_lt_of_le hl_j_77 (hX1.1 5)
  refine w_v (y := rv ad 5 (some j_77)) rfl ?_
  refine va_put (D := D) (ci := 11) (v := rv ad 5 (some j_77)) (ty := .object "JoinedTrees$Row") (C := R_JT) (T := F_JT) (N := 13) hx hb hts i_JT t_JT t_JT_ok n_JT hown hK hP hD hS (cPos N_80 11 x0) (cw_obj (k := 11) (by decide) hl_x0_11) rfl 9 (by decide) (hts _ kw_430) (fun _ h9 => h9) rfl (by decide +kernel) (rv_nar (Or.inl ⟨_, rfl⟩)) (rv_fit (Or.inl ⟨_, rfl⟩)) (Nat.le_of_ble_eq_true rfl) d_cJT_init_150 (fun H locs hP hD hS => ?_)
  have hD := (congrArg (fun w9 => va_D A w9) (cw_setR (ad := ad) (cc := cc) (S := S_81) (k := 11) (f := 9) (t := 5) (v := (some j_77)) (by decide) rfl hl_x0_11)).mp hD
  have hP := (congrArg (fun w9 => va_P D cls w9 H) (cw_setR (ad := ad) (cc := cc) (S := S_81) (k := 11) (f := 9) (t := 5) (v := (some j_77)) (by decide) rfl hl_x0_11)).mp hP
  refine lv_aload_n hx hb d_cJT_init_153 rfl (lv_at hl 0 rfl) ?_
  obtain ⟨N_83, S_84, j_85, a9, b9, Heq, e9a, e9b, hw9, eN9, eS9, ej9⟩ := nw_some Heq
  refine va_new (D := D) (ci := 5) (fs := [.null, .int 0, .int 0]) (C := R_Rw) (T := F_Rw) (N := 3) hx hb hts i_Rw t_Rw t_Rw_ok hown (hts _ kw_392) (hts _ kw_135) (hts _ kw_4) hK hP hD hS hA rfl (by decide +kernel) (Nat.le_trans (m := CT) (by omega) hCT) (Nat.le_trans (m := ST) (by omega) hST) d_cJT_init_154 (fun q9 H hP hD hS => ?_)
  obtain ⟨ad, hX1, hq1, hne1, hl_j_85, hP, hD⟩ := cw_born2 hw9 eN9 eS9 ej9 (by decide) (cell_newO (by decide)) hP hD
  have hX := hX.tr hX1
  have hl : lv_has ls 2 [(0, .ref (ad 11 x0))] := lv_cast hl (by first | rfl | simp only [hq1, hne1 11 x0 (by decide)])
  refine w_s (st' := [.ref (ad 5 j_85), .ref (ad 11 x0)]) (by first | rfl | simp only [hq1, hne1 11 x0 (by decide)]) ?_
  have hl_j_17 := Nat.lt_of_lt_of_le hl_j_17 (hX1.1 10)
  have hl_x0_11 := Nat.lt_of_lt_of_le hl_x0_11 (hX1.1 11)
  have hl_20 := Nat.lt_of_lt_of_le hl_20 (hX1.1 8)
  have hl_j_28 := Nat.lt_of_lt_of_le hl_j_28 (hX1.1 1)
  have hl_j_36 := Nat.lt_of_lt_of_le hl_j_36 (hX1.1 2)
  have hl_39 := Nat.lt_of_lt_of_le hl_39 (hX1.1 10)
  have hl_j_47 := Nat.lt_of_lt_of_le hl_j_47 (hX1.1 5)
  have hl_j_55 := Nat.lt_of_lt_of_le hl_j_55 (hX1.1 6)
  have hl_58 := Nat.lt_of_lt_of_le hl_58 (hX1.1 5)
  have hl_61 := Nat.lt_of_lt_of_le hl_61 (hX1.1 8)
  have hl_j_69 := Nat.lt_of_lt_of_le hl_j_69 (hX1.1 5)
  have hl_j_77 := Nat.lt_of_lt_of_le hl_j_77 (hX1.1 5)
  refine lv_dup hx hb d_cJT_init_157 (by first | rfl | exact rv_cat) ?_
  refine lv_sipush (v := 8192) hx hb d_cJT_init_158 (by decide) ?_
  obtain ⟨N_88, S_89, a9, b9, a8, b8, h_87, Heq, e9a, e9b⟩ := ov_some Heq
  have hFc := fr_all hD hS hA
  refine va_callv (va_runI (As := [.int 8192]) (rest := [.ref (ad 5 j_85), .ref (ad 11 x0)]) ⟨hx, hb, hml, hown, hts⟩ (g_cRw_init l D H.size (ad := ad) (cc := cc) (sad := sad) (sav := sav) h_87) (cw_i 1 hts kw_138 kw_394 kw_137 kw_4 rfl rfl rfl (by decide +kernel) ⟨Nat.le_of_ble_eq_true rfl, Nat.le_of_ble_eq_true rfl⟩) ⟨c_blind, fun U hU hW => c_pre hU hW hP hK hD hev hE hN hNS hS hFc⟩ rfl rfl hl.1 rfl (lv_room (Nat.le_of_ble_eq_true rfl)) d_cJT_init_161 ⟨(Nat.le_trans (m := CT) (by omega) hCT), (Nat.le_trans (m := ST) (by omega) hST)⟩) hS (fun q _ h => hFc q h) hFc (fun ad t H1 locs ht hvm hw hB hz1 hk1 hS => ?_)
  obtain ⟨hX1, hP, -, hD1⟩ := hB
  rw [ht] at hP
  have hD := hD1.weaken (fun _ q _ h => hFc q.1 h)
  generalize H1 = H at hP hS ⊢
  have hX := hX.tr hX1
  have hl : lv_has ls 2 [(0, .ref (ad 11 x0))] := lv_cast hl (by first | rfl | simp only [hX1.2 11 x0 hl_x0_11, hX1.2 5 j_85 hl_j_85])
  refine w_s (st' := [.ref (ad 5 j_85), .ref (ad 11 x0)]) (by first | rfl | simp only [hX1.2 11 x0 hl_x0_11, hX1.2 5 j_85 hl_j_85]) ?_
  have hl_j_17 := Nat.lt_of_lt_of_le hl_j_17 (hX1.1 10)
  have hl_x0_11 := Nat.lt_of_lt_of_le hl_x0_11 (hX1.1 11)
  have hl_20 := Nat.lt_of_lt_of_le hl_20 (hX1.1 8)
  have hl_j_28 := Nat.lt_of_lt_of_le hl_j_28 (hX1.1 1)
  have hl_j_36 := Nat.lt_of_lt_of_le hl_j_36 (hX1.1 2)
  have hl_39 := Nat.lt_of_lt_of_le hl_39 (hX1.1 10)
  have hl_j_47 := Nat.lt_of_lt_of_le hl_j_47 (hX1.1 5)
  have hl_j_55 := Nat.lt_of_lt_of_le hl_j_55 (hX1.1 6)
  have hl_58 := Nat.lt_of_lt_of_le hl_58 (hX1.1 5)
  have hl_61 := Nat.lt_of_lt_of_le hl_61 (hX1.1 8)
  have hl_j_69 := Nat.lt_of_lt_of_le hl_j_69 (hX1.1 5)
  have hl_j_77 := Nat.lt_of_lt_of_le hl_j_77 (hX1.1 5)
  have hl_j_85 := Nat.lt_of_lt_of_le hl_j_85 (hX1.1 5)
  refine w_v (y := rv ad 5 (some j_85)) rfl ?_
  refine va_put (D := D) (ci := 11) (v := rv ad 5 (some j_85)) (ty := .object "JoinedTrees$Row") (C := R_JT) (T := F_JT) (N := 13) hx hb hts i_JT t_JT t_JT_ok n_JT hown hK hP hD hS (cPos N_88 11 x0) (cw_obj (k := 11) (by decide) hl_x0_11) rfl 10 (by decide) (hts _ kw_431) (fun _ h9 => h9) rfl (by decide +kernel) (rv_nar (Or.inl ⟨_, rfl⟩)) (rv_fit (Or.inl ⟨_, rfl⟩)) (Nat.le_of_ble_eq_true rfl) d_cJT_init_164 (fun H locs hP hD hS => ?_)
  have hD := (congrArg (fun w9 => va_D A w9) (cw_setR (ad := ad) (cc := cc) (S := S_89) (k := 11) (f := 10) (t := 5) (v := (some j_85)) (by decide) rfl hl_x0_11)).mp hD
  have hP := (congrArg (fun w9 => va_P D cls w9 H) (cw_setR (ad := ad) (cc := cc) (S := S_89) (k := 11) (f := 10) (t := 5) (v := (some j_85)) (by decide) rfl hl_x0_11)).mp hP
  refine lv_aload_n hx hb d_cJT_init_167 rfl (lv_at hl 0 rfl) ?_
  refine lv_iconst (v := (-1)) hx hb d_cJT_init_168 (by decide) ?_
  refine va_put (D := D) (ci := 11) (v := .int (-1)) (ty := .int) (C := R_JT) (T := F_JT) (N := 13) hx hb hts i_JT t_JT t_JT_ok n_JT hown hK hP hD hS (cPos N_88 11 x0) (cw_obj (k := 11) (by decide) hl_x0_11) rfl 12 (by decide) (hts _ kw_433) (fun _ h9 => h9) rfl (by decide +kernel) rfl rfl (Nat.le_of_ble_eq_true rfl) d_cJT_init_169 (fun H locs hP hD hS => ?_)
  have hD := (congrArg (fun w9 => va_D A w9) (cw_setI (ad := ad) (cc := cc) (S := (S_89.setR 11 10 x0 (some j_85))) (k := 11) (f := 12) (v := (-1)) (by decide) rfl hl_x0_11)).mp hD
  have hP := (congrArg (fun w9 => va_P D cls w9 H) (cw_setI (ad := ad) (cc := cc) (S := (S_89.setR 11 10 x0 (some j_85))) (k := 11) (f := 12) (v := (-1)) (by decide) rfl hl_x0_11)).mp hP
  obtain ⟨e9, e9a, e9b⟩ := tri Heq
  refine W.cs (cells' := CT) (slots' := ST) (by omega) (by omega) ?_
  exact Kr _ e9 172 _ _ _ _ d_cJT_init_172 hX hP hD hS
noncomputable def m_cJT_init (N : Nat → Nat) (x0 : Nat) (S : CS) : Option (((Nat → Nat) × CS) × Nat × Nat) := m_cJT_init_J0 N x0 S
set_option maxHeartbeats 4000000 in
theorem g_cJT_init (l : Launch) (D : va_G) (sz : Nat) {ad : Nat → Nat → Nat} {cc : Nat → ClassId} {sad sav : Nat → Nat} {N : Nat → Nat} {x0 : Nat} {S : CS} {o : (Nat → Nat) × CS} {oc os : Nat} (Heq : m_cJT_init N x0 S = some (o, oc, os)) : Met l ⟨"JoinedTrees", "<init>", "()V"⟩ (Cond.code ⟨"JoinedTrees", "<init>", "()V"⟩ prog_1_method_1_code 2 none :: gb) ({ frames := 3, cells := oc, slots := os, locals := 69 }) (cPc sad sav D (cw ad cc N S) (cty cc) sz [.ref (ad 11 x0)]) (va_Qv (fun _ : Nat → Nat → Nat => True) (fun (u : Nat → Nat → Nat) t => Ext ad N u o.1 ∧ gO D (cw u cc o.1 o.2) (cty cc) (va_A (cw ad cc N S) sz) t) (va_A (cw ad cc N S) sz)) oc os (va_A (cw ad cc N S) sz) := by
  refine Met.ofW (cc := prog_1_method_1_code) (maxL := 2) (ret := none) (by decide) rfl ?_
  intro p e s m args below meth c s₁ B hml hv
  obtain ⟨rfl, hsz, hP, hK, hD0, hev, hE, hN⟩ := hv
  have hx := B.exec
  have hb := B.bytes
  have hr := B.returns
  have hts : ∀ w9 ∈ gb, w9.before [.ref (ad 11 x0)].toArray s = true := fun w9 h => atoms_spec (ws := Cond.code ⟨"JoinedTrees", "<init>", "()V"⟩ prog_1_method_1_code 2 none :: gb) B.pre w9 (List.mem_cons_of_mem _ h)
  have hown : s.vm.findClass "JoinedTrees" = some m.cls := findClass_of_methodNamed B.named
  have hlocks := B.notSynchronized
  have hNS := ns_of hP
  subst hsz
  have hD := hD0.self (sz := s.heap.size)
  generalize hAe : va_A (cw ad cc N S) s.heap.size = A at hD hev hE hNS ⊢
  have hA : ∀ q : Nat, s.heap.size ≤ q → A q := fun q h => by rw [← hAe]; exact Or.inr h
  have hS : va_S A s.heap s.heap [] := va_S.rf
  obtain ⟨ls, hl, hle⟩ : ∃ ls : Array Slot, lv_has ls 2 [(0, .ref (ad 11 x0))] ∧ entryFrame m ([.ref (ad 11 x0)] : List Value).toArray 2 = F0 m 0 ls [] := by
    exact ⟨_, lv_entry (n := 2) _ (Nat.le_of_ble_eq_true rfl), lg_entry_eq ..⟩
  rw [hle]
  have hin : meth.name = "<init>" := (name_of_methodNamed B.named B.method).1
  refine w_cJT_init_J0 (ad0 := ad) (N0 := N) (CT := oc) (ST := os) (cR := oc) (sR := os) hin ⟨hx, hb, hr, hml, hown, hts, hK, hA, hev, hE, hN, hNS⟩ (Nat.le_refl _) (Nat.le_refl _) Heq (fun r h pc ad1 H locs ls hd hX hP hD hS => ?_) _ _ _ _ 0 0 Ext.rf (Nat.zero_add _) (Nat.zero_add _) hP hD hS (lv_sub hl [0] rfl)
  subst h
  exact W.vret hx hb hr (fun t ht hW => ⟨⟨ad1, rfl, trivial, hX, by rw [ht]; exact hP, va_K.moved hW.alike hK, hD⟩, hS.F ht⟩) hS.2.2 hd
