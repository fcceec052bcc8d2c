def m_relement_J0 (S : MS) (x1 : Int32) (x2 : Int32) (x3 : Int32) : Option (MS × Int32) := ob (m_rlistKind S x1 x2) (fun o_1 => (if o_1.2 = 0 then ob (m_rat o_1.1 x1 x2 x3) (fun o_4 => (if 0 ≤ o_4.2 then gd o_4.2 4000 (gd (o_4.1.a 48 o_4.2.toNatClampNeg) 4000 (some ((o_4.1.setI 0 0), o_4.1.a 8 ((o_4.1.a 48 o_4.2.toNatClampNeg).toNatClampNeg)))) else ob (m_rno o_4.1 2) (fun o_9 => some (o_9.1, o_9.2)))) else ob (m_rno o_1.1 o_1.2) (fun o_11 => some (o_11.1, o_11.2))))
theorem d_relement_0 : decode prog_14_method_69_code 0 = .ok (.aload_n 0, 1) := by decide +kernel
theorem d_relement_1 : decode prog_14_method_69_code 1 = .ok (.iload_n 1, 1) := by decide +kernel
theorem d_relement_2 : decode prog_14_method_69_code 2 = .ok (.iload_n 2, 1) := by decide +kernel
theorem d_relement_3 : decode prog_14_method_69_code 3 = .ok (.invokevirtual 424, 3) := by decide +kernel
theorem d_relement_6 : decode prog_14_method_69_code 6 = .ok (.istore 4, 2) := by decide +kernel
theorem d_relement_8 : decode prog_14_method_69_code 8 = .ok (.iload 4, 2) := by decide +kernel
theorem d_relement_10 : decode prog_14_method_69_code 10 = .ok (.ifCond .eq 10, 3) := by decide +kernel
theorem d_relement_20 : decode prog_14_method_69_code 20 = .ok (.aload_n 0, 1) := by decide +kernel
theorem d_relement_21 : decode prog_14_method_69_code 21 = .ok (.iload_n 1, 1) := by decide +kernel
theorem d_relement_22 : decode prog_14_method_69_code 22 = .ok (.iload_n 2, 1) := by decide +kernel
theorem d_relement_23 : decode prog_14_method_69_code 23 = .ok (.iload_n 3, 1) := by decide +kernel
theorem d_relement_24 : decode prog_14_method_69_code 24 = .ok (.invokevirtual 287, 3) := by decide +kernel
theorem d_relement_27 : decode prog_14_method_69_code 27 = .ok (.istore 5, 2) := by decide +kernel
theorem d_relement_29 : decode prog_14_method_69_code 29 = .ok (.iload 5, 2) := by decide +kernel
theorem d_relement_31 : decode prog_14_method_69_code 31 = .ok (.ifCond .ge 9, 3) := by decide +kernel
theorem d_relement_40 : decode prog_14_method_69_code 40 = .ok (.aload_n 0, 1) := by decide +kernel
theorem d_relement_41 : decode prog_14_method_69_code 41 = .ok (.iconst 0, 1) := by decide +kernel
theorem d_relement_42 : decode prog_14_method_69_code 42 = .ok (.putfield 176, 3) := by decide +kernel
theorem d_relement_45 : decode prog_14_method_69_code 45 = .ok (.aload_n 0, 1) := by decide +kernel
theorem d_relement_46 : decode prog_14_method_69_code 46 = .ok (.getfield 19, 3) := by decide +kernel
theorem d_relement_49 : decode prog_14_method_69_code 49 = .ok (.aload_n 0, 1) := by decide +kernel
theorem d_relement_50 : decode prog_14_method_69_code 50 = .ok (.getfield 124, 3) := by decide +kernel
theorem d_relement_53 : decode prog_14_method_69_code 53 = .ok (.iload 5, 2) := by decide +kernel
theorem d_relement_55 : decode prog_14_method_69_code 55 = .ok (.iaload, 1) := by decide +kernel
theorem d_relement_56 : decode prog_14_method_69_code 56 = .ok (.iaload, 1) := by decide +kernel
theorem d_relement_57 : decode prog_14_method_69_code 57 = .ok (.ireturn, 1) := by decide +kernel
theorem d_relement_34 : decode prog_14_method_69_code 34 = .ok (.aload_n 0, 1) := by decide +kernel
theorem d_relement_35 : decode prog_14_method_69_code 35 = .ok (.iconst 2, 1) := by decide +kernel
theorem d_relement_36 : decode prog_14_method_69_code 36 = .ok (.invokevirtual 191, 3) := by decide +kernel
theorem d_relement_39 : decode prog_14_method_69_code 39 = .ok (.ireturn, 1) := by decide +kernel
theorem d_relement_13 : decode prog_14_method_69_code 13 = .ok (.aload_n 0, 1) := by decide +kernel
theorem d_relement_14 : decode prog_14_method_69_code 14 = .ok (.iload 4, 2) := by decide +kernel
theorem d_relement_16 : decode prog_14_method_69_code 16 = .ok (.invokevirtual 191, 3) := by decide +kernel
theorem d_relement_19 : decode prog_14_method_69_code 19 = .ok (.ireturn, 1) := by decide +kernel
set_option maxHeartbeats 4000000 in
set_option maxRecDepth 100000 in
theorem w_relement_J0 {p : Program} {l : Launch} {e : Env} {s : State} {m : MethodId} {args : Array Value} {below : List Frame} {meth : Method} {c : Code} {A : Nat → Prop} {D : va_G} {md : Nat → Nat} {mc : Nat → ClassId} {Q : State → Prop} (hC : MCx "JoinedTreesModel" prog_14_method_69_code 6 (some .int) p s m args meth c A D mc) {S : MS} {x1 : Int32} {x2 : Int32} {x3 : Int32} {o : MS × Int32} (Heq : m_relement_J0 S x1 x2 x3 = some o) (Kr : ∀ r : MS × Int32, o = r → ∀ (pc : Nat) (H : Heap) (locs : List Loc) (ls : Array Slot), decode prog_14_method_69_code pc = .ok (.ireturn, 1) → va_P D cls (mw md mc r.1) H → va_D A (mw md mc r.1) → va_S A s.heap H locs → W p l e ({ frames := 4, cells := 0, slots := 0, locals := 96 }) s m args below meth c H locs 0 0 Q (F0 m pc ls [.int r.2])) : ∀ (H : Heap) (locs : List Loc) (ls : Array Slot), va_P D cls (mw md mc S) H → va_D A (mw md mc S) → va_S A s.heap H locs → lv_has ls 6 [(0, .ref (md 100)), (1, .int x1), (2, .int x2), (3, .int x3)] → W p l e ({ frames := 4, cells := 0, slots := 0, locals := 96 }) s m args below meth c H locs 0 0 Q (F0 m 0 ls []) := by
  intro H locs ls hP hD hS hl
  obtain ⟨hx, hb, hr, hml, hown, hts, hK, hA⟩ := id hC
  unfold m_relement_J0 at Heq
  refine lv_aload_n hx hb d_relement_0 rfl (lv_at hl 0 rfl) ?_
  refine lv_iload_n hx hb d_relement_1 rfl (lv_at hl 1 rfl) ?_
  refine lv_iload_n hx hb d_relement_2 rfl (lv_at hl 2 rfl) ?_
  obtain ⟨o_1, h_2, Heq⟩ := ob_some Heq
  have hFc := fr_all hD hS hA
  refine va_calli (va_runV (As := [.int x1, .int x2]) (rest := []) ⟨hx, hb, hml, hown, hts⟩ (g_rlistKind l D H.size h_2) (cw_v 2 hts kw_1891 kw_1888 kw_1890 kp_73 kw_11 rfl rfl (by decide +kernel) ⟨Nat.le_of_ble_eq_true rfl, Nat.le_of_ble_eq_true rfl⟩) ⟨g_blind, va_recv hK hP (ci := 12) (q0 := 0) rfl rfl, fun U hU hW => g_pre hU hW hP hK hD⟩ rfl rfl hl.1 rfl (lv_room (Nat.le_of_ble_eq_true rfl)) d_relement_3 ⟨Nat.le_of_ble_eq_true rfl, Nat.le_of_ble_eq_true rfl⟩) hS (fun q _ h => hFc q h) hFc (fun rz u t H1 locs ht hvm hw hB hz1 hk1 hS => ?_)
  obtain ⟨hP, -, hD1⟩ := hB
  rw [ht] at hP
  have hD := hD1.weaken (fun _ q _ h => hFc q.1 h)
  generalize H1 = H at hP hS ⊢
  refine W.cs (cells' := 0) (slots' := 0) rfl rfl ?_
  subst hw
  refine lv_istore (lv' := [(4, .int o_1.2), (0, .ref (md 100)), (1, .int x1), (2, .int x2), (3, .int x3)]) hx hb d_relement_6 hl (by decide) rfl (fun ls hl => ?_)
  refine lv_iload hx hb d_relement_8 (lv_at hl 0 rfl) ?_
  refine lv_if_eq (tgt := 20) hx hb d_relement_10 (by decide) (fun c_3 => ?_) (fun c_3 => ?_)
  · replace Heq := (if_pos c_3).symm.trans Heq
    refine lv_aload_n hx hb d_relement_20 rfl (lv_at hl 1 rfl) ?_
    refine lv_iload_n hx hb d_relement_21 rfl (lv_at hl 2 rfl) ?_
    refine lv_iload_n hx hb d_relement_22 rfl (lv_at hl 3 rfl) ?_
    refine lv_iload_n hx hb d_relement_23 rfl (lv_at hl 4 rfl) ?_
    obtain ⟨o_4, h_5, Heq⟩ := ob_some Heq
    have hFc := fr_all hD hS hA
    refine va_calli (va_runV (As := [.int x1, .int x2, .int x3]) (rest := []) ⟨hx, hb, hml, hown, hts⟩ (g_rat l D H.size h_5) (cw_v 3 hts kw_1713 kw_1710 kw_1712 kp_46 kw_11 rfl rfl (by decide +kernel) ⟨Nat.le_of_ble_eq_true rfl, Nat.le_of_ble_eq_true rfl⟩) ⟨g_blind, va_recv hK hP (ci := 12) (q0 := 0) rfl rfl, fun U hU hW => g_pre hU hW hP hK hD⟩ rfl rfl hl.1 rfl (lv_room (Nat.le_of_ble_eq_true rfl)) d_relement_24 ⟨Nat.le_of_ble_eq_true rfl, Nat.le_of_ble_eq_true rfl⟩) hS (fun q _ h => hFc q h) hFc (fun rz u t H1 locs ht hvm hw hB hz1 hk1 hS => ?_)
    obtain ⟨hP, -, hD1⟩ := hB
    rw [ht] at hP
    have hD := hD1.weaken (fun _ q _ h => hFc q.1 h)
    generalize H1 = H at hP hS ⊢
    refine W.cs (cells' := 0) (slots' := 0) rfl rfl ?_
    subst hw
    refine lv_istore (lv' := [(5, .int o_4.2), (4, .int o_1.2), (0, .ref (md 100)), (1, .int x1), (2, .int x2), (3, .int x3)]) hx hb d_relement_27 hl (by decide) rfl (fun ls hl => ?_)
    refine lv_iload hx hb d_relement_29 (lv_at hl 0 rfl) ?_
    refine lv_if_ge (tgt := 40) hx hb d_relement_31 (by decide) (fun c_6 => ?_) (fun c_6 => ?_)
    · replace Heq := (if_pos c_6).symm.trans Heq
      refine lv_aload_n hx hb d_relement_40 rfl (lv_at hl 2 rfl) ?_
      refine lv_iconst (v := 0) hx hb d_relement_41 (by decide) ?_
      refine va_put (D := D) (ci := 12) (v := .int 0) (ty := .int) (C := R_MM) (T := F_MM) (N := 77) hx hb hts i_MM t_MM t_MM_ok n_MM hown hK hP hD hS 0 rfl rfl 0 (by decide) (hts _ kw_1382) (fun _ h9 => h9) rfl (by decide +kernel) rfl rfl (Nat.le_of_ble_eq_true rfl) d_relement_42 (fun H locs hP hD hS => ?_)
      rw [mw_I0] at hP hD
      refine lv_aload_n hx hb d_relement_45 rfl (lv_at hl 2 rfl) ?_
      refine va_get (D := D) (ci := 12) (v := .ref (md 8)) (C := R_MM) (T := F_MM) (N := 77) hx hb hts i_MM hown hK hP 0 rfl rfl 8 (by decide) (hts _ kw_1390) (fun _ h9 => h9) rfl d_relement_46 ?_
      refine lv_aload_n hx hb d_relement_49 rfl (lv_at hl 2 rfl) ?_
      refine va_get (D := D) (ci := 12) (v := .ref (md 48)) (C := R_MM) (T := F_MM) (N := 77) hx hb hts i_MM hown hK hP 0 rfl rfl 48 (by decide) (hts _ kw_1430) (fun _ h9 => h9) rfl d_relement_50 ?_
      refine lv_iload hx hb d_relement_53 (lv_at hl 0 rfl) ?_
      obtain ⟨hi_7, Heq⟩ := gd_some Heq
      refine va_iald hx hb hK hP 32 0 rfl rfl (i := o_4.2) hi_7 d_relement_55 ?_
      refine w_i (y := o_4.1.a 48 o_4.2.toNatClampNeg) rfl ?_
      obtain ⟨hi_8, Heq⟩ := gd_some Heq
      refine va_iald hx hb hK hP 4 0 rfl rfl (i := o_4.1.a 48 o_4.2.toNatClampNeg) hi_8 d_relement_56 ?_
      refine w_i (y := o_4.1.a 8 ((o_4.1.a 48 o_4.2.toNatClampNeg).toNatClampNeg)) rfl ?_
      exact Kr _ (Option.some.inj Heq).symm 57 _ _ _ d_relement_57 hP hD hS
    · replace Heq := (if_neg c_6).symm.trans Heq
      refine lv_aload_n hx hb d_relement_34 rfl (lv_at hl 2 rfl) ?_
      refine lv_iconst (v := 2) hx hb d_relement_35 (by decide) ?_
      obtain ⟨o_9, h_10, Heq⟩ := ob_some Heq
      have hFc := fr_all hD hS hA
      refine va_calli (va_runV (As := [.int 2]) (rest := []) ⟨hx, hb, hml, hown, hts⟩ (g_rno l D H.size h_10) (cw_v 1 hts kw_1626 kw_1623 kw_1625 kp_29 kw_11 rfl rfl (by decide +kernel) ⟨Nat.le_of_ble_eq_true rfl, Nat.le_of_ble_eq_true rfl⟩) ⟨g_blind, va_recv hK hP (ci := 12) (q0 := 0) rfl rfl, fun U hU hW => g_pre hU hW hP hK hD⟩ rfl rfl hl.1 rfl (lv_room (Nat.le_of_ble_eq_true rfl)) d_relement_36 ⟨Nat.le_of_ble_eq_true rfl, Nat.le_of_ble_eq_true rfl⟩) hS (fun q _ h => hFc q h) hFc (fun rz u t H1 locs ht hvm hw hB hz1 hk1 hS => ?_)
      obtain ⟨hP, -, hD1⟩ := hB
      rw [ht] at hP
      have hD := hD1.weaken (fun _ q _ h => hFc q.1 h)
      generalize H1 = H at hP hS ⊢
      refine W.cs (cells' := 0) (slots' := 0) rfl rfl ?_
      subst hw
      exact Kr _ (Option.some.inj Heq).symm 39 _ _ _ d_relement_39 hP hD hS
  · replace Heq := (if_neg c_3).symm.trans Heq
    refine lv_aload_n hx hb d_relement_13 rfl (lv_at hl 1 rfl) ?_
    refine lv_iload hx hb d_relement_14 (lv_at hl 0 rfl) ?_
    obtain ⟨o_11, h_12, Heq⟩ := ob_some Heq
    have hFc := fr_all hD hS hA
    refine va_calli (va_runV (As := [.int o_1.2]) (rest := []) ⟨hx, hb, hml, hown, hts⟩ (g_rno l D H.size h_12) (cw_v 1 hts kw_1626 kw_1623 kw_1625 kp_29 kw_11 rfl rfl (by decide +kernel) ⟨Nat.le_of_ble_eq_true rfl, Nat.le_of_ble_eq_true rfl⟩) ⟨g_blind, va_recv hK hP (ci := 12) (q0 := 0) rfl rfl, fun U hU hW => g_pre hU hW hP hK hD⟩ rfl rfl hl.1 rfl (lv_room (Nat.le_of_ble_eq_true rfl)) d_relement_16 ⟨Nat.le_of_ble_eq_true rfl, Nat.le_of_ble_eq_true rfl⟩) hS (fun q _ h => hFc q h) hFc (fun rz u t H1 locs ht hvm hw hB hz1 hk1 hS => ?_)
    obtain ⟨hP, -, hD1⟩ := hB
    rw [ht] at hP
    have hD := hD1.weaken (fun _ q _ h => hFc q.1 h)
    generalize H1 = H at hP hS ⊢
    refine W.cs (cells' := 0) (slots' := 0) rfl rfl ?_
    subst hw
    exact Kr _ (Option.some.inj Heq).symm 19 _ _ _ d_relement_19 hP hD hS
def m_relement (S : MS) (x1 : Int32) (x2 : Int32) (x3 : Int32) : Option (MS × Int32) := m_relement_J0 S x1 x2 x3
theorem g_relement (l : Launch) (D : va_G) (sz : Nat) {md : Nat → Nat} {mc : Nat → ClassId} {S : MS} {x1 : Int32} {x2 : Int32} {x3 : Int32} {o : MS × Int32} (Heq : m_relement S x1 x2 x3 = some o) : Met l ⟨"JoinedTreesModel", "element", "(III)I"⟩ (Cond.code ⟨"JoinedTreesModel", "element", "(III)I"⟩ prog_14_method_69_code 6 (some .int) :: gb) ({ frames := 4, cells := 0, slots := 0, locals := 96 }) (gPc D (mw md mc S) (mty mc) sz [.ref (md 100), .int x1, .int x2, .int x3]) (va_Qi (fun (r : Int32) (_ : Unit) => r = o.2) (fun _ t => gO D (mw md mc o.1) (mty mc) (va_A (mw md mc S) sz) t) (va_A (mw md mc S) sz)) 0 0 (va_A (mw md mc S) sz) := by
  refine Met.ofW (cc := prog_14_method_69_code) (maxL := 6) (ret := (some .int)) (by decide) rfl ?_
  intro p e s m args below meth c s₁ B hml hv
  obtain ⟨rfl, hsz, hP, hK, hD0⟩ := hv
  have hx := B.exec
  have hb := B.bytes
  have hr := B.returns
  have hts : ∀ w9 ∈ gb, w9.before [.ref (md 100), .int x1, .int x2, .int x3].toArray s = true := fun w9 h => atoms_spec (ws := Cond.code ⟨"JoinedTreesModel", "element", "(III)I"⟩ prog_14_method_69_code 6 (some .int) :: gb) B.pre w9 (List.mem_cons_of_mem _ h)
  have hown : s.vm.findClass "JoinedTreesModel" = some m.cls := findClass_of_methodNamed B.named
  have hlocks := B.notSynchronized
  subst hsz
  have hD := hD0.self (sz := s.heap.size)
  generalize hAe : va_A (mw md mc S) s.heap.size = A at hD ⊢
  have hA : ∀ q : Nat, s.heap.size ≤ q → A q := fun q h => by rw [← hAe]; exact Or.inr h
  have hS : va_S A s.heap s.heap [] := va_S.rf
  have hl := lv_entry ([.ref (md 100), .int x1, .int x2, .int x3]) (n := 6) (Nat.le_of_ble_eq_true rfl)
  rw [lg_entry_eq]
  generalize (lg_sl ([.ref (md 100), .int x1, .int x2, .int x3]) ++ List.replicate (6 - (lg_sl ([.ref (md 100), .int x1, .int x2, .int x3])).length) Slot.unset).toArray = ls at hl ⊢
  have hl : lv_has ls 6 [(0, .ref (md 100)), (1, .int x1), (2, .int x2), (3, .int x3)] := hl
  refine w_relement_J0 ⟨hx, hb, hr, hml, hown, hts, hK, hA⟩ Heq (fun r h pc H locs ls hd hP hD hS => ?_) _ _ _ hP hD hS (lv_sub hl [0, 1, 2, 3] rfl)
  subst h
  exact W.iret hx hb hr (fun t ht hW => ⟨⟨_, (), rfl, rfl, by rw [ht]; exact hP, va_K.moved hW.alike hK, hD⟩, hS.F ht⟩) hS.2.2 hd
def m_rindex_J84 (S : MS) (x3 : Int32) (x5 : Int32) (x6 : Int32) : Option ((MS × Int32 × Int32 × Int32) ⊕ (MS ⊕ (MS × Int32))) := some (.inl (S, x3, x5, (x6 + 1)))
theorem d_rindex_0 : decode prog_14_method_70_code 0 = .ok (.aload_n 0, 1) := by decide +kernel
theorem d_rindex_1 : decode prog_14_method_70_code 1 = .ok (.iload_n 1, 1) := by decide +kernel
theorem d_rindex_2 : decode prog_14_method_70_code 2 = .ok (.iload_n 2, 1) := by decide +kernel
theorem d_rindex_3 : decode prog_14_method_70_code 3 = .ok (.invokevirtual 424, 3) := by decide +kernel
theorem d_rindex_6 : decode prog_14_method_70_code 6 = .ok (.istore 4, 2) := by decide +kernel
theorem d_rindex_8 : decode prog_14_method_70_code 8 = .ok (.iload 4, 2) := by decide +kernel
theorem d_rindex_10 : decode prog_14_method_70_code 10 = .ok (.ifCond .eq 10, 3) := by decide +kernel
theorem d_rindex_20 : decode prog_14_method_70_code 20 = .ok (.aload_n 0, 1) := by decide +kernel
theorem d_rindex_21 : decode prog_14_method_70_code 21 = .ok (.iload_n 1, 1) := by decide +kernel
theorem d_rindex_22 : decode prog_14_method_70_code 22 = .ok (.iload_n 2, 1) := by decide +kernel
theorem d_rindex_23 : decode prog_14_method_70_code 23 = .ok (.invokevirtual 223, 3) := by decide +kernel
theorem d_rindex_26 : decode prog_14_method_70_code 26 = .ok (.aload_n 0, 1) := by decide +kernel
theorem d_rindex_27 : decode prog_14_method_70_code 27 = .ok (.iload_n 1, 1) := by decide +kernel
theorem d_rindex_28 : decode prog_14_method_70_code 28 = .ok (.iload_n 2, 1) := by decide +kernel
theorem d_rindex_29 : decode prog_14_method_70_code 29 = .ok (.invokevirtual 227, 3) := by decide +kernel
theorem d_rindex_32 : decode prog_14_method_70_code 32 = .ok (.iconst 0, 1) := by decide +kernel
theorem d_rindex_33 : decode prog_14_method_70_code 33 = .ok (.istore 5, 2) := by decide +kernel
theorem d_rindex_35 : decode prog_14_method_70_code 35 = .ok (.iconst 0, 1) := by decide +kernel
theorem d_rindex_36 : decode prog_14_method_70_code 36 = .ok (.istore 6, 2) := by decide +kernel
theorem d_rindex_38 : decode prog_14_method_70_code 38 = .ok (.iload 6, 2) := by decide +kernel
theorem d_rindex_40 : decode prog_14_method_70_code 40 = .ok (.aload_n 0, 1) := by decide +kernel
theorem d_rindex_41 : decode prog_14_method_70_code 41 = .ok (.getfield 220, 3) := by decide +kernel
theorem d_rindex_44 : decode prog_14_method_70_code 44 = .ok (.if_icmp .ge 46, 3) := by decide +kernel
theorem d_rindex_47 : decode prog_14_method_70_code 47 = .ok (.aload_n 0, 1) := by decide +kernel
theorem d_rindex_48 : decode prog_14_method_70_code 48 = .ok (.getfield 19, 3) := by decide +kernel
theorem d_rindex_51 : decode prog_14_method_70_code 51 = .ok (.aload_n 0, 1) := by decide +kernel
theorem d_rindex_52 : decode prog_14_method_70_code 52 = .ok (.getfield 124, 3) := by decide +kernel
theorem d_rindex_55 : decode prog_14_method_70_code 55 = .ok (.iload 6, 2) := by decide +kernel
theorem d_rindex_57 : decode prog_14_method_70_code 57 = .ok (.iaload, 1) := by decide +kernel
theorem d_rindex_58 : decode prog_14_method_70_code 58 = .ok (.iaload, 1) := by decide +kernel
theorem d_rindex_59 : decode prog_14_method_70_code 59 = .ok (.iload_n 3, 1) := by decide +kernel
theorem d_rindex_60 : decode prog_14_method_70_code 60 = .ok (.if_icmp .ne 11, 3) := by decide +kernel
theorem d_rindex_71 : decode prog_14_method_70_code 71 = .ok (.aload_n 0, 1) := by decide +kernel
theorem d_rindex_72 : decode prog_14_method_70_code 72 = .ok (.getfield 130, 3) := by decide +kernel
theorem d_rindex_75 : decode prog_14_method_70_code 75 = .ok (.iload 6, 2) := by decide +kernel
theorem d_rindex_77 : decode prog_14_method_70_code 77 = .ok (.baload, 1) := by decide +kernel
theorem d_rindex_78 : decode prog_14_method_70_code 78 = .ok (.ifCond .eq 6, 3) := by decide +kernel
theorem d_rindex_84 : decode prog_14_method_70_code 84 = .ok (.iinc 6 1, 3) := by decide +kernel
theorem d_rindex_87 : decode prog_14_method_70_code 87 = .ok (.goto (-49), 3) := by decide +kernel
set_option maxHeartbeats 4000000 in
set_option maxRecDepth 100000 in
theorem w_rindex_J84 {p : Program} {l : Launch} {e : Env} {s : State} {m : MethodId} {args : Array Value} {below : List Frame} {meth : Method} {c : Code} {A : Nat → Prop} {D : va_G} {md : Nat → Nat} {mc : Nat → ClassId} {Q : State → Prop} (hC : MCx "JoinedTreesModel" prog_14_method_70_code 7 (some .int) p s m args meth c A D mc) {S : MS} {x3 : Int32} {x5 : Int32} {x6 : Int32} {o : ((MS × Int32 × Int32 × Int32) ⊕ (MS ⊕ (MS × Int32)))} (Heq : m_rindex_J84 S x3 x5 x6 = some o) (Ka : ∀ b : MS × Int32 × Int32 × Int32, o = .inl b → ∀ (H : Heap) (locs : List Loc) (ls : Array Slot), va_P D cls (mw md mc b.1) H → va_D A (mw md mc b.1) → va_S A s.heap H locs → lv_has ls 7 [(0, .ref (md 100)), (3, .int b.2.1), (5, .int b.2.2.1), (6, .int b.2.2.2)] → W p l e ({ frames := 4, cells := 0, slots := 0, locals := 91 }) s m args below meth c H locs 0 0 Q (F0 m 38 ls [])) (K0 : ∀ b : MS, o = .inr (.inl b) → ∀ (H : Heap) (locs : List Loc) (ls : Array Slot), va_P D cls (mw md mc b) H → va_D A (mw md mc b) → va_S A s.heap H locs → lv_has ls 7 [(0, .ref (md 100))] → W p l e ({ frames := 4, cells := 0, slots := 0, locals := 91 }) s m args below meth c H locs 0 0 Q (F0 m 90 ls [])) (Kr : ∀ r : MS × Int32, o = .inr (.inr r) → ∀ (pc : Nat) (H : Heap) (locs : List Loc) (ls : Array Slot), decode prog_14_method_70_code pc = .ok (.ireturn, 1) → va_P D cls (mw md mc r.1) H → va_D A (mw md mc r.1) → va_S A s.heap H locs → W p l e ({ frames := 4, cells := 0, slots := 0, locals := 91 }) s m args below meth c H locs 0 0 Q (F0 m pc ls [.int r.2])) : ∀ (H : Heap) (locs : List Loc) (ls : Array Slot), va_P D cls (mw md mc S) H → va_D A (mw md mc S) → va_S A s.heap H locs → lv_has ls 7 [(0, .ref (md 100)), (3, .int x3), (5, .int x5), (6, .int x6)] → W p l e ({ frames := 4, cells := 0, slots := 0, locals := 91 }) s m args below meth c H locs 0 0 Q (F0 m 84 ls []) := by
  intro H locs ls hP hD hS hl
  obtain ⟨hx, hb, hr, hml, hown, hts, hK, hA⟩ := id hC
  unfold m_rindex_J84 at Heq
  refine lv_iinc (v := x6 + 1) (lv' := [(6, .int (x6 + 1)), (0, .ref (md 100)), (3, .int x3), (5, .int x5)]) hx hb d_rindex_84 hl (k := 3) rfl rfl (by decide) rfl (fun ls hl => ?_)
  refine lv_goto (tgt := 38) hx hb d_rindex_87 (by decide) ?_
  exact Ka _ (Option.some.inj Heq).symm _ _ _ hP hD hS (lv_sub hl [1, 2, 3, 0] rfl)
def m_rindex_B38 (S : MS) (x3 : Int32) (x5 : Int32) (x6 : Int32) : Option ((MS × Int32 × Int32 × Int32) ⊕ (MS ⊕ (MS × Int32))) := (if S.i 50 ≤ x6 then some (.inr (.inl (S))) else gd x6 4000 (gd (S.a 48 x6.toNatClampNeg) 4000 ((if S.a 8 ((S.a 48 x6.toNatClampNeg).toNatClampNeg) = x3 then some (.inr (.inr ((S.setI 0 0), x5))) else gd x6 4000 ((if S.a 51 x6.toNatClampNeg = 0 then m_rindex_J84 S x3 x5 x6 else m_rindex_J84 S x3 (x5 + 1) x6))))))
theorem d_rindex_81 : decode prog_14_method_70_code 81 = .ok (.iinc 5 1, 3) := by decide +kernel
theorem d_rindex_63 : decode prog_14_method_70_code 63 = .ok (.aload_n 0, 1) := by decide +kernel
theorem d_rindex_64 : decode prog_14_method_70_code 64 = .ok (.iconst 0, 1) := by decide +kernel
theorem d_rindex_65 : decode prog_14_method_70_code 65 = .ok (.putfield 176, 3) := by decide +kernel
theorem d_rindex_68 : decode prog_14_method_70_code 68 = .ok (.iload 5, 2) := by decide +kernel
theorem d_rindex_70 : decode prog_14_method_70_code 70 = .ok (.ireturn, 1) := by decide +kernel
set_option maxHeartbeats 4000000 in
set_option maxRecDepth 100000 in
theorem w_rindex_B38 {p : Program} {l : Launch} {e : Env} {s : State} {m : MethodId} {args : Array Value} {below : List Frame} {meth : Method} {c : Code} {A : Nat → Prop} {D : va_G} {md : Nat → Nat} {mc : Nat → ClassId} {Q : State → Prop} (hC : MCx "JoinedTreesModel" prog_14_method_70_code 7 (some .int) p s m args meth c A D mc) {S : MS} {x3 : Int32} {x5 : Int32} {x6 : Int32} {o : ((MS × Int32 × Int32 × Int32) ⊕ (MS ⊕ (MS × Int32)))} (Heq : m_rindex_B38 S x3 x5 x6 = some o) (Ka : ∀ b : MS × Int32 × Int32 × Int32, o = .inl b → ∀ (H : Heap) (locs : List Loc) (ls : Array Slot), va_P D cls (mw md mc b.1) H → va_D A (mw md mc b.1) → va_S A s.heap H locs → lv_has ls 7 [(0, .ref (md 100)), (3, .int b.2.1), (5, .int b.2.2.1), (6, .int b.2.2.2)] → W p l e ({ frames := 4, cells := 0, slots := 0, locals := 91 }) s m args below meth c H locs 0 0 Q (F0 m 38 ls [])) (K0 : ∀ b : MS, o = .inr (.inl b) → ∀ (H : Heap) (locs : List Loc) (ls : Array Slot), va_P D cls (mw md mc b) H → va_D A (mw md mc b) → va_S A s.heap H locs → lv_has ls 7 [(0, .ref (md 100))] → W p l e ({ frames := 4, cells := 0, slots := 0, locals := 91 }) s m args below meth c H locs 0 0 Q (F0 m 90 ls [])) (Kr : ∀ r : MS × Int32, o = .inr (.inr r) → ∀ (pc : Nat) (H : Heap) (locs : List Loc) (ls : Array Slot), decode prog_14_method_70_code pc = .ok (.ireturn, 1) → va_P D cls (mw md mc r.1) H → va_D A (mw md mc r.1) → va_S A s.heap H locs → W p l e ({ frames := 4, cells := 0, slots := 0, locals := 91 }) s m args below meth c H locs 0 0 Q (F0 m pc ls [.int r.2])) : ∀ (H : Heap) (locs : List Loc) (ls : Array Slot), va_P D cls (mw md mc S) H → va_D A (mw md mc S) → va_S A s.heap H locs → lv_has ls 7 [(0, .ref (md 100)), (3, .int x3), (5, .int x5), (6, .int x6)] → W p l e ({ frames := 4, cells := 0, slots := 0, locals := 91 }) s m args below meth c H locs 0 0 Q (F0 m 38 ls []) := by
  intro H locs ls hP hD hS hl
  obtain ⟨hx, hb, hr, hml, hown, hts, hK, hA⟩ := id hC
  unfold m_rindex_B38 at Heq
  refine lv_iload hx hb d_rindex_38 (lv_at hl 3 rfl) ?_
  refine lv_aload_n hx hb d_rindex_40 rfl (lv_at hl 0 rfl) ?_
  refine va_get (D := D) (ci := 12) (v := .int (S.i 50)) (C := R_MM) (T := F_MM) (N := 77) hx hb hts i_MM hown hK hP 0 rfl rfl 50 (by decide) (hts _ kw_1432) (fun _ h9 => h9) rfl d_rindex_41 ?_
  refine lv_icmp_ge (tgt := 90) hx hb d_rindex_44 (by decide) (fun c_1 => ?_) (fun c_1 => ?_)
  · replace Heq := (if_pos c_1).symm.trans Heq
    exact K0 _ (Option.some.inj Heq).symm _ _ _ hP hD hS (lv_sub hl [0] rfl)
  · replace Heq := (if_neg c_1).symm.trans Heq
    refine lv_aload_n hx hb d_rindex_47 rfl (lv_at hl 0 rfl) ?_
    refine va_get (D := D) (ci := 12) (v := .ref (md 8)) (C := R_MM) (T := F_MM) (N := 77) hx hb hts i_MM hown hK hP 0 rfl rfl 8 (by decide) (hts _ kw_1390) (fun _ h9 => h9) rfl d_rindex_48 ?_
    refine lv_aload_n hx hb d_rindex_51 rfl (lv_at hl 0 rfl) ?_
    refine va_get (D := D) (ci := 12) (v := .ref (md 48)) (C := R_MM) (T := F_MM) (N := 77) hx hb hts i_MM hown hK hP 0 rfl rfl 48 (by decide) (hts _ kw_1430) (fun _ h9 => h9) rfl d_rindex_52 ?_
    refine lv_iload hx hb d_rindex_55 (lv_at hl 3 rfl) ?_
    obtain ⟨hi_2, Heq⟩ := gd_some Heq
    refine va_iald hx hb hK hP 32 0 rfl rfl (i := x6) hi_2 d_rindex_57 ?_
    refine w_i (y := S.a 48 x6.toNatClampNeg) rfl ?_
    obtain ⟨hi_3, Heq⟩ := gd_some Heq
    refine va_iald hx hb hK hP 4 0 rfl rfl (i := S.a 48 x6.toNatClampNeg) hi_3 d_rindex_58 ?_
    refine w_i (y := S.a 8 ((S.a 48 x6.toNatClampNeg).toNatClampNeg)) rfl ?_
    refine lv_iload_n hx hb d_rindex_59 rfl (lv_at hl 1 rfl) ?_
    refine lv_icmp_ne (tgt := 71) hx hb d_rindex_60 (by decide) (fun c_4 => ?_) (fun c_4 => ?_)
    · replace Heq := (if_neg c_4).symm.trans Heq
      refine lv_aload_n hx hb d_rindex_71 rfl (lv_at hl 0 rfl) ?_
      refine va_get (D := D) (ci := 12) (v := .ref (md 51)) (C := R_MM) (T := F_MM) (N := 77) hx hb hts i_MM hown hK hP 0 rfl rfl 51 (by decide) (hts _ kw_1433) (fun _ h9 => h9) rfl d_rindex_72 ?_
      refine lv_iload hx hb d_rindex_75 (lv_at hl 3 rfl) ?_
      obtain ⟨hi_5, Heq⟩ := gd_some Heq
      refine va_zald hx hb hK hP 34 2 rfl rfl (i := x6) hi_5 d_rindex_77 ?_
      refine w_i (y := S.a 51 x6.toNatClampNeg) rfl ?_
      refine lv_if_eq (tgt := 84) hx hb d_rindex_78 (by decide) (fun c_6 => ?_) (fun c_6 => ?_)
      · replace Heq := (if_pos c_6).symm.trans Heq
        exact w_rindex_J84 hC Heq Ka K0 Kr _ _ _ hP hD hS (lv_sub hl [0, 1, 2, 3] rfl)
      · replace Heq := (if_neg c_6).symm.trans Heq
        refine lv_iinc (v := x5 + 1) (lv' := [(5, .int (x5 + 1)), (0, .ref (md 100)), (3, .int x3), (6, .int x6)]) hx hb d_rindex_81 hl (k := 2) rfl rfl (by decide) rfl (fun ls hl => ?_)
        exact w_rindex_J84 hC Heq Ka K0 Kr _ _ _ hP hD hS (lv_sub hl [1, 2, 0, 3] rfl)
    · replace Heq := (if_pos c_4).symm.trans Heq
      refine lv_aload_n hx hb d_rindex_63 rfl (lv_at hl 0 rfl) ?_
      refine lv_iconst (v := 0) hx hb d_rindex_64 (by decide) ?_
      refine va_put (D := D) (ci := 12) (v := .int 0) (ty := .int) (C := R_MM) (T := F_MM) (N := 77) hx hb hts i_MM t_MM t_MM_ok n_MM hown hK hP hD hS 0 rfl rfl 0 (by decide) (hts _ kw_1382) (fun _ h9 => h9) rfl (by decide +kernel) rfl rfl (Nat.le_of_ble_eq_true rfl) d_rindex_65 (fun H locs hP hD hS => ?_)
      rw [mw_I0] at hP hD
      refine lv_iload hx hb d_rindex_68 (lv_at hl 2 rfl) ?_
      exact Kr _ (Option.some.inj Heq).symm 70 _ _ _ d_rindex_70 hP hD hS
def m_rindex_L38 (S : MS) (x3 : Int32) (x5 : Int32) (x6 : Int32) : Option (MS ⊕ (MS × Int32)) := lp (fun a : MS × Int32 × Int32 × Int32 => m_rindex_B38 a.1 a.2.1 a.2.2.1 a.2.2.2) FU (S, x3, x5, x6)
theorem w_rindex_L38 {p : Program} {l : Launch} {e : Env} {s : State} {m : MethodId} {args : Array Value} {below : List Frame} {meth : Method} {c : Code} {A : Nat → Prop} {D : va_G} {md : Nat → Nat} {mc : Nat → ClassId} {Q : State → Prop} (hC : MCx "JoinedTreesModel" prog_14_method_70_code 7 (some .int) p s m args meth c A D mc) {S : MS} {x3 : Int32} {x5 : Int32} {x6 : Int32} {o : (MS ⊕ (MS × Int32))} (Heq : m_rindex_L38 S x3 x5 x6 = some o) (K0 : ∀ b : MS, o = (.inl b) → ∀ (H : Heap) (locs : List Loc) (ls : Array Slot), va_P D cls (mw md mc b) H → va_D A (mw md mc b) → va_S A s.heap H locs → lv_has ls 7 [(0, .ref (md 100))] → W p l e ({ frames := 4, cells := 0, slots := 0, locals := 91 }) s m args below meth c H locs 0 0 Q (F0 m 90 ls [])) (Kr : ∀ r : MS × Int32, o = (.inr r) → ∀ (pc : Nat) (H : Heap) (locs : List Loc) (ls : Array Slot), decode prog_14_method_70_code pc = .ok (.ireturn, 1) → va_P D cls (mw md mc r.1) H → va_D A (mw md mc r.1) → va_S A s.heap H locs → W p l e ({ frames := 4, cells := 0, slots := 0, locals := 91 }) s m args below meth c H locs 0 0 Q (F0 m pc ls [.int r.2])) : ∀ (H : Heap) (locs : List Loc) (ls : Array Slot), va_P D cls (mw md mc S) H → va_D A (mw md mc S) → va_S A s.heap H locs → lv_has ls 7 [(0, .ref (md 100)), (3, .int x3), (5, .int x5), (6, .int x6)] → W p l e ({ frames := 4, cells := 0, slots := 0, locals := 91 }) s m args below meth c H locs 0 0 Q (F0 m 38 ls []) := by
  refine lp_w (G := fun a : MS × Int32 × Int32 × Int32 => ∀ (H : Heap) (locs : List Loc) (ls : Array Slot), va_P D cls (mw md mc a.1) H → va_D A (mw md mc a.1) → va_S A s.heap H locs → lv_has ls 7 [(0, .ref (md 100)), (3, .int a.2.1), (5, .int a.2.2.1), (6, .int a.2.2.2)] → W p l e ({ frames := 4, cells := 0, slots := 0, locals := 91 }) s m args below meth c H locs 0 0 Q (F0 m 38 ls [])) ?_ FU (S, x3, x5, x6) Heq
  intro a o1 ho Ka Ke
  exact w_rindex_B38 hC ho (fun b h => Ka b h) (fun b h => K0 b (Ke _ h).symm) (fun r h => Kr r (Ke _ h).symm)
def m_rindex_J0 (S : MS) (x1 : Int32) (x2 : Int32) (x3 : Int32) : Option (MS × Int32) := ob (m_rlistKind S x1 x2) (fun o_1 => (if o_1.2 = 0 then ob (m_rlist o_1.1 x1 x2) (fun o_4 => ob (m_rmark o_4 x1 x2) (fun o_6 => oe (m_rindex_L38 o_6 x3 0 0) (fun b_8 => ob (m_rno b_8 2) (fun o_11 => some (o_11.1, o_11.2))) (fun r_10 => some r_10))) else ob (m_rno o_1.1 o_1.2) (fun o_13 => some (o_13.1, o_13.2))))
theorem d_rindex_90 : decode prog_14_method_70_code 90 = .ok (.aload_n 0, 1) := by decide +kernel
theorem d_rindex_91 : decode prog_14_method_70_code 91 = .ok (.iconst 2, 1) := by decide +kernel
theorem d_rindex_92 : decode prog_14_method_70_code 92 = .ok (.invokevirtual 191, 3) := by decide +kernel
theorem d_rindex_95 : decode prog_14_method_70_code 95 = .ok (.ireturn, 1) := by decide +kernel
theorem d_rindex_13 : decode prog_14_method_70_code 13 = .ok (.aload_n 0, 1) := by decide +kernel
theorem d_rindex_14 : decode prog_14_method_70_code 14 = .ok (.iload 4, 2) := by decide +kernel
theorem d_rindex_16 : decode prog_14_method_70_code 16 = .ok (.invokevirtual 191, 3) := by decide +kernel
theorem d_rindex_19 : decode prog_14_method_70_code 19 = .ok (.ireturn, 1) := by decide +kernel
set_option maxHeartbeats 4000000 in
set_option maxRecDepth 100000 in
theorem w_rindex_J0 {p : Program} {l : Launch} {e : Env} {s : State} {m : MethodId} {args : Array Value} {below : List Frame} {meth : Method} {c : Code} {A : Nat → Prop} {D : va_G} {md : Nat → Nat} {mc : Nat → ClassId} {Q : State → Prop} (hC : MCx "JoinedTreesModel" prog_14_method_70_code 7 (some .int) p s m args meth c A D mc) {S : MS} {x1 : Int32} {x2 : Int32} {x3 : Int32} {o : MS × Int32} (Heq : m_rindex_J0 S x1 x2 x3 = some o) (Kr : ∀ r : MS × Int32, o = r → ∀ (pc : Nat) (H : Heap) (locs : List Loc) (ls : Array Slot), decode prog_14_method_70_code pc = .ok (.ireturn, 1) → va_P D cls (mw md mc r.1) H → va_D A (mw md mc r.1) → va_S A s.heap H locs → W p l e ({ frames := 4, cells := 0, slots := 0, locals := 91 }) s m args below meth c H locs 0 0 Q (F0 m pc ls [.int r.2])) : ∀ (H : Heap) (locs : List Loc) (ls : Array Slot), va_P D cls (mw md mc S) H → va_D A (mw md mc S) → va_S A s.heap H locs → lv_has ls 7 [(0, .ref (md 100)), (1, .int x1), (2, .int x2), (3, .int x3)] → W p l e ({ frames := 4, cells := 0, slots := 0, locals := 91 }) s m args below meth c H locs 0 0 Q (F0 m 0 ls []) := by
  intro H locs ls hP hD hS hl
  obtain ⟨hx, hb, hr, hml, hown, hts, hK, hA⟩ := id hC
  unfold m_rindex_J0 at Heq
  refine lv_aload_n hx hb d_rindex_0 rfl (lv_at hl 0 rfl) ?_
  refine lv_iload_n hx hb d_rindex_1 rfl (lv_at hl 1 rfl) ?_
  refine lv_iload_n hx hb d_rindex_2 rfl (lv_at hl 2 rfl) ?_
  obtain ⟨o_1, h_2, Heq⟩ := ob_some Heq
  have hFc := fr_all hD hS hA
  refine va_calli (va_runV (As := [.int x1, .int x2]) (rest := []) ⟨hx, hb, hml, hown, hts⟩ (g_rlistKind l D H.size h_2) (cw_v 2 hts kw_1891 kw_1888 kw_1890 kp_73 kw_11 rfl rfl (by decide +kernel) ⟨Nat.le_of_ble_eq_true rfl, Nat.le_of_ble_eq_true rfl⟩) ⟨g_blind, va_recv hK hP (ci := 12) (q0 := 0) rfl rfl, fun U hU hW => g_pre hU hW hP hK hD⟩ rfl rfl hl.1 rfl (lv_room (Nat.le_of_ble_eq_true rfl)) d_rindex_3 ⟨Nat.le_of_ble_eq_true rfl, Nat.le_of_ble_eq_true rfl⟩) hS (fun q _ h => hFc q h) hFc (fun rz u t H1 locs ht hvm hw hB hz1 hk1 hS => ?_)
  obtain ⟨hP, -, hD1⟩ := hB
  rw [ht] at hP
  have hD := hD1.weaken (fun _ q _ h => hFc q.1 h)
  generalize H1 = H at hP hS ⊢
  refine W.cs (cells' := 0) (slots' := 0) rfl rfl ?_
  subst hw
  refine lv_istore (lv' := [(4, .int o_1.2), (0, .ref (md 100)), (1, .int x1), (2, .int x2), (3, .int x3)]) hx hb d_rindex_6 hl (by decide) rfl (fun ls hl => ?_)
  refine lv_iload hx hb d_rindex_8 (lv_at hl 0 rfl) ?_
  refine lv_if_eq (tgt := 20) hx hb d_rindex_10 (by decide) (fun c_3 => ?_) (fun c_3 => ?_)
  · replace Heq := (if_pos c_3).symm.trans Heq
    refine lv_aload_n hx hb d_rindex_20 rfl (lv_at hl 1 rfl) ?_
    refine lv_iload_n hx hb d_rindex_21 rfl (lv_at hl 2 rfl) ?_
    refine lv_iload_n hx hb d_rindex_22 rfl (lv_at hl 3 rfl) ?_
    obtain ⟨o_4, h_5, Heq⟩ := ob_some Heq
    have hFc := fr_all hD hS hA
    refine va_callv (va_runV (As := [.int x1, .int x2]) (rest := []) ⟨hx, hb, hml, hown, hts⟩ (g_rlist l D H.size h_5) (cw_v 2 hts kw_1717 kw_1714 kw_1716 kp_47 kw_11 rfl rfl (by decide +kernel) ⟨Nat.le_of_ble_eq_true rfl, Nat.le_of_ble_eq_true rfl⟩) ⟨g_blind, va_recv hK hP (ci := 12) (q0 := 0) rfl rfl, fun U hU hW => g_pre hU hW hP hK hD⟩ rfl rfl hl.1 rfl (lv_room (Nat.le_of_ble_eq_true rfl)) d_rindex_23 ⟨Nat.le_of_ble_eq_true rfl, Nat.le_of_ble_eq_true rfl⟩) hS (fun q _ h => hFc q h) hFc (fun u t H1 locs ht hvm hw hB hz1 hk1 hS => ?_)
    obtain ⟨hP, -, hD1⟩ := hB
    rw [ht] at hP
    have hD := hD1.weaken (fun _ q _ h => hFc q.1 h)
    generalize H1 = H at hP hS ⊢
    refine W.cs (cells' := 0) (slots' := 0) rfl rfl ?_
    refine lv_aload_n hx hb d_rindex_26 rfl (lv_at hl 1 rfl) ?_
    refine lv_iload_n hx hb d_rindex_27 rfl (lv_at hl 2 rfl) ?_
    refine lv_iload_n hx hb d_rindex_28 rfl (lv_at hl 3 rfl) ?_
    obtain ⟨o_6, h_7, Heq⟩ := ob_some Heq
    have hFc := fr_all hD hS hA
    refine va_callv (va_runV (As := [.int x1, .int x2]) (rest := []) ⟨hx, hb, hml, hown, hts⟩ (g_rmark l D H.size h_7) (cw_v 2 hts kw_1721 kw_1718 kw_1720 kp_48 kw_11 rfl rfl (by decide +kernel) ⟨Nat.le_of_ble_eq_true rfl, Nat.le_of_ble_eq_true rfl⟩) ⟨g_blind, va_recv hK hP (ci := 12) (q0 := 0) rfl rfl, fun U hU hW => g_pre hU hW hP hK hD⟩ rfl rfl hl.1 rfl (lv_room (Nat.le_of_ble_eq_true rfl)) d_rindex_29 ⟨Nat.le_of_ble_eq_true rfl, Nat.le_of_ble_eq_true rfl⟩) hS (fun q _ h => hFc q h) hFc (fun u t H1 locs ht hvm hw hB hz1 hk1 hS => ?_)
    obtain ⟨hP, -, hD1⟩ := hB
    rw [ht] at hP
    have hD := hD1.weaken (fun _ q _ h => hFc q.1 h)
    generalize H1 = H at hP hS ⊢
    refine W.cs (cells' := 0) (slots' := 0) rfl rfl ?_
    refine lv_iconst (v := 0) hx hb d_rindex_32 (by decide) ?_
    refine lv_istore (lv' := [(5, .int 0), (4, .int o_1.2), (0, .ref (md 100)), (1, .int x1), (2, .int x2), (3, .int x3)]) hx hb d_rindex_33 hl (by decide) rfl (fun ls hl => ?_)
    refine lv_iconst (v := 0) hx hb d_rindex_35 (by decide) ?_
    refine lv_istore (lv' := [(6, .int 0), (5, .int 0), (4, .int o_1.2), (0, .ref (md 100)), (1, .int x1), (2, .int x2), (3, .int x3)]) hx hb d_rindex_36 hl (by decide) rfl (fun ls hl => ?_)
    rcases oe_some Heq with ⟨b_8, h_9, Heq⟩ | ⟨r_10, h_9, Heq⟩
    · refine w_rindex_L38 hC h_9 (fun b h => ?_) (fun r h => by cases h) _ _ _ hP hD hS (lv_sub hl [3, 6, 1, 0] rfl)
      cases h
      intro H locs ls hP hD hS hl
      refine lv_aload_n hx hb d_rindex_90 rfl (lv_at hl 0 rfl) ?_
      refine lv_iconst (v := 2) hx hb d_rindex_91 (by decide) ?_
      obtain ⟨o_11, h_12, Heq⟩ := ob_some Heq
      have hFc := fr_all hD hS hA
      refine va_calli (va_runV (As := [.int 2]) (rest := []) ⟨hx, hb, hml, hown, hts⟩ (g_rno l D H.size h_12) (cw_v 1 hts kw_1626 kw_1623 kw_1625 kp_29 kw_11 rfl rfl (by decide +kernel) ⟨Nat.le_of_ble_eq_true rfl, Nat.le_of_ble_eq_true rfl⟩) ⟨g_blind, va_recv hK hP (ci := 12) (q0 := 0) rfl rfl, fun U hU hW => g_pre hU hW hP hK hD⟩ rfl rfl hl.1 rfl (lv_room (Nat.le_of_ble_eq_true rfl)) d_rindex_92 ⟨Nat.le_of_ble_eq_true rfl, Nat.le_of_ble_eq_true rfl⟩) hS (fun q _ h => hFc q h) hFc (fun rz u t H1 locs ht hvm hw hB hz1 hk1 hS => ?_)
      obtain ⟨hP, -, hD1⟩ := hB
      rw [ht] at hP
      have hD := hD1.weaken (fun _ q _ h => hFc q.1 h)
      generalize H1 = H at hP hS ⊢
      refine W.cs (cells' := 0) (slots' := 0) rfl rfl ?_
      subst hw
      exact Kr _ (Option.some.inj Heq).symm 95 _ _ _ d_rindex_95 hP hD hS
    · refine w_rindex_L38 hC h_9 (fun b h => by cases h) (fun r h => ?_) _ _ _ hP hD hS (lv_sub hl [3, 6, 1, 0] rfl)
      cases h
      exact Kr _ (Option.some.inj Heq).symm
  · replace Heq := (if_neg c_3).symm.trans Heq
    refine lv_aload_n hx hb d_rindex_13 rfl (lv_at hl 1 rfl) ?_
    refine lv_iload hx hb d_rindex_14 (lv_at hl 0 rfl) ?_
    obtain ⟨o_13, h_14, Heq⟩ := ob_some Heq
    have hFc := fr_all hD hS hA
    refine va_calli (va_runV (As := [.int o_1.2]) (rest := []) ⟨hx, hb, hml, hown, hts⟩ (g_rno l D H.size h_14) (cw_v 1 hts kw_1626 kw_1623 kw_1625 kp_29 kw_11 rfl rfl (by decide +kernel) ⟨Nat.le_of_ble_eq_true rfl, Nat.le_of_ble_eq_true rfl⟩) ⟨g_blind, va_recv hK hP (ci := 12) (q0 := 0) rfl rfl, fun U hU hW => g_pre hU hW hP hK hD⟩ rfl rfl hl.1 rfl (lv_room (Nat.le_of_ble_eq_true rfl)) d_rindex_16 ⟨Nat.le_of_ble_eq_true rfl, Nat.le_of_ble_eq_true rfl⟩) hS (fun q _ h => hFc q h) hFc (fun rz u t H1 locs ht hvm hw hB hz1 hk1 hS => ?_)
    obtain ⟨hP, -, hD1⟩ := hB
    rw [ht] at hP
    have hD := hD1.weaken (fun _ q _ h => hFc q.1 h)
    generalize H1 = H at hP hS ⊢
    refine W.cs (cells' := 0) (slots' := 0) rfl rfl ?_
    subst hw
    exact Kr _ (Option.some.inj Heq).symm 19 _ _ _ d_rindex_19 hP hD hS
def m_rindex (S : MS) (x1 : Int32) (x2 : Int32) (x3 : Int32) : Option (MS × Int32) := m_rindex_J0 S x1 x2 x3
theorem g_rindex (l : Launch) (D : va_G) (sz : Nat) {md : Nat → Nat} {mc : Nat → ClassId} {S : MS} {x1 : Int32} {x2 : Int32} {x3 : Int32} {o : MS × Int32} (Heq : m_rindex S x1 x2 x3 = some o) : Met l ⟨"JoinedTreesModel", "index", "(III)I"⟩ (Cond.code ⟨"JoinedTreesModel", "index", "(III)I"⟩ prog_14_method_70_code 7 (some .int) :: gb) ({ frames := 4, cells := 0, slots := 0, locals := 91 }) (gPc D (mw md mc S) (mty mc) sz [.ref (md 100), .int x1, .int x2, .int x3]) (va_Qi (fun (r : Int32) (_ : Unit) => r = o.2) (fun _ t => gO D (mw md mc o.1) (mty mc) (va_A (mw md mc S) sz) t) (va_A (mw md mc S) sz)) 0 0 (va_A (mw md mc S) sz) := by
  refine Met.ofW (cc := prog_14_method_70_code) (maxL := 7) (ret := (some .int)) (by decide) rfl ?_
  intro p e s m args below meth c s₁ B hml hv
  obtain ⟨rfl, hsz, hP, hK, hD0⟩ := hv
  have hx := B.exec
  have hb := B.bytes
  have hr := B.returns
  have hts : ∀ w9 ∈ gb, w9.before [.ref (md 100), .int x1, .int x2, .int x3].toArray s = true := fun w9 h => atoms_spec (ws := Cond.code ⟨"JoinedTreesModel", "index", "(III)I"⟩ prog_14_method_70_code 7 (some .int) :: gb) B.pre w9 (List.mem_cons_of_mem _ h)
  have hown : s.vm.findClass "JoinedTreesModel" = some m.cls := findClass_of_methodNamed B.named
  have hlocks := B.notSynchronized
  subst hsz
  have hD := hD0.self (sz := s.heap.size)
  generalize hAe : va_A (mw md mc S) s.heap.size = A at hD ⊢
  have hA : ∀ q : Nat, s.heap.size ≤ q → A q := fun q h => by rw [← hAe]; exact Or.inr h
  have hS : va_S A s.heap s.heap [] := va_S.rf
  have hl := lv_entry ([.ref (md 100), .int x1, .int x2, .int x3]) (n := 7) (Nat.le_of_ble_eq_true rfl)
  rw [lg_entry_eq]
  generalize (lg_sl ([.ref (md 100), .int x1, .int x2, .int x3]) ++ List.replicate (7 - (lg_sl ([.ref (md 100), .int x1, .int x2, .int x3])).length) Slot.unset).toArray = ls at hl ⊢
  have hl : lv_has ls 7 [(0, .ref (md 100)), (1, .int x1), (2, .int x2), (3, .int x3)] := hl
  refine w_rindex_J0 ⟨hx, hb, hr, hml, hown, hts, hK, hA⟩ Heq (fun r h pc H locs ls hd hP hD hS => ?_) _ _ _ hP hD hS (lv_sub hl [0, 1, 2, 3] rfl)
  subst h
  exact W.iret hx hb hr (fun t ht hW => ⟨⟨_, (), rfl, rfl, by rw [ht]; exact hP, va_K.moved hW.alike hK, hD⟩, hS.F ht⟩) hS.2.2 hd
def m_risWord_J47 (S : MS) (t0 : Int32) : Option (MS × Int32) := (if t0 = 0 ∨ t0 = 1 then some (S, t0) else none)
theorem d_risWord_0 : decode prog_14_method_71_code 0 = .ok (.iload_n 0, 1) := by decide +kernel
theorem d_risWord_1 : decode prog_14_method_71_code 1 = .ok (.bipush 97, 2) := by decide +kernel
theorem d_risWord_3 : decode prog_14_method_71_code 3 = .ok (.if_icmp .lt 9, 3) := by decide +kernel
theorem d_risWord_12 : decode prog_14_method_71_code 12 = .ok (.iload_n 0, 1) := by decide +kernel
theorem d_risWord_13 : decode prog_14_method_71_code 13 = .ok (.bipush 65, 2) := by decide +kernel
theorem d_risWord_15 : decode prog_14_method_71_code 15 = .ok (.if_icmp .lt 9, 3) := by decide +kernel
theorem d_risWord_24 : decode prog_14_method_71_code 24 = .ok (.iload_n 0, 1) := by decide +kernel
theorem d_risWord_25 : decode prog_14_method_71_code 25 = .ok (.bipush 48, 2) := by decide +kernel
theorem d_risWord_27 : decode prog_14_method_71_code 27 = .ok (.if_icmp .lt 9, 3) := by decide +kernel
theorem d_risWord_36 : decode prog_14_method_71_code 36 = .ok (.iload_n 0, 1) := by decide +kernel
theorem d_risWord_37 : decode prog_14_method_71_code 37 = .ok (.bipush 95, 2) := by decide +kernel
theorem d_risWord_39 : decode prog_14_method_71_code 39 = .ok (.if_icmp .ne 7, 3) := by decide +kernel
theorem d_risWord_46 : decode prog_14_method_71_code 46 = .ok (.iconst 0, 1) := by decide +kernel
theorem d_risWord_47 : decode prog_14_method_71_code 47 = .ok (.ireturn, 1) := by decide +kernel
set_option maxHeartbeats 4000000 in
set_option maxRecDepth 100000 in
theorem w_risWord_J47 {p : Program} {l : Launch} {e : Env} {s : State} {m : MethodId} {args : Array Value} {below : List Frame} {meth : Method} {c : Code} {A : Nat → Prop} {D : va_G} {md : Nat → Nat} {mc : Nat → ClassId} {Q : State → Prop} (hC : MCx "JoinedTreesModel" prog_14_method_71_code 1 (some .boolean) p s m args meth c A D mc) {S : MS} {t0 : Int32} {o : MS × Int32} (Heq : m_risWord_J47 S t0 = some o) (Kr : ∀ r : MS × Int32, o = r → ∀ (pc : Nat) (H : Heap) (locs : List Loc) (ls : Array Slot), decode prog_14_method_71_code pc = .ok (.ireturn, 1) → (r.2 = 0 ∨ r.2 = 1) → va_P D cls (mw md mc r.1) H → va_D A (mw md mc r.1) → va_S A s.heap H locs → W p l e ({ frames := 0, cells := 0, slots := 0, locals := 0 }) s m args below meth c H locs 0 0 Q (F0 m pc ls [.int r.2])) : ∀ (H : Heap) (locs : List Loc) (ls : Array Slot), va_P D cls (mw md mc S) H → va_D A (mw md mc S) → va_S A s.heap H locs → lv_has ls 1 [] → W p l e ({ frames := 0, cells := 0, slots := 0, locals := 0 }) s m args below meth c H locs 0 0 Q (F0 m 47 ls [.int t0]) := by
  intro H locs ls hP hD hS hl
  obtain ⟨hx, hb, hr, hml, hown, hts, hK, hA⟩ := id hC
  unfold m_risWord_J47 at Heq
  by_cases hz_1 : t0 = 0 ∨ t0 = 1
  case neg => rw [if_neg hz_1] at Heq; cases Heq
  replace Heq := (if_pos hz_1).symm.trans Heq
  exact Kr _ (Option.some.inj Heq).symm 47 _ _ _ d_risWord_47 hz_1 hP hD hS
def m_risWord_J42 (S : MS) : Option (MS × Int32) := m_risWord_J47 S 1
theorem d_risWord_42 : decode prog_14_method_71_code 42 = .ok (.iconst 1, 1) := by decide +kernel
theorem d_risWord_43 : decode prog_14_method_71_code 43 = .ok (.goto 4, 3) := by decide +kernel
set_option maxHeartbeats 4000000 in
set_option maxRecDepth 100000 in
theorem w_risWord_J42 {p : Program} {l : Launch} {e : Env} {s : State} {m : MethodId} {args : Array Value} {below : List Frame} {meth : Method} {c : Code} {A : Nat → Prop} {D : va_G} {md : Nat → Nat} {mc : Nat → ClassId} {Q : State → Prop} (hC : MCx "JoinedTreesModel" prog_14_method_71_code 1 (some .boolean) p s m args meth c A D mc) {S : MS} {o : MS × Int32} (Heq : m_risWord_J42 S = some o) (Kr : ∀ r : MS × Int32, o = r → ∀ (pc : Nat) (H : Heap) (locs : List Loc) (ls : Array Slot), decode prog_14_method_71_code pc = .ok (.ireturn, 1) → (r.2 = 0 ∨ r.2 = 1) → va_P D cls (mw md mc r.1) H → va_D A (mw md mc r.1) → va_S A s.heap H locs → W p l e ({ frames := 0, cells := 0, slots := 0, locals := 0 }) s m args below meth c H locs 0 0 Q (F0 m pc ls [.int r.2])) : ∀ (H : Heap) (locs : List Loc) (ls : Array Slot), va_P D cls (mw md mc S) H → va_D A (mw md mc S) → va_S A s.heap H locs → lv_has ls 1 [] → W p l e ({ frames := 0, cells := 0, slots := 0, locals := 0 }) s m args below meth c H locs 0 0 Q (F0 m 42 ls []) := by
  intro H locs ls hP hD hS hl
  obtain ⟨hx, hb, hr, hml, hown, hts, hK, hA⟩ := id hC
  unfold m_risWord_J42 at Heq
  refine lv_iconst (v := 1) hx hb d_risWord_42 (by decide) ?_
  refine lv_goto (tgt := 47) hx hb d_risWord_43 (by decide) ?_
  exact w_risWord_J47 hC Heq Kr _ _ _ hP hD hS (lv_sub hl [] rfl)
def m_risWord_J36 (S : MS) (x0 : Int32) : Option (MS × Int32) := (if x0 = 95 then m_risWord_J42 S else m_risWord_J47 S 0)
set_option maxHeartbeats 4000000 in
set_option maxRecDepth 100000 in
theorem w_risWord_J36 {p : Program} {l : Launch} {e : Env} {s : State} {m : MethodId} {args : Array Value} {below : List Frame} {meth : Method} {c : Code} {A : Nat → Prop} {D : va_G} {md : Nat → Nat} {mc : Nat → ClassId} {Q : State → Prop} (hC : MCx "JoinedTreesModel" prog_14_method_71_code 1 (some .boolean) p s m args meth c A D mc) {S : MS} {x0 : Int32} {o : MS × Int32} (Heq : m_risWord_J36 S x0 = some o) (Kr : ∀ r : MS × Int32, o = r → ∀ (pc : Nat) (H : Heap) (locs : List Loc) (ls : Array Slot), decode prog_14_method_71_code pc = .ok (.ireturn, 1) → (r.2 = 0 ∨ r.2 = 1) → va_P D cls (mw md mc r.1) H → va_D A (mw md mc r.1) → va_S A s.heap H locs → W p l e ({ frames := 0, cells := 0, slots := 0, locals := 0 }) s m args below meth c H locs 0 0 Q (F0 m pc ls [.int r.2])) : ∀ (H : Heap) (locs : List Loc) (ls : Array Slot), va_P D cls (mw md mc S) H → va_D A (mw md mc S) → va_S A s.heap H locs → lv_has ls 1 [(0, .int x0)] → W p l e ({ frames := 0, cells := 0, slots := 0, locals := 0 }) s m args below meth c H locs 0 0 Q (F0 m 36 ls []) := by
  intro H locs ls hP hD hS hl
  obtain ⟨hx, hb, hr, hml, hown, hts, hK, hA⟩ := id hC
  unfold m_risWord_J36 at Heq
  refine lv_iload_n hx hb d_risWord_36 rfl (lv_at hl 0 rfl) ?_
  refine lv_bipush (v := 95) hx hb d_risWord_37 (by decide) ?_
  refine lv_icmp_ne (tgt := 46) hx hb d_risWord_39 (by decide) (fun c_1 => ?_) (fun c_1 => ?_)
  · replace Heq := (if_neg c_1).symm.trans Heq
    refine lv_iconst (v := 0) hx hb d_risWord_46 (by decide) ?_
    exact w_risWord_J47 hC Heq Kr _ _ _ hP hD hS (lv_sub hl [] rfl)
  · replace Heq := (if_pos c_1).symm.trans Heq
    exact w_risWord_J42 hC Heq Kr _ _ _ hP hD hS (lv_sub hl [] rfl)
def m_risWord_J24 (S : MS) (x0 : Int32) : Option (MS × Int32) := (if x0 < 48 then m_risWord_J36 S x0 else (if x0 ≤ 57 then m_risWord_J42 S else m_risWord_J36 S x0))
theorem d_risWord_30 : decode prog_14_method_71_code 30 = .ok (.iload_n 0, 1) := by decide +kernel
theorem d_risWord_31 : decode prog_14_method_71_code 31 = .ok (.bipush 57, 2) := by decide +kernel
theorem d_risWord_33 : decode prog_14_method_71_code 33 = .ok (.if_icmp .le 9, 3) := by decide +kernel
set_option maxHeartbeats 4000000 in
set_option maxRecDepth 100000 in
theorem w_risWord_J24 {p : Program} {l : Launch} {e : Env} {s : State} {m : MethodId} {args : Array Value} {below : List Frame} {meth : Method} {c : Code} {A : Nat → Prop} {D : va_G} {md : Nat → Nat} {mc : Nat → ClassId} {Q : State → Prop} (hC : MCx "JoinedTreesModel" prog_14_method_71_code 1 (some .boolean) p s m args meth c A D mc) {S : MS} {x0 : Int32} {o : MS × Int32} (Heq : m_risWord_J24 S x0 = some o) (Kr : ∀ r : MS × Int32, o = r → ∀ (pc : Nat) (H : Heap) (locs : List Loc) (ls : Array Slot), decode prog_14_method_71_code pc = .ok (.ireturn, 1) → (r.2 = 0 ∨ r.2 = 1) → va_P D cls (mw md mc r.1) H → va_D A (mw md mc r.1) → va_S A s.heap H locs → W p l e ({ frames := 0, cells := 0, slots := 0, locals := 0 }) s m args below meth c H locs 0 0 Q (F0 m pc ls [.int r.2])) : ∀ (H : Heap) (locs : List Loc) (ls : Array Slot), va_P D cls (mw md mc S) H → va_D A (mw md mc S) → va_S A s.heap H locs → lv_has ls 1 [(0, .int x0)] → W p l e ({ frames := 0, cells := 0, slots := 0, locals := 0 }) s m args below meth c H locs 0 0 Q (F0 m 24 ls []) := by
  intro H locs ls hP hD hS hl
  obtain ⟨hx, hb, hr, hml, hown, hts, hK, hA⟩ := id hC
  unfold m_risWord_J24 at Heq
  refine lv_iload_n hx hb d_risWord_24 rfl (lv_at hl 0 rfl) ?_
  refine lv_bipush (v := 48) hx hb d_risWord_25 (by decide) ?_
  refine lv_icmp_lt (tgt := 36) hx hb d_risWord_27 (by decide) (fun c_1 => ?_) (fun c_1 => ?_)
  · replace Heq := (if_pos c_1).symm.trans Heq
    exact w_risWord_J36 hC Heq Kr _ _ _ hP hD hS (lv_sub hl [0] rfl)
  · replace Heq := (if_neg c_1).symm.trans Heq
    refine lv_iload_n hx hb d_risWord_30 rfl (lv_at hl 0 rfl) ?_
    refine lv_bipush (v := 57) hx hb d_risWord_31 (by decide) ?_
    refine lv_icmp_le (tgt := 42) hx hb d_risWord_33 (by decide) (fun c_2 => ?_) (fun c_2 => ?_)
    · replace Heq := (if_pos c_2).symm.trans Heq
      exact w_risWord_J42 hC Heq Kr _ _ _ hP hD hS (lv_sub hl [] rfl)
    · replace Heq := (if_neg c_2).symm.trans Heq
      exact w_risWord_J36 hC Heq Kr _ _ _ hP hD hS (lv_sub hl [0] rfl)
def m_risWord_J12 (S : MS) (x0 : Int32) : Option (MS × Int32) := (if x0 < 65 then m_risWord_J24 S x0 else (if x0 ≤ 90 then m_risWord_J42 S else m_risWord_J24 S x0))
theorem d_risWord_18 : decode prog_14_method_71_code 18 = .ok (.iload_n 0, 1) := by decide +kernel
theorem d_risWord_19 : decode prog_14_method_71_code 19 = .ok (.bipush 90, 2) := by decide +kernel
theorem d_risWord_21 : decode prog_14_method_71_code 21 = .ok (.if_icmp .le 21, 3) := by decide +kernel
set_option maxHeartbeats 4000000 in
set_option maxRecDepth 100000 in
theorem w_risWord_J12 {p : Program} {l : Launch} {e : Env} {s : State} {m : MethodId} {args : Array Value} {below : List Frame} {meth : Method} {c : Code} {A : Nat → Prop} {D : va_G} {md : Nat → Nat} {mc : Nat → ClassId} {Q : State → Prop} (hC : MCx "JoinedTreesModel" prog_14_method_71_code 1 (some .boolean) p s m args meth c A D mc) {S : MS} {x0 : Int32} {o : MS × Int32} (Heq : m_risWord_J12 S x0 = some o) (Kr : ∀ r : MS × Int32, o = r → ∀ (pc : Nat) (H : Heap) (locs : List Loc) (ls : Array Slot), decode prog_14_method_71_code pc = .ok (.ireturn, 1) → (r.2 = 0 ∨ r.2 = 1) → va_P D cls (mw md mc r.1) H → va_D A (mw md mc r.1) → va_S A s.heap H locs → W p l e ({ frames := 0, cells := 0, slots := 0, locals := 0 }) s m args below meth c H locs 0 0 Q (F0 m pc ls [.int r.2])) : ∀ (H : Heap) (locs : List Loc) (ls : Array Slot), va_P D cls (mw md mc S) H → va_D A (mw md mc S) → va_S A s.heap H locs → lv_has ls 1 [(0, .int x0)] → W p l e ({ frames := 0, cells := 0, slots := 0, locals := 0 }) s m args below meth c H locs 0 0 Q (F0 m 12 ls []) := by
  intro H locs ls hP hD hS hl
  obtain ⟨hx, hb, hr, hml, hown, hts, hK, hA⟩ := id hC
  unfold m_risWord_J12 at Heq
  refine lv_iload_n hx hb d_risWord_12 rfl (lv_at hl 0 rfl) ?_
  refine lv_bipush (v := 65) hx hb d_risWord_13 (by decide) ?_
  refine lv_icmp_lt (tgt := 24) hx hb d_risWord_15 (by decide) (fun c_1 => ?_) (fun c_1 => ?_)
  · replace Heq := (if_pos c_1).symm.trans Heq
    exact w_risWord_J24 hC Heq Kr _ _ _ hP hD hS (lv_sub hl [0] rfl)
  · replace Heq := (if_neg c_1).symm.trans Heq
    refine lv_iload_n hx hb d_risWord_18 rfl (lv_at hl 0 rfl) ?_
    refine lv_bipush (v := 90) hx hb d_risWord_19 (by decide) ?_
    refine lv_icmp_le (tgt := 42) hx hb d_risWord_21 (by decide) (fun c_2 => ?_) (fun c_2 => ?_)
    · replace Heq := (if_pos c_2).symm.trans Heq
      exact w_risWord_J42 hC Heq Kr _ _ _ hP hD hS (lv_sub hl [] rfl)
    · replace Heq := (if_neg c_2).symm.trans Heq
      exact w_risWord_J24 hC Heq Kr _ _ _ hP hD hS (lv_sub hl [0] rfl)
def m_risWord_J0 (S : MS) (x0 : Int32) : Option (MS × Int32) := (if x0 < 97 then m_risWord_J12 S x0 else (if x0 ≤ 122 then m_risWord_J42 S else m_risWord_J12 S x0))
theorem d_risWord_6 : decode prog_14_method_71_code 6 = .ok (.iload_n 0, 1) := by decide +kernel
theorem d_risWord_7 : decode prog_14_method_71_code 7 = .ok (.bipush 122, 2) := by decide +kernel
theorem d_risWord_9 : decode prog_14_method_71_code 9 = .ok (.if_icmp .le 33, 3) := by decide +kernel
set_option maxHeartbeats 4000000 in
set_option maxRecDepth 100000 in
theorem w_risWord_J0 {p : Program} {l : Launch} {e : Env} {s : State} {m : MethodId} {args : Array Value} {below : List Frame} {meth : Method} {c : Code} {A : Nat → Prop} {D : va_G} {md : Nat → Nat} {mc : Nat → ClassId} {Q : State → Prop} (hC : MCx "JoinedTreesModel" prog_14_method_71_code 1 (some .boolean) p s m args meth c A D mc) {S : MS} {x0 : Int32} {o : MS × Int32} (Heq : m_risWord_J0 S x0 = some o) (Kr : ∀ r : MS × Int32, o = r → ∀ (pc : Nat) (H : Heap) (locs : List Loc) (ls : Array Slot), decode prog_14_method_71_code pc = .ok (.ireturn, 1) → (r.2 = 0 ∨ r.2 = 1) → va_P D cls (mw md mc r.1) H → va_D A (mw md mc r.1) → va_S A s.heap H locs → W p l e ({ frames := 0, cells := 0, slots := 0, locals := 0 }) s m args below meth c H locs 0 0 Q (F0 m pc ls [.int r.2])) : ∀ (H : Heap) (locs : List Loc) (ls : Array Slot), va_P D cls (mw md mc S) H → va_D A (mw md mc S) → va_S A s.heap H locs → lv_has ls 1 [(0, .int x0)] → W p l e ({ frames := 0, cells := 0, slots := 0, locals := 0 }) s m args below meth c H locs 0 0 Q (F0 m 0 ls []) := by
  intro H locs ls hP hD hS hl
  obtain ⟨hx, hb, hr, hml, hown, hts, hK, hA⟩ := id hC
  unfold m_risWord_J0 at Heq
  refine lv_iload_n hx hb d_risWord_0 rfl (lv_at hl 0 rfl) ?_
  refine lv_bipush (v := 97) hx hb d_risWord_1 (by decide) ?_
  refine lv_icmp_lt (tgt := 12) hx hb d_risWord_3 (by decide) (fun c_1 => ?_) (fun c_1 => ?_)
  · replace Heq := (if_pos c_1).symm.trans Heq
    exact w_risWord_J12 hC Heq Kr _ _ _ hP hD hS (lv_sub hl [0] rfl)
  · replace Heq := (if_neg c_1).symm.trans Heq
    refine lv_iload_n hx hb d_risWord_6 rfl (lv_at hl 0 rfl) ?_
    refine lv_bipush (v := 122) hx hb d_risWord_7 (by decide) ?_
    refine lv_icmp_le (tgt := 42) hx hb d_risWord_9 (by decide) (fun c_2 => ?_) (fun c_2 => ?_)
    · replace Heq := (if_pos c_2).symm.trans Heq
      exact w_risWord_J42 hC Heq Kr _ _ _ hP hD hS (lv_sub hl [] rfl)
    · replace Heq := (if_neg c_2).symm.trans Heq
      exact w_risWord_J12 hC Heq Kr _ _ _ hP hD hS (lv_sub hl [0] rfl)
def m_risWord (S : MS) (x0 : Int32) : Option (MS × Int32) := m_risWord_J0 S x0
theorem g_risWord (l : Launch) (D : va_G) (sz : Nat) {md : Nat → Nat} {mc : Nat → ClassId} {S : MS} {x0 : Int32} {o : MS × Int32} (Heq : m_risWord S x0 = some o) : Met l ⟨"JoinedTreesModel", "isWord", "(I)Z"⟩ (Cond.code ⟨"JoinedTreesModel", "isWord", "(I)Z"⟩ prog_14_method_71_code 1 (some .boolean) :: gb) ({ frames := 0, cells := 0, slots := 0, locals := 0 }) (gPc D (mw md mc S) (mty mc) sz [.int x0]) (va_Qi (fun (r : Int32) (_ : Unit) => r = o.2) (fun _ t => gO D (mw md mc o.1) (mty mc) (va_A (mw md mc S) sz) t) (va_A (mw md mc S) sz)) 0 0 (va_A (mw md mc S) sz) := by
  refine Met.ofW (cc := prog_14_method_71_code) (maxL := 1) (ret := (some .boolean)) (by decide) rfl ?_
  intro p e s m args below meth c s₁ B hml hv
  obtain ⟨rfl, hsz, hP, hK, hD0⟩ := hv
  have hx := B.exec
  have hb := B.bytes
  have hr := B.returns
  have hts : ∀ w9 ∈ gb, w9.before [.int x0].toArray s = true := fun w9 h => atoms_spec (ws := Cond.code ⟨"JoinedTreesModel", "isWord", "(I)Z"⟩ prog_14_method_71_code 1 (some .boolean) :: gb) B.pre w9 (List.mem_cons_of_mem _ h)
  have hown : s.vm.findClass "JoinedTreesModel" = some m.cls := findClass_of_methodNamed B.named
  have hlocks := B.notSynchronized
  subst hsz
  have hD := hD0.self (sz := s.heap.size)
  generalize hAe : va_A (mw md mc S) s.heap.size = A at hD ⊢
  have hA : ∀ q : Nat, s.heap.size ≤ q → A q := fun q h => by rw [← hAe]; exact Or.inr h
  have hS : va_S A s.heap s.heap [] := va_S.rf
  have hl := lv_entry ([.int x0]) (n := 1) (Nat.le_of_ble_eq_true rfl)
  rw [lg_entry_eq]
  generalize (lg_sl ([.int x0]) ++ List.replicate (1 - (lg_sl ([.int x0])).length) Slot.unset).toArray = ls at hl ⊢
  have hl : lv_has ls 1 [(0, .int x0)] := hl
  refine w_risWord_J0 ⟨hx, hb, hr, hml, hown, hts, hK, hA⟩ Heq (fun r h pc H locs ls hd hz hP hD hS => ?_) _ _ _ hP hD hS (lv_sub hl [0] rfl)
  subst h
  exact W.zret (ty := .boolean) hx hb hr (by rcases hz with hz | hz <;> rw [hz] <;> rfl) (fun t ht hW => ⟨⟨_, (), rfl, rfl, by rw [ht]; exact hP, va_K.moved hW.alike hK, hD⟩, hS.F ht⟩) hS.2.2 hd
def m_risPath_B130 (S : MS) (x1 : Int32) (x2 : Int32) : Option ((MS × Int32 × Int32) ⊕ (MS × Int32 × Int32)) := (if S.i 5 ≤ x1 then some (.inr (S, x1, x2)) else gd x1 8300 (ob (m_risWord S (S.a 2 x1.toNatClampNeg)) (fun o_3 => (if o_3.2 = 0 then some (.inr (o_3.1, x1, x2)) else some (.inl (o_3.1, (x1 + 1), x2))))))
theorem d_risPath_0 : decode prog_14_method_72_code 0 = .ok (.iconst 0, 1) := by decide +kernel
theorem d_risPath_1 : decode prog_14_method_72_code 1 = .ok (.istore_n 1, 1) := by decide +kernel
theorem d_risPath_2 : decode prog_14_method_72_code 2 = .ok (.iload_n 1, 1) := by decide +kernel
theorem d_risPath_3 : decode prog_14_method_72_code 3 = .ok (.aload_n 0, 1) := by decide +kernel
theorem d_risPath_4 : decode prog_14_method_72_code 4 = .ok (.getfield 185, 3) := by decide +kernel
theorem d_risPath_7 : decode prog_14_method_72_code 7 = .ok (.if_icmp .ge 163, 3) := by decide +kernel
theorem d_risPath_10 : decode prog_14_method_72_code 10 = .ok (.aload_n 0, 1) := by decide +kernel
theorem d_risPath_11 : decode prog_14_method_72_code 11 = .ok (.getfield 13, 3) := by decide +kernel
theorem d_risPath_14 : decode prog_14_method_72_code 14 = .ok (.iload_n 1, 1) := by decide +kernel
theorem d_risPath_15 : decode prog_14_method_72_code 15 = .ok (.baload, 1) := by decide +kernel
theorem d_risPath_16 : decode prog_14_method_72_code 16 = .ok (.bipush 91, 2) := by decide +kernel
theorem d_risPath_18 : decode prog_14_method_72_code 18 = .ok (.if_icmp .ne 90, 3) := by decide +kernel
theorem d_risPath_108 : decode prog_14_method_72_code 108 = .ok (.iload_n 1, 1) := by decide +kernel
theorem d_risPath_109 : decode prog_14_method_72_code 109 = .ok (.ifCond .le 19, 3) := by decide +kernel
theorem d_risPath_128 : decode prog_14_method_72_code 128 = .ok (.iload_n 1, 1) := by decide +kernel
theorem d_risPath_129 : decode prog_14_method_72_code 129 = .ok (.istore_n 2, 1) := by decide +kernel
theorem d_risPath_130 : decode prog_14_method_72_code 130 = .ok (.iload_n 1, 1) := by decide +kernel
theorem d_risPath_131 : decode prog_14_method_72_code 131 = .ok (.aload_n 0, 1) := by decide +kernel
theorem d_risPath_132 : decode prog_14_method_72_code 132 = .ok (.getfield 185, 3) := by decide +kernel
theorem d_risPath_135 : decode prog_14_method_72_code 135 = .ok (.if_icmp .ge 21, 3) := by decide +kernel
theorem d_risPath_138 : decode prog_14_method_72_code 138 = .ok (.aload_n 0, 1) := by decide +kernel
theorem d_risPath_139 : decode prog_14_method_72_code 139 = .ok (.getfield 13, 3) := by decide +kernel
theorem d_risPath_142 : decode prog_14_method_72_code 142 = .ok (.iload_n 1, 1) := by decide +kernel
theorem d_risPath_143 : decode prog_14_method_72_code 143 = .ok (.baload, 1) := by decide +kernel
theorem d_risPath_144 : decode prog_14_method_72_code 144 = .ok (.invokestatic 427, 3) := by decide +kernel
theorem d_risPath_147 : decode prog_14_method_72_code 147 = .ok (.ifCond .eq 9, 3) := by decide +kernel
theorem d_risPath_150 : decode prog_14_method_72_code 150 = .ok (.iinc 1 1, 3) := by decide +kernel
theorem d_risPath_153 : decode prog_14_method_72_code 153 = .ok (.goto (-23), 3) := by decide +kernel
set_option maxHeartbeats 4000000 in
set_option maxRecDepth 100000 in
theorem w_risPath_B130 {p : Program} {l : Launch} {e : Env} {s : State} {m : MethodId} {args : Array Value} {below : List Frame} {meth : Method} {c : Code} {A : Nat → Prop} {D : va_G} {md : Nat → Nat} {mc : Nat → ClassId} {Q : State → Prop} (hC : MCx "JoinedTreesModel" prog_14_method_72_code 3 (some .boolean) p s m args meth c A D mc) {S : MS} {x1 : Int32} {x2 : Int32} {o : ((MS × Int32 × Int32) ⊕ (MS × Int32 × Int32))} (Heq : m_risPath_B130 S x1 x2 = some o) (Ka : ∀ b : MS × Int32 × Int32, o = .inl b → ∀ (H : Heap) (locs : List Loc) (ls : Array Slot), va_P D cls (mw md mc b.1) H → va_D A (mw md mc b.1) → va_S A s.heap H locs → lv_has ls 3 [(0, .ref (md 100)), (1, .int b.2.1), (2, .int b.2.2)] → W p l e ({ frames := 1, cells := 0, slots := 0, locals := 20 }) s m args below meth c H locs 0 0 Q (F0 m 130 ls [])) (K0 : ∀ b : MS × Int32 × Int32, o = .inr b → ∀ (H : Heap) (locs : List Loc) (ls : Array Slot), va_P D cls (mw md mc b.1) H → va_D A (mw md mc b.1) → va_S A s.heap H locs → lv_has ls 3 [(0, .ref (md 100)), (1, .int b.2.1), (2, .int b.2.2)] → W p l e ({ frames := 1, cells := 0, slots := 0, locals := 20 }) s m args below meth c H locs 0 0 Q (F0 m 156 ls [])) : ∀ (H : Heap) (locs : List Loc) (ls : Array Slot), va_P D cls (mw md mc S) H → va_D A (mw md mc S) → va_S A s.heap H locs → lv_has ls 3 [(0, .ref (md 100)), (1, .int x1), (2, .int x2)] → W p l e ({ frames := 1, cells := 0, slots := 0, locals := 20 }) s m args below meth c H locs 0 0 Q (F0 m 130 ls []) := by
  intro H locs ls hP hD hS hl
  obtain ⟨hx, hb, hr, hml, hown, hts, hK, hA⟩ := id hC
  unfold m_risPath_B130 at Heq
  refine lv_iload_n hx hb d_risPath_130 rfl (lv_at hl 1 rfl) ?_
  refine lv_aload_n hx hb d_risPath_131 rfl (lv_at hl 0 rfl) ?_
  refine va_get (D := D) (ci := 12) (v := .int (S.i 5)) (C := R_MM) (T := F_MM) (N := 77) hx hb hts i_MM hown hK hP 0 rfl rfl 5 (by decide) (hts _ kw_1387) (fun _ h9 => h9) rfl d_risPath_132 ?_
  refine lv_icmp_ge (tgt := 156) hx hb d_risPath_135 (by decide) (fun c_1 => ?_) (fun c_1 => ?_)
  · replace Heq := (if_pos c_1).symm.trans Heq
    exact K0 _ (Option.some.inj Heq).symm _ _ _ hP hD hS (lv_sub hl [0, 1, 2] rfl)
  · replace Heq := (if_neg c_1).symm.trans Heq
    refine lv_aload_n hx hb d_risPath_138 rfl (lv_at hl 0 rfl) ?_
    refine va_get (D := D) (ci := 12) (v := .ref (md 2)) (C := R_MM) (T := F_MM) (N := 77) hx hb hts i_MM hown hK hP 0 rfl rfl 2 (by decide) (hts _ kw_1384) (fun _ h9 => h9) rfl d_risPath_139 ?_
    refine lv_iload_n hx hb d_risPath_142 rfl (lv_at hl 1 rfl) ?_
    obtain ⟨hi_2, Heq⟩ := gd_some Heq
    refine va_bald hx hb hK hP 2 1 rfl rfl (i := x1) hi_2 d_risPath_143 ?_
    refine w_i (y := S.a 2 x1.toNatClampNeg) rfl ?_
    obtain ⟨o_3, h_4, Heq⟩ := ob_some Heq
    have hFc := fr_all hD hS hA
    refine va_calli (va_runS (As := [.int (S.a 2 x1.toNatClampNeg)]) (rest := []) ⟨hx, hb, hml, hown, hts⟩ (g_risWord l D H.size h_4) (cw_s 1 hts kw_1906 kw_1904 kw_1905 kw_11 rfl rfl (by decide +kernel) ⟨Nat.le_of_ble_eq_true rfl, Nat.le_of_ble_eq_true rfl⟩) ⟨g_blind, fun U hU hW => g_pre hU hW hP hK hD⟩ rfl rfl hl.1 rfl (lv_room (Nat.le_of_ble_eq_true rfl)) d_risPath_144 ⟨Nat.le_of_ble_eq_true rfl, Nat.le_of_ble_eq_true rfl⟩) hS (fun q _ h => hFc q h) hFc (fun rz u t H1 locs ht hvm hw hB hz1 hk1 hS => ?_)
    obtain ⟨hP, -, hD1⟩ := hB
    rw [ht] at hP
    have hD := hD1.weaken (fun _ q _ h => hFc q.1 h)
    generalize H1 = H at hP hS ⊢
    refine W.cs (cells' := 0) (slots' := 0) rfl rfl ?_
    subst hw
    refine lv_if_eq (tgt := 156) hx hb d_risPath_147 (by decide) (fun c_5 => ?_) (fun c_5 => ?_)
    · replace Heq := (if_pos c_5).symm.trans Heq
      exact K0 _ (Option.some.inj Heq).symm _ _ _ hP hD hS (lv_sub hl [0, 1, 2] rfl)
    · replace Heq := (if_neg c_5).symm.trans Heq
      refine lv_iinc (v := x1 + 1) (lv' := [(1, .int (x1 + 1)), (0, .ref (md 100)), (2, .int x2)]) hx hb d_risPath_150 hl (k := 1) rfl rfl (by decide) rfl (fun ls hl => ?_)
      refine lv_goto (tgt := 130) hx hb d_risPath_153 (by decide) ?_
      exact Ka _ (Option.some.inj Heq).symm _ _ _ hP hD hS (lv_sub hl [1, 0, 2] rfl)
def m_risPath_L130 (S : MS) (x1 : Int32) (x2 : Int32) : Option (MS × Int32 × Int32) := lp (fun a : MS × Int32 × Int32 => m_risPath_B130 a.1 a.2.1 a.2.2) FU (S, x1, x2)
theorem w_risPath_L130 {p : Program} {l : Launch} {e : Env} {s : State} {m : MethodId} {args : Array Value} {below : List Frame} {meth : Method} {c : Code} {A : Nat → Prop} {D : va_G} {md : Nat → Nat} {mc : Nat → ClassId} {Q : State → Prop} (hC : MCx "JoinedTreesModel" prog_14_method_72_code 3 (some .boolean) p s m args meth c A D mc) {S : MS} {x1 : Int32} {x2 : Int32} {o : MS × Int32 × Int32} (Heq : m_risPath_L130 S x1 x2 = some o) (K0 : ∀ b : MS × Int32 × Int32, o = b → ∀ (H : Heap) (locs : List Loc) (ls : Array Slot), va_P D cls (mw md mc b.1) H → va_D A (mw md mc b.1) → va_S A s.heap H locs → lv_has ls 3 [(0, .ref (md 100)), (1, .int b.2.1), (2, .int b.2.2)] → W p l e ({ frames := 1, cells := 0, slots := 0, locals := 20 }) s m args below meth c H locs 0 0 Q (F0 m 156 ls [])) : ∀ (H : Heap) (locs : List Loc) (ls : Array Slot), va_P D cls (mw md mc S) H → va_D A (mw md mc S) → va_S A s.heap H locs → lv_has ls 3 [(0, .ref (md 100)), (1, .int x1), (2, .int x2)] → W p l e ({ frames := 1, cells := 0, slots := 0, locals := 20 }) s m args below meth c H locs 0 0 Q (F0 m 130 ls []) := by
  refine lp_w (G := fun a : MS × Int32 × Int32 => ∀ (H : Heap) (locs : List Loc) (ls : Array Slot), va_P D cls (mw md mc a.1) H → va_D A (mw md mc a.1) → va_S A s.heap H locs → lv_has ls 3 [(0, .ref (md 100)), (1, .int a.2.1), (2, .int a.2.2)] → W p l e ({ frames := 1, cells := 0, slots := 0, locals := 20 }) s m args below meth c H locs 0 0 Q (F0 m 130 ls [])) ?_ FU (S, x1, x2) Heq
  intro a o1 ho Ka Ke
  exact w_risPath_B130 hC ho (fun b h => Ka b h) (fun b h => K0 b (Ke _ h).symm)
def m_risPath_J156 (S : MS) (x1 : Int32) (x2 : Int32) : Option ((MS × Int32) ⊕ (MS ⊕ (MS × Int32))) := ob (m_risKey S (x1 - x2)) (fun o_1 => (if o_1.2 = 0 then some (.inr (.inr (o_1.1, 0))) else some (.inl (o_1.1, x1))))
theorem d_risPath_156 : decode prog_14_method_72_code 156 = .ok (.iload_n 1, 1) := by decide +kernel
theorem d_risPath_157 : decode prog_14_method_72_code 157 = .ok (.iload_n 2, 1) := by decide +kernel
theorem d_risPath_158 : decode prog_14_method_72_code 158 = .ok (.isub, 1) := by decide +kernel
theorem d_risPath_159 : decode prog_14_method_72_code 159 = .ok (.invokestatic 255, 3) := by decide +kernel
theorem d_risPath_162 : decode prog_14_method_72_code 162 = .ok (.ifCond .ne 5, 3) := by decide +kernel
theorem d_risPath_167 : decode prog_14_method_72_code 167 = .ok (.goto (-165), 3) := by decide +kernel
theorem d_risPath_165 : decode prog_14_method_72_code 165 = .ok (.iconst 0, 1) := by decide +kernel
theorem d_risPath_166 : decode prog_14_method_72_code 166 = .ok (.ireturn, 1) := by decide +kernel
set_option maxHeartbeats 4000000 in
set_option maxRecDepth 100000 in
theorem w_risPath_J156 {p : Program} {l : Launch} {e : Env} {s : State} {m : MethodId} {args : Array Value} {below : List Frame} {meth : Method} {c : Code} {A : Nat → Prop} {D : va_G} {md : Nat → Nat} {mc : Nat → ClassId} {Q : State → Prop} (hC : MCx "JoinedTreesModel" prog_14_method_72_code 3 (some .boolean) p s m args meth c A D mc) {S : MS} {x1 : Int32} {x2 : Int32} {o : ((MS × Int32) ⊕ (MS ⊕ (MS × Int32)))} (Heq : m_risPath_J156 S x1 x2 = some o) (Ka : ∀ b : MS × Int32, o = .inl b → ∀ (H : Heap) (locs : List Loc) (ls : Array Slot), va_P D cls (mw md mc b.1) H → va_D A (mw md mc b.1) → va_S A s.heap H locs → lv_has ls 3 [(0, .ref (md 100)), (1, .int b.2)] → W p l e ({ frames := 1, cells := 0, slots := 0, locals := 20 }) s m args below meth c H locs 0 0 Q (F0 m 2 ls [])) (K0 : ∀ b : MS, o = .inr (.inl b) → ∀ (H : Heap) (locs : List Loc) (ls : Array Slot), va_P D cls (mw md mc b) H → va_D A (mw md mc b) → va_S A s.heap H locs → lv_has ls 3 [(0, .ref (md 100))] → W p l e ({ frames := 1, cells := 0, slots := 0, locals := 20 }) s m args below meth c H locs 0 0 Q (F0 m 170 ls [])) (Kr : ∀ r : MS × Int32, o = .inr (.inr r) → ∀ (pc : Nat) (H : Heap) (locs : List Loc) (ls : Array Slot), decode prog_14_method_72_code pc = .ok (.ireturn, 1) → (r.2 = 0 ∨ r.2 = 1) → va_P D cls (mw md mc r.1) H → va_D A (mw md mc r.1) → va_S A s.heap H locs → W p l e ({ frames := 1, cells := 0, slots := 0, locals := 20 }) s m args below meth c H locs 0 0 Q (F0 m pc ls [.int r.2])) : ∀ (H : Heap) (locs : List Loc) (ls : Array Slot), va_P D cls (mw md mc S) H → va_D A (mw md mc S) → va_S A s.heap H locs → lv_has ls 3 [(0, .ref (md 100)), (1, .int x1), (2, .int x2)] → W p l e ({ frames := 1, cells := 0, slots := 0, locals := 20 }) s m args below meth c H locs 0 0 Q (F0 m 156 ls []) := by
  intro H locs ls hP hD hS hl
  obtain ⟨hx, hb, hr, hml, hown, hts, hK, hA⟩ := id hC
  unfold m_risPath_J156 at Heq
  refine lv_iload_n hx hb d_risPath_156 rfl (lv_at hl 1 rfl) ?_
  refine lv_iload_n hx hb d_risPath_157 rfl (lv_at hl 2 rfl) ?_
  refine lv_isub hx hb d_risPath_158 ?_
  refine w_i (y := x1 - x2) rfl ?_
  obtain ⟨o_1, h_2, Heq⟩ := ob_some Heq
  have hFc := fr_all hD hS hA
  refine va_calli (va_runS (As := [.int (x1 - x2)]) (rest := []) ⟨hx, hb, hml, hown, hts⟩ (g_risKey l D H.size h_2) (cw_s 1 hts kw_1644 kw_1642 kw_1643 kw_11 rfl rfl (by decide +kernel) ⟨Nat.le_of_ble_eq_true rfl, Nat.le_of_ble_eq_true rfl⟩) ⟨g_blind, fun U hU hW => g_pre hU hW hP hK hD⟩ rfl rfl hl.1 rfl (lv_room (Nat.le_of_ble_eq_true rfl)) d_risPath_159 ⟨Nat.le_of_ble_eq_true rfl, Nat.le_of_ble_eq_true rfl⟩) hS (fun q _ h => hFc q h) hFc (fun rz u t H1 locs ht hvm hw hB hz1 hk1 hS => ?_)
  obtain ⟨hP, -, hD1⟩ := hB
  rw [ht] at hP
  have hD := hD1.weaken (fun _ q _ h => hFc q.1 h)
  generalize H1 = H at hP hS ⊢
  refine W.cs (cells' := 0) (slots' := 0) rfl rfl ?_
  subst hw
  refine lv_if_ne (tgt := 167) hx hb d_risPath_162 (by decide) (fun c_3 => ?_) (fun c_3 => ?_)
  · replace Heq := (if_neg c_3).symm.trans Heq
    refine lv_goto (tgt := 2) hx hb d_risPath_167 (by decide) ?_
    exact Ka _ (Option.some.inj Heq).symm _ _ _ hP hD hS (lv_sub hl [0, 1] rfl)
  · replace Heq := (if_pos c_3).symm.trans Heq
    refine lv_iconst (v := 0) hx hb d_risPath_165 (by decide) ?_
    exact Kr _ (Option.some.inj Heq).symm 166 _ _ _ d_risPath_166 (Or.inl rfl) hP hD hS
def m_risPath_J128 (S : MS) (x1 : Int32) : Option ((MS × Int32) ⊕ (MS ⊕ (MS × Int32))) := ob (m_risPath_L130 S x1 x1) (fun b_1 => m_risPath_J156 b_1.1 b_1.2.1 b_1.2.2)
set_option maxHeartbeats 4000000 in
set_option maxRecDepth 100000 in
theorem w_risPath_J128 {p : Program} {l : Launch} {e : Env} {s : State} {m : MethodId} {args : Array Value} {below : List Frame} {meth : Method} {c : Code} {A : Nat → Prop} {D : va_G} {md : Nat → Nat} {mc : Nat → ClassId} {Q : State → Prop} (hC : MCx "JoinedTreesModel" prog_14_method_72_code 3 (some .boolean) p s m args meth c A D mc) {S : MS} {x1 : Int32} {o : ((MS × Int32) ⊕ (MS ⊕ (MS × Int32)))} (Heq : m_risPath_J128 S x1 = some o) (Ka : ∀ b : MS × Int32, o = .inl b → ∀ (H : Heap) (locs : List Loc) (ls : Array Slot), va_P D cls (mw md mc b.1) H → va_D A (mw md mc b.1) → va_S A s.heap H locs → lv_has ls 3 [(0, .ref (md 100)), (1, .int b.2)] → W p l e ({ frames := 1, cells := 0, slots := 0, locals := 20 }) s m args below meth c H locs 0 0 Q (F0 m 2 ls [])) (K0 : ∀ b : MS, o = .inr (.inl b) → ∀ (H : Heap) (locs : List Loc) (ls : Array Slot), va_P D cls (mw md mc b) H → va_D A (mw md mc b) → va_S A s.heap H locs → lv_has ls 3 [(0, .ref (md 100))] → W p l e ({ frames := 1, cells := 0, slots := 0, locals := 20 }) s m args below meth c H locs 0 0 Q (F0 m 170 ls [])) (Kr : ∀ r : MS × Int32, o = .inr (.inr r) → ∀ (pc : Nat) (H : Heap) (locs : List Loc) (ls : Array Slot), decode prog_14_method_72_code pc = .ok (.ireturn, 1) → (r.2 = 0 ∨ r.2 = 1) → va_P D cls (mw md mc r.1) H → va_D A (mw md mc r.1) → va_S A s.heap H locs → W p l e ({ frames := 1, cells := 0, slots := 0, locals := 20 }) s m args below meth c H locs 0 0 Q (F0 m pc ls [.int r.2])) : ∀ (H : Heap) (locs : List Loc) (ls : Array Slot), va_P D cls (mw md mc S) H → va_D A (mw md mc S) → va_S A s.heap H locs → lv_has ls 3 [(0, .ref (md 100)), (1, .int x1)] → W p l e ({ frames := 1, cells := 0, slots := 0, locals := 20 }) s m args below meth c H locs 0 0 Q (F0 m 128 ls []) := by
  intro H locs ls hP hD hS hl
  obtain ⟨hx, hb, hr, hml, hown, hts, hK, hA⟩ := id hC
  unfold m_risPath_J128 at Heq
  refine lv_iload_n hx hb d_risPath_128 rfl (lv_at hl 1 rfl) ?_
  refine lv_istore_n (lv' := [(2, .int x1), (0, .ref (md 100)), (1, .int x1)]) hx hb d_risPath_129 rfl hl (by decide) rfl (fun ls hl => ?_)
  obtain ⟨b_1, h_2, Heq⟩ := ob_some Heq
  refine w_risPath_L130 hC h_2 (fun b h => ?_) _ _ _ hP hD hS (lv_sub hl [1, 2, 0] rfl)
  subst h
  intro H locs ls hP hD hS hl
  exact w_risPath_J156 hC Heq Ka K0 Kr _ _ _ hP hD hS (lv_sub hl [0, 1, 2] rfl)
def m_risPath_B32 (S : MS) (x1 : Int32) (x2 : Int32) : Option ((MS × Int32 × Int32) ⊕ (MS × Int32 × Int32)) := (if S.i 5 ≤ x1 then some (.inr (S, x1, x2)) else gd x1 8300 ((if S.a 2 x1.toNatClampNeg < 48 then some (.inr (S, x1, x2)) else gd x1 8300 ((if 57 < S.a 2 x1.toNatClampNeg then some (.inr (S, x1, x2)) else some (.inl (S, (x1 + 1), x2)))))))
theorem d_risPath_112 : decode prog_14_method_72_code 112 = .ok (.aload_n 0, 1) := by decide +kernel
theorem d_risPath_113 : decode prog_14_method_72_code 113 = .ok (.getfield 13, 3) := by decide +kernel
theorem d_risPath_116 : decode prog_14_method_72_code 116 = .ok (.iload_n 1, 1) := by decide +kernel
theorem d_risPath_117 : decode prog_14_method_72_code 117 = .ok (.baload, 1) := by decide +kernel
theorem d_risPath_118 : decode prog_14_method_72_code 118 = .ok (.bipush 46, 2) := by decide +kernel
theorem d_risPath_120 : decode prog_14_method_72_code 120 = .ok (.if_icmp .eq 5, 3) := by decide +kernel
theorem d_risPath_125 : decode prog_14_method_72_code 125 = .ok (.iinc 1 1, 3) := by decide +kernel
theorem d_risPath_123 : decode prog_14_method_72_code 123 = .ok (.iconst 0, 1) := by decide +kernel
theorem d_risPath_124 : decode prog_14_method_72_code 124 = .ok (.ireturn, 1) := by decide +kernel
theorem d_risPath_21 : decode prog_14_method_72_code 21 = .ok (.iload_n 1, 1) := by decide +kernel
theorem d_risPath_22 : decode prog_14_method_72_code 22 = .ok (.ifCond .ne 5, 3) := by decide +kernel
theorem d_risPath_27 : decode prog_14_method_72_code 27 = .ok (.iinc 1 1, 3) := by decide +kernel
theorem d_risPath_30 : decode prog_14_method_72_code 30 = .ok (.iload_n 1, 1) := by decide +kernel
theorem d_risPath_31 : decode prog_14_method_72_code 31 = .ok (.istore_n 2, 1) := by decide +kernel
theorem d_risPath_32 : decode prog_14_method_72_code 32 = .ok (.iload_n 1, 1) := by decide +kernel
theorem d_risPath_33 : decode prog_14_method_72_code 33 = .ok (.aload_n 0, 1) := by decide +kernel
theorem d_risPath_34 : decode prog_14_method_72_code 34 = .ok (.getfield 185, 3) := by decide +kernel
theorem d_risPath_37 : decode prog_14_method_72_code 37 = .ok (.if_icmp .ge 31, 3) := by decide +kernel
theorem d_risPath_40 : decode prog_14_method_72_code 40 = .ok (.aload_n 0, 1) := by decide +kernel
theorem d_risPath_41 : decode prog_14_method_72_code 41 = .ok (.getfield 13, 3) := by decide +kernel
theorem d_risPath_44 : decode prog_14_method_72_code 44 = .ok (.iload_n 1, 1) := by decide +kernel
theorem d_risPath_45 : decode prog_14_method_72_code 45 = .ok (.baload, 1) := by decide +kernel
theorem d_risPath_46 : decode prog_14_method_72_code 46 = .ok (.bipush 48, 2) := by decide +kernel
theorem d_risPath_48 : decode prog_14_method_72_code 48 = .ok (.if_icmp .lt 20, 3) := by decide +kernel
theorem d_risPath_51 : decode prog_14_method_72_code 51 = .ok (.aload_n 0, 1) := by decide +kernel
theorem d_risPath_52 : decode prog_14_method_72_code 52 = .ok (.getfield 13, 3) := by decide +kernel
theorem d_risPath_55 : decode prog_14_method_72_code 55 = .ok (.iload_n 1, 1) := by decide +kernel
theorem d_risPath_56 : decode prog_14_method_72_code 56 = .ok (.baload, 1) := by decide +kernel
theorem d_risPath_57 : decode prog_14_method_72_code 57 = .ok (.bipush 57, 2) := by decide +kernel
theorem d_risPath_59 : decode prog_14_method_72_code 59 = .ok (.if_icmp .gt 9, 3) := by decide +kernel
theorem d_risPath_62 : decode prog_14_method_72_code 62 = .ok (.iinc 1 1, 3) := by decide +kernel
theorem d_risPath_65 : decode prog_14_method_72_code 65 = .ok (.goto (-33), 3) := by decide +kernel
set_option maxHeartbeats 4000000 in
set_option maxRecDepth 100000 in
theorem w_risPath_B32 {p : Program} {l : Launch} {e : Env} {s : State} {m : MethodId} {args : Array Value} {below : List Frame} {meth : Method} {c : Code} {A : Nat → Prop} {D : va_G} {md : Nat → Nat} {mc : Nat → ClassId} {Q : State → Prop} (hC : MCx "JoinedTreesModel" prog_14_method_72_code 3 (some .boolean) p s m args meth c A D mc) {S : MS} {x1 : Int32} {x2 : Int32} {o : ((MS × Int32 × Int32) ⊕ (MS × Int32 × Int32))} (Heq : m_risPath_B32 S x1 x2 = some o) (Ka : ∀ b : MS × Int32 × Int32, o = .inl b → ∀ (H : Heap) (locs : List Loc) (ls : Array Slot), va_P D cls (mw md mc b.1) H → va_D A (mw md mc b.1) → va_S A s.heap H locs → lv_has ls 3 [(0, .ref (md 100)), (1, .int b.2.1), (2, .int b.2.2)] → W p l e ({ frames := 1, cells := 0, slots := 0, locals := 20 }) s m args below meth c H locs 0 0 Q (F0 m 32 ls [])) (K0 : ∀ b : MS × Int32 × Int32, o = .inr b → ∀ (H : Heap) (locs : List Loc) (ls : Array Slot), va_P D cls (mw md mc b.1) H → va_D A (mw md mc b.1) → va_S A s.heap H locs → lv_has ls 3 [(0, .ref (md 100)), (1, .int b.2.1), (2, .int b.2.2)] → W p l e ({ frames := 1, cells := 0, slots := 0, locals := 20 }) s m args below meth c H locs 0 0 Q (F0 m 68 ls [])) : ∀ (H : Heap) (locs : List Loc) (ls : Array Slot), va_P D cls (mw md mc S) H → va_D A (mw md mc S) → va_S A s.heap H locs → lv_has ls 3 [(0, .ref (md 100)), (1, .int x1), (2, .int x2)] → W p l e ({ frames := 1, cells := 0, slots := 0, locals := 20 }) s m args below meth c H locs 0 0 Q (F0 m 32 ls []) := by
  intro H locs ls hP hD hS hl
  obtain ⟨hx, hb, hr, hml, hown, hts, hK, hA⟩ := id hC
  unfold m_risPath_B32 at Heq
  refine lv_iload_n hx hb d_risPath_32 rfl (lv_at hl 1 rfl) ?_
  refine lv_aload_n hx hb d_risPath_33 rfl (lv_at hl 0 rfl) ?_
  refine va_get (D := D) (ci := 12) (v := .int (S.i 5)) (C := R_MM) (T := F_MM) (N := 77) hx hb hts i_MM hown hK hP 0 rfl rfl 5 (by decide) (hts _ kw_1387) (fun _ h9 => h9) rfl d_risPath_34 ?_
  refine lv_icmp_ge (tgt := 68) hx hb d_risPath_37 (by decide) (fun c_1 => ?_) (fun c_1 => ?_)
  · replace Heq := (if_pos c_1).symm.trans Heq
    exact K0 _ (Option.some.inj Heq).symm _ _ _ hP hD hS (lv_sub hl [0, 1, 2] rfl)
  · replace Heq := (if_neg c_1).symm.trans Heq
    refine lv_aload_n hx hb d_risPath_40 rfl (lv_at hl 0 rfl) ?_
    refine va_get (D := D) (ci := 12) (v := .ref (md 2)) (C := R_MM) (T := F_MM) (N := 77) hx hb hts i_MM hown hK hP 0 rfl rfl 2 (by decide) (hts _ kw_1384) (fun _ h9 => h9) rfl d_risPath_41 ?_
    refine lv_iload_n hx hb d_risPath_44 rfl (lv_at hl 1 rfl) ?_
    obtain ⟨hi_2, Heq⟩ := gd_some Heq
    refine va_bald hx hb hK hP 2 1 rfl rfl (i := x1) hi_2 d_risPath_45 ?_
    refine w_i (y := S.a 2 x1.toNatClampNeg) rfl ?_
    refine lv_bipush (v := 48) hx hb d_risPath_46 (by decide) ?_
    refine lv_icmp_lt (tgt := 68) hx hb d_risPath_48 (by decide) (fun c_3 => ?_) (fun c_3 => ?_)
    · replace Heq := (if_pos c_3).symm.trans Heq
      exact K0 _ (Option.some.inj Heq).symm _ _ _ hP hD hS (lv_sub hl [0, 1, 2] rfl)
    · replace Heq := (if_neg c_3).symm.trans Heq
      refine lv_aload_n hx hb d_risPath_51 rfl (lv_at hl 0 rfl) ?_
      refine va_get (D := D) (ci := 12) (v := .ref (md 2)) (C := R_MM) (T := F_MM) (N := 77) hx hb hts i_MM hown hK hP 0 rfl rfl 2 (by decide) (hts _ kw_1384) (fun _ h9 => h9) rfl d_risPath_52 ?_
      refine lv_iload_n hx hb d_risPath_55 rfl (lv_at hl 1 rfl) ?_
      obtain ⟨hi_4, Heq⟩ := gd_some Heq
      refine va_bald hx hb hK hP 2 1 rfl rfl (i := x1) hi_4 d_risPath_56 ?_
      refine w_i (y := S.a 2 x1.toNatClampNeg) rfl ?_
      refine lv_bipush (v := 57) hx hb d_risPath_57 (by decide) ?_
      refine lv_icmp_gt (tgt := 68) hx hb d_risPath_59 (by decide) (fun c_5 => ?_) (fun c_5 => ?_)
      · replace Heq := (if_pos c_5).symm.trans Heq
        exact K0 _ (Option.some.inj Heq).symm _ _ _ hP hD hS (lv_sub hl [0, 1, 2] rfl)
      · replace Heq := (if_neg c_5).symm.trans Heq
        refine lv_iinc (v := x1 + 1) (lv' := [(1, .int (x1 + 1)), (0, .ref (md 100)), (2, .int x2)]) hx hb d_risPath_62 hl (k := 1) rfl rfl (by decide) rfl (fun ls hl => ?_)
        refine lv_goto (tgt := 32) hx hb d_risPath_65 (by decide) ?_
        exact Ka _ (Option.some.inj Heq).symm _ _ _ hP hD hS (lv_sub hl [1, 0, 2] rfl)
def m_risPath_L32 (S : MS) (x1 : Int32) (x2 : Int32) : Option (MS × Int32 × Int32) := lp (fun a : MS × Int32 × Int32 => m_risPath_B32 a.1 a.2.1 a.2.2) FU (S, x1, x2)
theorem w_risPath_L32 {p : Program} {l : Launch} {e : Env} {s : State} {m : MethodId} {args : Array Value} {below : List Frame} {meth : Method} {c : Code} {A : Nat → Prop} {D : va_G} {md : Nat → Nat} {mc : Nat → ClassId} {Q : State → Prop} (hC : MCx "JoinedTreesModel" prog_14_method_72_code 3 (some .boolean) p s m args meth c A D mc) {S : MS} {x1 : Int32} {x2 : Int32} {o : MS × Int32 × Int32} (Heq : m_risPath_L32 S x1 x2 = some o) (K0 : ∀ b : MS × Int32 × Int32, o = b → ∀ (H : Heap) (locs : List Loc) (ls : Array Slot), va_P D cls (mw md mc b.1) H → va_D A (mw md mc b.1) → va_S A s.heap H locs → lv_has ls 3 [(0, .ref (md 100)), (1, .int b.2.1), (2, .int b.2.2)] → W p l e ({ frames := 1, cells := 0, slots := 0, locals := 20 }) s m args below meth c H locs 0 0 Q (F0 m 68 ls [])) : ∀ (H : Heap) (locs : List Loc) (ls : Array Slot), va_P D cls (mw md mc S) H → va_D A (mw md mc S) → va_S A s.heap H locs → lv_has ls 3 [(0, .ref (md 100)), (1, .int x1), (2, .int x2)] → W p l e ({ frames := 1, cells := 0, slots := 0, locals := 20 }) s m args below meth c H locs 0 0 Q (F0 m 32 ls []) := by
  refine lp_w (G := fun a : MS × Int32 × Int32 => ∀ (H : Heap) (locs : List Loc) (ls : Array Slot), va_P D cls (mw md mc a.1) H → va_D A (mw md mc a.1) → va_S A s.heap H locs → lv_has ls 3 [(0, .ref (md 100)), (1, .int a.2.1), (2, .int a.2.2)] → W p l e ({ frames := 1, cells := 0, slots := 0, locals := 20 }) s m args below meth c H locs 0 0 Q (F0 m 32 ls [])) ?_ FU (S, x1, x2) Heq
  intro a o1 ho Ka Ke
  exact w_risPath_B32 hC ho (fun b h => Ka b h) (fun b h => K0 b (Ke _ h).symm)
def m_risPath_J100 (S : MS) : Option ((MS × Int32) ⊕ (MS ⊕ (MS × Int32))) := some (.inr (.inr (S, 0)))
theorem d_risPath_68 : decode prog_14_method_72_code 68 = .ok (.iload_n 1, 1) := by decide +kernel
theorem d_risPath_69 : decode prog_14_method_72_code 69 = .ok (.iload_n 2, 1) := by decide +kernel
theorem d_risPath_70 : decode prog_14_method_72_code 70 = .ok (.if_icmp .eq 30, 3) := by decide +kernel
theorem d_risPath_100 : decode prog_14_method_72_code 100 = .ok (.iconst 0, 1) := by decide +kernel
theorem d_risPath_101 : decode prog_14_method_72_code 101 = .ok (.ireturn, 1) := by decide +kernel
set_option maxHeartbeats 4000000 in
set_option maxRecDepth 100000 in
theorem w_risPath_J100 {p : Program} {l : Launch} {e : Env} {s : State} {m : MethodId} {args : Array Value} {below : List Frame} {meth : Method} {c : Code} {A : Nat → Prop} {D : va_G} {md : Nat → Nat} {mc : Nat → ClassId} {Q : State → Prop} (hC : MCx "JoinedTreesModel" prog_14_method_72_code 3 (some .boolean) p s m args meth c A D mc) {S : MS} {o : ((MS × Int32) ⊕ (MS ⊕ (MS × Int32)))} (Heq : m_risPath_J100 S = some o) (Ka : ∀ b : MS × Int32, o = .inl b → ∀ (H : Heap) (locs : List Loc) (ls : Array Slot), va_P D cls (mw md mc b.1) H → va_D A (mw md mc b.1) → va_S A s.heap H locs → lv_has ls 3 [(0, .ref (md 100)), (1, .int b.2)] → W p l e ({ frames := 1, cells := 0, slots := 0, locals := 20 }) s m args below meth c H locs 0 0 Q (F0 m 2 ls [])) (K0 : ∀ b : MS, o = .inr (.inl b) → ∀ (H : Heap) (locs : List Loc) (ls : Array Slot), va_P D cls (mw md mc b) H → va_D A (mw md mc b) → va_S A s.heap H locs → lv_has ls 3 [(0, .ref (md 100))] → W p l e ({ frames := 1, cells := 0, slots := 0, locals := 20 }) s m args below meth c H locs 0 0 Q (F0 m 170 ls [])) (Kr : ∀ r : MS × Int32, o = .inr (.inr r) → ∀ (pc : Nat) (H : Heap) (locs : List Loc) (ls : Array Slot), decode prog_14_method_72_code pc = .ok (.ireturn, 1) → (r.2 = 0 ∨ r.2 = 1) → va_P D cls (mw md mc r.1) H → va_D A (mw md mc r.1) → va_S A s.heap H locs → W p l e ({ frames := 1, cells := 0, slots := 0, locals := 20 }) s m args below meth c H locs 0 0 Q (F0 m pc ls [.int r.2])) : ∀ (H : Heap) (locs : List Loc) (ls : Array Slot), va_P D cls (mw md mc S) H → va_D A (mw md mc S) → va_S A s.heap H locs → lv_has ls 3 [(0, .ref (md 100))] → W p l e ({ frames := 1, cells := 0, slots := 0, locals := 20 }) s m args below meth c H locs 0 0 Q (F0 m 100 ls []) := by
  intro H locs ls hP hD hS hl
  obtain ⟨hx, hb, hr, hml, hown, hts, hK, hA⟩ := id hC
  unfold m_risPath_J100 at Heq
  refine lv_iconst (v := 0) hx hb d_risPath_100 (by decide) ?_
  exact Kr _ (Option.some.inj Heq).symm 101 _ _ _ d_risPath_101 (Or.inl rfl) hP hD hS
def m_risPath_J68 (S : MS) (x1 : Int32) (x2 : Int32) : Option ((MS × Int32) ⊕ (MS ⊕ (MS × Int32))) := (if x1 = x2 then m_risPath_J100 S else (if 6 < x1 - x2 then m_risPath_J100 S else (if x1 = S.i 5 then m_risPath_J100 S else gd x1 8300 ((if S.a 2 x1.toNatClampNeg = 93 then some (.inl (S, (x1 + 1))) else m_risPath_J100 S)))))
theorem d_risPath_73 : decode prog_14_method_72_code 73 = .ok (.iload_n 1, 1) := by decide +kernel
theorem d_risPath_74 : decode prog_14_method_72_code 74 = .ok (.iload_n 2, 1) := by decide +kernel
theorem d_risPath_75 : decode prog_14_method_72_code 75 = .ok (.isub, 1) := by decide +kernel
theorem d_risPath_76 : decode prog_14_method_72_code 76 = .ok (.bipush 6, 2) := by decide +kernel
theorem d_risPath_78 : decode prog_14_method_72_code 78 = .ok (.if_icmp .gt 22, 3) := by decide +kernel
theorem d_risPath_81 : decode prog_14_method_72_code 81 = .ok (.iload_n 1, 1) := by decide +kernel
theorem d_risPath_82 : decode prog_14_method_72_code 82 = .ok (.aload_n 0, 1) := by decide +kernel
theorem d_risPath_83 : decode prog_14_method_72_code 83 = .ok (.getfield 185, 3) := by decide +kernel
theorem d_risPath_86 : decode prog_14_method_72_code 86 = .ok (.if_icmp .eq 14, 3) := by decide +kernel
theorem d_risPath_89 : decode prog_14_method_72_code 89 = .ok (.aload_n 0, 1) := by decide +kernel
theorem d_risPath_90 : decode prog_14_method_72_code 90 = .ok (.getfield 13, 3) := by decide +kernel
theorem d_risPath_93 : decode prog_14_method_72_code 93 = .ok (.iload_n 1, 1) := by decide +kernel
theorem d_risPath_94 : decode prog_14_method_72_code 94 = .ok (.baload, 1) := by decide +kernel
theorem d_risPath_95 : decode prog_14_method_72_code 95 = .ok (.bipush 93, 2) := by decide +kernel
theorem d_risPath_97 : decode prog_14_method_72_code 97 = .ok (.if_icmp .eq 5, 3) := by decide +kernel
theorem d_risPath_102 : decode prog_14_method_72_code 102 = .ok (.iinc 1 1, 3) := by decide +kernel
theorem d_risPath_105 : decode prog_14_method_72_code 105 = .ok (.goto (-103), 3) := by decide +kernel
set_option maxHeartbeats 4000000 in
set_option maxRecDepth 100000 in
theorem w_risPath_J68 {p : Program} {l : Launch} {e : Env} {s : State} {m : MethodId} {args : Array Value} {below : List Frame} {meth : Method} {c : Code} {A : Nat → Prop} {D : va_G} {md : Nat → Nat} {mc : Nat → ClassId} {Q : State → Prop} (hC : MCx "JoinedTreesModel" prog_14_method_72_code 3 (some .boolean) p s m args meth c A D mc) {S : MS} {x1 : Int32} {x2 : Int32} {o : ((MS × Int32) ⊕ (MS ⊕ (MS × Int32)))} (Heq : m_risPath_J68 S x1 x2 = some o) (Ka : ∀ b : MS × Int32, o = .inl b → ∀ (H : Heap) (locs : List Loc) (ls : Array Slot), va_P D cls (mw md mc b.1) H → va_D A (mw md mc b.1) → va_S A s.heap H locs → lv_has ls 3 [(0, .ref (md 100)), (1, .int b.2)] → W p l e ({ frames := 1, cells := 0, slots := 0, locals := 20 }) s m args below meth c H locs 0 0 Q (F0 m 2 ls [])) (K0 : ∀ b : MS, o = .inr (.inl b) → ∀ (H : Heap) (locs : List Loc) (ls : Array Slot), va_P D cls (mw md mc b) H → va_D A (mw md mc b) → va_S A s.heap H locs → lv_has ls 3 [(0, .ref (md 100))] → W p l e ({ frames := 1, cells := 0, slots := 0, locals := 20 }) s m args below meth c H locs 0 0 Q (F0 m 170 ls [])) (Kr : ∀ r : MS × Int32, o = .inr (.inr r) → ∀ (pc : Nat) (H : Heap) (locs : List Loc) (ls : Array Slot), decode prog_14_method_72_code pc = .ok (.ireturn, 1) → (r.2 = 0 ∨ r.2 = 1) → va_P D cls (mw md mc r.1) H → va_D A (mw md mc r.1) → va_S A s.heap H locs → W p l e ({ frames := 1, cells := 0, slots := 0, locals := 20 }) s m args below meth c H locs 0 0 Q (F0 m pc ls [.int r.2])) : ∀ (H : Heap) (locs : List Loc) (ls : Array Slot), va_P D cls (mw md mc S) H → va_D A (mw md mc S) → va_S A s.heap H locs → lv_has ls 3 [(0, .ref (md 100)), (1, .int x1), (2, .int x2)] → W p l e ({ frames := 1, cells := 0, slots := 0, locals := 20 }) s m args below meth c H locs 0 0 Q (F0 m 68 ls []) := by
  intro H locs ls hP hD hS hl
  obtain ⟨hx, hb, hr, hml, hown, hts, hK, hA⟩ := id hC
  unfold m_risPath_J68 at Heq
  refine lv_iload_n hx hb d_risPath_68 rfl (lv_at hl 1 rfl) ?_
  refine lv_iload_n hx hb d_risPath_69 rfl (lv_at hl 2 rfl) ?_
  refine lv_icmp_eq (tgt := 100) hx hb d_risPath_70 (by decide) (fun c_1 => ?_) (fun c_1 => ?_)
  · replace Heq := (if_pos c_1).symm.trans Heq
    exact w_risPath_J100 hC Heq Ka K0 Kr _ _ _ hP hD hS (lv_sub hl [0] rfl)
  · replace Heq := (if_neg c_1).symm.trans Heq
    refine lv_iload_n hx hb d_risPath_73 rfl (lv_at hl 1 rfl) ?_
    refine lv_iload_n hx hb d_risPath_74 rfl (lv_at hl 2 rfl) ?_
    refine lv_isub hx hb d_risPath_75 ?_
    refine w_i (y := x1 - x2) rfl ?_
    refine lv_bipush (v := 6) hx hb d_risPath_76 (by decide) ?_
    refine lv_icmp_gt (tgt := 100) hx hb d_risPath_78 (by decide) (fun c_2 => ?_) (fun c_2 => ?_)
    · replace Heq := (if_pos c_2).symm.trans Heq
      exact w_risPath_J100 hC Heq Ka K0 Kr _ _ _ hP hD hS (lv_sub hl [0] rfl)
    · replace Heq := (if_neg c_2).symm.trans Heq
      refine lv_iload_n hx hb d_risPath_81 rfl (lv_at hl 1 rfl) ?_
      refine lv_aload_n hx hb d_risPath_82 rfl (lv_at hl 0 rfl) ?_
      refine va_get (D := D) (ci := 12) (v := .int (S.i 5)) (C := R_MM) (T := F_MM) (N := 77) hx hb hts i_MM hown hK hP 0 rfl rfl 5 (by decide) (hts _ kw_1387) (fun _ h9 => h9) rfl d_risPath_83 ?_
      refine lv_icmp_eq (tgt := 100) hx hb d_risPath_86 (by decide) (fun c_3 => ?_) (fun c_3 => ?_)
      · replace Heq := (if_pos c_3).symm.trans Heq
        exact w_risPath_J100 hC Heq Ka K0 Kr _ _ _ hP hD hS (lv_sub hl [0] rfl)
      · replace Heq := (if_neg c_3).symm.trans Heq
        refine lv_aload_n hx hb d_risPath_89 rfl (lv_at hl 0 rfl) ?_
        refine va_get (D := D) (ci := 12) (v := .ref (md 2)) (C := R_MM) (T := F_MM) (N := 77) hx hb hts i_MM hown hK hP 0 rfl rfl 2 (by decide) (hts _ kw_1384) (fun _ h9 => h9) rfl d_risPath_90 ?_
        refine lv_iload_n hx hb d_risPath_93 rfl (lv_at hl 1 rfl) ?_
        obtain ⟨hi_4, Heq⟩ := gd_some Heq
        refine va_bald hx hb hK hP 2 1 rfl rfl (i := x1) hi_4 d_risPath_94 ?_
        refine w_i (y := S.a 2 x1.toNatClampNeg) rfl ?_
        refine lv_bipush (v := 93) hx hb d_risPath_95 (by decide) ?_
        refine lv_icmp_eq (tgt := 102) hx hb d_risPath_97 (by decide) (fun c_5 => ?_) (fun c_5 => ?_)
        · replace Heq := (if_pos c_5).symm.trans Heq
          refine lv_iinc (v := x1 + 1) (lv' := [(1, .int (x1 + 1)), (0, .ref (md 100)), (2, .int x2)]) hx hb d_risPath_102 hl (k := 1) rfl rfl (by decide) rfl (fun ls hl => ?_)
          refine lv_goto (tgt := 2) hx hb d_risPath_105 (by decide) ?_
          exact Ka _ (Option.some.inj Heq).symm _ _ _ hP hD hS (lv_sub hl [1, 0] rfl)
        · replace Heq := (if_neg c_5).symm.trans Heq
          exact w_risPath_J100 hC Heq Ka K0 Kr _ _ _ hP hD hS (lv_sub hl [0] rfl)
def m_risPath_B2 (S : MS) (x1 : Int32) : Option ((MS × Int32) ⊕ (MS ⊕ (MS × Int32))) := (if S.i 5 ≤ x1 then some (.inr (.inl (S))) else gd x1 8300 ((if S.a 2 x1.toNatClampNeg = 91 then (if x1 = 0 then some (.inr (.inr (S, 0))) else ob (m_risPath_L32 S (x1 + 1) (x1 + 1)) (fun b_8 => m_risPath_J68 b_8.1 b_8.2.1 b_8.2.2)) else (if x1 ≤ 0 then m_risPath_J128 S x1 else gd x1 8300 ((if S.a 2 x1.toNatClampNeg = 46 then m_risPath_J128 S (x1 + 1) else some (.inr (.inr (S, 0)))))))))
theorem d_risPath_25 : decode prog_14_method_72_code 25 = .ok (.iconst 0, 1) := by decide +kernel
theorem d_risPath_26 : decode prog_14_method_72_code 26 = .ok (.ireturn, 1) := by decide +kernel
set_option maxHeartbeats 4000000 in
set_option maxRecDepth 100000 in
theorem w_risPath_B2 {p : Program} {l : Launch} {e : Env} {s : State} {m : MethodId} {args : Array Value} {below : List Frame} {meth : Method} {c : Code} {A : Nat → Prop} {D : va_G} {md : Nat → Nat} {mc : Nat → ClassId} {Q : State → Prop} (hC : MCx "JoinedTreesModel" prog_14_method_72_code 3 (some .boolean) p s m args meth c A D mc) {S : MS} {x1 : Int32} {o : ((MS × Int32) ⊕ (MS ⊕ (MS × Int32)))} (Heq : m_risPath_B2 S x1 = some o) (Ka : ∀ b : MS × Int32, o = .inl b → ∀ (H : Heap) (locs : List Loc) (ls : Array Slot), va_P D cls (mw md mc b.1) H → va_D A (mw md mc b.1) → va_S A s.heap H locs → lv_has ls 3 [(0, .ref (md 100)), (1, .int b.2)] → W p l e ({ frames := 1, cells := 0, slots := 0, locals := 20 }) s m args below meth c H locs 0 0 Q (F0 m 2 ls [])) (K0 : ∀ b : MS, o = .inr (.inl b) → ∀ (H : Heap) (locs : List Loc) (ls : Array Slot), va_P D cls (mw md mc b) H → va_D A (mw md mc b) → va_S A s.heap H locs → lv_has ls 3 [(0, .ref (md 100))] → W p l e ({ frames := 1, cells := 0, slots := 0, locals := 20 }) s m args below meth c H locs 0 0 Q (F0 m 170 ls [])) (Kr : ∀ r : MS × Int32, o = .inr (.inr r) → ∀ (pc : Nat) (H : Heap) (locs : List Loc) (ls : Array Slot), decode prog_14_method_72_code pc = .ok (.ireturn, 1) → (r.2 = 0 ∨ r.2 = 1) → va_P D cls (mw md mc r.1) H → va_D A (mw md mc r.1) → va_S A s.heap H locs → W p l e ({ frames := 1, cells := 0, slots := 0, locals := 20 }) s m args below meth c H locs 0 0 Q (F0 m pc ls [.int r.2])) : ∀ (H : Heap) (locs : List Loc) (ls : Array Slot), va_P D cls (mw md mc S) H → va_D A (mw md mc S) → va_S A s.heap H locs → lv_has ls 3 [(0, .ref (md 100)), (1, .int x1)] → W p l e ({ frames := 1, cells := 0, slots := 0, locals := 20 }) s m args below meth c H locs 0 0 Q (F0 m 2 ls []) := by
  intro H locs ls hP hD hS hl
  obtain ⟨hx, hb, hr, hml, hown, hts, hK, hA⟩ := id hC
  unfold m_risPath_B2 at Heq
  refine lv_iload_n hx hb d_risPath_2 rfl (lv_at hl 1 rfl) ?_
  refine lv_aload_n hx hb d_risPath_3 rfl (lv_at hl 0 rfl) ?_
  refine va_get (D := D) (ci := 12) (v := .int (S.i 5)) (C := R_MM) (T := F_MM) (N := 77) hx hb hts i_MM hown hK hP 0 rfl rfl 5 (by decide) (hts _ kw_1387) (fun _ h9 => h9) rfl d_risPath_4 ?_
  refine lv_icmp_ge (tgt := 170) hx hb d_risPath_7 (by decide) (fun c_1 => ?_) (fun c_1 => ?_)
  · replace Heq := (if_pos c_1).symm.trans Heq
    exact K0 _ (Option.some.inj Heq).symm _ _ _ hP hD hS (lv_sub hl [0] rfl)
  · replace Heq := (if_neg c_1).symm.trans Heq
    refine lv_aload_n hx hb d_risPath_10 rfl (lv_at hl 0 rfl) ?_
    refine va_get (D := D) (ci := 12) (v := .ref (md 2)) (C := R_MM) (T := F_MM) (N := 77) hx hb hts i_MM hown hK hP 0 rfl rfl 2 (by decide) (hts _ kw_1384) (fun _ h9 => h9) rfl d_risPath_11 ?_
    refine lv_iload_n hx hb d_risPath_14 rfl (lv_at hl 1 rfl) ?_
    obtain ⟨hi_2, Heq⟩ := gd_some Heq
    refine va_bald hx hb hK hP 2 1 rfl rfl (i := x1) hi_2 d_risPath_15 ?_
    refine w_i (y := S.a 2 x1.toNatClampNeg) rfl ?_
    refine lv_bipush (v := 91) hx hb d_risPath_16 (by decide) ?_
    refine lv_icmp_ne (tgt := 108) hx hb d_risPath_18 (by decide) (fun c_3 => ?_) (fun c_3 => ?_)
    · replace Heq := (if_neg c_3).symm.trans Heq
      refine lv_iload_n hx hb d_risPath_108 rfl (lv_at hl 1 rfl) ?_
      refine lv_if_le (tgt := 128) hx hb d_risPath_109 (by decide) (fun c_4 => ?_) (fun c_4 => ?_)
      · replace Heq := (if_pos c_4).symm.trans Heq
        exact w_risPath_J128 hC Heq Ka K0 Kr _ _ _ hP hD hS (lv_sub hl [0, 1] rfl)
      · replace Heq := (if_neg c_4).symm.trans Heq
        refine lv_aload_n hx hb d_risPath_112 rfl (lv_at hl 0 rfl) ?_
        refine va_get (D := D) (ci := 12) (v := .ref (md 2)) (C := R_MM) (T := F_MM) (N := 77) hx hb hts i_MM hown hK hP 0 rfl rfl 2 (by decide) (hts _ kw_1384) (fun _ h9 => h9) rfl d_risPath_113 ?_
        refine lv_iload_n hx hb d_risPath_116 rfl (lv_at hl 1 rfl) ?_
        obtain ⟨hi_5, Heq⟩ := gd_some Heq
        refine va_bald hx hb hK hP 2 1 rfl rfl (i := x1) hi_5 d_risPath_117 ?_
        refine w_i (y := S.a 2 x1.toNatClampNeg) rfl ?_
        refine lv_bipush (v := 46) hx hb d_risPath_118 (by decide) ?_
        refine lv_icmp_eq (tgt := 125) hx hb d_risPath_120 (by decide) (fun c_6 => ?_) (fun c_6 => ?_)
        · replace Heq := (if_pos c_6).symm.trans Heq
          refine lv_iinc (v := x1 + 1) (lv' := [(1, .int (x1 + 1)), (0, .ref (md 100))]) hx hb d_risPath_125 hl (k := 1) rfl rfl (by decide) rfl (fun ls hl => ?_)
          exact w_risPath_J128 hC Heq Ka K0 Kr _ _ _ hP hD hS (lv_sub hl [1, 0] rfl)
        · replace Heq := (if_neg c_6).symm.trans Heq
          refine lv_iconst (v := 0) hx hb d_risPath_123 (by decide) ?_
          exact Kr _ (Option.some.inj Heq).symm 124 _ _ _ d_risPath_124 (Or.inl rfl) hP hD hS
    · replace Heq := (if_pos c_3).symm.trans Heq
      refine lv_iload_n hx hb d_risPath_21 rfl (lv_at hl 1 rfl) ?_
      refine lv_if_ne (tgt := 27) hx hb d_risPath_22 (by decide) (fun c_7 => ?_) (fun c_7 => ?_)
      · replace Heq := (if_neg c_7).symm.trans Heq
        refine lv_iinc (v := x1 + 1) (lv' := [(1, .int (x1 + 1)), (0, .ref (md 100))]) hx hb d_risPath_27 hl (k := 1) rfl rfl (by decide) rfl (fun ls hl => ?_)
        refine lv_iload_n hx hb d_risPath_30 rfl (lv_at hl 0 rfl) ?_
        refine lv_istore_n (lv' := [(2, .int (x1 + 1)), (1, .int (x1 + 1)), (0, .ref (md 100))]) hx hb d_risPath_31 rfl hl (by decide) rfl (fun ls hl => ?_)
        obtain ⟨b_8, h_9, Heq⟩ := ob_some Heq
        refine w_risPath_L32 hC h_9 (fun b h => ?_) _ _ _ hP hD hS (lv_sub hl [2, 1, 0] rfl)
        subst h
        intro H locs ls hP hD hS hl
        exact w_risPath_J68 hC Heq Ka K0 Kr _ _ _ hP hD hS (lv_sub hl [0, 1, 2] rfl)
      · replace Heq := (if_pos c_7).symm.trans Heq
        refine lv_iconst (v := 0) hx hb d_risPath_25 (by decide) ?_
        exact Kr _ (Option.some.inj Heq).symm 26 _ _ _ d_risPath_26 (Or.inl rfl) hP hD hS
def m_risPath_L2 (S : MS) (x1 : Int32) : Option (MS ⊕ (MS × Int32)) := lp (fun a : MS × Int32 => m_risPath_B2 a.1 a.2) FU (S, x1)
theorem w_risPath_L2 {p : Program} {l : Launch} {e : Env} {s : State} {m : MethodId} {args : Array Value} {below : List Frame} {meth : Method} {c : Code} {A : Nat → Prop} {D : va_G} {md : Nat → Nat} {mc : Nat → ClassId} {Q : State → Prop} (hC : MCx "JoinedTreesModel" prog_14_method_72_code 3 (some .boolean) p s m args meth c A D mc) {S : MS} {x1 : Int32} {o : (MS ⊕ (MS × Int32))} (Heq : m_risPath_L2 S x1 = some o) (K0 : ∀ b : MS, o = (.inl b) → ∀ (H : Heap) (locs : List Loc) (ls : Array Slot), va_P D cls (mw md mc b) H → va_D A (mw md mc b) → va_S A s.heap H locs → lv_has ls 3 [(0, .ref (md 100))] → W p l e ({ frames := 1, cells := 0, slots := 0, locals := 20 }) s m args below meth c H locs 0 0 Q (F0 m 170 ls [])) (Kr : ∀ r : MS × Int32, o = (.inr r) → ∀ (pc : Nat) (H : Heap) (locs : List Loc) (ls : Array Slot), decode prog_14_method_72_code pc = .ok (.ireturn, 1) → (r.2 = 0 ∨ r.2 = 1) → va_P D cls (mw md mc r.1) H → va_D A (mw md mc r.1) → va_S A s.heap H locs → W p l e ({ frames := 1, cells := 0, slots := 0, locals := 20 }) s m args below meth c H locs 0 0 Q (F0 m pc ls [.int r.2])) : ∀ (H : Heap) (locs : List Loc) (ls : Array Slot), va_P D cls (mw md mc S) H → va_D A (mw md mc S) → va_S A s.heap H locs → lv_has ls 3 [(0, .ref (md 100)), (1, .int x1)] → W p l e ({ frames := 1, cells := 0, slots := 0, locals := 20 }) s m args below meth c H locs 0 0 Q (F0 m 2 ls []) := by
  refine lp_w (G := fun a : MS × Int32 => ∀ (H : Heap) (locs : List Loc) (ls : Array Slot), va_P D cls (mw md mc a.1) H → va_D A (mw md mc a.1) → va_S A s.heap H locs → lv_has ls 3 [(0, .ref (md 100)), (1, .int a.2)] → W p l e ({ frames := 1, cells := 0, slots := 0, locals := 20 }) s m args below meth c H locs 0 0 Q (F0 m 2 ls [])) ?_ FU (S, x1) Heq
  intro a o1 ho Ka Ke
  exact w_risPath_B2 hC ho (fun b h => Ka b h) (fun b h => K0 b (Ke _ h).symm) (fun r h => Kr r (Ke _ h).symm)
def m_risPath_J182 (S : MS) (t0 : Int32) : Option (MS × Int32) := (if t0 = 0 ∨ t0 = 1 then some (S, t0) else none)
theorem d_risPath_170 : decode prog_14_method_72_code 170 = .ok (.aload_n 0, 1) := by decide +kernel
theorem d_risPath_171 : decode prog_14_method_72_code 171 = .ok (.getfield 185, 3) := by decide +kernel
theorem d_risPath_174 : decode prog_14_method_72_code 174 = .ok (.ifCond .le 7, 3) := by decide +kernel
theorem d_risPath_181 : decode prog_14_method_72_code 181 = .ok (.iconst 0, 1) := by decide +kernel
theorem d_risPath_182 : decode prog_14_method_72_code 182 = .ok (.ireturn, 1) := by decide +kernel
set_option maxHeartbeats 4000000 in
set_option maxRecDepth 100000 in
theorem w_risPath_J182 {p : Program} {l : Launch} {e : Env} {s : State} {m : MethodId} {args : Array Value} {below : List Frame} {meth : Method} {c : Code} {A : Nat → Prop} {D : va_G} {md : Nat → Nat} {mc : Nat → ClassId} {Q : State → Prop} (hC : MCx "JoinedTreesModel" prog_14_method_72_code 3 (some .boolean) p s m args meth c A D mc) {S : MS} {t0 : Int32} {o : MS × Int32} (Heq : m_risPath_J182 S t0 = some o) (Kr : ∀ r : MS × Int32, o = r → ∀ (pc : Nat) (H : Heap) (locs : List Loc) (ls : Array Slot), decode prog_14_method_72_code pc = .ok (.ireturn, 1) → (r.2 = 0 ∨ r.2 = 1) → va_P D cls (mw md mc r.1) H → va_D A (mw md mc r.1) → va_S A s.heap H locs → W p l e ({ frames := 1, cells := 0, slots := 0, locals := 20 }) s m args below meth c H locs 0 0 Q (F0 m pc ls [.int r.2])) : ∀ (H : Heap) (locs : List Loc) (ls : Array Slot), va_P D cls (mw md mc S) H → va_D A (mw md mc S) → va_S A s.heap H locs → lv_has ls 3 [(0, .ref (md 100))] → W p l e ({ frames := 1, cells := 0, slots := 0, locals := 20 }) s m args below meth c H locs 0 0 Q (F0 m 182 ls [.int t0]) := by
  intro H locs ls hP hD hS hl
  obtain ⟨hx, hb, hr, hml, hown, hts, hK, hA⟩ := id hC
  unfold m_risPath_J182 at Heq
  by_cases hz_1 : t0 = 0 ∨ t0 = 1
  case neg => rw [if_neg hz_1] at Heq; cases Heq
  replace Heq := (if_pos hz_1).symm.trans Heq
  exact Kr _ (Option.some.inj Heq).symm 182 _ _ _ d_risPath_182 hz_1 hP hD hS
def m_risPath_J0 (S : MS) : Option (MS × Int32) := oe (m_risPath_L2 S 0) (fun b_1 => (if b_1.i 5 ≤ 0 then m_risPath_J182 b_1 0 else m_risPath_J182 b_1 1)) (fun r_3 => some r_3)
theorem d_risPath_177 : decode prog_14_method_72_code 177 = .ok (.iconst 1, 1) := by decide +kernel
theorem d_risPath_178 : decode prog_14_method_72_code 178 = .ok (.goto 4, 3) := by decide +kernel
set_option maxHeartbeats 4000000 in
set_option maxRecDepth 100000 in
theorem w_risPath_J0 {p : Program} {l : Launch} {e : Env} {s : State} {m : MethodId} {args : Array Value} {below : List Frame} {meth : Method} {c : Code} {A : Nat → Prop} {D : va_G} {md : Nat → Nat} {mc : Nat → ClassId} {Q : State → Prop} (hC : MCx "JoinedTreesModel" prog_14_method_72_code 3 (some .boolean) p s m args meth c A D mc) {S : MS} {o : MS × Int32} (Heq : m_risPath_J0 S = some o) (Kr : ∀ r : MS × Int32, o = r → ∀ (pc : Nat) (H : Heap) (locs : List Loc) (ls : Array Slot), decode prog_14_method_72_code pc = .ok (.ireturn, 1) → (r.2 = 0 ∨ r.2 = 1) → va_P D cls (mw md mc r.1) H → va_D A (mw md mc r.1) → va_S A s.heap H locs → W p l e ({ frames := 1, cells := 0, slots := 0, locals := 20 }) s m args below meth c H locs 0 0 Q (F0 m pc ls [.int r.2])) : ∀ (H : Heap) (locs : List Loc) (ls : Array Slot), va_P D cls (mw md mc S) H → va_D A (mw md mc S) → va_S A s.heap H locs → lv_has ls 3 [(0, .ref (md 100))] → W p l e ({ frames := 1, cells := 0, slots := 0, locals := 20 }) s m args below meth c H locs 0 0 Q (F0 m 0 ls []) := by
  intro H locs ls hP hD hS hl
  obtain ⟨hx, hb, hr, hml, hown, hts, hK, hA⟩ := id hC
  unfold m_risPath_J0 at Heq
  refine lv_iconst (v := 0) hx hb d_risPath_0 (by decide) ?_
  refine lv_istore_n (lv' := [(1, .int 0), (0, .ref (md 100))]) hx hb d_risPath_1 rfl hl (by decide) rfl (fun ls hl => ?_)
  rcases oe_some Heq with ⟨b_1, h_2, Heq⟩ | ⟨r_3, h_2, Heq⟩
  · refine w_risPath_L2 hC h_2 (fun b h => ?_) (fun r h => by cases h) _ _ _ hP hD hS (lv_sub hl [1, 0] rfl)
    cases h
    intro H locs ls hP hD hS hl
    refine lv_aload_n hx hb d_risPath_170 rfl (lv_at hl 0 rfl) ?_
    refine va_get (D := D) (ci := 12) (v := .int (b_1.i 5)) (C := R_MM) (T := F_MM) (N := 77) hx hb hts i_MM hown hK hP 0 rfl rfl 5 (by decide) (hts _ kw_1387) (fun _ h9 => h9) rfl d_risPath_171 ?_
    refine lv_if_le (tgt := 181) hx hb d_risPath_174 (by decide) (fun c_4 => ?_) (fun c_4 => ?_)
    · replace Heq := (if_pos c_4).symm.trans Heq
      refine lv_iconst (v := 0) hx hb d_risPath_181 (by decide) ?_
      exact w_risPath_J182 hC Heq Kr _ _ _ hP hD hS (lv_sub hl [0] rfl)
    · replace Heq := (if_neg c_4).symm.trans Heq
      refine lv_iconst (v := 1) hx hb d_risPath_177 (by decide) ?_
      refine lv_goto (tgt := 182) hx hb d_risPath_178 (by decide) ?_
      exact w_risPath_J182 hC Heq Kr _ _ _ hP hD hS (lv_sub hl [0] rfl)
  · refine w_risPath_L2 hC h_2 (fun b h => by cases h) (fun r h => ?_) _ _ _ hP hD hS (lv_sub hl [1, 0] rfl)
    cases h
    exact Kr _ (Option.some.inj Heq).symm
def m_risPath (S : MS) : Option (MS × Int32) := m_risPath_J0 S
theorem g_risPath (l : Launch) (D : va_G) (sz : Nat) {md : Nat → Nat} {mc : Nat → ClassId} {S : MS} {o : MS × Int32} (Heq : m_risPath S = some o) : Met l ⟨"JoinedTreesModel", "isPath", "()Z"⟩ (Cond.code ⟨"JoinedTreesModel", "isPath", "()Z"⟩ prog_14_method_72_code 3 (some .boolean) :: gb) ({ frames := 1, cells := 0, slots := 0, locals := 20 }) (gPc D (mw md mc S) (mty mc) sz [.ref (md 100)]) (va_Qi (fun (r : Int32) (_ : Unit) => r = o.2) (fun _ t => gO D (mw md mc o.1) (mty mc) (va_A (mw md mc S) sz) t) (va_A (mw md mc S) sz)) 0 0 (va_A (mw md mc S) sz) := by
  refine Met.ofW (cc := prog_14_method_72_code) (maxL := 3) (ret := (some .boolean)) (by decide) rfl ?_
  intro p e s m args below meth c s₁ B hml hv
  obtain ⟨rfl, hsz, hP, hK, hD0⟩ := hv
  have hx := B.exec
  have hb := B.bytes
  have hr := B.returns
  have hts : ∀ w9 ∈ gb, w9.before [.ref (md 100)].toArray s = true := fun w9 h => atoms_spec (ws := Cond.code ⟨"JoinedTreesModel", "isPath", "()Z"⟩ prog_14_method_72_code 3 (some .boolean) :: gb) B.pre w9 (List.mem_cons_of_mem _ h)
  have hown : s.vm.findClass "JoinedTreesModel" = some m.cls := findClass_of_methodNamed B.named
  have hlocks := B.notSynchronized
  subst hsz
  have hD := hD0.self (sz := s.heap.size)
  generalize hAe : va_A (mw md mc S) s.heap.size = A at hD ⊢
  have hA : ∀ q : Nat, s.heap.size ≤ q → A q := fun q h => by rw [← hAe]; exact Or.inr h
  have hS : va_S A s.heap s.heap [] := va_S.rf
  have hl := lv_entry ([.ref (md 100)]) (n := 3) (Nat.le_of_ble_eq_true rfl)
  rw [lg_entry_eq]
  generalize (lg_sl ([.ref (md 100)]) ++ List.replicate (3 - (lg_sl ([.ref (md 100)])).length) Slot.unset).toArray = ls at hl ⊢
  have hl : lv_has ls 3 [(0, .ref (md 100))] := hl
  refine w_risPath_J0 ⟨hx, hb, hr, hml, hown, hts, hK, hA⟩ Heq (fun r h pc H locs ls hd hz hP hD hS => ?_) _ _ _ hP hD hS (lv_sub hl [0] rfl)
  subst h
  exact W.zret (ty := .boolean) hx hb hr (by rcases hz with hz | hz <;> rw [hz] <;> rfl) (fun t ht hW => ⟨⟨_, (), rfl, rfl, by rw [ht]; exact hP, va_K.moved hW.alike hK, hD⟩, hS.F ht⟩) hS.2.2 hd
def m_rfind2_J24 (S : MS) : Option (MS × Int32) := ob (m_rno S 1) (fun o_1 => some (o_1.1, o_1.2))
theorem d_rfind2_0 : decode prog_14_method_73_code 0 = .ok (.aload_n 0, 1) := by decide +kernel
theorem d_rfind2_1 : decode prog_14_method_73_code 1 = .ok (.invokevirtual 247, 3) := by decide +kernel
theorem d_rfind2_4 : decode prog_14_method_73_code 4 = .ok (.istore_n 2, 1) := by decide +kernel
theorem d_rfind2_5 : decode prog_14_method_73_code 5 = .ok (.iload_n 1, 1) := by decide +kernel
theorem d_rfind2_6 : decode prog_14_method_73_code 6 = .ok (.invokestatic 251, 3) := by decide +kernel
theorem d_rfind2_9 : decode prog_14_method_73_code 9 = .ok (.ifCond .eq 15, 3) := by decide +kernel
theorem d_rfind2_24 : decode prog_14_method_73_code 24 = .ok (.aload_n 0, 1) := by decide +kernel
theorem d_rfind2_25 : decode prog_14_method_73_code 25 = .ok (.iconst 1, 1) := by decide +kernel
theorem d_rfind2_26 : decode prog_14_method_73_code 26 = .ok (.invokevirtual 191, 3) := by decide +kernel
theorem d_rfind2_29 : decode prog_14_method_73_code 29 = .ok (.ireturn, 1) := by decide +kernel
set_option maxHeartbeats 4000000 in
set_option maxRecDepth 100000 in
theorem w_rfind2_J24 {p : Program} {l : Launch} {e : Env} {s : State} {m : MethodId} {args : Array Value} {below : List Frame} {meth : Method} {c : Code} {A : Nat → Prop} {D : va_G} {md : Nat → Nat} {mc : Nat → ClassId} {Q : State → Prop} (hC : MCx "JoinedTreesModel" prog_14_method_73_code 10 (some .int) p s m args meth c A D mc) {S : MS} {o : MS × Int32} (Heq : m_rfind2_J24 S = some o) (Kr : ∀ r : MS × Int32, o = r → ∀ (pc : Nat) (H : Heap) (locs : List Loc) (ls : Array Slot), decode prog_14_method_73_code pc = .ok (.ireturn, 1) → va_P D cls (mw md mc r.1) H → va_D A (mw md mc r.1) → va_S A s.heap H locs → W p l e ({ frames := 4, cells := 0, slots := 0, locals := 96 }) s m args below meth c H locs 0 0 Q (F0 m pc ls [.int r.2])) : ∀ (H : Heap) (locs : List Loc) (ls : Array Slot), va_P D cls (mw md mc S) H → va_D A (mw md mc S) → va_S A s.heap H locs → lv_has ls 10 [(0, .ref (md 100))] → W p l e ({ frames := 4, cells := 0, slots := 0, locals := 96 }) s m args below meth c H locs 0 0 Q (F0 m 24 ls []) := by
  intro H locs ls hP hD hS hl
  obtain ⟨hx, hb, hr, hml, hown, hts, hK, hA⟩ := id hC
  unfold m_rfind2_J24 at Heq
  refine lv_aload_n hx hb d_rfind2_24 rfl (lv_at hl 0 rfl) ?_
  refine lv_iconst (v := 1) hx hb d_rfind2_25 (by decide) ?_
  obtain ⟨o_1, h_2, Heq⟩ := ob_some Heq
  have hFc := fr_all hD hS hA
  refine va_calli (va_runV (As := [.int 1]) (rest := []) ⟨hx, hb, hml, hown, hts⟩ (g_rno l D H.size h_2) (cw_v 1 hts kw_1626 kw_1623 kw_1625 kp_29 kw_11 rfl rfl (by decide +kernel) ⟨Nat.le_of_ble_eq_true rfl, Nat.le_of_ble_eq_true rfl⟩) ⟨g_blind, va_recv hK hP (ci := 12) (q0 := 0) rfl rfl, fun U hU hW => g_pre hU hW hP hK hD⟩ rfl rfl hl.1 rfl (lv_room (Nat.le_of_ble_eq_true rfl)) d_rfind2_26 ⟨Nat.le_of_ble_eq_true rfl, Nat.le_of_ble_eq_true rfl⟩) hS (fun q _ h => hFc q h) hFc (fun rz u t H1 locs ht hvm hw hB hz1 hk1 hS => ?_)
  obtain ⟨hP, -, hD1⟩ := hB
  rw [ht] at hP
  have hD := hD1.weaken (fun _ q _ h => hFc q.1 h)
  generalize H1 = H at hP hS ⊢
  refine W.cs (cells' := 0) (slots' := 0) rfl rfl ?_
  subst hw
  exact Kr _ (Option.some.inj Heq).symm 29 _ _ _ d_rfind2_29 hP hD hS
def m_rfind2_J94 (S : MS) : Option ((MS × Int32 × Int32 × Int32 × Int32 × Int32) ⊕ ((MS × Int32) ⊕ (MS × Int32))) := ob (m_rno S 2) (fun o_1 => some (.inr (.inr (o_1.1, o_1.2))))
theorem d_rfind2_12 : decode prog_14_method_73_code 12 = .ok (.iload_n 2, 1) := by decide +kernel
theorem d_rfind2_13 : decode prog_14_method_73_code 13 = .ok (.iconst 1, 1) := by decide +kernel
theorem d_rfind2_14 : decode prog_14_method_73_code 14 = .ok (.if_icmp .ne 10, 3) := by decide +kernel
theorem d_rfind2_17 : decode prog_14_method_73_code 17 = .ok (.aload_n 0, 1) := by decide +kernel
theorem d_rfind2_18 : decode prog_14_method_73_code 18 = .ok (.invokevirtual 430, 3) := by decide +kernel
theorem d_rfind2_21 : decode prog_14_method_73_code 21 = .ok (.ifCond .ne 9, 3) := by decide +kernel
theorem d_rfind2_30 : decode prog_14_method_73_code 30 = .ok (.iconst 0, 1) := by decide +kernel
theorem d_rfind2_31 : decode prog_14_method_73_code 31 = .ok (.istore_n 3, 1) := by decide +kernel
theorem d_rfind2_32 : decode prog_14_method_73_code 32 = .ok (.bipush 6, 2) := by decide +kernel
theorem d_rfind2_34 : decode prog_14_method_73_code 34 = .ok (.istore 4, 2) := by decide +kernel
theorem d_rfind2_36 : decode prog_14_method_73_code 36 = .ok (.iconst (-1), 1) := by decide +kernel
theorem d_rfind2_37 : decode prog_14_method_73_code 37 = .ok (.istore 5, 2) := by decide +kernel
theorem d_rfind2_39 : decode prog_14_method_73_code 39 = .ok (.iconst 0, 1) := by decide +kernel
theorem d_rfind2_40 : decode prog_14_method_73_code 40 = .ok (.istore 6, 2) := by decide +kernel
theorem d_rfind2_42 : decode prog_14_method_73_code 42 = .ok (.iload 6, 2) := by decide +kernel
theorem d_rfind2_44 : decode prog_14_method_73_code 44 = .ok (.aload_n 0, 1) := by decide +kernel
theorem d_rfind2_45 : decode prog_14_method_73_code 45 = .ok (.getfield 185, 3) := by decide +kernel
theorem d_rfind2_48 : decode prog_14_method_73_code 48 = .ok (.if_icmp .ge 249, 3) := by decide +kernel
theorem d_rfind2_51 : decode prog_14_method_73_code 51 = .ok (.aload_n 0, 1) := by decide +kernel
theorem d_rfind2_52 : decode prog_14_method_73_code 52 = .ok (.getfield 13, 3) := by decide +kernel
theorem d_rfind2_55 : decode prog_14_method_73_code 55 = .ok (.iload 6, 2) := by decide +kernel
theorem d_rfind2_57 : decode prog_14_method_73_code 57 = .ok (.baload, 1) := by decide +kernel
theorem d_rfind2_58 : decode prog_14_method_73_code 58 = .ok (.bipush 91, 2) := by decide +kernel
theorem d_rfind2_60 : decode prog_14_method_73_code 60 = .ok (.if_icmp .ne 7, 3) := by decide +kernel
theorem d_rfind2_67 : decode prog_14_method_73_code 67 = .ok (.iconst 0, 1) := by decide +kernel
theorem d_rfind2_68 : decode prog_14_method_73_code 68 = .ok (.istore 7, 2) := by decide +kernel
theorem d_rfind2_70 : decode prog_14_method_73_code 70 = .ok (.iload 4, 2) := by decide +kernel
theorem d_rfind2_72 : decode prog_14_method_73_code 72 = .ok (.bipush 6, 2) := by decide +kernel
theorem d_rfind2_74 : decode prog_14_method_73_code 74 = .ok (.if_icmp .lt 20, 3) := by decide +kernel
theorem d_rfind2_94 : decode prog_14_method_73_code 94 = .ok (.aload_n 0, 1) := by decide +kernel
theorem d_rfind2_95 : decode prog_14_method_73_code 95 = .ok (.iconst 2, 1) := by decide +kernel
theorem d_rfind2_96 : decode prog_14_method_73_code 96 = .ok (.invokevirtual 191, 3) := by decide +kernel
theorem d_rfind2_99 : decode prog_14_method_73_code 99 = .ok (.ireturn, 1) := by decide +kernel
set_option maxHeartbeats 4000000 in
set_option maxRecDepth 100000 in
theorem w_rfind2_J94 {p : Program} {l : Launch} {e : Env} {s : State} {m : MethodId} {args : Array Value} {below : List Frame} {meth : Method} {c : Code} {A : Nat → Prop} {D : va_G} {md : Nat → Nat} {mc : Nat → ClassId} {Q : State → Prop} (hC : MCx "JoinedTreesModel" prog_14_method_73_code 10 (some .int) p s m args meth c A D mc) {S : MS} {o : ((MS × Int32 × Int32 × Int32 × Int32 × Int32) ⊕ ((MS × Int32) ⊕ (MS × Int32)))} (Heq : m_rfind2_J94 S = some o) (Ka : ∀ b : MS × Int32 × Int32 × Int32 × Int32 × Int32, o = .inl b → ∀ (H : Heap) (locs : List Loc) (ls : Array Slot), va_P D cls (mw md mc b.1) H → va_D A (mw md mc b.1) → va_S A s.heap H locs → lv_has ls 10 [(0, .ref (md 100)), (1, .int b.2.1), (3, .int b.2.2.1), (4, .int b.2.2.2.1), (5, .int b.2.2.2.2.1), (6, .int b.2.2.2.2.2)] → W p l e ({ frames := 4, cells := 0, slots := 0, locals := 96 }) s m args below meth c H locs 0 0 Q (F0 m 42 ls [])) (K0 : ∀ b : MS × Int32, o = .inr (.inl b) → ∀ (H : Heap) (locs : List Loc) (ls : Array Slot), va_P D cls (mw md mc b.1) H → va_D A (mw md mc b.1) → va_S A s.heap H locs → lv_has ls 10 [(0, .ref (md 100)), (5, .int b.2)] → W p l e ({ frames := 4, cells := 0, slots := 0, locals := 96 }) s m args below meth c H locs 0 0 Q (F0 m 297 ls [])) (Kr : ∀ r : MS × Int32, o = .inr (.inr r) → ∀ (pc : Nat) (H : Heap) (locs : List Loc) (ls : Array Slot), decode prog_14_method_73_code pc = .ok (.ireturn, 1) → va_P D cls (mw md mc r.1) H → va_D A (mw md mc r.1) → va_S A s.heap H locs → W p l e ({ frames := 4, cells := 0, slots := 0, locals := 96 }) s m args below meth c H locs 0 0 Q (F0 m pc ls [.int r.2])) : ∀ (H : Heap) (locs : List Loc) (ls : Array Slot), va_P D cls (mw md mc S) H → va_D A (mw md mc S) → va_S A s.heap H locs → lv_has ls 10 [(0, .ref (md 100))] → W p l e ({ frames := 4, cells := 0, slots := 0, locals := 96 }) s m args below meth c H locs 0 0 Q (F0 m 94 ls []) := by
  intro H locs ls hP hD hS hl
  obtain ⟨hx, hb, hr, hml, hown, hts, hK, hA⟩ := id hC
  unfold m_rfind2_J94 at Heq
  refine lv_aload_n hx hb d_rfind2_94 rfl (lv_at hl 0 rfl) ?_
  refine lv_iconst (v := 2) hx hb d_rfind2_95 (by decide) ?_
  obtain ⟨o_1, h_2, Heq⟩ := ob_some Heq
  have hFc := fr_all hD hS hA
  refine va_calli (va_runV (As := [.int 2]) (rest := []) ⟨hx, hb, hml, hown, hts⟩ (g_rno l D H.size h_2) (cw_v 1 hts kw_1626 kw_1623 kw_1625 kp_29 kw_11 rfl rfl (by decide +kernel) ⟨Nat.le_of_ble_eq_true rfl, Nat.le_of_ble_eq_true rfl⟩) ⟨g_blind, va_recv hK hP (ci := 12) (q0 := 0) rfl rfl, fun U hU hW => g_pre hU hW hP hK hD⟩ rfl rfl hl.1 rfl (lv_room (Nat.le_of_ble_eq_true rfl)) d_rfind2_96 ⟨Nat.le_of_ble_eq_true rfl, Nat.le_of_ble_eq_true rfl⟩) hS (fun q _ h => hFc q h) hFc (fun rz u t H1 locs ht hvm hw hB hz1 hk1 hS => ?_)
  obtain ⟨hP, -, hD1⟩ := hB
  rw [ht] at hP
  have hD := hD1.weaken (fun _ q _ h => hFc q.1 h)
  generalize H1 = H at hP hS ⊢
  refine W.cs (cells' := 0) (slots' := 0) rfl rfl ?_
  subst hw
  exact Kr _ (Option.some.inj Heq).symm 99 _ _ _ d_rfind2_99 hP hD hS
def m_rfind2_B211 (S : MS) (x1 : Int32) (x3 : Int32) (x6 : Int32) (x8 : Int32) : Option ((MS × Int32 × Int32 × Int32 × Int32) ⊕ (MS × Int32 × Int32 × Int32 × Int32)) := (if S.i 5 ≤ x6 then some (.inr (S, x1, x3, x6, x8)) else gd x6 8300 (ob (m_risWord S (S.a 2 x6.toNatClampNeg)) (fun o_3 => (if o_3.2 = 0 then some (.inr (o_3.1, x1, x3, x6, x8)) else some (.inl (o_3.1, x1, x3, (x6 + 1), x8))))))
theorem d_rfind2_77 : decode prog_14_method_73_code 77 = .ok (.iload 7, 2) := by decide +kernel
theorem d_rfind2_79 : decode prog_14_method_73_code 79 = .ok (.iload 4, 2) := by decide +kernel
theorem d_rfind2_81 : decode prog_14_method_73_code 81 = .ok (.bipush 6, 2) := by decide +kernel
theorem d_rfind2_83 : decode prog_14_method_73_code 83 = .ok (.if_icmp .eq 7, 3) := by decide +kernel
theorem d_rfind2_90 : decode prog_14_method_73_code 90 = .ok (.iconst 0, 1) := by decide +kernel
theorem d_rfind2_91 : decode prog_14_method_73_code 91 = .ok (.if_icmp .eq 9, 3) := by decide +kernel
theorem d_rfind2_100 : decode prog_14_method_73_code 100 = .ok (.iload 7, 2) := by decide +kernel
theorem d_rfind2_102 : decode prog_14_method_73_code 102 = .ok (.ifCond .eq 90, 3) := by decide +kernel
theorem d_rfind2_192 : decode prog_14_method_73_code 192 = .ok (.aload_n 0, 1) := by decide +kernel
theorem d_rfind2_193 : decode prog_14_method_73_code 193 = .ok (.getfield 13, 3) := by decide +kernel
theorem d_rfind2_196 : decode prog_14_method_73_code 196 = .ok (.iload 6, 2) := by decide +kernel
theorem d_rfind2_198 : decode prog_14_method_73_code 198 = .ok (.baload, 1) := by decide +kernel
theorem d_rfind2_199 : decode prog_14_method_73_code 199 = .ok (.bipush 46, 2) := by decide +kernel
theorem d_rfind2_201 : decode prog_14_method_73_code 201 = .ok (.if_icmp .ne 6, 3) := by decide +kernel
theorem d_rfind2_207 : decode prog_14_method_73_code 207 = .ok (.iload 6, 2) := by decide +kernel
theorem d_rfind2_209 : decode prog_14_method_73_code 209 = .ok (.istore 8, 2) := by decide +kernel
theorem d_rfind2_211 : decode prog_14_method_73_code 211 = .ok (.iload 6, 2) := by decide +kernel
theorem d_rfind2_213 : decode prog_14_method_73_code 213 = .ok (.aload_n 0, 1) := by decide +kernel
theorem d_rfind2_214 : decode prog_14_method_73_code 214 = .ok (.getfield 185, 3) := by decide +kernel
theorem d_rfind2_217 : decode prog_14_method_73_code 217 = .ok (.if_icmp .ge 22, 3) := by decide +kernel
theorem d_rfind2_220 : decode prog_14_method_73_code 220 = .ok (.aload_n 0, 1) := by decide +kernel
theorem d_rfind2_221 : decode prog_14_method_73_code 221 = .ok (.getfield 13, 3) := by decide +kernel
theorem d_rfind2_224 : decode prog_14_method_73_code 224 = .ok (.iload 6, 2) := by decide +kernel
theorem d_rfind2_226 : decode prog_14_method_73_code 226 = .ok (.baload, 1) := by decide +kernel
theorem d_rfind2_227 : decode prog_14_method_73_code 227 = .ok (.invokestatic 427, 3) := by decide +kernel
theorem d_rfind2_230 : decode prog_14_method_73_code 230 = .ok (.ifCond .eq 9, 3) := by decide +kernel
theorem d_rfind2_233 : decode prog_14_method_73_code 233 = .ok (.iinc 6 1, 3) := by decide +kernel
theorem d_rfind2_236 : decode prog_14_method_73_code 236 = .ok (.goto (-25), 3) := by decide +kernel
set_option maxHeartbeats 4000000 in
set_option maxRecDepth 100000 in
theorem w_rfind2_B211 {p : Program} {l : Launch} {e : Env} {s : State} {m : MethodId} {args : Array Value} {below : List Frame} {meth : Method} {c : Code} {A : Nat → Prop} {D : va_G} {md : Nat → Nat} {mc : Nat → ClassId} {Q : State → Prop} (hC : MCx "JoinedTreesModel" prog_14_method_73_code 10 (some .int) p s m args meth c A D mc) {S : MS} {x1 : Int32} {x3 : Int32} {x6 : Int32} {x8 : Int32} {o : ((MS × Int32 × Int32 × Int32 × Int32) ⊕ (MS × Int32 × Int32 × Int32 × Int32))} (Heq : m_rfind2_B211 S x1 x3 x6 x8 = some o) (Ka : ∀ b : MS × Int32 × Int32 × Int32 × Int32, o = .inl b → ∀ (H : Heap) (locs : List Loc) (ls : Array Slot), va_P D cls (mw md mc b.1) H → va_D A (mw md mc b.1) → va_S A s.heap H locs → lv_has ls 10 [(0, .ref (md 100)), (1, .int b.2.1), (3, .int b.2.2.1), (6, .int b.2.2.2.1), (8, .int b.2.2.2.2)] → W p l e ({ frames := 4, cells := 0, slots := 0, locals := 96 }) s m args below meth c H locs 0 0 Q (F0 m 211 ls [])) (K0 : ∀ b : MS × Int32 × Int32 × Int32 × Int32, o = .inr b → ∀ (H : Heap) (locs : List Loc) (ls : Array Slot), va_P D cls (mw md mc b.1) H → va_D A (mw md mc b.1) → va_S A s.heap H locs → lv_has ls 10 [(0, .ref (md 100)), (1, .int b.2.1), (3, .int b.2.2.1), (6, .int b.2.2.2.1), (8, .int b.2.2.2.2)] → W p l e ({ frames := 4, cells := 0, slots := 0, locals := 96 }) s m args below meth c H locs 0 0 Q (F0 m 239 ls [])) : ∀ (H : Heap) (locs : List Loc) (ls : Array Slot), va_P D cls (mw md mc S) H → va_D A (mw md mc S) → va_S A s.heap H locs → lv_has ls 10 [(0, .ref (md 100)), (1, .int x1), (3, .int x3), (6, .int x6), (8, .int x8)] → W p l e ({ frames := 4, cells := 0, slots := 0, locals := 96 }) s m args below meth c H locs 0 0 Q (F0 m 211 ls []) := by
  intro H locs ls hP hD hS hl
  obtain ⟨hx, hb, hr, hml, hown, hts, hK, hA⟩ := id hC
  unfold m_rfind2_B211 at Heq
  refine lv_iload hx hb d_rfind2_211 (lv_at hl 3 rfl) ?_
  refine lv_aload_n hx hb d_rfind2_213 rfl (lv_at hl 0 rfl) ?_
  refine va_get (D := D) (ci := 12) (v := .int (S.i 5)) (C := R_MM) (T := F_MM) (N := 77) hx hb hts i_MM hown hK hP 0 rfl rfl 5 (by decide) (hts _ kw_1387) (fun _ h9 => h9) rfl d_rfind2_214 ?_
  refine lv_icmp_ge (tgt := 239) hx hb d_rfind2_217 (by decide) (fun c_1 => ?_) (fun c_1 => ?_)
  · replace Heq := (if_pos c_1).symm.trans Heq
    exact K0 _ (Option.some.inj Heq).symm _ _ _ hP hD hS (lv_sub hl [0, 1, 2, 3, 4] rfl)
  · replace Heq := (if_neg c_1).symm.trans Heq
    refine lv_aload_n hx hb d_rfind2_220 rfl (lv_at hl 0 rfl) ?_
    refine va_get (D := D) (ci := 12) (v := .ref (md 2)) (C := R_MM) (T := F_MM) (N := 77) hx hb hts i_MM hown hK hP 0 rfl rfl 2 (by decide) (hts _ kw_1384) (fun _ h9 => h9) rfl d_rfind2_221 ?_
    refine lv_iload hx hb d_rfind2_224 (lv_at hl 3 rfl) ?_
    obtain ⟨hi_2, Heq⟩ := gd_some Heq
    refine va_bald hx hb hK hP 2 1 rfl rfl (i := x6) hi_2 d_rfind2_226 ?_
    refine w_i (y := S.a 2 x6.toNatClampNeg) rfl ?_
    obtain ⟨o_3, h_4, Heq⟩ := ob_some Heq
    have hFc := fr_all hD hS hA
    refine va_calli (va_runS (As := [.int (S.a 2 x6.toNatClampNeg)]) (rest := []) ⟨hx, hb, hml, hown, hts⟩ (g_risWord l D H.size h_4) (cw_s 1 hts kw_1906 kw_1904 kw_1905 kw_11 rfl rfl (by decide +kernel) ⟨Nat.le_of_ble_eq_true rfl, Nat.le_of_ble_eq_true rfl⟩) ⟨g_blind, fun U hU hW => g_pre hU hW hP hK hD⟩ rfl rfl hl.1 rfl (lv_room (Nat.le_of_ble_eq_true rfl)) d_rfind2_227 ⟨Nat.le_of_ble_eq_true rfl, Nat.le_of_ble_eq_true rfl⟩) hS (fun q _ h => hFc q h) hFc (fun rz u t H1 locs ht hvm hw hB hz1 hk1 hS => ?_)
    obtain ⟨hP, -, hD1⟩ := hB
    rw [ht] at hP
    have hD := hD1.weaken (fun _ q _ h => hFc q.1 h)
    generalize H1 = H at hP hS ⊢
    refine W.cs (cells' := 0) (slots' := 0) rfl rfl ?_
    subst hw
    refine lv_if_eq (tgt := 239) hx hb d_rfind2_230 (by decide) (fun c_5 => ?_) (fun c_5 => ?_)
    · replace Heq := (if_pos c_5).symm.trans Heq
      exact K0 _ (Option.some.inj Heq).symm _ _ _ hP hD hS (lv_sub hl [0, 1, 2, 3, 4] rfl)
    · replace Heq := (if_neg c_5).symm.trans Heq
      refine lv_iinc (v := x6 + 1) (lv' := [(6, .int (x6 + 1)), (0, .ref (md 100)), (1, .int x1), (3, .int x3), (8, .int x8)]) hx hb d_rfind2_233 hl (k := 3) rfl rfl (by decide) rfl (fun ls hl => ?_)
      refine lv_goto (tgt := 211) hx hb d_rfind2_236 (by decide) ?_
      exact Ka _ (Option.some.inj Heq).symm _ _ _ hP hD hS (lv_sub hl [1, 2, 3, 0, 4] rfl)
def m_rfind2_L211 (S : MS) (x1 : Int32) (x3 : Int32) (x6 : Int32) (x8 : Int32) : Option (MS × Int32 × Int32 × Int32 × Int32) := lp (fun a : MS × Int32 × Int32 × Int32 × Int32 => m_rfind2_B211 a.1 a.2.1 a.2.2.1 a.2.2.2.1 a.2.2.2.2) FU (S, x1, x3, x6, x8)
theorem w_rfind2_L211 {p : Program} {l : Launch} {e : Env} {s : State} {m : MethodId} {args : Array Value} {below : List Frame} {meth : Method} {c : Code} {A : Nat → Prop} {D : va_G} {md : Nat → Nat} {mc : Nat → ClassId} {Q : State → Prop} (hC : MCx "JoinedTreesModel" prog_14_method_73_code 10 (some .int) p s m args meth c A D mc) {S : MS} {x1 : Int32} {x3 : Int32} {x6 : Int32} {x8 : Int32} {o : MS × Int32 × Int32 × Int32 × Int32} (Heq : m_rfind2_L211 S x1 x3 x6 x8 = some o) (K0 : ∀ b : MS × Int32 × Int32 × Int32 × Int32, o = b → ∀ (H : Heap) (locs : List Loc) (ls : Array Slot), va_P D cls (mw md mc b.1) H → va_D A (mw md mc b.1) → va_S A s.heap H locs → lv_has ls 10 [(0, .ref (md 100)), (1, .int b.2.1), (3, .int b.2.2.1), (6, .int b.2.2.2.1), (8, .int b.2.2.2.2)] → W p l e ({ frames := 4, cells := 0, slots := 0, locals := 96 }) s m args below meth c H locs 0 0 Q (F0 m 239 ls [])) : ∀ (H : Heap) (locs : List Loc) (ls : Array Slot), va_P D cls (mw md mc S) H → va_D A (mw md mc S) → va_S A s.heap H locs → lv_has ls 10 [(0, .ref (md 100)), (1, .int x1), (3, .int x3), (6, .int x6), (8, .int x8)] → W p l e ({ frames := 4, cells := 0, slots := 0, locals := 96 }) s m args below meth c H locs 0 0 Q (F0 m 211 ls []) := by
  refine lp_w (G := fun a : MS × Int32 × Int32 × Int32 × Int32 => ∀ (H : Heap) (locs : List Loc) (ls : Array Slot), va_P D cls (mw md mc a.1) H → va_D A (mw md mc a.1) → va_S A s.heap H locs → lv_has ls 10 [(0, .ref (md 100)), (1, .int a.2.1), (3, .int a.2.2.1), (6, .int a.2.2.2.1), (8, .int a.2.2.2.2)] → W p l e ({ frames := 4, cells := 0, slots := 0, locals := 96 }) s m args below meth c H locs 0 0 Q (F0 m 211 ls [])) ?_ FU (S, x1, x3, x6, x8) Heq
  intro a o1 ho Ka Ke
  exact w_rfind2_B211 hC ho (fun b h => Ka b h) (fun b h => K0 b (Ke _ h).symm)
def m_rfind2_J269 (S : MS) (x1 : Int32) (x6 : Int32) : Option ((MS × Int32 × Int32 × Int32 × Int32 × Int32) ⊕ ((MS × Int32) ⊕ (MS × Int32))) := gd (S.a 46 ((0 : Int32).toNatClampNeg)) 4000 (gd (S.a 46 ((0 : Int32).toNatClampNeg)) 4000 (some (.inl (S, x1, (S.a 8 ((S.a 46 ((0 : Int32).toNatClampNeg)).toNatClampNeg)), (S.a 11 ((S.a 46 ((0 : Int32).toNatClampNeg)).toNatClampNeg)), (S.a 46 ((0 : Int32).toNatClampNeg)), x6))))
theorem d_rfind2_239 : decode prog_14_method_73_code 239 = .ok (.aload_n 0, 1) := by decide +kernel
theorem d_rfind2_240 : decode prog_14_method_73_code 240 = .ok (.iload_n 1, 1) := by decide +kernel
theorem d_rfind2_241 : decode prog_14_method_73_code 241 = .ok (.iload_n 3, 1) := by decide +kernel
theorem d_rfind2_242 : decode prog_14_method_73_code 242 = .ok (.aload_n 0, 1) := by decide +kernel
theorem d_rfind2_243 : decode prog_14_method_73_code 243 = .ok (.getfield 13, 3) := by decide +kernel
theorem d_rfind2_246 : decode prog_14_method_73_code 246 = .ok (.iload 8, 2) := by decide +kernel
theorem d_rfind2_248 : decode prog_14_method_73_code 248 = .ok (.iload 6, 2) := by decide +kernel
theorem d_rfind2_250 : decode prog_14_method_73_code 250 = .ok (.iload 8, 2) := by decide +kernel
theorem d_rfind2_252 : decode prog_14_method_73_code 252 = .ok (.isub, 1) := by decide +kernel
theorem d_rfind2_253 : decode prog_14_method_73_code 253 = .ok (.invokevirtual 268, 3) := by decide +kernel
theorem d_rfind2_256 : decode prog_14_method_73_code 256 = .ok (.aload_n 0, 1) := by decide +kernel
theorem d_rfind2_257 : decode prog_14_method_73_code 257 = .ok (.getfield 210, 3) := by decide +kernel
theorem d_rfind2_260 : decode prog_14_method_73_code 260 = .ok (.ifCond .ne 9, 3) := by decide +kernel
theorem d_rfind2_269 : decode prog_14_method_73_code 269 = .ok (.aload_n 0, 1) := by decide +kernel
theorem d_rfind2_270 : decode prog_14_method_73_code 270 = .ok (.getfield 121, 3) := by decide +kernel
theorem d_rfind2_273 : decode prog_14_method_73_code 273 = .ok (.iconst 0, 1) := by decide +kernel
theorem d_rfind2_274 : decode prog_14_method_73_code 274 = .ok (.iaload, 1) := by decide +kernel
theorem d_rfind2_275 : decode prog_14_method_73_code 275 = .ok (.istore 5, 2) := by decide +kernel
theorem d_rfind2_277 : decode prog_14_method_73_code 277 = .ok (.aload_n 0, 1) := by decide +kernel
theorem d_rfind2_278 : decode prog_14_method_73_code 278 = .ok (.getfield 19, 3) := by decide +kernel
theorem d_rfind2_281 : decode prog_14_method_73_code 281 = .ok (.iload 5, 2) := by decide +kernel
theorem d_rfind2_283 : decode prog_14_method_73_code 283 = .ok (.iaload, 1) := by decide +kernel
theorem d_rfind2_284 : decode prog_14_method_73_code 284 = .ok (.istore_n 3, 1) := by decide +kernel
theorem d_rfind2_285 : decode prog_14_method_73_code 285 = .ok (.aload_n 0, 1) := by decide +kernel
theorem d_rfind2_286 : decode prog_14_method_73_code 286 = .ok (.getfield 29, 3) := by decide +kernel
theorem d_rfind2_289 : decode prog_14_method_73_code 289 = .ok (.iload 5, 2) := by decide +kernel
theorem d_rfind2_291 : decode prog_14_method_73_code 291 = .ok (.iaload, 1) := by decide +kernel
theorem d_rfind2_292 : decode prog_14_method_73_code 292 = .ok (.istore 4, 2) := by decide +kernel
theorem d_rfind2_294 : decode prog_14_method_73_code 294 = .ok (.goto (-252), 3) := by decide +kernel
set_option maxHeartbeats 4000000 in
set_option maxRecDepth 100000 in
theorem w_rfind2_J269 {p : Program} {l : Launch} {e : Env} {s : State} {m : MethodId} {args : Array Value} {below : List Frame} {meth : Method} {c : Code} {A : Nat → Prop} {D : va_G} {md : Nat → Nat} {mc : Nat → ClassId} {Q : State → Prop} (hC : MCx "JoinedTreesModel" prog_14_method_73_code 10 (some .int) p s m args meth c A D mc) {S : MS} {x1 : Int32} {x6 : Int32} {o : ((MS × Int32 × Int32 × Int32 × Int32 × Int32) ⊕ ((MS × Int32) ⊕ (MS × Int32)))} (Heq : m_rfind2_J269 S x1 x6 = some o) (Ka : ∀ b : MS × Int32 × Int32 × Int32 × Int32 × Int32, o = .inl b → ∀ (H : Heap) (locs : List Loc) (ls : Array Slot), va_P D cls (mw md mc b.1) H → va_D A (mw md mc b.1) → va_S A s.heap H locs → lv_has ls 10 [(0, .ref (md 100)), (1, .int b.2.1), (3, .int b.2.2.1), (4, .int b.2.2.2.1), (5, .int b.2.2.2.2.1), (6, .int b.2.2.2.2.2)] → W p l e ({ frames := 4, cells := 0, slots := 0, locals := 96 }) s m args below meth c H locs 0 0 Q (F0 m 42 ls [])) (K0 : ∀ b : MS × Int32, o = .inr (.inl b) → ∀ (H : Heap) (locs : List Loc) (ls : Array Slot), va_P D cls (mw md mc b.1) H → va_D A (mw md mc b.1) → va_S A s.heap H locs → lv_has ls 10 [(0, .ref (md 100)), (5, .int b.2)] → W p l e ({ frames := 4, cells := 0, slots := 0, locals := 96 }) s m args below meth c H locs 0 0 Q (F0 m 297 ls [])) (Kr : ∀ r : MS × Int32, o = .inr (.inr r) → ∀ (pc : Nat) (H : Heap) (locs : List Loc) (ls : Array Slot), decode prog_14_method_73_code pc = .ok (.ireturn, 1) → va_P D cls (mw md mc r.1) H → va_D A (mw md mc r.1) → va_S A s.heap H locs → W p l e ({ frames := 4, cells := 0, slots := 0, locals := 96 }) s m args below meth c H locs 0 0 Q (F0 m pc ls [.int r.2])) : ∀ (H : Heap) (locs : List Loc) (ls : Array Slot), va_P D cls (mw md mc S) H → va_D A (mw md mc S) → va_S A s.heap H locs → lv_has ls 10 [(0, .ref (md 100)), (1, .int x1), (6, .int x6)] → W p l e ({ frames := 4, cells := 0, slots := 0, locals := 96 }) s m args below meth c H locs 0 0 Q (F0 m 269 ls []) := by
  intro H locs ls hP hD hS hl
  obtain ⟨hx, hb, hr, hml, hown, hts, hK, hA⟩ := id hC
  unfold m_rfind2_J269 at Heq
  refine lv_aload_n hx hb d_rfind2_269 rfl (lv_at hl 0 rfl) ?_
  refine va_get (D := D) (ci := 12) (v := .ref (md 46)) (C := R_MM) (T := F_MM) (N := 77) hx hb hts i_MM hown hK hP 0 rfl rfl 46 (by decide) (hts _ kw_1428) (fun _ h9 => h9) rfl d_rfind2_270 ?_
  refine lv_iconst (v := 0) hx hb d_rfind2_273 (by decide) ?_
  refine va_iald hx hb hK hP 31 0 rfl rfl (i := 0) (vp_in_nI (n := 0) (N := 4000) (by decide) (by decide)) d_rfind2_274 ?_
  refine w_i (y := S.a 46 ((0 : Int32).toNatClampNeg)) rfl ?_
  refine lv_istore (lv' := [(5, .int (S.a 46 ((0 : Int32).toNatClampNeg))), (0, .ref (md 100)), (1, .int x1), (6, .int x6)]) hx hb d_rfind2_275 hl (by decide) rfl (fun ls hl => ?_)
  refine lv_aload_n hx hb d_rfind2_277 rfl (lv_at hl 1 rfl) ?_
  refine va_get (D := D) (ci := 12) (v := .ref (md 8)) (C := R_MM) (T := F_MM) (N := 77) hx hb hts i_MM hown hK hP 0 rfl rfl 8 (by decide) (hts _ kw_1390) (fun _ h9 => h9) rfl d_rfind2_278 ?_
  refine lv_iload hx hb d_rfind2_281 (lv_at hl 0 rfl) ?_
  obtain ⟨hi_1, Heq⟩ := gd_some Heq
  refine va_iald hx hb hK hP 4 0 rfl rfl (i := S.a 46 ((0 : Int32).toNatClampNeg)) hi_1 d_rfind2_283 ?_
  refine w_i (y := S.a 8 ((S.a 46 ((0 : Int32).toNatClampNeg)).toNatClampNeg)) rfl ?_
  refine lv_istore_n (lv' := [(3, .int (S.a 8 ((S.a 46 ((0 : Int32).toNatClampNeg)).toNatClampNeg))), (5, .int (S.a 46 ((0 : Int32).toNatClampNeg))), (0, .ref (md 100)), (1, .int x1), (6, .int x6)]) hx hb d_rfind2_284 rfl hl (by decide) rfl (fun ls hl => ?_)
  refine lv_aload_n hx hb d_rfind2_285 rfl (lv_at hl 2 rfl) ?_
  refine va_get (D := D) (ci := 12) (v := .ref (md 11)) (C := R_MM) (T := F_MM) (N := 77) hx hb hts i_MM hown hK hP 0 rfl rfl 11 (by decide) (hts _ kw_1393) (fun _ h9 => h9) rfl d_rfind2_286 ?_
  refine lv_iload hx hb d_rfind2_289 (lv_at hl 1 rfl) ?_
  obtain ⟨hi_2, Heq⟩ := gd_some Heq
  refine va_iald hx hb hK hP 7 0 rfl rfl (i := S.a 46 ((0 : Int32).toNatClampNeg)) hi_2 d_rfind2_291 ?_
  refine w_i (y := S.a 11 ((S.a 46 ((0 : Int32).toNatClampNeg)).toNatClampNeg)) rfl ?_
  refine lv_istore (lv' := [(4, .int (S.a 11 ((S.a 46 ((0 : Int32).toNatClampNeg)).toNatClampNeg))), (3, .int (S.a 8 ((S.a 46 ((0 : Int32).toNatClampNeg)).toNatClampNeg))), (5, .int (S.a 46 ((0 : Int32).toNatClampNeg))), (0, .ref (md 100)), (1, .int x1), (6, .int x6)]) hx hb d_rfind2_292 hl (by decide) rfl (fun ls hl => ?_)
  refine lv_goto (tgt := 42) hx hb d_rfind2_294 (by decide) ?_
  exact Ka _ (Option.some.inj Heq).symm _ _ _ hP hD hS (lv_sub hl [3, 4, 1, 0, 2, 5] rfl)
def m_rfind2_J239 (S : MS) (x1 : Int32) (x3 : Int32) (x6 : Int32) (x8 : Int32) : Option ((MS × Int32 × Int32 × Int32 × Int32 × Int32) ⊕ ((MS × Int32) ⊕ (MS × Int32))) := ob (m_rkeyCandidates S x1 x3 2 x8 (x6 - x8)) (fun o_1 => (if o_1.i 47 = 0 then ob (m_rno o_1 2) (fun o_4 => some (.inr (.inr (o_4.1, o_4.2)))) else m_rfind2_J269 o_1 x1 x6))
theorem d_rfind2_263 : decode prog_14_method_73_code 263 = .ok (.aload_n 0, 1) := by decide +kernel
theorem d_rfind2_264 : decode prog_14_method_73_code 264 = .ok (.iconst 2, 1) := by decide +kernel
theorem d_rfind2_265 : decode prog_14_method_73_code 265 = .ok (.invokevirtual 191, 3) := by decide +kernel
theorem d_rfind2_268 : decode prog_14_method_73_code 268 = .ok (.ireturn, 1) := by decide +kernel
set_option maxHeartbeats 4000000 in
set_option maxRecDepth 100000 in
theorem w_rfind2_J239 {p : Program} {l : Launch} {e : Env} {s : State} {m : MethodId} {args : Array Value} {below : List Frame} {meth : Method} {c : Code} {A : Nat → Prop} {D : va_G} {md : Nat → Nat} {mc : Nat → ClassId} {Q : State → Prop} (hC : MCx "JoinedTreesModel" prog_14_method_73_code 10 (some .int) p s m args meth c A D mc) {S : MS} {x1 : Int32} {x3 : Int32} {x6 : Int32} {x8 : Int32} {o : ((MS × Int32 × Int32 × Int32 × Int32 × Int32) ⊕ ((MS × Int32) ⊕ (MS × Int32)))} (Heq : m_rfind2_J239 S x1 x3 x6 x8 = some o) (Ka : ∀ b : MS × Int32 × Int32 × Int32 × Int32 × Int32, o = .inl b → ∀ (H : Heap) (locs : List Loc) (ls : Array Slot), va_P D cls (mw md mc b.1) H → va_D A (mw md mc b.1) → va_S A s.heap H locs → lv_has ls 10 [(0, .ref (md 100)), (1, .int b.2.1), (3, .int b.2.2.1), (4, .int b.2.2.2.1), (5, .int b.2.2.2.2.1), (6, .int b.2.2.2.2.2)] → W p l e ({ frames := 4, cells := 0, slots := 0, locals := 96 }) s m args below meth c H locs 0 0 Q (F0 m 42 ls [])) (K0 : ∀ b : MS × Int32, o = .inr (.inl b) → ∀ (H : Heap) (locs : List Loc) (ls : Array Slot), va_P D cls (mw md mc b.1) H → va_D A (mw md mc b.1) → va_S A s.heap H locs → lv_has ls 10 [(0, .ref (md 100)), (5, .int b.2)] → W p l e ({ frames := 4, cells := 0, slots := 0, locals := 96 }) s m args below meth c H locs 0 0 Q (F0 m 297 ls [])) (Kr : ∀ r : MS × Int32, o = .inr (.inr r) → ∀ (pc : Nat) (H : Heap) (locs : List Loc) (ls : Array Slot), decode prog_14_method_73_code pc = .ok (.ireturn, 1) → va_P D cls (mw md mc r.1) H → va_D A (mw md mc r.1) → va_S A s.heap H locs → W p l e ({ frames := 4, cells := 0, slots := 0, locals := 96 }) s m args below meth c H locs 0 0 Q (F0 m pc ls [.int r.2])) : ∀ (H : Heap) (locs : List Loc) (ls : Array Slot), va_P D cls (mw md mc S) H → va_D A (mw md mc S) → va_S A s.heap H locs → lv_has ls 10 [(0, .ref (md 100)), (1, .int x1), (3, .int x3), (6, .int x6), (8, .int x8)] → W p l e ({ frames := 4, cells := 0, slots := 0, locals := 96 }) s m args below meth c H locs 0 0 Q (F0 m 239 ls []) := by
  intro H locs ls hP hD hS hl
  obtain ⟨hx, hb, hr, hml, hown, hts, hK, hA⟩ := id hC
  unfold m_rfind2_J239 at Heq
  refine lv_aload_n hx hb d_rfind2_239 rfl (lv_at hl 0 rfl) ?_
  refine lv_iload_n hx hb d_rfind2_240 rfl (lv_at hl 1 rfl) ?_
  refine lv_iload_n hx hb d_rfind2_241 rfl (lv_at hl 2 rfl) ?_
  refine lv_aload_n hx hb d_rfind2_242 rfl (lv_at hl 0 rfl) ?_
  refine va_get (D := D) (ci := 12) (v := .ref (md 2)) (C := R_MM) (T := F_MM) (N := 77) hx hb hts i_MM hown hK hP 0 rfl rfl 2 (by decide) (hts _ kw_1384) (fun _ h9 => h9) rfl d_rfind2_243 ?_
  refine lv_iload hx hb d_rfind2_246 (lv_at hl 4 rfl) ?_
  refine lv_iload hx hb d_rfind2_248 (lv_at hl 3 rfl) ?_
  refine lv_iload hx hb d_rfind2_250 (lv_at hl 4 rfl) ?_
  refine lv_isub hx hb d_rfind2_252 ?_
  refine w_i (y := x6 - x8) rfl ?_
  obtain ⟨o_1, h_2, Heq⟩ := ob_some Heq
  have hFc := fr_all hD hS hA
  refine va_callv (va_runV (As := [.int x1, .int x3, .ref (md 2), .int x8, .int (x6 - x8)]) (rest := []) ⟨hx, hb, hml, hown, hts⟩ (g_rkeyCandidates l D H.size h_2) (cw_v 5 hts kw_1668 kw_1665 kw_1667 kp_36 kw_11 rfl rfl (by decide +kernel) ⟨Nat.le_of_ble_eq_true rfl, Nat.le_of_ble_eq_true rfl⟩) ⟨g_blind, va_recv hK hP (ci := 12) (q0 := 0) rfl rfl, fun U hU hW => g_pre hU hW hP hK hD⟩ rfl rfl hl.1 rfl (lv_room (Nat.le_of_ble_eq_true rfl)) d_rfind2_253 ⟨Nat.le_of_ble_eq_true rfl, Nat.le_of_ble_eq_true rfl⟩) hS (fun q _ h => hFc q h) hFc (fun u t H1 locs ht hvm hw hB hz1 hk1 hS => ?_)
  obtain ⟨hP, -, hD1⟩ := hB
  rw [ht] at hP
  have hD := hD1.weaken (fun _ q _ h => hFc q.1 h)
  generalize H1 = H at hP hS ⊢
  refine W.cs (cells' := 0) (slots' := 0) rfl rfl ?_
  refine lv_aload_n hx hb d_rfind2_256 rfl (lv_at hl 0 rfl) ?_
  refine va_get (D := D) (ci := 12) (v := .int (o_1.i 47)) (C := R_MM) (T := F_MM) (N := 77) hx hb hts i_MM hown hK hP 0 rfl rfl 47 (by decide) (hts _ kw_1429) (fun _ h9 => h9) rfl d_rfind2_257 ?_
  refine lv_if_ne (tgt := 269) hx hb d_rfind2_260 (by decide) (fun c_3 => ?_) (fun c_3 => ?_)
  · replace Heq := (if_neg c_3).symm.trans Heq
    exact w_rfind2_J269 hC Heq Ka K0 Kr _ _ _ hP hD hS (lv_sub hl [0, 1, 3] rfl)
  · replace Heq := (if_pos c_3).symm.trans Heq
    refine lv_aload_n hx hb d_rfind2_263 rfl (lv_at hl 0 rfl) ?_
    refine lv_iconst (v := 2) hx hb d_rfind2_264 (by decide) ?_
    obtain ⟨o_4, h_5, Heq⟩ := ob_some Heq
    have hFc := fr_all hD hS hA
    refine va_calli (va_runV (As := [.int 2]) (rest := []) ⟨hx, hb, hml, hown, hts⟩ (g_rno l D H.size h_5) (cw_v 1 hts kw_1626 kw_1623 kw_1625 kp_29 kw_11 rfl rfl (by decide +kernel) ⟨Nat.le_of_ble_eq_true rfl, Nat.le_of_ble_eq_true rfl⟩) ⟨g_blind, va_recv hK hP (ci := 12) (q0 := 0) rfl rfl, fun U hU hW => g_pre hU hW hP hK hD⟩ rfl rfl hl.1 rfl (lv_room (Nat.le_of_ble_eq_true rfl)) d_rfind2_265 ⟨Nat.le_of_ble_eq_true rfl, Nat.le_of_ble_eq_true rfl⟩) hS (fun q _ h => hFc q h) hFc (fun rz u t H1 locs ht hvm hw hB hz1 hk1 hS => ?_)
    obtain ⟨hP, -, hD1⟩ := hB
    rw [ht] at hP
    have hD := hD1.weaken (fun _ q _ h => hFc q.1 h)
    generalize H1 = H at hP hS ⊢
    refine W.cs (cells' := 0) (slots' := 0) rfl rfl ?_
    subst hw
    exact Kr _ (Option.some.inj Heq).symm 268 _ _ _ d_rfind2_268 hP hD hS
def m_rfind2_J207 (S : MS) (x1 : Int32) (x3 : Int32) (x6 : Int32) : Option ((MS × Int32 × Int32 × Int32 × Int32 × Int32) ⊕ ((MS × Int32) ⊕ (MS × Int32))) := ob (m_rfind2_L211 S x1 x3 x6 x6) (fun b_1 => m_rfind2_J239 b_1.1 b_1.2.1 b_1.2.2.1 b_1.2.2.2.1 b_1.2.2.2.2)
set_option maxHeartbeats 4000000 in
set_option maxRecDepth 100000 in
theorem w_rfind2_J207 {p : Program} {l : Launch} {e : Env} {s : State} {m : MethodId} {args : Array Value} {below : List Frame} {meth : Method} {c : Code} {A : Nat → Prop} {D : va_G} {md : Nat → Nat} {mc : Nat → ClassId} {Q : State → Prop} (hC : MCx "JoinedTreesModel" prog_14_method_73_code 10 (some .int) p s m args meth c A D mc) {S : MS} {x1 : Int32} {x3 : Int32} {x6 : Int32} {o : ((MS × Int32 × Int32 × Int32 × Int32 × Int32) ⊕ ((MS × Int32) ⊕ (MS × Int32)))} (Heq : m_rfind2_J207 S x1 x3 x6 = some o) (Ka : ∀ b : MS × Int32 × Int32 × Int32 × Int32 × Int32, o = .inl b → ∀ (H : Heap) (locs : List Loc) (ls : Array Slot), va_P D cls (mw md mc b.1) H → va_D A (mw md mc b.1) → va_S A s.heap H locs → lv_has ls 10 [(0, .ref (md 100)), (1, .int b.2.1), (3, .int b.2.2.1), (4, .int b.2.2.2.1), (5, .int b.2.2.2.2.1), (6, .int b.2.2.2.2.2)] → W p l e ({ frames := 4, cells := 0, slots := 0, locals := 96 }) s m args below meth c H locs 0 0 Q (F0 m 42 ls [])) (K0 : ∀ b : MS × Int32, o = .inr (.inl b) → ∀ (H : Heap) (locs : List Loc) (ls : Array Slot), va_P D cls (mw md mc b.1) H → va_D A (mw md mc b.1) → va_S A s.heap H locs → lv_has ls 10 [(0, .ref (md 100)), (5, .int b.2)] → W p l e ({ frames := 4, cells := 0, slots := 0, locals := 96 }) s m args below meth c H locs 0 0 Q (F0 m 297 ls [])) (Kr : ∀ r : MS × Int32, o = .inr (.inr r) → ∀ (pc : Nat) (H : Heap) (locs : List Loc) (ls : Array Slot), decode prog_14_method_73_code pc = .ok (.ireturn, 1) → va_P D cls (mw md mc r.1) H → va_D A (mw md mc r.1) → va_S A s.heap H locs → W p l e ({ frames := 4, cells := 0, slots := 0, locals := 96 }) s m args below meth c H locs 0 0 Q (F0 m pc ls [.int r.2])) : ∀ (H : Heap) (locs : List Loc) (ls : Array Slot), va_P D cls (mw md mc S) H → va_D A (mw md mc S) → va_S A s.heap H locs → lv_has ls 10 [(0, .ref (md 100)), (1, .int x1), (3, .int x3), (6, .int x6)] → W p l e ({ frames := 4, cells := 0, slots := 0, locals := 96 }) s m args below meth c H locs 0 0 Q (F0 m 207 ls []) := by
  intro H locs ls hP hD hS hl
  obtain ⟨hx, hb, hr, hml, hown, hts, hK, hA⟩ := id hC
  unfold m_rfind2_J207 at Heq
  refine lv_iload hx hb d_rfind2_207 (lv_at hl 3 rfl) ?_
  refine lv_istore (lv' := [(8, .int x6), (0, .ref (md 100)), (1, .int x1), (3, .int x3), (6, .int x6)]) hx hb d_rfind2_209 hl (by decide) rfl (fun ls hl => ?_)
  obtain ⟨b_1, h_2, Heq⟩ := ob_some Heq
  refine w_rfind2_L211 hC h_2 (fun b h => ?_) _ _ _ hP hD hS (lv_sub hl [1, 2, 3, 4, 0] rfl)
  subst h
  intro H locs ls hP hD hS hl
  exact w_rfind2_J239 hC Heq Ka K0 Kr _ _ _ hP hD hS (lv_sub hl [0, 1, 2, 3, 4] rfl)
def m_rfind2_B111 (S : MS) (x1 : Int32) (x3 : Int32) (x6 : Int32) (x8 : Int32) : Option ((MS × Int32 × Int32 × Int32 × Int32) ⊕ (MS × Int32 × Int32 × Int32 × Int32)) := gd x6 8300 ((if S.a 2 x6.toNatClampNeg = 93 then some (.inr (S, x1, x3, x6, x8)) else gd x6 8300 (some (.inl (S, x1, x3, (x6 + 1), (((x8 * 10) + (S.a 2 x6.toNatClampNeg)) - 48))))))
theorem d_rfind2_204 : decode prog_14_method_73_code 204 = .ok (.iinc 6 1, 3) := by decide +kernel
theorem d_rfind2_105 : decode prog_14_method_73_code 105 = .ok (.iconst 0, 1) := by decide +kernel
theorem d_rfind2_106 : decode prog_14_method_73_code 106 = .ok (.istore 8, 2) := by decide +kernel
theorem d_rfind2_108 : decode prog_14_method_73_code 108 = .ok (.iinc 6 1, 3) := by decide +kernel
theorem d_rfind2_111 : decode prog_14_method_73_code 111 = .ok (.aload_n 0, 1) := by decide +kernel
theorem d_rfind2_112 : decode prog_14_method_73_code 112 = .ok (.getfield 13, 3) := by decide +kernel
theorem d_rfind2_115 : decode prog_14_method_73_code 115 = .ok (.iload 6, 2) := by decide +kernel
theorem d_rfind2_117 : decode prog_14_method_73_code 117 = .ok (.baload, 1) := by decide +kernel
theorem d_rfind2_118 : decode prog_14_method_73_code 118 = .ok (.bipush 93, 2) := by decide +kernel
theorem d_rfind2_120 : decode prog_14_method_73_code 120 = .ok (.if_icmp .eq 27, 3) := by decide +kernel
theorem d_rfind2_123 : decode prog_14_method_73_code 123 = .ok (.iload 8, 2) := by decide +kernel
theorem d_rfind2_125 : decode prog_14_method_73_code 125 = .ok (.bipush 10, 2) := by decide +kernel
theorem d_rfind2_127 : decode prog_14_method_73_code 127 = .ok (.imul, 1) := by decide +kernel
theorem d_rfind2_128 : decode prog_14_method_73_code 128 = .ok (.aload_n 0, 1) := by decide +kernel
theorem d_rfind2_129 : decode prog_14_method_73_code 129 = .ok (.getfield 13, 3) := by decide +kernel
theorem d_rfind2_132 : decode prog_14_method_73_code 132 = .ok (.iload 6, 2) := by decide +kernel
theorem d_rfind2_134 : decode prog_14_method_73_code 134 = .ok (.baload, 1) := by decide +kernel
theorem d_rfind2_135 : decode prog_14_method_73_code 135 = .ok (.iadd, 1) := by decide +kernel
theorem d_rfind2_136 : decode prog_14_method_73_code 136 = .ok (.bipush 48, 2) := by decide +kernel
theorem d_rfind2_138 : decode prog_14_method_73_code 138 = .ok (.isub, 1) := by decide +kernel
theorem d_rfind2_139 : decode prog_14_method_73_code 139 = .ok (.istore 8, 2) := by decide +kernel
theorem d_rfind2_141 : decode prog_14_method_73_code 141 = .ok (.iinc 6 1, 3) := by decide +kernel
theorem d_rfind2_144 : decode prog_14_method_73_code 144 = .ok (.goto (-33), 3) := by decide +kernel
set_option maxHeartbeats 4000000 in
set_option maxRecDepth 100000 in
theorem w_rfind2_B111 {p : Program} {l : Launch} {e : Env} {s : State} {m : MethodId} {args : Array Value} {below : List Frame} {meth : Method} {c : Code} {A : Nat → Prop} {D : va_G} {md : Nat → Nat} {mc : Nat → ClassId} {Q : State → Prop} (hC : MCx "JoinedTreesModel" prog_14_method_73_code 10 (some .int) p s m args meth c A D mc) {S : MS} {x1 : Int32} {x3 : Int32} {x6 : Int32} {x8 : Int32} {o : ((MS × Int32 × Int32 × Int32 × Int32) ⊕ (MS × Int32 × Int32 × Int32 × Int32))} (Heq : m_rfind2_B111 S x1 x3 x6 x8 = some o) (Ka : ∀ b : MS × Int32 × Int32 × Int32 × Int32, o = .inl b → ∀ (H : Heap) (locs : List Loc) (ls : Array Slot), va_P D cls (mw md mc b.1) H → va_D A (mw md mc b.1) → va_S A s.heap H locs → lv_has ls 10 [(0, .ref (md 100)), (1, .int b.2.1), (3, .int b.2.2.1), (6, .int b.2.2.2.1), (8, .int b.2.2.2.2)] → W p l e ({ frames := 4, cells := 0, slots := 0, locals := 96 }) s m args below meth c H locs 0 0 Q (F0 m 111 ls [])) (K0 : ∀ b : MS × Int32 × Int32 × Int32 × Int32, o = .inr b → ∀ (H : Heap) (locs : List Loc) (ls : Array Slot), va_P D cls (mw md mc b.1) H → va_D A (mw md mc b.1) → va_S A s.heap H locs → lv_has ls 10 [(0, .ref (md 100)), (1, .int b.2.1), (3, .int b.2.2.1), (6, .int b.2.2.2.1), (8, .int b.2.2.2.2)] → W p l e ({ frames := 4, cells := 0, slots := 0, locals := 96 }) s m args below meth c H locs 0 0 Q (F0 m 147 ls [])) : ∀ (H : Heap) (locs : List Loc) (ls : Array Slot), va_P D cls (mw md mc S) H → va_D A (mw md mc S) → va_S A s.heap H locs → lv_has ls 10 [(0, .ref (md 100)), (1, .int x1), (3, .int x3), (6, .int x6), (8, .int x8)] → W p l e ({ frames := 4, cells := 0, slots := 0, locals := 96 }) s m args below meth c H locs 0 0 Q (F0 m 111 ls []) := by
  intro H locs ls hP hD hS hl
  obtain ⟨hx, hb, hr, hml, hown, hts, hK, hA⟩ := id hC
  unfold m_rfind2_B111 at Heq
  refine lv_aload_n hx hb d_rfind2_111 rfl (lv_at hl 0 rfl) ?_
  refine va_get (D := D) (ci := 12) (v := .ref (md 2)) (C := R_MM) (T := F_MM) (N := 77) hx hb hts i_MM hown hK hP 0 rfl rfl 2 (by decide) (hts _ kw_1384) (fun _ h9 => h9) rfl d_rfind2_112 ?_
  refine lv_iload hx hb d_rfind2_115 (lv_at hl 3 rfl) ?_
  obtain ⟨hi_1, Heq⟩ := gd_some Heq
  refine va_bald hx hb hK hP 2 1 rfl rfl (i := x6) hi_1 d_rfind2_117 ?_
  refine w_i (y := S.a 2 x6.toNatClampNeg) rfl ?_
  refine lv_bipush (v := 93) hx hb d_rfind2_118 (by decide) ?_
  refine lv_icmp_eq (tgt := 147) hx hb d_rfind2_120 (by decide) (fun c_2 => ?_) (fun c_2 => ?_)
  · replace Heq := (if_pos c_2).symm.trans Heq
    exact K0 _ (Option.some.inj Heq).symm _ _ _ hP hD hS (lv_sub hl [0, 1, 2, 3, 4] rfl)
  · replace Heq := (if_neg c_2).symm.trans Heq
    refine lv_iload hx hb d_rfind2_123 (lv_at hl 4 rfl) ?_
    refine lv_bipush (v := 10) hx hb d_rfind2_125 (by decide) ?_
    refine lv_imul hx hb d_rfind2_127 ?_
    refine w_i (y := x8 * 10) rfl ?_
    refine lv_aload_n hx hb d_rfind2_128 rfl (lv_at hl 0 rfl) ?_
    refine va_get (D := D) (ci := 12) (v := .ref (md 2)) (C := R_MM) (T := F_MM) (N := 77) hx hb hts i_MM hown hK hP 0 rfl rfl 2 (by decide) (hts _ kw_1384) (fun _ h9 => h9) rfl d_rfind2_129 ?_
    refine lv_iload hx hb d_rfind2_132 (lv_at hl 3 rfl) ?_
    obtain ⟨hi_3, Heq⟩ := gd_some Heq
    refine va_bald hx hb hK hP 2 1 rfl rfl (i := x6) hi_3 d_rfind2_134 ?_
    refine w_i (y := S.a 2 x6.toNatClampNeg) rfl ?_
    refine lv_iadd hx hb d_rfind2_135 ?_
    refine w_i (y := (x8 * 10) + (S.a 2 x6.toNatClampNeg)) rfl ?_
    refine lv_bipush (v := 48) hx hb d_rfind2_136 (by decide) ?_
    refine lv_isub hx hb d_rfind2_138 ?_
    refine w_i (y := ((x8 * 10) + (S.a 2 x6.toNatClampNeg)) - 48) rfl ?_
    refine lv_istore (lv' := [(8, .int (((x8 * 10) + (S.a 2 x6.toNatClampNeg)) - 48)), (0, .ref (md 100)), (1, .int x1), (3, .int x3), (6, .int x6)]) hx hb d_rfind2_139 hl (by decide) rfl (fun ls hl => ?_)
    refine lv_iinc (v := x6 + 1) (lv' := [(6, .int (x6 + 1)), (8, .int (((x8 * 10) + (S.a 2 x6.toNatClampNeg)) - 48)), (0, .ref (md 100)), (1, .int x1), (3, .int x3)]) hx hb d_rfind2_141 hl (k := 4) rfl rfl (by decide) rfl (fun ls hl => ?_)
    refine lv_goto (tgt := 111) hx hb d_rfind2_144 (by decide) ?_
    exact Ka _ (Option.some.inj Heq).symm _ _ _ hP hD hS (lv_sub hl [2, 3, 4, 0, 1] rfl)
def m_rfind2_L111 (S : MS) (x1 : Int32) (x3 : Int32) (x6 : Int32) (x8 : Int32) : Option (MS × Int32 × Int32 × Int32 × Int32) := lp (fun a : MS × Int32 × Int32 × Int32 × Int32 => m_rfind2_B111 a.1 a.2.1 a.2.2.1 a.2.2.2.1 a.2.2.2.2) FU (S, x1, x3, x6, x8)
theorem w_rfind2_L111 {p : Program} {l : Launch} {e : Env} {s : State} {m : MethodId} {args : Array Value} {below : List Frame} {meth : Method} {c : Code} {A : Nat → Prop} {D : va_G} {md : Nat → Nat} {mc : Nat → ClassId} {Q : State → Prop} (hC : MCx "JoinedTreesModel" prog_14_method_73_code 10 (some .int) p s m args meth c A D mc) {S : MS} {x1 : Int32} {x3 : Int32} {x6 : Int32} {x8 : Int32} {o : MS × Int32 × Int32 × Int32 × Int32} (Heq : m_rfind2_L111 S x1 x3 x6 x8 = some o) (K0 : ∀ b : MS × Int32 × Int32 × Int32 × Int32, o = b → ∀ (H : Heap) (locs : List Loc) (ls : Array Slot), va_P D cls (mw md mc b.1) H → va_D A (mw md mc b.1) → va_S A s.heap H locs → lv_has ls 10 [(0, .ref (md 100)), (1, .int b.2.1), (3, .int b.2.2.1), (6, .int b.2.2.2.1), (8, .int b.2.2.2.2)] → W p l e ({ frames := 4, cells := 0, slots := 0, locals := 96 }) s m args below meth c H locs 0 0 Q (F0 m 147 ls [])) : ∀ (H : Heap) (locs : List Loc) (ls : Array Slot), va_P D cls (mw md mc S) H → va_D A (mw md mc S) → va_S A s.heap H locs → lv_has ls 10 [(0, .ref (md 100)), (1, .int x1), (3, .int x3), (6, .int x6), (8, .int x8)] → W p l e ({ frames := 4, cells := 0, slots := 0, locals := 96 }) s m args below meth c H locs 0 0 Q (F0 m 111 ls []) := by
  refine lp_w (G := fun a : MS × Int32 × Int32 × Int32 × Int32 => ∀ (H : Heap) (locs : List Loc) (ls : Array Slot), va_P D cls (mw md mc a.1) H → va_D A (mw md mc a.1) → va_S A s.heap H locs → lv_has ls 10 [(0, .ref (md 100)), (1, .int a.2.1), (3, .int a.2.2.1), (6, .int a.2.2.2.1), (8, .int a.2.2.2.2)] → W p l e ({ frames := 4, cells := 0, slots := 0, locals := 96 }) s m args below meth c H locs 0 0 Q (F0 m 111 ls [])) ?_ FU (S, x1, x3, x6, x8) Heq
  intro a o1 ho Ka Ke
  exact w_rfind2_B111 hC ho (fun b h => Ka b h) (fun b h => K0 b (Ke _ h).symm)
def m_rfind2_J91 (S : MS) (x1 : Int32) (x3 : Int32) (x6 : Int32) (x7 : Int32) (t0 : Int32) (t1 : Int32) : Option ((MS × Int32 × Int32 × Int32 × Int32 × Int32) ⊕ ((MS × Int32) ⊕ (MS × Int32))) := (if t1 = t0 then (if x7 = 0 then gd x6 8300 ((if S.a 2 x6.toNatClampNeg = 46 then m_rfind2_J207 S x1 x3 (x6 + 1) else m_rfind2_J207 S x1 x3 x6)) else ob (m_rfind2_L111 S x1 x3 (x6 + 1) 0) (fun b_5 => ob (m_rat b_5.1 b_5.2.1 b_5.2.2.1 b_5.2.2.2.2) (fun o_7 => (if 0 ≤ o_7.2 then gd o_7.2 4000 (gd (o_7.1.a 48 o_7.2.toNatClampNeg) 4000 (ob (m_relementCandidates o_7.1 b_5.2.1 b_5.2.2.1 (o_7.1.a 8 ((o_7.1.a 48 o_7.2.toNatClampNeg).toNatClampNeg))) (fun o_12 => m_rfind2_J269 o_12 b_5.2.1 (b_5.2.2.2.1 + 1)))) else ob (m_rno o_7.1 2) (fun o_14 => some (.inr (.inr (o_14.1, o_14.2)))))))) else m_rfind2_J94 S)
theorem d_rfind2_147 : decode prog_14_method_73_code 147 = .ok (.iinc 6 1, 3) := by decide +kernel
theorem d_rfind2_150 : decode prog_14_method_73_code 150 = .ok (.aload_n 0, 1) := by decide +kernel
theorem d_rfind2_151 : decode prog_14_method_73_code 151 = .ok (.iload_n 1, 1) := by decide +kernel
theorem d_rfind2_152 : decode prog_14_method_73_code 152 = .ok (.iload_n 3, 1) := by decide +kernel
theorem d_rfind2_153 : decode prog_14_method_73_code 153 = .ok (.iload 8, 2) := by decide +kernel
theorem d_rfind2_155 : decode prog_14_method_73_code 155 = .ok (.invokevirtual 287, 3) := by decide +kernel
theorem d_rfind2_158 : decode prog_14_method_73_code 158 = .ok (.istore 9, 2) := by decide +kernel
theorem d_rfind2_160 : decode prog_14_method_73_code 160 = .ok (.iload 9, 2) := by decide +kernel
theorem d_rfind2_162 : decode prog_14_method_73_code 162 = .ok (.ifCond .ge 9, 3) := by decide +kernel
theorem d_rfind2_171 : decode prog_14_method_73_code 171 = .ok (.aload_n 0, 1) := by decide +kernel
theorem d_rfind2_172 : decode prog_14_method_73_code 172 = .ok (.iload_n 1, 1) := by decide +kernel
theorem d_rfind2_173 : decode prog_14_method_73_code 173 = .ok (.iload_n 3, 1) := by decide +kernel
theorem d_rfind2_174 : decode prog_14_method_73_code 174 = .ok (.aload_n 0, 1) := by decide +kernel
theorem d_rfind2_175 : decode prog_14_method_73_code 175 = .ok (.getfield 19, 3) := by decide +kernel
theorem d_rfind2_178 : decode prog_14_method_73_code 178 = .ok (.aload_n 0, 1) := by decide +kernel
theorem d_rfind2_179 : decode prog_14_method_73_code 179 = .ok (.getfield 124, 3) := by decide +kernel
theorem d_rfind2_182 : decode prog_14_method_73_code 182 = .ok (.iload 9, 2) := by decide +kernel
theorem d_rfind2_184 : decode prog_14_method_73_code 184 = .ok (.iaload, 1) := by decide +kernel
theorem d_rfind2_185 : decode prog_14_method_73_code 185 = .ok (.iaload, 1) := by decide +kernel
theorem d_rfind2_186 : decode prog_14_method_73_code 186 = .ok (.invokevirtual 291, 3) := by decide +kernel
theorem d_rfind2_189 : decode prog_14_method_73_code 189 = .ok (.goto 80, 3) := by decide +kernel
theorem d_rfind2_165 : decode prog_14_method_73_code 165 = .ok (.aload_n 0, 1) := by decide +kernel
theorem d_rfind2_166 : decode prog_14_method_73_code 166 = .ok (.iconst 2, 1) := by decide +kernel
theorem d_rfind2_167 : decode prog_14_method_73_code 167 = .ok (.invokevirtual 191, 3) := by decide +kernel
theorem d_rfind2_170 : decode prog_14_method_73_code 170 = .ok (.ireturn, 1) := by decide +kernel
set_option maxHeartbeats 4000000 in
set_option maxRecDepth 100000 in
theorem w_rfind2_J91 {p : Program} {l : Launch} {e : Env} {s : State} {m : MethodId} {args : Array Value} {below : List Frame} {meth : Method} {c : Code} {A : Nat → Prop} {D : va_G} {md : Nat → Nat} {mc : Nat → ClassId} {Q : State → Prop} (hC : MCx "JoinedTreesModel" prog_14_method_73_code 10 (some .int) p s m args meth c A D mc) {S : MS} {x1 : Int32} {x3 : Int32} {x6 : Int32} {x7 : Int32} {t0 : Int32} {t1 : Int32} {o : ((MS × Int32 × Int32 × Int32 × Int32 × Int32) ⊕ ((MS × Int32) ⊕ (MS × Int32)))} (Heq : m_rfind2_J91 S x1 x3 x6 x7 t0 t1 = some o) (Ka : ∀ b : MS × Int32 × Int32 × Int32 × Int32 × Int32, o = .inl b → ∀ (H : Heap) (locs : List Loc) (ls : Array Slot), va_P D cls (mw md mc b.1) H → va_D A (mw md mc b.1) → va_S A s.heap H locs → lv_has ls 10 [(0, .ref (md 100)), (1, .int b.2.1), (3, .int b.2.2.1), (4, .int b.2.2.2.1), (5, .int b.2.2.2.2.1), (6, .int b.2.2.2.2.2)] → W p l e ({ frames := 4, cells := 0, slots := 0, locals := 96 }) s m args below meth c H locs 0 0 Q (F0 m 42 ls [])) (K0 : ∀ b : MS × Int32, o = .inr (.inl b) → ∀ (H : Heap) (locs : List Loc) (ls : Array Slot), va_P D cls (mw md mc b.1) H → va_D A (mw md mc b.1) → va_S A s.heap H locs → lv_has ls 10 [(0, .ref (md 100)), (5, .int b.2)] → W p l e ({ frames := 4, cells := 0, slots := 0, locals := 96 }) s m args below meth c H locs 0 0 Q (F0 m 297 ls [])) (Kr : ∀ r : MS × Int32, o = .inr (.inr r) → ∀ (pc : Nat) (H : Heap) (locs : List Loc) (ls : Array Slot), decode prog_14_method_73_code pc = .ok (.ireturn, 1) → va_P D cls (mw md mc r.1) H → va_D A (mw md mc r.1) → va_S A s.heap H locs → W p l e ({ frames := 4, cells := 0, slots := 0, locals := 96 }) s m args below meth c H locs 0 0 Q (F0 m pc ls [.int r.2])) : ∀ (H : Heap) (locs : List Loc) (ls : Array Slot), va_P D cls (mw md mc S) H → va_D A (mw md mc S) → va_S A s.heap H locs → lv_has ls 10 [(0, .ref (md 100)), (1, .int x1), (3, .int x3), (6, .int x6), (7, .int x7)] → W p l e ({ frames := 4, cells := 0, slots := 0, locals := 96 }) s m args below meth c H locs 0 0 Q (F0 m 91 ls [.int t0, .int t1]) := by
  intro H locs ls hP hD hS hl
  obtain ⟨hx, hb, hr, hml, hown, hts, hK, hA⟩ := id hC
  unfold m_rfind2_J91 at Heq
  refine lv_icmp_eq (tgt := 100) hx hb d_rfind2_91 (by decide) (fun c_1 => ?_) (fun c_1 => ?_)
  · replace Heq := (if_pos c_1).symm.trans Heq
    refine lv_iload hx hb d_rfind2_100 (lv_at hl 4 rfl) ?_
    refine lv_if_eq (tgt := 192) hx hb d_rfind2_102 (by decide) (fun c_2 => ?_) (fun c_2 => ?_)
    · replace Heq := (if_pos c_2).symm.trans Heq
      refine lv_aload_n hx hb d_rfind2_192 rfl (lv_at hl 0 rfl) ?_
      refine va_get (D := D) (ci := 12) (v := .ref (md 2)) (C := R_MM) (T := F_MM) (N := 77) hx hb hts i_MM hown hK hP 0 rfl rfl 2 (by decide) (hts _ kw_1384) (fun _ h9 => h9) rfl d_rfind2_193 ?_
      refine lv_iload hx hb d_rfind2_196 (lv_at hl 3 rfl) ?_
      obtain ⟨hi_3, Heq⟩ := gd_some Heq
      refine va_bald hx hb hK hP 2 1 rfl rfl (i := x6) hi_3 d_rfind2_198 ?_
      refine w_i (y := S.a 2 x6.toNatClampNeg) rfl ?_
      refine lv_bipush (v := 46) hx hb d_rfind2_199 (by decide) ?_
      refine lv_icmp_ne (tgt := 207) hx hb d_rfind2_201 (by decide) (fun c_4 => ?_) (fun c_4 => ?_)
      · replace Heq := (if_neg c_4).symm.trans Heq
        exact w_rfind2_J207 hC Heq Ka K0 Kr _ _ _ hP hD hS (lv_sub hl [0, 1, 2, 3] rfl)
      · replace Heq := (if_pos c_4).symm.trans Heq
        refine lv_iinc (v := x6 + 1) (lv' := [(6, .int (x6 + 1)), (0, .ref (md 100)), (1, .int x1), (3, .int x3), (7, .int x7)]) hx hb d_rfind2_204 hl (k := 3) rfl rfl (by decide) rfl (fun ls hl => ?_)
        exact w_rfind2_J207 hC Heq Ka K0 Kr _ _ _ hP hD hS (lv_sub hl [1, 2, 3, 0] rfl)
    · replace Heq := (if_neg c_2).symm.trans Heq
      refine lv_iconst (v := 0) hx hb d_rfind2_105 (by decide) ?_
      refine lv_istore (lv' := [(8, .int 0), (0, .ref (md 100)), (1, .int x1), (3, .int x3), (6, .int x6), (7, .int x7)]) hx hb d_rfind2_106 hl (by decide) rfl (fun ls hl => ?_)
      refine lv_iinc (v := x6 + 1) (lv' := [(6, .int (x6 + 1)), (8, .int 0), (0, .ref (md 100)), (1, .int x1), (3, .int x3), (7, .int x7)]) hx hb d_rfind2_108 hl (k := 4) rfl rfl (by decide) rfl (fun ls hl => ?_)
      obtain ⟨b_5, h_6, Heq⟩ := ob_some Heq
      refine w_rfind2_L111 hC h_6 (fun b h => ?_) _ _ _ hP hD hS (lv_sub hl [2, 3, 4, 0, 1] rfl)
      subst h
      intro H locs ls hP hD hS hl
      refine lv_iinc (v := b_5.2.2.2.1 + 1) (lv' := [(6, .int (b_5.2.2.2.1 + 1)), (0, .ref (md 100)), (1, .int b_5.2.1), (3, .int b_5.2.2.1), (8, .int b_5.2.2.2.2)]) hx hb d_rfind2_147 hl (k := 3) rfl rfl (by decide) rfl (fun ls hl => ?_)
      refine lv_aload_n hx hb d_rfind2_150 rfl (lv_at hl 1 rfl) ?_
      refine lv_iload_n hx hb d_rfind2_151 rfl (lv_at hl 2 rfl) ?_
      refine lv_iload_n hx hb d_rfind2_152 rfl (lv_at hl 3 rfl) ?_
      refine lv_iload hx hb d_rfind2_153 (lv_at hl 4 rfl) ?_
      obtain ⟨o_7, h_8, Heq⟩ := ob_some Heq
      have hFc := fr_all hD hS hA
      refine va_calli (va_runV (As := [.int b_5.2.1, .int b_5.2.2.1, .int b_5.2.2.2.2]) (rest := []) ⟨hx, hb, hml, hown, hts⟩ (g_rat l D H.size h_8) (cw_v 3 hts kw_1713 kw_1710 kw_1712 kp_46 kw_11 rfl rfl (by decide +kernel) ⟨Nat.le_of_ble_eq_true rfl, Nat.le_of_ble_eq_true rfl⟩) ⟨g_blind, va_recv hK hP (ci := 12) (q0 := 0) rfl rfl, fun U hU hW => g_pre hU hW hP hK hD⟩ rfl rfl hl.1 rfl (lv_room (Nat.le_of_ble_eq_true rfl)) d_rfind2_155 ⟨Nat.le_of_ble_eq_true rfl, Nat.le_of_ble_eq_true rfl⟩) hS (fun q _ h => hFc q h) hFc (fun rz u t H1 locs ht hvm hw hB hz1 hk1 hS => ?_)
      obtain ⟨hP, -, hD1⟩ := hB
      rw [ht] at hP
      have hD := hD1.weaken (fun _ q _ h => hFc q.1 h)
      generalize H1 = H at hP hS ⊢
      refine W.cs (cells' := 0) (slots' := 0) rfl rfl ?_
      subst hw
      refine lv_istore (lv' := [(9, .int o_7.2), (6, .int (b_5.2.2.2.1 + 1)), (0, .ref (md 100)), (1, .int b_5.2.1), (3, .int b_5.2.2.1), (8, .int b_5.2.2.2.2)]) hx hb d_rfind2_158 hl (by decide) rfl (fun ls hl => ?_)
      refine lv_iload hx hb d_rfind2_160 (lv_at hl 0 rfl) ?_
      refine lv_if_ge (tgt := 171) hx hb d_rfind2_162 (by decide) (fun c_9 => ?_) (fun c_9 => ?_)
      · replace Heq := (if_pos c_9).symm.trans Heq
        refine lv_aload_n hx hb d_rfind2_171 rfl (lv_at hl 2 rfl) ?_
        refine lv_iload_n hx hb d_rfind2_172 rfl (lv_at hl 3 rfl) ?_
        refine lv_iload_n hx hb d_rfind2_173 rfl (lv_at hl 4 rfl) ?_
        refine lv_aload_n hx hb d_rfind2_174 rfl (lv_at hl 2 rfl) ?_
        refine va_get (D := D) (ci := 12) (v := .ref (md 8)) (C := R_MM) (T := F_MM) (N := 77) hx hb hts i_MM hown hK hP 0 rfl rfl 8 (by decide) (hts _ kw_1390) (fun _ h9 => h9) rfl d_rfind2_175 ?_
        refine lv_aload_n hx hb d_rfind2_178 rfl (lv_at hl 2 rfl) ?_
        refine va_get (D := D) (ci := 12) (v := .ref (md 48)) (C := R_MM) (T := F_MM) (N := 77) hx hb hts i_MM hown hK hP 0 rfl rfl 48 (by decide) (hts _ kw_1430) (fun _ h9 => h9) rfl d_rfind2_179 ?_
        refine lv_iload hx hb d_rfind2_182 (lv_at hl 0 rfl) ?_
        obtain ⟨hi_10, Heq⟩ := gd_some Heq
        refine va_iald hx hb hK hP 32 0 rfl rfl (i := o_7.2) hi_10 d_rfind2_184 ?_
        refine w_i (y := o_7.1.a 48 o_7.2.toNatClampNeg) rfl ?_
        obtain ⟨hi_11, Heq⟩ := gd_some Heq
        refine va_iald hx hb hK hP 4 0 rfl rfl (i := o_7.1.a 48 o_7.2.toNatClampNeg) hi_11 d_rfind2_185 ?_
        refine w_i (y := o_7.1.a 8 ((o_7.1.a 48 o_7.2.toNatClampNeg).toNatClampNeg)) rfl ?_
        obtain ⟨o_12, h_13, Heq⟩ := ob_some Heq
        have hFc := fr_all hD hS hA
        refine va_callv (va_runV (As := [.int b_5.2.1, .int b_5.2.2.1, .int (o_7.1.a 8 ((o_7.1.a 48 o_7.2.toNatClampNeg).toNatClampNeg))]) (rest := []) ⟨hx, hb, hml, hown, hts⟩ (g_relementCandidates l D H.size h_13) (cw_v 3 hts kw_1725 kw_1722 kw_1724 kp_49 kw_11 rfl rfl (by decide +kernel) ⟨Nat.le_of_ble_eq_true rfl, Nat.le_of_ble_eq_true rfl⟩) ⟨g_blind, va_recv hK hP (ci := 12) (q0 := 0) rfl rfl, fun U hU hW => g_pre hU hW hP hK hD⟩ rfl rfl hl.1 rfl (lv_room (Nat.le_of_ble_eq_true rfl)) d_rfind2_186 ⟨Nat.le_of_ble_eq_true rfl, Nat.le_of_ble_eq_true rfl⟩) hS (fun q _ h => hFc q h) hFc (fun u t H1 locs ht hvm hw hB hz1 hk1 hS => ?_)
        obtain ⟨hP, -, hD1⟩ := hB
        rw [ht] at hP
        have hD := hD1.weaken (fun _ q _ h => hFc q.1 h)
        generalize H1 = H at hP hS ⊢
        refine W.cs (cells' := 0) (slots' := 0) rfl rfl ?_
        refine lv_goto (tgt := 269) hx hb d_rfind2_189 (by decide) ?_
        exact w_rfind2_J269 hC Heq Ka K0 Kr _ _ _ hP hD hS (lv_sub hl [2, 3, 1] rfl)
      · replace Heq := (if_neg c_9).symm.trans Heq
        refine lv_aload_n hx hb d_rfind2_165 rfl (lv_at hl 2 rfl) ?_
        refine lv_iconst (v := 2) hx hb d_rfind2_166 (by decide) ?_
        obtain ⟨o_14, h_15, Heq⟩ := ob_some Heq
        have hFc := fr_all hD hS hA
        refine va_calli (va_runV (As := [.int 2]) (rest := []) ⟨hx, hb, hml, hown, hts⟩ (g_rno l D H.size h_15) (cw_v 1 hts kw_1626 kw_1623 kw_1625 kp_29 kw_11 rfl rfl (by decide +kernel) ⟨Nat.le_of_ble_eq_true rfl, Nat.le_of_ble_eq_true rfl⟩) ⟨g_blind, va_recv hK hP (ci := 12) (q0 := 0) rfl rfl, fun U hU hW => g_pre hU hW hP hK hD⟩ rfl rfl hl.1 rfl (lv_room (Nat.le_of_ble_eq_true rfl)) d_rfind2_167 ⟨Nat.le_of_ble_eq_true rfl, Nat.le_of_ble_eq_true rfl⟩) hS (fun q _ h => hFc q h) hFc (fun rz u t H1 locs ht hvm hw hB hz1 hk1 hS => ?_)
        obtain ⟨hP, -, hD1⟩ := hB
        rw [ht] at hP
        have hD := hD1.weaken (fun _ q _ h => hFc q.1 h)
        generalize H1 = H at hP hS ⊢
        refine W.cs (cells' := 0) (slots' := 0) rfl rfl ?_
        subst hw
        exact Kr _ (Option.some.inj Heq).symm 170 _ _ _ d_rfind2_170 hP hD hS
  · replace Heq := (if_neg c_1).symm.trans Heq
    exact w_rfind2_J94 hC Heq Ka K0 Kr _ _ _ hP hD hS (lv_sub hl [0] rfl)
def m_rfind2_J68 (S : MS) (x1 : Int32) (x3 : Int32) (x4 : Int32) (x6 : Int32) (t0 : Int32) : Option ((MS × Int32 × Int32 × Int32 × Int32 × Int32) ⊕ ((MS × Int32) ⊕ (MS × Int32))) := (if x4 < 6 then m_rfind2_J94 S else (if x4 = 6 then m_rfind2_J91 S x1 x3 x6 t0 0 t0 else m_rfind2_J91 S x1 x3 x6 t0 1 t0))
theorem d_rfind2_86 : decode prog_14_method_73_code 86 = .ok (.iconst 1, 1) := by decide +kernel
theorem d_rfind2_87 : decode prog_14_method_73_code 87 = .ok (.goto 4, 3) := by decide +kernel
set_option maxHeartbeats 4000000 in
set_option maxRecDepth 100000 in
theorem w_rfind2_J68 {p : Program} {l : Launch} {e : Env} {s : State} {m : MethodId} {args : Array Value} {below : List Frame} {meth : Method} {c : Code} {A : Nat → Prop} {D : va_G} {md : Nat → Nat} {mc : Nat → ClassId} {Q : State → Prop} (hC : MCx "JoinedTreesModel" prog_14_method_73_code 10 (some .int) p s m args meth c A D mc) {S : MS} {x1 : Int32} {x3 : Int32} {x4 : Int32} {x6 : Int32} {t0 : Int32} {o : ((MS × Int32 × Int32 × Int32 × Int32 × Int32) ⊕ ((MS × Int32) ⊕ (MS × Int32)))} (Heq : m_rfind2_J68 S x1 x3 x4 x6 t0 = some o) (Ka : ∀ b : MS × Int32 × Int32 × Int32 × Int32 × Int32, o = .inl b → ∀ (H : Heap) (locs : List Loc) (ls : Array Slot), va_P D cls (mw md mc b.1) H → va_D A (mw md mc b.1) → va_S A s.heap H locs → lv_has ls 10 [(0, .ref (md 100)), (1, .int b.2.1), (3, .int b.2.2.1), (4, .int b.2.2.2.1), (5, .int b.2.2.2.2.1), (6, .int b.2.2.2.2.2)] → W p l e ({ frames := 4, cells := 0, slots := 0, locals := 96 }) s m args below meth c H locs 0 0 Q (F0 m 42 ls [])) (K0 : ∀ b : MS × Int32, o = .inr (.inl b) → ∀ (H : Heap) (locs : List Loc) (ls : Array Slot), va_P D cls (mw md mc b.1) H → va_D A (mw md mc b.1) → va_S A s.heap H locs → lv_has ls 10 [(0, .ref (md 100)), (5, .int b.2)] → W p l e ({ frames := 4, cells := 0, slots := 0, locals := 96 }) s m args below meth c H locs 0 0 Q (F0 m 297 ls [])) (Kr : ∀ r : MS × Int32, o = .inr (.inr r) → ∀ (pc : Nat) (H : Heap) (locs : List Loc) (ls : Array Slot), decode prog_14_method_73_code pc = .ok (.ireturn, 1) → va_P D cls (mw md mc r.1) H → va_D A (mw md mc r.1) → va_S A s.heap H locs → W p l e ({ frames := 4, cells := 0, slots := 0, locals := 96 }) s m args below meth c H locs 0 0 Q (F0 m pc ls [.int r.2])) : ∀ (H : Heap) (locs : List Loc) (ls : Array Slot), va_P D cls (mw md mc S) H → va_D A (mw md mc S) → va_S A s.heap H locs → lv_has ls 10 [(0, .ref (md 100)), (1, .int x1), (3, .int x3), (4, .int x4), (6, .int x6)] → W p l e ({ frames := 4, cells := 0, slots := 0, locals := 96 }) s m args below meth c H locs 0 0 Q (F0 m 68 ls [.int t0]) := by
  intro H locs ls hP hD hS hl
  obtain ⟨hx, hb, hr, hml, hown, hts, hK, hA⟩ := id hC
  unfold m_rfind2_J68 at Heq
  refine lv_istore (lv' := [(7, .int t0), (0, .ref (md 100)), (1, .int x1), (3, .int x3), (4, .int x4), (6, .int x6)]) hx hb d_rfind2_68 hl (by decide) rfl (fun ls hl => ?_)
  refine lv_iload hx hb d_rfind2_70 (lv_at hl 4 rfl) ?_
  refine lv_bipush (v := 6) hx hb d_rfind2_72 (by decide) ?_
  refine lv_icmp_lt (tgt := 94) hx hb d_rfind2_74 (by decide) (fun c_1 => ?_) (fun c_1 => ?_)
  · replace Heq := (if_pos c_1).symm.trans Heq
    exact w_rfind2_J94 hC Heq Ka K0 Kr _ _ _ hP hD hS (lv_sub hl [1] rfl)
  · replace Heq := (if_neg c_1).symm.trans Heq
    refine lv_iload hx hb d_rfind2_77 (lv_at hl 0 rfl) ?_
    refine lv_iload hx hb d_rfind2_79 (lv_at hl 4 rfl) ?_
    refine lv_bipush (v := 6) hx hb d_rfind2_81 (by decide) ?_
    refine lv_icmp_eq (tgt := 90) hx hb d_rfind2_83 (by decide) (fun c_2 => ?_) (fun c_2 => ?_)
    · replace Heq := (if_pos c_2).symm.trans Heq
      refine lv_iconst (v := 0) hx hb d_rfind2_90 (by decide) ?_
      exact w_rfind2_J91 hC Heq Ka K0 Kr _ _ _ hP hD hS (lv_sub hl [1, 2, 3, 5, 0] rfl)
    · replace Heq := (if_neg c_2).symm.trans Heq
      refine lv_iconst (v := 1) hx hb d_rfind2_86 (by decide) ?_
      refine lv_goto (tgt := 91) hx hb d_rfind2_87 (by decide) ?_
      exact w_rfind2_J91 hC Heq Ka K0 Kr _ _ _ hP hD hS (lv_sub hl [1, 2, 3, 5, 0] rfl)
def m_rfind2_B42 (S : MS) (x1 : Int32) (x3 : Int32) (x4 : Int32) (x5 : Int32) (x6 : Int32) : Option ((MS × Int32 × Int32 × Int32 × Int32 × Int32) ⊕ ((MS × Int32) ⊕ (MS × Int32))) := (if S.i 5 ≤ x6 then some (.inr (.inl (S, x5))) else gd x6 8300 ((if S.a 2 x6.toNatClampNeg = 91 then m_rfind2_J68 S x1 x3 x4 x6 1 else m_rfind2_J68 S x1 x3 x4 x6 0)))
theorem d_rfind2_63 : decode prog_14_method_73_code 63 = .ok (.iconst 1, 1) := by decide +kernel
theorem d_rfind2_64 : decode prog_14_method_73_code 64 = .ok (.goto 4, 3) := by decide +kernel
set_option maxHeartbeats 4000000 in
set_option maxRecDepth 100000 in
theorem w_rfind2_B42 {p : Program} {l : Launch} {e : Env} {s : State} {m : MethodId} {args : Array Value} {below : List Frame} {meth : Method} {c : Code} {A : Nat → Prop} {D : va_G} {md : Nat → Nat} {mc : Nat → ClassId} {Q : State → Prop} (hC : MCx "JoinedTreesModel" prog_14_method_73_code 10 (some .int) p s m args meth c A D mc) {S : MS} {x1 : Int32} {x3 : Int32} {x4 : Int32} {x5 : Int32} {x6 : Int32} {o : ((MS × Int32 × Int32 × Int32 × Int32 × Int32) ⊕ ((MS × Int32) ⊕ (MS × Int32)))} (Heq : m_rfind2_B42 S x1 x3 x4 x5 x6 = some o) (Ka : ∀ b : MS × Int32 × Int32 × Int32 × Int32 × Int32, o = .inl b → ∀ (H : Heap) (locs : List Loc) (ls : Array Slot), va_P D cls (mw md mc b.1) H → va_D A (mw md mc b.1) → va_S A s.heap H locs → lv_has ls 10 [(0, .ref (md 100)), (1, .int b.2.1), (3, .int b.2.2.1), (4, .int b.2.2.2.1), (5, .int b.2.2.2.2.1), (6, .int b.2.2.2.2.2)] → W p l e ({ frames := 4, cells := 0, slots := 0, locals := 96 }) s m args below meth c H locs 0 0 Q (F0 m 42 ls [])) (K0 : ∀ b : MS × Int32, o = .inr (.inl b) → ∀ (H : Heap) (locs : List Loc) (ls : Array Slot), va_P D cls (mw md mc b.1) H → va_D A (mw md mc b.1) → va_S A s.heap H locs → lv_has ls 10 [(0, .ref (md 100)), (5, .int b.2)] → W p l e ({ frames := 4, cells := 0, slots := 0, locals := 96 }) s m args below meth c H locs 0 0 Q (F0 m 297 ls [])) (Kr : ∀ r : MS × Int32, o = .inr (.inr r) → ∀ (pc : Nat) (H : Heap) (locs : List Loc) (ls : Array Slot), decode prog_14_method_73_code pc = .ok (.ireturn, 1) → va_P D cls (mw md mc r.1) H → va_D A (mw md mc r.1) → va_S A s.heap H locs → W p l e ({ frames := 4, cells := 0, slots := 0, locals := 96 }) s m args below meth c H locs 0 0 Q (F0 m pc ls [.int r.2])) : ∀ (H : Heap) (locs : List Loc) (ls : Array Slot), va_P D cls (mw md mc S) H → va_D A (mw md mc S) → va_S A s.heap H locs → lv_has ls 10 [(0, .ref (md 100)), (1, .int x1), (3, .int x3), (4, .int x4), (5, .int x5), (6, .int x6)] → W p l e ({ frames := 4, cells := 0, slots := 0, locals := 96 }) s m args below meth c H locs 0 0 Q (F0 m 42 ls []) := by
  intro H locs ls hP hD hS hl
  obtain ⟨hx, hb, hr, hml, hown, hts, hK, hA⟩ := id hC
  unfold m_rfind2_B42 at Heq
  refine lv_iload hx hb d_rfind2_42 (lv_at hl 5 rfl) ?_
  refine lv_aload_n hx hb d_rfind2_44 rfl (lv_at hl 0 rfl) ?_
  refine va_get (D := D) (ci := 12) (v := .int (S.i 5)) (C := R_MM) (T := F_MM) (N := 77) hx hb hts i_MM hown hK hP 0 rfl rfl 5 (by decide) (hts _ kw_1387) (fun _ h9 => h9) rfl d_rfind2_45 ?_
  refine lv_icmp_ge (tgt := 297) hx hb d_rfind2_48 (by decide) (fun c_1 => ?_) (fun c_1 => ?_)
  · replace Heq := (if_pos c_1).symm.trans Heq
    exact K0 _ (Option.some.inj Heq).symm _ _ _ hP hD hS (lv_sub hl [0, 4] rfl)
  · replace Heq := (if_neg c_1).symm.trans Heq
    refine lv_aload_n hx hb d_rfind2_51 rfl (lv_at hl 0 rfl) ?_
    refine va_get (D := D) (ci := 12) (v := .ref (md 2)) (C := R_MM) (T := F_MM) (N := 77) hx hb hts i_MM hown hK hP 0 rfl rfl 2 (by decide) (hts _ kw_1384) (fun _ h9 => h9) rfl d_rfind2_52 ?_
    refine lv_iload hx hb d_rfind2_55 (lv_at hl 5 rfl) ?_
    obtain ⟨hi_2, Heq⟩ := gd_some Heq
    refine va_bald hx hb hK hP 2 1 rfl rfl (i := x6) hi_2 d_rfind2_57 ?_
    refine w_i (y := S.a 2 x6.toNatClampNeg) rfl ?_
    refine lv_bipush (v := 91) hx hb d_rfind2_58 (by decide) ?_
    refine lv_icmp_ne (tgt := 67) hx hb d_rfind2_60 (by decide) (fun c_3 => ?_) (fun c_3 => ?_)
    · replace Heq := (if_neg c_3).symm.trans Heq
      refine lv_iconst (v := 0) hx hb d_rfind2_67 (by decide) ?_
      exact w_rfind2_J68 hC Heq Ka K0 Kr _ _ _ hP hD hS (lv_sub hl [0, 1, 2, 3, 5] rfl)
    · replace Heq := (if_pos c_3).symm.trans Heq
      refine lv_iconst (v := 1) hx hb d_rfind2_63 (by decide) ?_
      refine lv_goto (tgt := 68) hx hb d_rfind2_64 (by decide) ?_
      exact w_rfind2_J68 hC Heq Ka K0 Kr _ _ _ hP hD hS (lv_sub hl [0, 1, 2, 3, 5] rfl)
def m_rfind2_L42 (S : MS) (x1 : Int32) (x3 : Int32) (x4 : Int32) (x5 : Int32) (x6 : Int32) : Option ((MS × Int32) ⊕ (MS × Int32)) := lp (fun a : MS × Int32 × Int32 × Int32 × Int32 × Int32 => m_rfind2_B42 a.1 a.2.1 a.2.2.1 a.2.2.2.1 a.2.2.2.2.1 a.2.2.2.2.2) FU (S, x1, x3, x4, x5, x6)
theorem w_rfind2_L42 {p : Program} {l : Launch} {e : Env} {s : State} {m : MethodId} {args : Array Value} {below : List Frame} {meth : Method} {c : Code} {A : Nat → Prop} {D : va_G} {md : Nat → Nat} {mc : Nat → ClassId} {Q : State → Prop} (hC : MCx "JoinedTreesModel" prog_14_method_73_code 10 (some .int) p s m args meth c A D mc) {S : MS} {x1 : Int32} {x3 : Int32} {x4 : Int32} {x5 : Int32} {x6 : Int32} {o : ((MS × Int32) ⊕ (MS × Int32))} (Heq : m_rfind2_L42 S x1 x3 x4 x5 x6 = some o) (K0 : ∀ b : MS × Int32, o = (.inl b) → ∀ (H : Heap) (locs : List Loc) (ls : Array Slot), va_P D cls (mw md mc b.1) H → va_D A (mw md mc b.1) → va_S A s.heap H locs → lv_has ls 10 [(0, .ref (md 100)), (5, .int b.2)] → W p l e ({ frames := 4, cells := 0, slots := 0, locals := 96 }) s m args below meth c H locs 0 0 Q (F0 m 297 ls [])) (Kr : ∀ r : MS × Int32, o = (.inr r) → ∀ (pc : Nat) (H : Heap) (locs : List Loc) (ls : Array Slot), decode prog_14_method_73_code pc = .ok (.ireturn, 1) → va_P D cls (mw md mc r.1) H → va_D A (mw md mc r.1) → va_S A s.heap H locs → W p l e ({ frames := 4, cells := 0, slots := 0, locals := 96 }) s m args below meth c H locs 0 0 Q (F0 m pc ls [.int r.2])) : ∀ (H : Heap) (locs : List Loc) (ls : Array Slot), va_P D cls (mw md mc S) H → va_D A (mw md mc S) → va_S A s.heap H locs → lv_has ls 10 [(0, .ref (md 100)), (1, .int x1), (3, .int x3), (4, .int x4), (5, .int x5), (6, .int x6)] → W p l e ({ frames := 4, cells := 0, slots := 0, locals := 96 }) s m args below meth c H locs 0 0 Q (F0 m 42 ls []) := by
  refine lp_w (G := fun a : MS × Int32 × Int32 × Int32 × Int32 × Int32 => ∀ (H : Heap) (locs : List Loc) (ls : Array Slot), va_P D cls (mw md mc a.1) H → va_D A (mw md mc a.1) → va_S A s.heap H locs → lv_has ls 10 [(0, .ref (md 100)), (1, .int a.2.1), (3, .int a.2.2.1), (4, .int a.2.2.2.1), (5, .int a.2.2.2.2.1), (6, .int a.2.2.2.2.2)] → W p l e ({ frames := 4, cells := 0, slots := 0, locals := 96 }) s m args below meth c H locs 0 0 Q (F0 m 42 ls [])) ?_ FU (S, x1, x3, x4, x5, x6) Heq
  intro a o1 ho Ka Ke
  exact w_rfind2_B42 hC ho (fun b h => Ka b h) (fun b h => K0 b (Ke _ h).symm) (fun r h => Kr r (Ke _ h).symm)
def m_rfind2_J0 (S : MS) (x1 : Int32) : Option (MS × Int32) := ob (m_rtaken S) (fun o_1 => ob (m_risReplica o_1.1 x1) (fun o_3 => (if o_3.2 = 0 then m_rfind2_J24 o_3.1 else (if o_1.2 = 1 then ob (m_risPath o_3.1) (fun o_7 => (if o_7.2 = 0 then m_rfind2_J24 o_7.1 else oe (m_rfind2_L42 o_7.1 x1 0 6 (-1) 0) (fun b_10 => gd b_10.2 4000 (some ((b_10.1.setI 0 0), b_10.1.a 8 b_10.2.toNatClampNeg))) (fun r_12 => some r_12))) else m_rfind2_J24 o_3.1))))
theorem d_rfind2_297 : decode prog_14_method_73_code 297 = .ok (.aload_n 0, 1) := by decide +kernel
theorem d_rfind2_298 : decode prog_14_method_73_code 298 = .ok (.iconst 0, 1) := by decide +kernel
theorem d_rfind2_299 : decode prog_14_method_73_code 299 = .ok (.putfield 176, 3) := by decide +kernel
theorem d_rfind2_302 : decode prog_14_method_73_code 302 = .ok (.aload_n 0, 1) := by decide +kernel
theorem d_rfind2_303 : decode prog_14_method_73_code 303 = .ok (.getfield 19, 3) := by decide +kernel
theorem d_rfind2_306 : decode prog_14_method_73_code 306 = .ok (.iload 5, 2) := by decide +kernel
theorem d_rfind2_308 : decode prog_14_method_73_code 308 = .ok (.iaload, 1) := by decide +kernel
theorem d_rfind2_309 : decode prog_14_method_73_code 309 = .ok (.ireturn, 1) := by decide +kernel
set_option maxHeartbeats 4000000 in
set_option maxRecDepth 100000 in
theorem w_rfind2_J0 {p : Program} {l : Launch} {e : Env} {s : State} {m : MethodId} {args : Array Value} {below : List Frame} {meth : Method} {c : Code} {A : Nat → Prop} {D : va_G} {md : Nat → Nat} {mc : Nat → ClassId} {Q : State → Prop} (hC : MCx "JoinedTreesModel" prog_14_method_73_code 10 (some .int) p s m args meth c A D mc) {S : MS} {x1 : Int32} {o : MS × Int32} (Heq : m_rfind2_J0 S x1 = some o) (Kr : ∀ r : MS × Int32, o = r → ∀ (pc : Nat) (H : Heap) (locs : List Loc) (ls : Array Slot), decode prog_14_method_73_code pc = .ok (.ireturn, 1) → va_P D cls (mw md mc r.1) H → va_D A (mw md mc r.1) → va_S A s.heap H locs → W p l e ({ frames := 4, cells := 0, slots := 0, locals := 96 }) s m args below meth c H locs 0 0 Q (F0 m pc ls [.int r.2])) : ∀ (H : Heap) (locs : List Loc) (ls : Array Slot), va_P D cls (mw md mc S) H → va_D A (mw md mc S) → va_S A s.heap H locs → lv_has ls 10 [(0, .ref (md 100)), (1, .int x1)] → W p l e ({ frames := 4, cells := 0, slots := 0, locals := 96 }) s m args below meth c H locs 0 0 Q (F0 m 0 ls []) := by
  intro H locs ls hP hD hS hl
  obtain ⟨hx, hb, hr, hml, hown, hts, hK, hA⟩ := id hC
  unfold m_rfind2_J0 at Heq
  refine lv_aload_n hx hb d_rfind2_0 rfl (lv_at hl 0 rfl) ?_
  obtain ⟨o_1, h_2, Heq⟩ := ob_some Heq
  have hFc := fr_all hD hS hA
  refine va_calli (va_runV (As := []) (rest := []) ⟨hx, hb, hml, hown, hts⟩ (g_rtaken l D H.size h_2) (cw_v 0 hts kw_1638 kw_1635 kw_1637 kp_30 kw_11 rfl rfl (by decide +kernel) ⟨Nat.le_of_ble_eq_true rfl, Nat.le_of_ble_eq_true rfl⟩) ⟨g_blind, va_recv hK hP (ci := 12) (q0 := 0) rfl rfl, fun U hU hW => g_pre hU hW hP hK hD⟩ rfl rfl hl.1 rfl (lv_room (Nat.le_of_ble_eq_true rfl)) d_rfind2_1 ⟨Nat.le_of_ble_eq_true rfl, Nat.le_of_ble_eq_true rfl⟩) hS (fun q _ h => hFc q h) hFc (fun rz u t H1 locs ht hvm hw hB hz1 hk1 hS => ?_)
  obtain ⟨hP, -, hD1⟩ := hB
  rw [ht] at hP
  have hD := hD1.weaken (fun _ q _ h => hFc q.1 h)
  generalize H1 = H at hP hS ⊢
  refine W.cs (cells' := 0) (slots' := 0) rfl rfl ?_
  subst hw
  refine lv_istore_n (lv' := [(2, .int o_1.2), (0, .ref (md 100)), (1, .int x1)]) hx hb d_rfind2_4 rfl hl (by decide) rfl (fun ls hl => ?_)
  refine lv_iload_n hx hb d_rfind2_5 rfl (lv_at hl 2 rfl) ?_
  obtain ⟨o_3, h_4, Heq⟩ := ob_some Heq
  have hFc := fr_all hD hS hA
  refine va_calli (va_runS (As := [.int x1]) (rest := []) ⟨hx, hb, hml, hown, hts⟩ (g_risReplica l D H.size h_4) (cw_s 1 hts kw_1641 kw_1639 kw_1640 kw_11 rfl rfl (by decide +kernel) ⟨Nat.le_of_ble_eq_true rfl, Nat.le_of_ble_eq_true rfl⟩) ⟨g_blind, fun U hU hW => g_pre hU hW hP hK hD⟩ rfl rfl hl.1 rfl (lv_room (Nat.le_of_ble_eq_true rfl)) d_rfind2_6 ⟨Nat.le_of_ble_eq_true rfl, Nat.le_of_ble_eq_true rfl⟩) hS (fun q _ h => hFc q h) hFc (fun rz u t H1 locs ht hvm hw hB hz1 hk1 hS => ?_)
  obtain ⟨hP, -, hD1⟩ := hB
  rw [ht] at hP
  have hD := hD1.weaken (fun _ q _ h => hFc q.1 h)
  generalize H1 = H at hP hS ⊢
  refine W.cs (cells' := 0) (slots' := 0) rfl rfl ?_
  subst hw
  refine lv_if_eq (tgt := 24) hx hb d_rfind2_9 (by decide) (fun c_5 => ?_) (fun c_5 => ?_)
  · replace Heq := (if_pos c_5).symm.trans Heq
    exact w_rfind2_J24 hC Heq Kr _ _ _ hP hD hS (lv_sub hl [1] rfl)
  · replace Heq := (if_neg c_5).symm.trans Heq
    refine lv_iload_n hx hb d_rfind2_12 rfl (lv_at hl 0 rfl) ?_
    refine lv_iconst (v := 1) hx hb d_rfind2_13 (by decide) ?_
    refine lv_icmp_ne (tgt := 24) hx hb d_rfind2_14 (by decide) (fun c_6 => ?_) (fun c_6 => ?_)
    · replace Heq := (if_neg c_6).symm.trans Heq
      exact w_rfind2_J24 hC Heq Kr _ _ _ hP hD hS (lv_sub hl [1] rfl)
    · replace Heq := (if_pos c_6).symm.trans Heq
      refine lv_aload_n hx hb d_rfind2_17 rfl (lv_at hl 1 rfl) ?_
      obtain ⟨o_7, h_8, Heq⟩ := ob_some Heq
      have hFc := fr_all hD hS hA
      refine va_calli (va_runV (As := []) (rest := []) ⟨hx, hb, hml, hown, hts⟩ (g_risPath l D H.size h_8) (cw_v 0 hts kw_1903 kw_1900 kw_1902 kp_74 kw_11 rfl rfl (by decide +kernel) ⟨Nat.le_of_ble_eq_true rfl, Nat.le_of_ble_eq_true rfl⟩) ⟨g_blind, va_recv hK hP (ci := 12) (q0 := 0) rfl rfl, fun U hU hW => g_pre hU hW hP hK hD⟩ rfl rfl hl.1 rfl (lv_room (Nat.le_of_ble_eq_true rfl)) d_rfind2_18 ⟨Nat.le_of_ble_eq_true rfl, Nat.le_of_ble_eq_true rfl⟩) hS (fun q _ h => hFc q h) hFc (fun rz u t H1 locs ht hvm hw hB hz1 hk1 hS => ?_)
      obtain ⟨hP, -, hD1⟩ := hB
      rw [ht] at hP
      have hD := hD1.weaken (fun _ q _ h => hFc q.1 h)
      generalize H1 = H at hP hS ⊢
      refine W.cs (cells' := 0) (slots' := 0) rfl rfl ?_
      subst hw
      refine lv_if_ne (tgt := 30) hx hb d_rfind2_21 (by decide) (fun c_9 => ?_) (fun c_9 => ?_)
      · replace Heq := (if_neg c_9).symm.trans Heq
        refine lv_iconst (v := 0) hx hb d_rfind2_30 (by decide) ?_
        refine lv_istore_n (lv' := [(3, .int 0), (2, .int o_1.2), (0, .ref (md 100)), (1, .int x1)]) hx hb d_rfind2_31 rfl hl (by decide) rfl (fun ls hl => ?_)
        refine lv_bipush (v := 6) hx hb d_rfind2_32 (by decide) ?_
        refine lv_istore (lv' := [(4, .int 6), (3, .int 0), (2, .int o_1.2), (0, .ref (md 100)), (1, .int x1)]) hx hb d_rfind2_34 hl (by decide) rfl (fun ls hl => ?_)
        refine lv_iconst (v := (-1)) hx hb d_rfind2_36 (by decide) ?_
        refine lv_istore (lv' := [(5, .int (-1)), (4, .int 6), (3, .int 0), (2, .int o_1.2), (0, .ref (md 100)), (1, .int x1)]) hx hb d_rfind2_37 hl (by decide) rfl (fun ls hl => ?_)
        refine lv_iconst (v := 0) hx hb d_rfind2_39 (by decide) ?_
        refine lv_istore (lv' := [(6, .int 0), (5, .int (-1)), (4, .int 6), (3, .int 0), (2, .int o_1.2), (0, .ref (md 100)), (1, .int x1)]) hx hb d_rfind2_40 hl (by decide) rfl (fun ls hl => ?_)
        rcases oe_some Heq with ⟨b_10, h_11, Heq⟩ | ⟨r_12, h_11, Heq⟩
        · refine w_rfind2_L42 hC h_11 (fun b h => ?_) (fun r h => by cases h) _ _ _ hP hD hS (lv_sub hl [5, 6, 3, 2, 1, 0] rfl)
          cases h
          intro H locs ls hP hD hS hl
          refine lv_aload_n hx hb d_rfind2_297 rfl (lv_at hl 0 rfl) ?_
          refine lv_iconst (v := 0) hx hb d_rfind2_298 (by decide) ?_
          refine va_put (D := D) (ci := 12) (v := .int 0) (ty := .int) (C := R_MM) (T := F_MM) (N := 77) hx hb hts i_MM t_MM t_MM_ok n_MM hown hK hP hD hS 0 rfl rfl 0 (by decide) (hts _ kw_1382) (fun _ h9 => h9) rfl (by decide +kernel) rfl rfl (Nat.le_of_ble_eq_true rfl) d_rfind2_299 (fun H locs hP hD hS => ?_)
          rw [mw_I0] at hP hD
          refine lv_aload_n hx hb d_rfind2_302 rfl (lv_at hl 0 rfl) ?_
          refine va_get (D := D) (ci := 12) (v := .ref (md 8)) (C := R_MM) (T := F_MM) (N := 77) hx hb hts i_MM hown hK hP 0 rfl rfl 8 (by decide) (hts _ kw_1390) (fun _ h9 => h9) rfl d_rfind2_303 ?_
          refine lv_iload hx hb d_rfind2_306 (lv_at hl 1 rfl) ?_
          obtain ⟨hi_13, Heq⟩ := gd_some Heq
          refine va_iald hx hb hK hP 4 0 rfl rfl (i := b_10.2) hi_13 d_rfind2_308 ?_
          refine w_i (y := b_10.1.a 8 b_10.2.toNatClampNeg) rfl ?_
          exact Kr _ (Option.some.inj Heq).symm 309 _ _ _ d_rfind2_309 hP hD hS
        · refine w_rfind2_L42 hC h_11 (fun b h => by cases h) (fun r h => ?_) _ _ _ hP hD hS (lv_sub hl [5, 6, 3, 2, 1, 0] rfl)
          cases h
          exact Kr _ (Option.some.inj Heq).symm
      · replace Heq := (if_pos c_9).symm.trans Heq
        exact w_rfind2_J24 hC Heq Kr _ _ _ hP hD hS (lv_sub hl [1] rfl)
def m_rfind2 (S : MS) (x1 : Int32) : Option (MS × Int32) := m_rfind2_J0 S x1
theorem g_rfind2 (l : Launch) (D : va_G) (sz : Nat) {md : Nat → Nat} {mc : Nat → ClassId} {S : MS} {x1 : Int32} {o : MS × Int32} (Heq : m_rfind2 S x1 = some o) : Met l ⟨"JoinedTreesModel", "find", "(I)I"⟩ (Cond.code ⟨"JoinedTreesModel", "find", "(I)I"⟩ prog_14_method_73_code 10 (some .int) :: gb) ({ frames := 4, cells := 0, slots := 0, locals := 96 }) (gPc D (mw md mc S) (mty mc) sz [.ref (md 100), .int x1]) (va_Qi (fun (r : Int32) (_ : Unit) => r = o.2) (fun _ t => gO D (mw md mc o.1) (mty mc) (va_A (mw md mc S) sz) t) (va_A (mw md mc S) sz)) 0 0 (va_A (mw md mc S) sz) := by
  refine Met.ofW (cc := prog_14_method_73_code) (maxL := 10) (ret := (some .int)) (by decide) rfl ?_
  intro p e s m args below meth c s₁ B hml hv
  obtain ⟨rfl, hsz, hP, hK, hD0⟩ := hv
  have hx := B.exec
  have hb := B.bytes
  have hr := B.returns
  have hts : ∀ w9 ∈ gb, w9.before [.ref (md 100), .int x1].toArray s = true := fun w9 h => atoms_spec (ws := Cond.code ⟨"JoinedTreesModel", "find", "(I)I"⟩ prog_14_method_73_code 10 (some .int) :: gb) B.pre w9 (List.mem_cons_of_mem _ h)
  have hown : s.vm.findClass "JoinedTreesModel" = some m.cls := findClass_of_methodNamed B.named
  have hlocks := B.notSynchronized
  subst hsz
  have hD := hD0.self (sz := s.heap.size)
  generalize hAe : va_A (mw md mc S) s.heap.size = A at hD ⊢
  have hA : ∀ q : Nat, s.heap.size ≤ q → A q := fun q h => by rw [← hAe]; exact Or.inr h
  have hS : va_S A s.heap s.heap [] := va_S.rf
  have hl := lv_entry ([.ref (md 100), .int x1]) (n := 10) (Nat.le_of_ble_eq_true rfl)
  rw [lg_entry_eq]
  generalize (lg_sl ([.ref (md 100), .int x1]) ++ List.replicate (10 - (lg_sl ([.ref (md 100), .int x1])).length) Slot.unset).toArray = ls at hl ⊢
  have hl : lv_has ls 10 [(0, .ref (md 100)), (1, .int x1)] := hl
  refine w_rfind2_J0 ⟨hx, hb, hr, hml, hown, hts, hK, hA⟩ Heq (fun r h pc H locs ls hd hP hD hS => ?_) _ _ _ hP hD hS (lv_sub hl [0, 1] rfl)
  subst h
  exact W.iret hx hb hr (fun t ht hW => ⟨⟨_, (), rfl, rfl, by rw [ht]; exact hP, va_K.moved hW.alike hK, hD⟩, hS.F ht⟩) hS.2.2 hd
