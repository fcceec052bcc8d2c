def m_rinsertBehind_J0 (S : MS) (x1 : Int32) (x2 : Int32) (x3 : Int32) (x4 : Int32) (x5 : Int64) (x7 : Nat) (x8 : Int32) (x9 : Int32) : Option (MS × Int32) := ob (m_rmake S x1 x2 x4 x5) (fun o_1 => gd o_1.2 4000 (gd o_1.2 4000 (ob (m_rvalue ((o_1.1.setA 20 (upd (o_1.1.a 20) o_1.2.toNatClampNeg (vp_nar .boolean 1))).setA 10 (upd (o_1.1.a 10) o_1.2.toNatClampNeg x3)) o_1.2 x4 x7 x8 x9) (fun o_5 => some (o_5, o_1.2)))))
theorem d_rinsertBehind_0 : decode prog_14_method_32_code 0 = .ok (.aload_n 0, 1) := by decide +kernel
theorem d_rinsertBehind_1 : decode prog_14_method_32_code 1 = .ok (.iload_n 1, 1) := by decide +kernel
theorem d_rinsertBehind_2 : decode prog_14_method_32_code 2 = .ok (.iload_n 2, 1) := by decide +kernel
theorem d_rinsertBehind_3 : decode prog_14_method_32_code 3 = .ok (.iload 4, 2) := by decide +kernel
theorem d_rinsertBehind_5 : decode prog_14_method_32_code 5 = .ok (.lload 5, 2) := by decide +kernel
theorem d_rinsertBehind_7 : decode prog_14_method_32_code 7 = .ok (.invokevirtual 272, 3) := by decide +kernel
theorem d_rinsertBehind_10 : decode prog_14_method_32_code 10 = .ok (.istore 10, 2) := by decide +kernel
theorem d_rinsertBehind_12 : decode prog_14_method_32_code 12 = .ok (.aload_n 0, 1) := by decide +kernel
theorem d_rinsertBehind_13 : decode prog_14_method_32_code 13 = .ok (.getfield 56, 3) := by decide +kernel
theorem d_rinsertBehind_16 : decode prog_14_method_32_code 16 = .ok (.iload 10, 2) := by decide +kernel
theorem d_rinsertBehind_18 : decode prog_14_method_32_code 18 = .ok (.iconst 1, 1) := by decide +kernel
theorem d_rinsertBehind_19 : decode prog_14_method_32_code 19 = .ok (.bastore, 1) := by decide +kernel
theorem d_rinsertBehind_20 : decode prog_14_method_32_code 20 = .ok (.aload_n 0, 1) := by decide +kernel
theorem d_rinsertBehind_21 : decode prog_14_method_32_code 21 = .ok (.getfield 26, 3) := by decide +kernel
theorem d_rinsertBehind_24 : decode prog_14_method_32_code 24 = .ok (.iload 10, 2) := by decide +kernel
theorem d_rinsertBehind_26 : decode prog_14_method_32_code 26 = .ok (.iload_n 3, 1) := by decide +kernel
theorem d_rinsertBehind_27 : decode prog_14_method_32_code 27 = .ok (.iastore, 1) := by decide +kernel
theorem d_rinsertBehind_28 : decode prog_14_method_32_code 28 = .ok (.aload_n 0, 1) := by decide +kernel
theorem d_rinsertBehind_29 : decode prog_14_method_32_code 29 = .ok (.iload 10, 2) := by decide +kernel
theorem d_rinsertBehind_31 : decode prog_14_method_32_code 31 = .ok (.iload 4, 2) := by decide +kernel
theorem d_rinsertBehind_33 : decode prog_14_method_32_code 33 = .ok (.aload 7, 2) := by decide +kernel
theorem d_rinsertBehind_35 : decode prog_14_method_32_code 35 = .ok (.iload 8, 2) := by decide +kernel
theorem d_rinsertBehind_37 : decode prog_14_method_32_code 37 = .ok (.iload 9, 2) := by decide +kernel
theorem d_rinsertBehind_39 : decode prog_14_method_32_code 39 = .ok (.invokevirtual 284, 3) := by decide +kernel
theorem d_rinsertBehind_42 : decode prog_14_method_32_code 42 = .ok (.iload 10, 2) := by decide +kernel
theorem d_rinsertBehind_44 : decode prog_14_method_32_code 44 = .ok (.ireturn, 1) := by decide +kernel
set_option maxHeartbeats 4000000 in
set_option maxRecDepth 100000 in
theorem w_rinsertBehind_J0 {p : Program} {l : Launch} {e : Env} {s : State} {m : MethodId} {args : Array Value} {below : List Frame} {meth : Method} {c : Code} {A : Nat → Prop} {D : va_G} {md : Nat → Nat} {mc : Nat → ClassId} {Q : State → Prop} (hC : MCx "JoinedTreesModel" prog_14_method_32_code 11 (some .int) p s m args meth c A D mc) {S : MS} {x1 : Int32} {x2 : Int32} {x3 : Int32} {x4 : Int32} {x5 : Int64} {x7 : Nat} {x8 : Int32} {x9 : Int32} {o : MS × Int32} (Heq : m_rinsertBehind_J0 S x1 x2 x3 x4 x5 x7 x8 x9 = some o) (Kr : ∀ r : MS × Int32, o = r → ∀ (pc : Nat) (H : Heap) (locs : List Loc) (ls : Array Slot), decode prog_14_method_32_code pc = .ok (.ireturn, 1) → va_P D cls (mw md mc r.1) H → va_D A (mw md mc r.1) → va_S A s.heap H locs → W p l e ({ frames := 3, cells := 0, slots := 0, locals := 74 }) s m args below meth c H locs 0 0 Q (F0 m pc ls [.int r.2])) : ∀ (H : Heap) (locs : List Loc) (ls : Array Slot), va_P D cls (mw md mc S) H → va_D A (mw md mc S) → va_S A s.heap H locs → lv_has ls 11 [(0, .ref (md 100)), (1, .int x1), (2, .int x2), (3, .int x3), (4, .int x4), (5, .long x5), (7, .ref (md x7)), (8, .int x8), (9, .int x9)] → W p l e ({ frames := 3, cells := 0, slots := 0, locals := 74 }) s m args below meth c H locs 0 0 Q (F0 m 0 ls []) := by
  intro H locs ls hP hD hS hl
  obtain ⟨hx, hb, hr, hml, hown, hts, hK, hA⟩ := id hC
  unfold m_rinsertBehind_J0 at Heq
  refine lv_aload_n hx hb d_rinsertBehind_0 rfl (lv_at hl 0 rfl) ?_
  refine lv_iload_n hx hb d_rinsertBehind_1 rfl (lv_at hl 1 rfl) ?_
  refine lv_iload_n hx hb d_rinsertBehind_2 rfl (lv_at hl 2 rfl) ?_
  refine lv_iload hx hb d_rinsertBehind_3 (lv_at hl 4 rfl) ?_
  refine lv_lload hx hb d_rinsertBehind_5 (lv_at hl 5 rfl) ?_
  obtain ⟨o_1, h_2, Heq⟩ := ob_some Heq
  have hFc := fr_all hD hS hA
  refine va_calli (va_runV (As := [.int x1, .int x2, .int x4, .long x5]) (rest := []) ⟨hx, hb, hml, hown, hts⟩ (g_rmake l D H.size h_2) (cw_v 4 hts kw_1684 kw_1681 kw_1683 kp_40 kw_11 rfl rfl (by decide +kernel) ⟨Nat.le_of_ble_eq_true rfl, Nat.le_of_ble_eq_true rfl⟩) ⟨g_blind, va_recv hK hP (ci := 12) (q0 := 0) rfl rfl, fun U hU hW => g_pre hU hW hP hK hD⟩ rfl rfl hl.1 rfl (lv_room (Nat.le_of_ble_eq_true rfl)) d_rinsertBehind_7 ⟨Nat.le_of_ble_eq_true rfl, Nat.le_of_ble_eq_true rfl⟩) hS (fun q _ h => hFc q h) hFc (fun rz u t H1 locs ht hvm hw hB hz1 hk1 hS => ?_)
  obtain ⟨hP, -, hD1⟩ := hB
  rw [ht] at hP
  have hD := hD1.weaken (fun _ q _ h => hFc q.1 h)
  generalize H1 = H at hP hS ⊢
  refine W.cs (cells' := 0) (slots' := 0) rfl rfl ?_
  subst hw
  refine lv_istore (lv' := [(10, .int o_1.2), (0, .ref (md 100)), (1, .int x1), (2, .int x2), (3, .int x3), (4, .int x4), (5, .long x5), (7, .ref (md x7)), (8, .int x8), (9, .int x9)]) hx hb d_rinsertBehind_10 hl (by decide) rfl (fun ls hl => ?_)
  refine lv_aload_n hx hb d_rinsertBehind_12 rfl (lv_at hl 1 rfl) ?_
  refine va_get (D := D) (ci := 12) (v := .ref (md 20)) (C := R_MM) (T := F_MM) (N := 77) hx hb hts i_MM hown hK hP 0 rfl rfl 20 (by decide) (hts _ kw_1402) (fun _ h9 => h9) rfl d_rinsertBehind_13 ?_
  refine lv_iload hx hb d_rinsertBehind_16 (lv_at hl 0 rfl) ?_
  refine lv_iconst (v := 1) hx hb d_rinsertBehind_18 (by decide) ?_
  obtain ⟨hi_3, Heq⟩ := gd_some Heq
  refine va_zast hx hb hK hP hD hS 16 2 rfl rfl (i := o_1.2) (x := 1) hi_3 d_rinsertBehind_19 (fun H locs hP hD hS => ?_)
  rw [mw_A20] at hP hD
  refine lv_aload_n hx hb d_rinsertBehind_20 rfl (lv_at hl 1 rfl) ?_
  refine va_get (D := D) (ci := 12) (v := .ref (md 10)) (C := R_MM) (T := F_MM) (N := 77) hx hb hts i_MM hown hK hP 0 rfl rfl 10 (by decide) (hts _ kw_1392) (fun _ h9 => h9) rfl d_rinsertBehind_21 ?_
  refine lv_iload hx hb d_rinsertBehind_24 (lv_at hl 0 rfl) ?_
  refine lv_iload_n hx hb d_rinsertBehind_26 rfl (lv_at hl 4 rfl) ?_
  obtain ⟨hi_4, Heq⟩ := gd_some Heq
  refine va_iast hx hb hK hP hD hS 6 0 rfl rfl (i := o_1.2) (x := x3) hi_4 d_rinsertBehind_27 (fun H locs hP hD hS => ?_)
  rw [mw_A10] at hP hD
  refine lv_aload_n hx hb d_rinsertBehind_28 rfl (lv_at hl 1 rfl) ?_
  refine lv_iload hx hb d_rinsertBehind_29 (lv_at hl 0 rfl) ?_
  refine lv_iload hx hb d_rinsertBehind_31 (lv_at hl 5 rfl) ?_
  refine lv_aload hx hb d_rinsertBehind_33 (lv_at hl 7 rfl) ?_
  refine lv_iload hx hb d_rinsertBehind_35 (lv_at hl 8 rfl) ?_
  refine lv_iload hx hb d_rinsertBehind_37 (lv_at hl 9 rfl) ?_
  obtain ⟨o_5, h_6, Heq⟩ := ob_some Heq
  have hFc := fr_all hD hS hA
  refine va_callv (va_runV (As := [.int o_1.2, .int x4, .ref (md x7), .int x8, .int x9]) (rest := []) ⟨hx, hb, hml, hown, hts⟩ (g_rvalue l D H.size h_6) (cw_v 5 hts kw_1705 kw_1702 kw_1704 kp_45 kw_11 rfl rfl (by decide +kernel) ⟨Nat.le_of_ble_eq_true rfl, Nat.le_of_ble_eq_true rfl⟩) ⟨g_blind, va_recv hK hP (ci := 12) (q0 := 0) rfl rfl, fun U hU hW => g_pre hU hW hP hK hD⟩ rfl rfl hl.1 rfl (lv_room (Nat.le_of_ble_eq_true rfl)) d_rinsertBehind_39 ⟨Nat.le_of_ble_eq_true rfl, Nat.le_of_ble_eq_true rfl⟩) hS (fun q _ h => hFc q h) hFc (fun u t H1 locs ht hvm hw hB hz1 hk1 hS => ?_)
  obtain ⟨hP, -, hD1⟩ := hB
  rw [ht] at hP
  have hD := hD1.weaken (fun _ q _ h => hFc q.1 h)
  generalize H1 = H at hP hS ⊢
  refine W.cs (cells' := 0) (slots' := 0) rfl rfl ?_
  refine lv_iload hx hb d_rinsertBehind_42 (lv_at hl 0 rfl) ?_
  exact Kr _ (Option.some.inj Heq).symm 44 _ _ _ d_rinsertBehind_44 hP hD hS
def m_rinsertBehind (S : MS) (x1 : Int32) (x2 : Int32) (x3 : Int32) (x4 : Int32) (x5 : Int64) (x7 : Nat) (x8 : Int32) (x9 : Int32) : Option (MS × Int32) := m_rinsertBehind_J0 S x1 x2 x3 x4 x5 x7 x8 x9
theorem g_rinsertBehind (l : Launch) (D : va_G) (sz : Nat) {md : Nat → Nat} {mc : Nat → ClassId} {S : MS} {x1 : Int32} {x2 : Int32} {x3 : Int32} {x4 : Int32} {x5 : Int64} {x7 : Nat} {x8 : Int32} {x9 : Int32} {o : MS × Int32} (Heq : m_rinsertBehind S x1 x2 x3 x4 x5 x7 x8 x9 = some o) : Met l ⟨"JoinedTreesModel", "insertBehind", "(IIIIJ[BII)I"⟩ (Cond.code ⟨"JoinedTreesModel", "insertBehind", "(IIIIJ[BII)I"⟩ prog_14_method_32_code 11 (some .int) :: gb) ({ frames := 3, cells := 0, slots := 0, locals := 74 }) (gPc D (mw md mc S) (mty mc) sz [.ref (md 100), .int x1, .int x2, .int x3, .int x4, .long x5, .ref (md x7), .int x8, .int x9]) (va_Qi (fun (r : Int32) (_ : Unit) => r = o.2) (fun _ t => gO D (mw md mc o.1) (mty mc) (va_A (mw md mc S) sz) t) (va_A (mw md mc S) sz)) 0 0 (va_A (mw md mc S) sz) := by
  refine Met.ofW (cc := prog_14_method_32_code) (maxL := 11) (ret := (some .int)) (by decide) rfl ?_
  intro p e s m args below meth c s₁ B hml hv
  obtain ⟨rfl, hsz, hP, hK, hD0⟩ := hv
  have hx := B.exec
  have hb := B.bytes
  have hr := B.returns
  have hts : ∀ w9 ∈ gb, w9.before [.ref (md 100), .int x1, .int x2, .int x3, .int x4, .long x5, .ref (md x7), .int x8, .int x9].toArray s = true := fun w9 h => atoms_spec (ws := Cond.code ⟨"JoinedTreesModel", "insertBehind", "(IIIIJ[BII)I"⟩ prog_14_method_32_code 11 (some .int) :: gb) B.pre w9 (List.mem_cons_of_mem _ h)
  have hown : s.vm.findClass "JoinedTreesModel" = some m.cls := findClass_of_methodNamed B.named
  have hlocks := B.notSynchronized
  subst hsz
  have hD := hD0.self (sz := s.heap.size)
  generalize hAe : va_A (mw md mc S) s.heap.size = A at hD ⊢
  have hA : ∀ q : Nat, s.heap.size ≤ q → A q := fun q h => by rw [← hAe]; exact Or.inr h
  have hS : va_S A s.heap s.heap [] := va_S.rf
  have hl := lv_entry ([.ref (md 100), .int x1, .int x2, .int x3, .int x4, .long x5, .ref (md x7), .int x8, .int x9]) (n := 11) (Nat.le_of_ble_eq_true rfl)
  rw [lg_entry_eq]
  generalize (lg_sl ([.ref (md 100), .int x1, .int x2, .int x3, .int x4, .long x5, .ref (md x7), .int x8, .int x9]) ++ List.replicate (11 - (lg_sl ([.ref (md 100), .int x1, .int x2, .int x3, .int x4, .long x5, .ref (md x7), .int x8, .int x9])).length) Slot.unset).toArray = ls at hl ⊢
  have hl : lv_has ls 11 [(0, .ref (md 100)), (1, .int x1), (2, .int x2), (3, .int x3), (4, .int x4), (5, .long x5), (7, .ref (md x7)), (8, .int x8), (9, .int x9)] := hl
  refine w_rinsertBehind_J0 ⟨hx, hb, hr, hml, hown, hts, hK, hA⟩ Heq (fun r h pc H locs ls hd hP hD hS => ?_) _ _ _ hP hD hS (lv_sub hl [0, 1, 2, 3, 4, 5, 6, 7, 8] rfl)
  subst h
  exact W.iret hx hb hr (fun t ht hW => ⟨⟨_, (), rfl, rfl, by rw [ht]; exact hP, va_K.moved hW.alike hK, hD⟩, hS.F ht⟩) hS.2.2 hd
def m_rinsert_J57 (S : MS) : Option (MS × Int32) := ob (m_rno S 1) (fun o_1 => some (o_1.1, o_1.2))
theorem d_rinsert_0 : decode prog_14_method_33_code 0 = .ok (.aload_n 0, 1) := by decide +kernel
theorem d_rinsert_1 : decode prog_14_method_33_code 1 = .ok (.invokevirtual 247, 3) := by decide +kernel
theorem d_rinsert_4 : decode prog_14_method_33_code 4 = .ok (.istore 7, 2) := by decide +kernel
theorem d_rinsert_6 : decode prog_14_method_33_code 6 = .ok (.iload_n 1, 1) := by decide +kernel
theorem d_rinsert_7 : decode prog_14_method_33_code 7 = .ok (.invokestatic 251, 3) := by decide +kernel
theorem d_rinsert_10 : decode prog_14_method_33_code 10 = .ok (.ifCond .eq 47, 3) := by decide +kernel
theorem d_rinsert_57 : decode prog_14_method_33_code 57 = .ok (.aload_n 0, 1) := by decide +kernel
theorem d_rinsert_58 : decode prog_14_method_33_code 58 = .ok (.iconst 1, 1) := by decide +kernel
theorem d_rinsert_59 : decode prog_14_method_33_code 59 = .ok (.invokevirtual 191, 3) := by decide +kernel
theorem d_rinsert_62 : decode prog_14_method_33_code 62 = .ok (.ireturn, 1) := by decide +kernel
set_option maxHeartbeats 4000000 in
set_option maxRecDepth 100000 in
theorem w_rinsert_J57 {p : Program} {l : Launch} {e : Env} {s : State} {m : MethodId} {args : Array Value} {below : List Frame} {meth : Method} {c : Code} {A : Nat → Prop} {D : va_G} {md : Nat → Nat} {mc : Nat → ClassId} {Q : State → Prop} (hC : MCx "JoinedTreesModel" prog_14_method_33_code 10 (some .int) p s m args meth c A D mc) {S : MS} {o : MS × Int32} (Heq : m_rinsert_J57 S = some o) (Kr : ∀ r : MS × Int32, o = r → ∀ (pc : Nat) (H : Heap) (locs : List Loc) (ls : Array Slot), decode prog_14_method_33_code pc = .ok (.ireturn, 1) → va_P D cls (mw md mc r.1) H → va_D A (mw md mc r.1) → va_S A s.heap H locs → W p l e ({ frames := 4, cells := 0, slots := 0, locals := 104 }) s m args below meth c H locs 0 0 Q (F0 m pc ls [.int r.2])) : ∀ (H : Heap) (locs : List Loc) (ls : Array Slot), va_P D cls (mw md mc S) H → va_D A (mw md mc S) → va_S A s.heap H locs → lv_has ls 10 [(0, .ref (md 100))] → W p l e ({ frames := 4, cells := 0, slots := 0, locals := 104 }) s m args below meth c H locs 0 0 Q (F0 m 57 ls []) := by
  intro H locs ls hP hD hS hl
  obtain ⟨hx, hb, hr, hml, hown, hts, hK, hA⟩ := id hC
  unfold m_rinsert_J57 at Heq
  refine lv_aload_n hx hb d_rinsert_57 rfl (lv_at hl 0 rfl) ?_
  refine lv_iconst (v := 1) hx hb d_rinsert_58 (by decide) ?_
  obtain ⟨o_1, h_2, Heq⟩ := ob_some Heq
  have hFc := fr_all hD hS hA
  refine va_calli (va_runV (As := [.int 1]) (rest := []) ⟨hx, hb, hml, hown, hts⟩ (g_rno l D H.size h_2) (cw_v 1 hts kw_1626 kw_1623 kw_1625 kp_29 kw_11 rfl rfl (by decide +kernel) ⟨Nat.le_of_ble_eq_true rfl, Nat.le_of_ble_eq_true rfl⟩) ⟨g_blind, va_recv hK hP (ci := 12) (q0 := 0) rfl rfl, fun U hU hW => g_pre hU hW hP hK hD⟩ rfl rfl hl.1 rfl (lv_room (Nat.le_of_ble_eq_true rfl)) d_rinsert_59 ⟨Nat.le_of_ble_eq_true rfl, Nat.le_of_ble_eq_true rfl⟩) hS (fun q _ h => hFc q h) hFc (fun rz u t H1 locs ht hvm hw hB hz1 hk1 hS => ?_)
  obtain ⟨hP, -, hD1⟩ := hB
  rw [ht] at hP
  have hD := hD1.weaken (fun _ q _ h => hFc q.1 h)
  generalize H1 = H at hP hS ⊢
  refine W.cs (cells' := 0) (slots' := 0) rfl rfl ?_
  subst hw
  exact Kr _ (Option.some.inj Heq).symm 62 _ _ _ d_rinsert_62 hP hD hS
def m_rinsert_J103 (S : MS) : Option (MS × Int32) := ob (m_rno S 3) (fun o_1 => some (o_1.1, o_1.2))
theorem d_rinsert_13 : decode prog_14_method_33_code 13 = .ok (.iload 4, 2) := by decide +kernel
theorem d_rinsert_15 : decode prog_14_method_33_code 15 = .ok (.ifCond .lt 42, 3) := by decide +kernel
theorem d_rinsert_18 : decode prog_14_method_33_code 18 = .ok (.iload 4, 2) := by decide +kernel
theorem d_rinsert_20 : decode prog_14_method_33_code 20 = .ok (.bipush 8, 2) := by decide +kernel
theorem d_rinsert_22 : decode prog_14_method_33_code 22 = .ok (.if_icmp .gt 35, 3) := by decide +kernel
theorem d_rinsert_25 : decode prog_14_method_33_code 25 = .ok (.iload 7, 2) := by decide +kernel
theorem d_rinsert_27 : decode prog_14_method_33_code 27 = .ok (.iload 4, 2) := by decide +kernel
theorem d_rinsert_29 : decode prog_14_method_33_code 29 = .ok (.iconst 4, 1) := by decide +kernel
theorem d_rinsert_30 : decode prog_14_method_33_code 30 = .ok (.if_icmp .ne 7, 3) := by decide +kernel
theorem d_rinsert_37 : decode prog_14_method_33_code 37 = .ok (.iconst 0, 1) := by decide +kernel
theorem d_rinsert_38 : decode prog_14_method_33_code 38 = .ok (.if_icmp .ne 19, 3) := by decide +kernel
theorem d_rinsert_41 : decode prog_14_method_33_code 41 = .ok (.iload 4, 2) := by decide +kernel
theorem d_rinsert_43 : decode prog_14_method_33_code 43 = .ok (.iconst 4, 1) := by decide +kernel
theorem d_rinsert_44 : decode prog_14_method_33_code 44 = .ok (.if_icmp .ne 19, 3) := by decide +kernel
theorem d_rinsert_63 : decode prog_14_method_33_code 63 = .ok (.aload_n 0, 1) := by decide +kernel
theorem d_rinsert_64 : decode prog_14_method_33_code 64 = .ok (.iload_n 1, 1) := by decide +kernel
theorem d_rinsert_65 : decode prog_14_method_33_code 65 = .ok (.iload_n 2, 1) := by decide +kernel
theorem d_rinsert_66 : decode prog_14_method_33_code 66 = .ok (.invokevirtual 258, 3) := by decide +kernel
theorem d_rinsert_69 : decode prog_14_method_33_code 69 = .ok (.istore 8, 2) := by decide +kernel
theorem d_rinsert_71 : decode prog_14_method_33_code 71 = .ok (.iload 8, 2) := by decide +kernel
theorem d_rinsert_73 : decode prog_14_method_33_code 73 = .ok (.bipush 6, 2) := by decide +kernel
theorem d_rinsert_75 : decode prog_14_method_33_code 75 = .ok (.if_icmp .ne 9, 3) := by decide +kernel
theorem d_rinsert_84 : decode prog_14_method_33_code 84 = .ok (.iload 8, 2) := by decide +kernel
theorem d_rinsert_86 : decode prog_14_method_33_code 86 = .ok (.ifCond .lt 17, 3) := by decide +kernel
theorem d_rinsert_103 : decode prog_14_method_33_code 103 = .ok (.aload_n 0, 1) := by decide +kernel
theorem d_rinsert_104 : decode prog_14_method_33_code 104 = .ok (.iconst 3, 1) := by decide +kernel
theorem d_rinsert_105 : decode prog_14_method_33_code 105 = .ok (.invokevirtual 191, 3) := by decide +kernel
theorem d_rinsert_108 : decode prog_14_method_33_code 108 = .ok (.ireturn, 1) := by decide +kernel
set_option maxHeartbeats 4000000 in
set_option maxRecDepth 100000 in
theorem w_rinsert_J103 {p : Program} {l : Launch} {e : Env} {s : State} {m : MethodId} {args : Array Value} {below : List Frame} {meth : Method} {c : Code} {A : Nat → Prop} {D : va_G} {md : Nat → Nat} {mc : Nat → ClassId} {Q : State → Prop} (hC : MCx "JoinedTreesModel" prog_14_method_33_code 10 (some .int) p s m args meth c A D mc) {S : MS} {o : MS × Int32} (Heq : m_rinsert_J103 S = some o) (Kr : ∀ r : MS × Int32, o = r → ∀ (pc : Nat) (H : Heap) (locs : List Loc) (ls : Array Slot), decode prog_14_method_33_code pc = .ok (.ireturn, 1) → va_P D cls (mw md mc r.1) H → va_D A (mw md mc r.1) → va_S A s.heap H locs → W p l e ({ frames := 4, cells := 0, slots := 0, locals := 104 }) s m args below meth c H locs 0 0 Q (F0 m pc ls [.int r.2])) : ∀ (H : Heap) (locs : List Loc) (ls : Array Slot), va_P D cls (mw md mc S) H → va_D A (mw md mc S) → va_S A s.heap H locs → lv_has ls 10 [(0, .ref (md 100))] → W p l e ({ frames := 4, cells := 0, slots := 0, locals := 104 }) s m args below meth c H locs 0 0 Q (F0 m 103 ls []) := by
  intro H locs ls hP hD hS hl
  obtain ⟨hx, hb, hr, hml, hown, hts, hK, hA⟩ := id hC
  unfold m_rinsert_J103 at Heq
  refine lv_aload_n hx hb d_rinsert_103 rfl (lv_at hl 0 rfl) ?_
  refine lv_iconst (v := 3) hx hb d_rinsert_104 (by decide) ?_
  obtain ⟨o_1, h_2, Heq⟩ := ob_some Heq
  have hFc := fr_all hD hS hA
  refine va_calli (va_runV (As := [.int 3]) (rest := []) ⟨hx, hb, hml, hown, hts⟩ (g_rno l D H.size h_2) (cw_v 1 hts kw_1626 kw_1623 kw_1625 kp_29 kw_11 rfl rfl (by decide +kernel) ⟨Nat.le_of_ble_eq_true rfl, Nat.le_of_ble_eq_true rfl⟩) ⟨g_blind, va_recv hK hP (ci := 12) (q0 := 0) rfl rfl, fun U hU hW => g_pre hU hW hP hK hD⟩ rfl rfl hl.1 rfl (lv_room (Nat.le_of_ble_eq_true rfl)) d_rinsert_105 ⟨Nat.le_of_ble_eq_true rfl, Nat.le_of_ble_eq_true rfl⟩) hS (fun q _ h => hFc q h) hFc (fun rz u t H1 locs ht hvm hw hB hz1 hk1 hS => ?_)
  obtain ⟨hP, -, hD1⟩ := hB
  rw [ht] at hP
  have hD := hD1.weaken (fun _ q _ h => hFc q.1 h)
  generalize H1 = H at hP hS ⊢
  refine W.cs (cells' := 0) (slots' := 0) rfl rfl ?_
  subst hw
  exact Kr _ (Option.some.inj Heq).symm 108 _ _ _ d_rinsert_108 hP hD hS
def m_rinsert_J184 (S : MS) (x1 : Int32) (x2 : Int32) (x4 : Int32) (x5 : Int64) (t0 : Int32) : Option (MS × Int32) := ob (m_rinsertBehind S x1 x2 t0 x4 x5 2 0 (S.i 5)) (fun o_1 => gd o_1.2 4000 (some (o_1.1, o_1.1.a 8 o_1.2.toNatClampNeg)))
theorem d_rinsert_89 : decode prog_14_method_33_code 89 = .ok (.iload_n 3, 1) := by decide +kernel
theorem d_rinsert_90 : decode prog_14_method_33_code 90 = .ok (.ifCond .lt 13, 3) := by decide +kernel
theorem d_rinsert_93 : decode prog_14_method_33_code 93 = .ok (.iload_n 3, 1) := by decide +kernel
theorem d_rinsert_94 : decode prog_14_method_33_code 94 = .ok (.aload_n 0, 1) := by decide +kernel
theorem d_rinsert_95 : decode prog_14_method_33_code 95 = .ok (.iload_n 1, 1) := by decide +kernel
theorem d_rinsert_96 : decode prog_14_method_33_code 96 = .ok (.iload_n 2, 1) := by decide +kernel
theorem d_rinsert_97 : decode prog_14_method_33_code 97 = .ok (.invokevirtual 295, 3) := by decide +kernel
theorem d_rinsert_100 : decode prog_14_method_33_code 100 = .ok (.if_icmp .le 9, 3) := by decide +kernel
theorem d_rinsert_109 : decode prog_14_method_33_code 109 = .ok (.aload_n 0, 1) := by decide +kernel
theorem d_rinsert_110 : decode prog_14_method_33_code 110 = .ok (.getfield 104, 3) := by decide +kernel
theorem d_rinsert_113 : decode prog_14_method_33_code 113 = .ok (.iload_n 1, 1) := by decide +kernel
theorem d_rinsert_114 : decode prog_14_method_33_code 114 = .ok (.iaload, 1) := by decide +kernel
theorem d_rinsert_115 : decode prog_14_method_33_code 115 = .ok (.ifCond .lt 9, 3) := by decide +kernel
theorem d_rinsert_124 : decode prog_14_method_33_code 124 = .ok (.aload_n 0, 1) := by decide +kernel
theorem d_rinsert_125 : decode prog_14_method_33_code 125 = .ok (.iconst 1, 1) := by decide +kernel
theorem d_rinsert_126 : decode prog_14_method_33_code 126 = .ok (.iload 4, 2) := by decide +kernel
theorem d_rinsert_128 : decode prog_14_method_33_code 128 = .ok (.iconst 4, 1) := by decide +kernel
theorem d_rinsert_129 : decode prog_14_method_33_code 129 = .ok (.if_icmp .ne 10, 3) := by decide +kernel
theorem d_rinsert_139 : decode prog_14_method_33_code 139 = .ok (.iconst 0, 1) := by decide +kernel
theorem d_rinsert_140 : decode prog_14_method_33_code 140 = .ok (.invokevirtual 261, 3) := by decide +kernel
theorem d_rinsert_143 : decode prog_14_method_33_code 143 = .ok (.ifCond .eq 9, 3) := by decide +kernel
theorem d_rinsert_152 : decode prog_14_method_33_code 152 = .ok (.aload_n 0, 1) := by decide +kernel
theorem d_rinsert_153 : decode prog_14_method_33_code 153 = .ok (.iconst 0, 1) := by decide +kernel
theorem d_rinsert_154 : decode prog_14_method_33_code 154 = .ok (.putfield 176, 3) := by decide +kernel
theorem d_rinsert_157 : decode prog_14_method_33_code 157 = .ok (.iload_n 3, 1) := by decide +kernel
theorem d_rinsert_158 : decode prog_14_method_33_code 158 = .ok (.ifCond .ne 7, 3) := by decide +kernel
theorem d_rinsert_165 : decode prog_14_method_33_code 165 = .ok (.aload_n 0, 1) := by decide +kernel
theorem d_rinsert_166 : decode prog_14_method_33_code 166 = .ok (.getfield 19, 3) := by decide +kernel
theorem d_rinsert_169 : decode prog_14_method_33_code 169 = .ok (.aload_n 0, 1) := by decide +kernel
theorem d_rinsert_170 : decode prog_14_method_33_code 170 = .ok (.getfield 124, 3) := by decide +kernel
theorem d_rinsert_173 : decode prog_14_method_33_code 173 = .ok (.aload_n 0, 1) := by decide +kernel
theorem d_rinsert_174 : decode prog_14_method_33_code 174 = .ok (.iload_n 1, 1) := by decide +kernel
theorem d_rinsert_175 : decode prog_14_method_33_code 175 = .ok (.iload_n 2, 1) := by decide +kernel
theorem d_rinsert_176 : decode prog_14_method_33_code 176 = .ok (.iload_n 3, 1) := by decide +kernel
theorem d_rinsert_177 : decode prog_14_method_33_code 177 = .ok (.iconst 1, 1) := by decide +kernel
theorem d_rinsert_178 : decode prog_14_method_33_code 178 = .ok (.isub, 1) := by decide +kernel
theorem d_rinsert_179 : decode prog_14_method_33_code 179 = .ok (.invokevirtual 287, 3) := by decide +kernel
theorem d_rinsert_182 : decode prog_14_method_33_code 182 = .ok (.iaload, 1) := by decide +kernel
theorem d_rinsert_183 : decode prog_14_method_33_code 183 = .ok (.iaload, 1) := by decide +kernel
theorem d_rinsert_184 : decode prog_14_method_33_code 184 = .ok (.istore 9, 2) := by decide +kernel
theorem d_rinsert_186 : decode prog_14_method_33_code 186 = .ok (.aload_n 0, 1) := by decide +kernel
theorem d_rinsert_187 : decode prog_14_method_33_code 187 = .ok (.getfield 19, 3) := by decide +kernel
theorem d_rinsert_190 : decode prog_14_method_33_code 190 = .ok (.aload_n 0, 1) := by decide +kernel
theorem d_rinsert_191 : decode prog_14_method_33_code 191 = .ok (.iload_n 1, 1) := by decide +kernel
theorem d_rinsert_192 : decode prog_14_method_33_code 192 = .ok (.iload_n 2, 1) := by decide +kernel
theorem d_rinsert_193 : decode prog_14_method_33_code 193 = .ok (.iload 9, 2) := by decide +kernel
theorem d_rinsert_195 : decode prog_14_method_33_code 195 = .ok (.iload 4, 2) := by decide +kernel
theorem d_rinsert_197 : decode prog_14_method_33_code 197 = .ok (.lload 5, 2) := by decide +kernel
theorem d_rinsert_199 : decode prog_14_method_33_code 199 = .ok (.aload_n 0, 1) := by decide +kernel
theorem d_rinsert_200 : decode prog_14_method_33_code 200 = .ok (.getfield 13, 3) := by decide +kernel
theorem d_rinsert_203 : decode prog_14_method_33_code 203 = .ok (.iconst 0, 1) := by decide +kernel
theorem d_rinsert_204 : decode prog_14_method_33_code 204 = .ok (.aload_n 0, 1) := by decide +kernel
theorem d_rinsert_205 : decode prog_14_method_33_code 205 = .ok (.getfield 185, 3) := by decide +kernel
theorem d_rinsert_208 : decode prog_14_method_33_code 208 = .ok (.invokevirtual 298, 3) := by decide +kernel
theorem d_rinsert_211 : decode prog_14_method_33_code 211 = .ok (.iaload, 1) := by decide +kernel
theorem d_rinsert_212 : decode prog_14_method_33_code 212 = .ok (.ireturn, 1) := by decide +kernel
set_option maxHeartbeats 4000000 in
set_option maxRecDepth 100000 in
theorem w_rinsert_J184 {p : Program} {l : Launch} {e : Env} {s : State} {m : MethodId} {args : Array Value} {below : List Frame} {meth : Method} {c : Code} {A : Nat → Prop} {D : va_G} {md : Nat → Nat} {mc : Nat → ClassId} {Q : State → Prop} (hC : MCx "JoinedTreesModel" prog_14_method_33_code 10 (some .int) p s m args meth c A D mc) {S : MS} {x1 : Int32} {x2 : Int32} {x4 : Int32} {x5 : Int64} {t0 : Int32} {o : MS × Int32} (Heq : m_rinsert_J184 S x1 x2 x4 x5 t0 = some o) (Kr : ∀ r : MS × Int32, o = r → ∀ (pc : Nat) (H : Heap) (locs : List Loc) (ls : Array Slot), decode prog_14_method_33_code pc = .ok (.ireturn, 1) → va_P D cls (mw md mc r.1) H → va_D A (mw md mc r.1) → va_S A s.heap H locs → W p l e ({ frames := 4, cells := 0, slots := 0, locals := 104 }) s m args below meth c H locs 0 0 Q (F0 m pc ls [.int r.2])) : ∀ (H : Heap) (locs : List Loc) (ls : Array Slot), va_P D cls (mw md mc S) H → va_D A (mw md mc S) → va_S A s.heap H locs → lv_has ls 10 [(0, .ref (md 100)), (1, .int x1), (2, .int x2), (4, .int x4), (5, .long x5)] → W p l e ({ frames := 4, cells := 0, slots := 0, locals := 104 }) s m args below meth c H locs 0 0 Q (F0 m 184 ls [.int t0]) := by
  intro H locs ls hP hD hS hl
  obtain ⟨hx, hb, hr, hml, hown, hts, hK, hA⟩ := id hC
  unfold m_rinsert_J184 at Heq
  refine lv_istore (lv' := [(9, .int t0), (0, .ref (md 100)), (1, .int x1), (2, .int x2), (4, .int x4), (5, .long x5)]) hx hb d_rinsert_184 hl (by decide) rfl (fun ls hl => ?_)
  refine lv_aload_n hx hb d_rinsert_186 rfl (lv_at hl 1 rfl) ?_
  refine va_get (D := D) (ci := 12) (v := .ref (md 8)) (C := R_MM) (T := F_MM) (N := 77) hx hb hts i_MM hown hK hP 0 rfl rfl 8 (by decide) (hts _ kw_1390) (fun _ h9 => h9) rfl d_rinsert_187 ?_
  refine lv_aload_n hx hb d_rinsert_190 rfl (lv_at hl 1 rfl) ?_
  refine lv_iload_n hx hb d_rinsert_191 rfl (lv_at hl 2 rfl) ?_
  refine lv_iload_n hx hb d_rinsert_192 rfl (lv_at hl 3 rfl) ?_
  refine lv_iload hx hb d_rinsert_193 (lv_at hl 0 rfl) ?_
  refine lv_iload hx hb d_rinsert_195 (lv_at hl 4 rfl) ?_
  refine lv_lload hx hb d_rinsert_197 (lv_at hl 5 rfl) ?_
  refine lv_aload_n hx hb d_rinsert_199 rfl (lv_at hl 1 rfl) ?_
  refine va_get (D := D) (ci := 12) (v := .ref (md 2)) (C := R_MM) (T := F_MM) (N := 77) hx hb hts i_MM hown hK hP 0 rfl rfl 2 (by decide) (hts _ kw_1384) (fun _ h9 => h9) rfl d_rinsert_200 ?_
  refine lv_iconst (v := 0) hx hb d_rinsert_203 (by decide) ?_
  refine lv_aload_n hx hb d_rinsert_204 rfl (lv_at hl 1 rfl) ?_
  refine va_get (D := D) (ci := 12) (v := .int (S.i 5)) (C := R_MM) (T := F_MM) (N := 77) hx hb hts i_MM hown hK hP 0 rfl rfl 5 (by decide) (hts _ kw_1387) (fun _ h9 => h9) rfl d_rinsert_205 ?_
  obtain ⟨o_1, h_2, Heq⟩ := ob_some Heq
  have hFc := fr_all hD hS hA
  refine va_calli (va_runV (As := [.int x1, .int x2, .int t0, .int x4, .long x5, .ref (md 2), .int 0, .int (S.i 5)]) (rest := [.ref (md 8)]) ⟨hx, hb, hml, hown, hts⟩ (g_rinsertBehind l D H.size h_2) (cw_v 8 hts kw_1737 kw_1734 kw_1736 kp_51 kw_11 rfl rfl (by decide +kernel) ⟨Nat.le_of_ble_eq_true rfl, Nat.le_of_ble_eq_true rfl⟩) ⟨g_blind, va_recv hK hP (ci := 12) (q0 := 0) rfl rfl, fun U hU hW => g_pre hU hW hP hK hD⟩ rfl rfl hl.1 rfl (lv_room (Nat.le_of_ble_eq_true rfl)) d_rinsert_208 ⟨Nat.le_of_ble_eq_true rfl, Nat.le_of_ble_eq_true rfl⟩) hS (fun q _ h => hFc q h) hFc (fun rz u t H1 locs ht hvm hw hB hz1 hk1 hS => ?_)
  obtain ⟨hP, -, hD1⟩ := hB
  rw [ht] at hP
  have hD := hD1.weaken (fun _ q _ h => hFc q.1 h)
  generalize H1 = H at hP hS ⊢
  refine W.cs (cells' := 0) (slots' := 0) rfl rfl ?_
  subst hw
  obtain ⟨hi_3, Heq⟩ := gd_some Heq
  refine va_iald hx hb hK hP 4 0 rfl rfl (i := o_1.2) hi_3 d_rinsert_211 ?_
  refine w_i (y := o_1.1.a 8 o_1.2.toNatClampNeg) rfl ?_
  exact Kr _ (Option.some.inj Heq).symm 212 _ _ _ d_rinsert_212 hP hD hS
def m_rinsert_J140 (S : MS) (x1 : Int32) (x2 : Int32) (x3 : Int32) (x4 : Int32) (x5 : Int64) (t0 : Int32) (t1 : Int32) : Option (MS × Int32) := ob (m_rfull S t1 t0) (fun o_1 => (if o_1.2 = 0 then (if x3 = 0 then m_rinsert_J184 (o_1.1.setI 0 0) x1 x2 x4 x5 0 else ob (m_rat (o_1.1.setI 0 0) x1 x2 (x3 - 1)) (fun o_5 => gd o_5.2 4000 (gd (o_5.1.a 48 o_5.2.toNatClampNeg) 4000 (m_rinsert_J184 o_5.1 x1 x2 x4 x5 (o_5.1.a 8 ((o_5.1.a 48 o_5.2.toNatClampNeg).toNatClampNeg)))))) else ob (m_rno o_1.1 4) (fun o_9 => some (o_9.1, o_9.2))))
theorem d_rinsert_161 : decode prog_14_method_33_code 161 = .ok (.iconst 0, 1) := by decide +kernel
theorem d_rinsert_162 : decode prog_14_method_33_code 162 = .ok (.goto 22, 3) := by decide +kernel
theorem d_rinsert_146 : decode prog_14_method_33_code 146 = .ok (.aload_n 0, 1) := by decide +kernel
theorem d_rinsert_147 : decode prog_14_method_33_code 147 = .ok (.iconst 4, 1) := by decide +kernel
theorem d_rinsert_148 : decode prog_14_method_33_code 148 = .ok (.invokevirtual 191, 3) := by decide +kernel
theorem d_rinsert_151 : decode prog_14_method_33_code 151 = .ok (.ireturn, 1) := by decide +kernel
set_option maxHeartbeats 4000000 in
set_option maxRecDepth 100000 in
theorem w_rinsert_J140 {p : Program} {l : Launch} {e : Env} {s : State} {m : MethodId} {args : Array Value} {below : List Frame} {meth : Method} {c : Code} {A : Nat → Prop} {D : va_G} {md : Nat → Nat} {mc : Nat → ClassId} {Q : State → Prop} (hC : MCx "JoinedTreesModel" prog_14_method_33_code 10 (some .int) p s m args meth c A D mc) {S : MS} {x1 : Int32} {x2 : Int32} {x3 : Int32} {x4 : Int32} {x5 : Int64} {t0 : Int32} {t1 : Int32} {o : MS × Int32} (Heq : m_rinsert_J140 S x1 x2 x3 x4 x5 t0 t1 = some o) (Kr : ∀ r : MS × Int32, o = r → ∀ (pc : Nat) (H : Heap) (locs : List Loc) (ls : Array Slot), decode prog_14_method_33_code pc = .ok (.ireturn, 1) → va_P D cls (mw md mc r.1) H → va_D A (mw md mc r.1) → va_S A s.heap H locs → W p l e ({ frames := 4, cells := 0, slots := 0, locals := 104 }) s m args below meth c H locs 0 0 Q (F0 m pc ls [.int r.2])) : ∀ (H : Heap) (locs : List Loc) (ls : Array Slot), va_P D cls (mw md mc S) H → va_D A (mw md mc S) → va_S A s.heap H locs → lv_has ls 10 [(0, .ref (md 100)), (1, .int x1), (2, .int x2), (3, .int x3), (4, .int x4), (5, .long x5)] → W p l e ({ frames := 4, cells := 0, slots := 0, locals := 104 }) s m args below meth c H locs 0 0 Q (F0 m 140 ls [.int t0, .int t1, .ref (md 100)]) := by
  intro H locs ls hP hD hS hl
  obtain ⟨hx, hb, hr, hml, hown, hts, hK, hA⟩ := id hC
  unfold m_rinsert_J140 at Heq
  obtain ⟨o_1, h_2, Heq⟩ := ob_some Heq
  have hFc := fr_all hD hS hA
  refine va_calli (va_runV (As := [.int t1, .int t0]) (rest := []) ⟨hx, hb, hml, hown, hts⟩ (g_rfull l D H.size h_2) (cw_v 2 hts kw_1660 kw_1657 kw_1659 kp_34 kw_11 rfl rfl (by decide +kernel) ⟨Nat.le_of_ble_eq_true rfl, Nat.le_of_ble_eq_true rfl⟩) ⟨g_blind, va_recv hK hP (ci := 12) (q0 := 0) rfl rfl, fun U hU hW => g_pre hU hW hP hK hD⟩ rfl rfl hl.1 rfl (lv_room (Nat.le_of_ble_eq_true rfl)) d_rinsert_140 ⟨Nat.le_of_ble_eq_true rfl, Nat.le_of_ble_eq_true rfl⟩) hS (fun q _ h => hFc q h) hFc (fun rz u t H1 locs ht hvm hw hB hz1 hk1 hS => ?_)
  obtain ⟨hP, -, hD1⟩ := hB
  rw [ht] at hP
  have hD := hD1.weaken (fun _ q _ h => hFc q.1 h)
  generalize H1 = H at hP hS ⊢
  refine W.cs (cells' := 0) (slots' := 0) rfl rfl ?_
  subst hw
  refine lv_if_eq (tgt := 152) hx hb d_rinsert_143 (by decide) (fun c_3 => ?_) (fun c_3 => ?_)
  · replace Heq := (if_pos c_3).symm.trans Heq
    refine lv_aload_n hx hb d_rinsert_152 rfl (lv_at hl 0 rfl) ?_
    refine lv_iconst (v := 0) hx hb d_rinsert_153 (by decide) ?_
    refine va_put (D := D) (ci := 12) (v := .int 0) (ty := .int) (C := R_MM) (T := F_MM) (N := 77) hx hb hts i_MM t_MM t_MM_ok n_MM hown hK hP hD hS 0 rfl rfl 0 (by decide) (hts _ kw_1382) (fun _ h9 => h9) rfl (by decide +kernel) rfl rfl (Nat.le_of_ble_eq_true rfl) d_rinsert_154 (fun H locs hP hD hS => ?_)
    rw [mw_I0] at hP hD
    refine lv_iload_n hx hb d_rinsert_157 rfl (lv_at hl 3 rfl) ?_
    refine lv_if_ne (tgt := 165) hx hb d_rinsert_158 (by decide) (fun c_4 => ?_) (fun c_4 => ?_)
    · replace Heq := (if_neg c_4).symm.trans Heq
      refine lv_aload_n hx hb d_rinsert_165 rfl (lv_at hl 0 rfl) ?_
      refine va_get (D := D) (ci := 12) (v := .ref (md 8)) (C := R_MM) (T := F_MM) (N := 77) hx hb hts i_MM hown hK hP 0 rfl rfl 8 (by decide) (hts _ kw_1390) (fun _ h9 => h9) rfl d_rinsert_166 ?_
      refine lv_aload_n hx hb d_rinsert_169 rfl (lv_at hl 0 rfl) ?_
      refine va_get (D := D) (ci := 12) (v := .ref (md 48)) (C := R_MM) (T := F_MM) (N := 77) hx hb hts i_MM hown hK hP 0 rfl rfl 48 (by decide) (hts _ kw_1430) (fun _ h9 => h9) rfl d_rinsert_170 ?_
      refine lv_aload_n hx hb d_rinsert_173 rfl (lv_at hl 0 rfl) ?_
      refine lv_iload_n hx hb d_rinsert_174 rfl (lv_at hl 1 rfl) ?_
      refine lv_iload_n hx hb d_rinsert_175 rfl (lv_at hl 2 rfl) ?_
      refine lv_iload_n hx hb d_rinsert_176 rfl (lv_at hl 3 rfl) ?_
      refine lv_iconst (v := 1) hx hb d_rinsert_177 (by decide) ?_
      refine lv_isub hx hb d_rinsert_178 ?_
      refine w_i (y := x3 - 1) rfl ?_
      obtain ⟨o_5, h_6, Heq⟩ := ob_some Heq
      have hFc := fr_all hD hS hA
      refine va_calli (va_runV (As := [.int x1, .int x2, .int (x3 - 1)]) (rest := [.ref (md 48), .ref (md 8)]) ⟨hx, hb, hml, hown, hts⟩ (g_rat l D H.size h_6) (cw_v 3 hts kw_1713 kw_1710 kw_1712 kp_46 kw_11 rfl rfl (by decide +kernel) ⟨Nat.le_of_ble_eq_true rfl, Nat.le_of_ble_eq_true rfl⟩) ⟨g_blind, va_recv hK hP (ci := 12) (q0 := 0) rfl rfl, fun U hU hW => g_pre hU hW hP hK hD⟩ rfl rfl hl.1 rfl (lv_room (Nat.le_of_ble_eq_true rfl)) d_rinsert_179 ⟨Nat.le_of_ble_eq_true rfl, Nat.le_of_ble_eq_true rfl⟩) hS (fun q _ h => hFc q h) hFc (fun rz u t H1 locs ht hvm hw hB hz1 hk1 hS => ?_)
      obtain ⟨hP, -, hD1⟩ := hB
      rw [ht] at hP
      have hD := hD1.weaken (fun _ q _ h => hFc q.1 h)
      generalize H1 = H at hP hS ⊢
      refine W.cs (cells' := 0) (slots' := 0) rfl rfl ?_
      subst hw
      obtain ⟨hi_7, Heq⟩ := gd_some Heq
      refine va_iald hx hb hK hP 32 0 rfl rfl (i := o_5.2) hi_7 d_rinsert_182 ?_
      refine w_i (y := o_5.1.a 48 o_5.2.toNatClampNeg) rfl ?_
      obtain ⟨hi_8, Heq⟩ := gd_some Heq
      refine va_iald hx hb hK hP 4 0 rfl rfl (i := o_5.1.a 48 o_5.2.toNatClampNeg) hi_8 d_rinsert_183 ?_
      refine w_i (y := o_5.1.a 8 ((o_5.1.a 48 o_5.2.toNatClampNeg).toNatClampNeg)) rfl ?_
      exact w_rinsert_J184 hC Heq Kr _ _ _ hP hD hS (lv_sub hl [0, 1, 2, 4, 5] rfl)
    · replace Heq := (if_pos c_4).symm.trans Heq
      refine lv_iconst (v := 0) hx hb d_rinsert_161 (by decide) ?_
      refine lv_goto (tgt := 184) hx hb d_rinsert_162 (by decide) ?_
      exact w_rinsert_J184 hC Heq Kr _ _ _ hP hD hS (lv_sub hl [0, 1, 2, 4, 5] rfl)
  · replace Heq := (if_neg c_3).symm.trans Heq
    refine lv_aload_n hx hb d_rinsert_146 rfl (lv_at hl 0 rfl) ?_
    refine lv_iconst (v := 4) hx hb d_rinsert_147 (by decide) ?_
    obtain ⟨o_9, h_10, Heq⟩ := ob_some Heq
    have hFc := fr_all hD hS hA
    refine va_calli (va_runV (As := [.int 4]) (rest := []) ⟨hx, hb, hml, hown, hts⟩ (g_rno l D H.size h_10) (cw_v 1 hts kw_1626 kw_1623 kw_1625 kp_29 kw_11 rfl rfl (by decide +kernel) ⟨Nat.le_of_ble_eq_true rfl, Nat.le_of_ble_eq_true rfl⟩) ⟨g_blind, va_recv hK hP (ci := 12) (q0 := 0) rfl rfl, fun U hU hW => g_pre hU hW hP hK hD⟩ rfl rfl hl.1 rfl (lv_room (Nat.le_of_ble_eq_true rfl)) d_rinsert_148 ⟨Nat.le_of_ble_eq_true rfl, Nat.le_of_ble_eq_true rfl⟩) hS (fun q _ h => hFc q h) hFc (fun rz u t H1 locs ht hvm hw hB hz1 hk1 hS => ?_)
    obtain ⟨hP, -, hD1⟩ := hB
    rw [ht] at hP
    have hD := hD1.weaken (fun _ q _ h => hFc q.1 h)
    generalize H1 = H at hP hS ⊢
    refine W.cs (cells' := 0) (slots' := 0) rfl rfl ?_
    subst hw
    exact Kr _ (Option.some.inj Heq).symm 151 _ _ _ d_rinsert_151 hP hD hS
def m_rinsert_J63 (S : MS) (x1 : Int32) (x2 : Int32) (x3 : Int32) (x4 : Int32) (x5 : Int64) : Option (MS × Int32) := ob (m_rkindOf S x1 x2) (fun o_1 => (if o_1.2 = 6 then ob (m_rno o_1.1 1) (fun o_14 => some (o_14.1, o_14.2)) else (if o_1.2 < 0 then m_rinsert_J103 o_1.1 else (if x3 < 0 then m_rinsert_J103 o_1.1 else ob (m_rindices o_1.1 x1 x2) (fun o_6 => (if x3 ≤ o_6.2 then gd x1 8 ((if o_6.1.a 39 x1.toNatClampNeg < 0 then (if x4 = 4 then m_rinsert_J140 o_6.1 x1 x2 x3 x4 x5 (o_6.1.i 5) 1 else m_rinsert_J140 o_6.1 x1 x2 x3 x4 x5 0 1) else ob (m_rno o_6.1 2) (fun o_12 => some (o_12.1, o_12.2)))) else m_rinsert_J103 o_6.1))))))
theorem d_rinsert_132 : decode prog_14_method_33_code 132 = .ok (.aload_n 0, 1) := by decide +kernel
theorem d_rinsert_133 : decode prog_14_method_33_code 133 = .ok (.getfield 185, 3) := by decide +kernel
theorem d_rinsert_136 : decode prog_14_method_33_code 136 = .ok (.goto 4, 3) := by decide +kernel
theorem d_rinsert_118 : decode prog_14_method_33_code 118 = .ok (.aload_n 0, 1) := by decide +kernel
theorem d_rinsert_119 : decode prog_14_method_33_code 119 = .ok (.iconst 2, 1) := by decide +kernel
theorem d_rinsert_120 : decode prog_14_method_33_code 120 = .ok (.invokevirtual 191, 3) := by decide +kernel
theorem d_rinsert_123 : decode prog_14_method_33_code 123 = .ok (.ireturn, 1) := by decide +kernel
theorem d_rinsert_78 : decode prog_14_method_33_code 78 = .ok (.aload_n 0, 1) := by decide +kernel
theorem d_rinsert_79 : decode prog_14_method_33_code 79 = .ok (.iconst 1, 1) := by decide +kernel
theorem d_rinsert_80 : decode prog_14_method_33_code 80 = .ok (.invokevirtual 191, 3) := by decide +kernel
theorem d_rinsert_83 : decode prog_14_method_33_code 83 = .ok (.ireturn, 1) := by decide +kernel
set_option maxHeartbeats 4000000 in
set_option maxRecDepth 100000 in
theorem w_rinsert_J63 {p : Program} {l : Launch} {e : Env} {s : State} {m : MethodId} {args : Array Value} {below : List Frame} {meth : Method} {c : Code} {A : Nat → Prop} {D : va_G} {md : Nat → Nat} {mc : Nat → ClassId} {Q : State → Prop} (hC : MCx "JoinedTreesModel" prog_14_method_33_code 10 (some .int) p s m args meth c A D mc) {S : MS} {x1 : Int32} {x2 : Int32} {x3 : Int32} {x4 : Int32} {x5 : Int64} {o : MS × Int32} (Heq : m_rinsert_J63 S x1 x2 x3 x4 x5 = some o) (Kr : ∀ r : MS × Int32, o = r → ∀ (pc : Nat) (H : Heap) (locs : List Loc) (ls : Array Slot), decode prog_14_method_33_code pc = .ok (.ireturn, 1) → va_P D cls (mw md mc r.1) H → va_D A (mw md mc r.1) → va_S A s.heap H locs → W p l e ({ frames := 4, cells := 0, slots := 0, locals := 104 }) s m args below meth c H locs 0 0 Q (F0 m pc ls [.int r.2])) : ∀ (H : Heap) (locs : List Loc) (ls : Array Slot), va_P D cls (mw md mc S) H → va_D A (mw md mc S) → va_S A s.heap H locs → lv_has ls 10 [(0, .ref (md 100)), (1, .int x1), (2, .int x2), (3, .int x3), (4, .int x4), (5, .long x5)] → W p l e ({ frames := 4, cells := 0, slots := 0, locals := 104 }) s m args below meth c H locs 0 0 Q (F0 m 63 ls []) := by
  intro H locs ls hP hD hS hl
  obtain ⟨hx, hb, hr, hml, hown, hts, hK, hA⟩ := id hC
  unfold m_rinsert_J63 at Heq
  refine lv_aload_n hx hb d_rinsert_63 rfl (lv_at hl 0 rfl) ?_
  refine lv_iload_n hx hb d_rinsert_64 rfl (lv_at hl 1 rfl) ?_
  refine lv_iload_n hx hb d_rinsert_65 rfl (lv_at hl 2 rfl) ?_
  obtain ⟨o_1, h_2, Heq⟩ := ob_some Heq
  have hFc := fr_all hD hS hA
  refine va_calli (va_runV (As := [.int x1, .int x2]) (rest := []) ⟨hx, hb, hml, hown, hts⟩ (g_rkindOf l D H.size h_2) (cw_v 2 hts kw_1648 kw_1645 kw_1647 kp_31 kw_11 rfl rfl (by decide +kernel) ⟨Nat.le_of_ble_eq_true rfl, Nat.le_of_ble_eq_true rfl⟩) ⟨g_blind, va_recv hK hP (ci := 12) (q0 := 0) rfl rfl, fun U hU hW => g_pre hU hW hP hK hD⟩ rfl rfl hl.1 rfl (lv_room (Nat.le_of_ble_eq_true rfl)) d_rinsert_66 ⟨Nat.le_of_ble_eq_true rfl, Nat.le_of_ble_eq_true rfl⟩) hS (fun q _ h => hFc q h) hFc (fun rz u t H1 locs ht hvm hw hB hz1 hk1 hS => ?_)
  obtain ⟨hP, -, hD1⟩ := hB
  rw [ht] at hP
  have hD := hD1.weaken (fun _ q _ h => hFc q.1 h)
  generalize H1 = H at hP hS ⊢
  refine W.cs (cells' := 0) (slots' := 0) rfl rfl ?_
  subst hw
  refine lv_istore (lv' := [(8, .int o_1.2), (0, .ref (md 100)), (1, .int x1), (2, .int x2), (3, .int x3), (4, .int x4), (5, .long x5)]) hx hb d_rinsert_69 hl (by decide) rfl (fun ls hl => ?_)
  refine lv_iload hx hb d_rinsert_71 (lv_at hl 0 rfl) ?_
  refine lv_bipush (v := 6) hx hb d_rinsert_73 (by decide) ?_
  refine lv_icmp_ne (tgt := 84) hx hb d_rinsert_75 (by decide) (fun c_3 => ?_) (fun c_3 => ?_)
  · replace Heq := (if_neg c_3).symm.trans Heq
    refine lv_iload hx hb d_rinsert_84 (lv_at hl 0 rfl) ?_
    refine lv_if_lt (tgt := 103) hx hb d_rinsert_86 (by decide) (fun c_4 => ?_) (fun c_4 => ?_)
    · replace Heq := (if_pos c_4).symm.trans Heq
      exact w_rinsert_J103 hC Heq Kr _ _ _ hP hD hS (lv_sub hl [1] rfl)
    · replace Heq := (if_neg c_4).symm.trans Heq
      refine lv_iload_n hx hb d_rinsert_89 rfl (lv_at hl 4 rfl) ?_
      refine lv_if_lt (tgt := 103) hx hb d_rinsert_90 (by decide) (fun c_5 => ?_) (fun c_5 => ?_)
      · replace Heq := (if_pos c_5).symm.trans Heq
        exact w_rinsert_J103 hC Heq Kr _ _ _ hP hD hS (lv_sub hl [1] rfl)
      · replace Heq := (if_neg c_5).symm.trans Heq
        refine lv_iload_n hx hb d_rinsert_93 rfl (lv_at hl 4 rfl) ?_
        refine lv_aload_n hx hb d_rinsert_94 rfl (lv_at hl 1 rfl) ?_
        refine lv_iload_n hx hb d_rinsert_95 rfl (lv_at hl 2 rfl) ?_
        refine lv_iload_n hx hb d_rinsert_96 rfl (lv_at hl 3 rfl) ?_
        obtain ⟨o_6, h_7, Heq⟩ := ob_some Heq
        have hFc := fr_all hD hS hA
        refine va_calli (va_runV (As := [.int x1, .int x2]) (rest := [.int x3]) ⟨hx, hb, hml, hown, hts⟩ (g_rindices l D H.size h_7) (cw_v 2 hts kw_1733 kw_1730 kw_1732 kp_50 kw_11 rfl rfl (by decide +kernel) ⟨Nat.le_of_ble_eq_true rfl, Nat.le_of_ble_eq_true rfl⟩) ⟨g_blind, va_recv hK hP (ci := 12) (q0 := 0) rfl rfl, fun U hU hW => g_pre hU hW hP hK hD⟩ rfl rfl hl.1 rfl (lv_room (Nat.le_of_ble_eq_true rfl)) d_rinsert_97 ⟨Nat.le_of_ble_eq_true rfl, Nat.le_of_ble_eq_true rfl⟩) hS (fun q _ h => hFc q h) hFc (fun rz u t H1 locs ht hvm hw hB hz1 hk1 hS => ?_)
        obtain ⟨hP, -, hD1⟩ := hB
        rw [ht] at hP
        have hD := hD1.weaken (fun _ q _ h => hFc q.1 h)
        generalize H1 = H at hP hS ⊢
        refine W.cs (cells' := 0) (slots' := 0) rfl rfl ?_
        subst hw
        refine lv_icmp_le (tgt := 109) hx hb d_rinsert_100 (by decide) (fun c_8 => ?_) (fun c_8 => ?_)
        · replace Heq := (if_pos c_8).symm.trans Heq
          refine lv_aload_n hx hb d_rinsert_109 rfl (lv_at hl 1 rfl) ?_
          refine va_get (D := D) (ci := 12) (v := .ref (md 39)) (C := R_MM) (T := F_MM) (N := 77) hx hb hts i_MM hown hK hP 0 rfl rfl 39 (by decide) (hts _ kw_1421) (fun _ h9 => h9) rfl d_rinsert_110 ?_
          refine lv_iload_n hx hb d_rinsert_113 rfl (lv_at hl 2 rfl) ?_
          obtain ⟨hi_9, Heq⟩ := gd_some Heq
          refine va_iald hx hb hK hP 27 0 rfl rfl (i := x1) hi_9 d_rinsert_114 ?_
          refine w_i (y := o_6.1.a 39 x1.toNatClampNeg) rfl ?_
          refine lv_if_lt (tgt := 124) hx hb d_rinsert_115 (by decide) (fun c_10 => ?_) (fun c_10 => ?_)
          · replace Heq := (if_pos c_10).symm.trans Heq
            refine lv_aload_n hx hb d_rinsert_124 rfl (lv_at hl 1 rfl) ?_
            refine lv_iconst (v := 1) hx hb d_rinsert_125 (by decide) ?_
            refine lv_iload hx hb d_rinsert_126 (lv_at hl 5 rfl) ?_
            refine lv_iconst (v := 4) hx hb d_rinsert_128 (by decide) ?_
            refine lv_icmp_ne (tgt := 139) hx hb d_rinsert_129 (by decide) (fun c_11 => ?_) (fun c_11 => ?_)
            · replace Heq := (if_neg c_11).symm.trans Heq
              refine lv_iconst (v := 0) hx hb d_rinsert_139 (by decide) ?_
              exact w_rinsert_J140 hC Heq Kr _ _ _ hP hD hS (lv_sub hl [1, 2, 3, 4, 5, 6] rfl)
            · replace Heq := (if_pos c_11).symm.trans Heq
              refine lv_aload_n hx hb d_rinsert_132 rfl (lv_at hl 1 rfl) ?_
              refine va_get (D := D) (ci := 12) (v := .int (o_6.1.i 5)) (C := R_MM) (T := F_MM) (N := 77) hx hb hts i_MM hown hK hP 0 rfl rfl 5 (by decide) (hts _ kw_1387) (fun _ h9 => h9) rfl d_rinsert_133 ?_
              refine lv_goto (tgt := 140) hx hb d_rinsert_136 (by decide) ?_
              exact w_rinsert_J140 hC Heq Kr _ _ _ hP hD hS (lv_sub hl [1, 2, 3, 4, 5, 6] rfl)
          · replace Heq := (if_neg c_10).symm.trans Heq
            refine lv_aload_n hx hb d_rinsert_118 rfl (lv_at hl 1 rfl) ?_
            refine lv_iconst (v := 2) hx hb d_rinsert_119 (by decide) ?_
            obtain ⟨o_12, h_13, Heq⟩ := ob_some Heq
            have hFc := fr_all hD hS hA
            refine va_calli (va_runV (As := [.int 2]) (rest := []) ⟨hx, hb, hml, hown, hts⟩ (g_rno l D H.size h_13) (cw_v 1 hts kw_1626 kw_1623 kw_1625 kp_29 kw_11 rfl rfl (by decide +kernel) ⟨Nat.le_of_ble_eq_true rfl, Nat.le_of_ble_eq_true rfl⟩) ⟨g_blind, va_recv hK hP (ci := 12) (q0 := 0) rfl rfl, fun U hU hW => g_pre hU hW hP hK hD⟩ rfl rfl hl.1 rfl (lv_room (Nat.le_of_ble_eq_true rfl)) d_rinsert_120 ⟨Nat.le_of_ble_eq_true rfl, Nat.le_of_ble_eq_true rfl⟩) hS (fun q _ h => hFc q h) hFc (fun rz u t H1 locs ht hvm hw hB hz1 hk1 hS => ?_)
            obtain ⟨hP, -, hD1⟩ := hB
            rw [ht] at hP
            have hD := hD1.weaken (fun _ q _ h => hFc q.1 h)
            generalize H1 = H at hP hS ⊢
            refine W.cs (cells' := 0) (slots' := 0) rfl rfl ?_
            subst hw
            exact Kr _ (Option.some.inj Heq).symm 123 _ _ _ d_rinsert_123 hP hD hS
        · replace Heq := (if_neg c_8).symm.trans Heq
          exact w_rinsert_J103 hC Heq Kr _ _ _ hP hD hS (lv_sub hl [1] rfl)
  · replace Heq := (if_pos c_3).symm.trans Heq
    refine lv_aload_n hx hb d_rinsert_78 rfl (lv_at hl 1 rfl) ?_
    refine lv_iconst (v := 1) hx hb d_rinsert_79 (by decide) ?_
    obtain ⟨o_14, h_15, Heq⟩ := ob_some Heq
    have hFc := fr_all hD hS hA
    refine va_calli (va_runV (As := [.int 1]) (rest := []) ⟨hx, hb, hml, hown, hts⟩ (g_rno l D H.size h_15) (cw_v 1 hts kw_1626 kw_1623 kw_1625 kp_29 kw_11 rfl rfl (by decide +kernel) ⟨Nat.le_of_ble_eq_true rfl, Nat.le_of_ble_eq_true rfl⟩) ⟨g_blind, va_recv hK hP (ci := 12) (q0 := 0) rfl rfl, fun U hU hW => g_pre hU hW hP hK hD⟩ rfl rfl hl.1 rfl (lv_room (Nat.le_of_ble_eq_true rfl)) d_rinsert_80 ⟨Nat.le_of_ble_eq_true rfl, Nat.le_of_ble_eq_true rfl⟩) hS (fun q _ h => hFc q h) hFc (fun rz u t H1 locs ht hvm hw hB hz1 hk1 hS => ?_)
    obtain ⟨hP, -, hD1⟩ := hB
    rw [ht] at hP
    have hD := hD1.weaken (fun _ q _ h => hFc q.1 h)
    generalize H1 = H at hP hS ⊢
    refine W.cs (cells' := 0) (slots' := 0) rfl rfl ?_
    subst hw
    exact Kr _ (Option.some.inj Heq).symm 83 _ _ _ d_rinsert_83 hP hD hS
def m_rinsert_J38 (S : MS) (x1 : Int32) (x2 : Int32) (x3 : Int32) (x4 : Int32) (x5 : Int64) (t0 : Int32) (t1 : Int32) : Option (MS × Int32) := (if t1 = t0 then (if x4 = 4 then (if S.i 5 ≤ 1024 then m_rinsert_J63 S x1 x2 x3 x4 x5 else m_rinsert_J57 S) else m_rinsert_J63 S x1 x2 x3 x4 x5) else m_rinsert_J57 S)
theorem d_rinsert_47 : decode prog_14_method_33_code 47 = .ok (.aload_n 0, 1) := by decide +kernel
theorem d_rinsert_48 : decode prog_14_method_33_code 48 = .ok (.getfield 185, 3) := by decide +kernel
theorem d_rinsert_51 : decode prog_14_method_33_code 51 = .ok (.sipush 1024, 3) := by decide +kernel
theorem d_rinsert_54 : decode prog_14_method_33_code 54 = .ok (.if_icmp .le 9, 3) := by decide +kernel
set_option maxHeartbeats 4000000 in
set_option maxRecDepth 100000 in
theorem w_rinsert_J38 {p : Program} {l : Launch} {e : Env} {s : State} {m : MethodId} {args : Array Value} {below : List Frame} {meth : Method} {c : Code} {A : Nat → Prop} {D : va_G} {md : Nat → Nat} {mc : Nat → ClassId} {Q : State → Prop} (hC : MCx "JoinedTreesModel" prog_14_method_33_code 10 (some .int) p s m args meth c A D mc) {S : MS} {x1 : Int32} {x2 : Int32} {x3 : Int32} {x4 : Int32} {x5 : Int64} {t0 : Int32} {t1 : Int32} {o : MS × Int32} (Heq : m_rinsert_J38 S x1 x2 x3 x4 x5 t0 t1 = some o) (Kr : ∀ r : MS × Int32, o = r → ∀ (pc : Nat) (H : Heap) (locs : List Loc) (ls : Array Slot), decode prog_14_method_33_code pc = .ok (.ireturn, 1) → va_P D cls (mw md mc r.1) H → va_D A (mw md mc r.1) → va_S A s.heap H locs → W p l e ({ frames := 4, cells := 0, slots := 0, locals := 104 }) s m args below meth c H locs 0 0 Q (F0 m pc ls [.int r.2])) : ∀ (H : Heap) (locs : List Loc) (ls : Array Slot), va_P D cls (mw md mc S) H → va_D A (mw md mc S) → va_S A s.heap H locs → lv_has ls 10 [(0, .ref (md 100)), (1, .int x1), (2, .int x2), (3, .int x3), (4, .int x4), (5, .long x5)] → W p l e ({ frames := 4, cells := 0, slots := 0, locals := 104 }) s m args below meth c H locs 0 0 Q (F0 m 38 ls [.int t0, .int t1]) := by
  intro H locs ls hP hD hS hl
  obtain ⟨hx, hb, hr, hml, hown, hts, hK, hA⟩ := id hC
  unfold m_rinsert_J38 at Heq
  refine lv_icmp_ne (tgt := 57) hx hb d_rinsert_38 (by decide) (fun c_1 => ?_) (fun c_1 => ?_)
  · replace Heq := (if_neg c_1).symm.trans Heq
    exact w_rinsert_J57 hC Heq Kr _ _ _ hP hD hS (lv_sub hl [0] rfl)
  · replace Heq := (if_pos c_1).symm.trans Heq
    refine lv_iload hx hb d_rinsert_41 (lv_at hl 4 rfl) ?_
    refine lv_iconst (v := 4) hx hb d_rinsert_43 (by decide) ?_
    refine lv_icmp_ne (tgt := 63) hx hb d_rinsert_44 (by decide) (fun c_2 => ?_) (fun c_2 => ?_)
    · replace Heq := (if_neg c_2).symm.trans Heq
      exact w_rinsert_J63 hC Heq Kr _ _ _ hP hD hS (lv_sub hl [0, 1, 2, 3, 4, 5] rfl)
    · replace Heq := (if_pos c_2).symm.trans Heq
      refine lv_aload_n hx hb d_rinsert_47 rfl (lv_at hl 0 rfl) ?_
      refine va_get (D := D) (ci := 12) (v := .int (S.i 5)) (C := R_MM) (T := F_MM) (N := 77) hx hb hts i_MM hown hK hP 0 rfl rfl 5 (by decide) (hts _ kw_1387) (fun _ h9 => h9) rfl d_rinsert_48 ?_
      refine lv_sipush (v := 1024) hx hb d_rinsert_51 (by decide) ?_
      refine lv_icmp_le (tgt := 63) hx hb d_rinsert_54 (by decide) (fun c_3 => ?_) (fun c_3 => ?_)
      · replace Heq := (if_pos c_3).symm.trans Heq
        exact w_rinsert_J63 hC Heq Kr _ _ _ hP hD hS (lv_sub hl [0, 1, 2, 3, 4, 5] rfl)
      · replace Heq := (if_neg c_3).symm.trans Heq
        exact w_rinsert_J57 hC Heq Kr _ _ _ hP hD hS (lv_sub hl [0] rfl)
def m_rinsert_J0 (S : MS) (x1 : Int32) (x2 : Int32) (x3 : Int32) (x4 : Int32) (x5 : Int64) : Option (MS × Int32) := ob (m_rtaken S) (fun o_1 => ob (m_risReplica o_1.1 x1) (fun o_3 => (if o_3.2 = 0 then m_rinsert_J57 o_3.1 else (if x4 < 0 then m_rinsert_J57 o_3.1 else (if 8 < x4 then m_rinsert_J57 o_3.1 else (if x4 = 4 then m_rinsert_J38 o_3.1 x1 x2 x3 x4 x5 1 o_1.2 else m_rinsert_J38 o_3.1 x1 x2 x3 x4 x5 0 o_1.2))))))
theorem d_rinsert_33 : decode prog_14_method_33_code 33 = .ok (.iconst 1, 1) := by decide +kernel
theorem d_rinsert_34 : decode prog_14_method_33_code 34 = .ok (.goto 4, 3) := by decide +kernel
set_option maxHeartbeats 4000000 in
set_option maxRecDepth 100000 in
theorem w_rinsert_J0 {p : Program} {l : Launch} {e : Env} {s : State} {m : MethodId} {args : Array Value} {below : List Frame} {meth : Method} {c : Code} {A : Nat → Prop} {D : va_G} {md : Nat → Nat} {mc : Nat → ClassId} {Q : State → Prop} (hC : MCx "JoinedTreesModel" prog_14_method_33_code 10 (some .int) p s m args meth c A D mc) {S : MS} {x1 : Int32} {x2 : Int32} {x3 : Int32} {x4 : Int32} {x5 : Int64} {o : MS × Int32} (Heq : m_rinsert_J0 S x1 x2 x3 x4 x5 = some o) (Kr : ∀ r : MS × Int32, o = r → ∀ (pc : Nat) (H : Heap) (locs : List Loc) (ls : Array Slot), decode prog_14_method_33_code pc = .ok (.ireturn, 1) → va_P D cls (mw md mc r.1) H → va_D A (mw md mc r.1) → va_S A s.heap H locs → W p l e ({ frames := 4, cells := 0, slots := 0, locals := 104 }) s m args below meth c H locs 0 0 Q (F0 m pc ls [.int r.2])) : ∀ (H : Heap) (locs : List Loc) (ls : Array Slot), va_P D cls (mw md mc S) H → va_D A (mw md mc S) → va_S A s.heap H locs → lv_has ls 10 [(0, .ref (md 100)), (1, .int x1), (2, .int x2), (3, .int x3), (4, .int x4), (5, .long x5)] → W p l e ({ frames := 4, cells := 0, slots := 0, locals := 104 }) s m args below meth c H locs 0 0 Q (F0 m 0 ls []) := by
  intro H locs ls hP hD hS hl
  obtain ⟨hx, hb, hr, hml, hown, hts, hK, hA⟩ := id hC
  unfold m_rinsert_J0 at Heq
  refine lv_aload_n hx hb d_rinsert_0 rfl (lv_at hl 0 rfl) ?_
  obtain ⟨o_1, h_2, Heq⟩ := ob_some Heq
  have hFc := fr_all hD hS hA
  refine va_calli (va_runV (As := []) (rest := []) ⟨hx, hb, hml, hown, hts⟩ (g_rtaken l D H.size h_2) (cw_v 0 hts kw_1638 kw_1635 kw_1637 kp_30 kw_11 rfl rfl (by decide +kernel) ⟨Nat.le_of_ble_eq_true rfl, Nat.le_of_ble_eq_true rfl⟩) ⟨g_blind, va_recv hK hP (ci := 12) (q0 := 0) rfl rfl, fun U hU hW => g_pre hU hW hP hK hD⟩ rfl rfl hl.1 rfl (lv_room (Nat.le_of_ble_eq_true rfl)) d_rinsert_1 ⟨Nat.le_of_ble_eq_true rfl, Nat.le_of_ble_eq_true rfl⟩) hS (fun q _ h => hFc q h) hFc (fun rz u t H1 locs ht hvm hw hB hz1 hk1 hS => ?_)
  obtain ⟨hP, -, hD1⟩ := hB
  rw [ht] at hP
  have hD := hD1.weaken (fun _ q _ h => hFc q.1 h)
  generalize H1 = H at hP hS ⊢
  refine W.cs (cells' := 0) (slots' := 0) rfl rfl ?_
  subst hw
  refine lv_istore (lv' := [(7, .int o_1.2), (0, .ref (md 100)), (1, .int x1), (2, .int x2), (3, .int x3), (4, .int x4), (5, .long x5)]) hx hb d_rinsert_4 hl (by decide) rfl (fun ls hl => ?_)
  refine lv_iload_n hx hb d_rinsert_6 rfl (lv_at hl 2 rfl) ?_
  obtain ⟨o_3, h_4, Heq⟩ := ob_some Heq
  have hFc := fr_all hD hS hA
  refine va_calli (va_runS (As := [.int x1]) (rest := []) ⟨hx, hb, hml, hown, hts⟩ (g_risReplica l D H.size h_4) (cw_s 1 hts kw_1641 kw_1639 kw_1640 kw_11 rfl rfl (by decide +kernel) ⟨Nat.le_of_ble_eq_true rfl, Nat.le_of_ble_eq_true rfl⟩) ⟨g_blind, fun U hU hW => g_pre hU hW hP hK hD⟩ rfl rfl hl.1 rfl (lv_room (Nat.le_of_ble_eq_true rfl)) d_rinsert_7 ⟨Nat.le_of_ble_eq_true rfl, Nat.le_of_ble_eq_true rfl⟩) hS (fun q _ h => hFc q h) hFc (fun rz u t H1 locs ht hvm hw hB hz1 hk1 hS => ?_)
  obtain ⟨hP, -, hD1⟩ := hB
  rw [ht] at hP
  have hD := hD1.weaken (fun _ q _ h => hFc q.1 h)
  generalize H1 = H at hP hS ⊢
  refine W.cs (cells' := 0) (slots' := 0) rfl rfl ?_
  subst hw
  refine lv_if_eq (tgt := 57) hx hb d_rinsert_10 (by decide) (fun c_5 => ?_) (fun c_5 => ?_)
  · replace Heq := (if_pos c_5).symm.trans Heq
    exact w_rinsert_J57 hC Heq Kr _ _ _ hP hD hS (lv_sub hl [1] rfl)
  · replace Heq := (if_neg c_5).symm.trans Heq
    refine lv_iload hx hb d_rinsert_13 (lv_at hl 5 rfl) ?_
    refine lv_if_lt (tgt := 57) hx hb d_rinsert_15 (by decide) (fun c_6 => ?_) (fun c_6 => ?_)
    · replace Heq := (if_pos c_6).symm.trans Heq
      exact w_rinsert_J57 hC Heq Kr _ _ _ hP hD hS (lv_sub hl [1] rfl)
    · replace Heq := (if_neg c_6).symm.trans Heq
      refine lv_iload hx hb d_rinsert_18 (lv_at hl 5 rfl) ?_
      refine lv_bipush (v := 8) hx hb d_rinsert_20 (by decide) ?_
      refine lv_icmp_gt (tgt := 57) hx hb d_rinsert_22 (by decide) (fun c_7 => ?_) (fun c_7 => ?_)
      · replace Heq := (if_pos c_7).symm.trans Heq
        exact w_rinsert_J57 hC Heq Kr _ _ _ hP hD hS (lv_sub hl [1] rfl)
      · replace Heq := (if_neg c_7).symm.trans Heq
        refine lv_iload hx hb d_rinsert_25 (lv_at hl 0 rfl) ?_
        refine lv_iload hx hb d_rinsert_27 (lv_at hl 5 rfl) ?_
        refine lv_iconst (v := 4) hx hb d_rinsert_29 (by decide) ?_
        refine lv_icmp_ne (tgt := 37) hx hb d_rinsert_30 (by decide) (fun c_8 => ?_) (fun c_8 => ?_)
        · replace Heq := (if_neg c_8).symm.trans Heq
          refine lv_iconst (v := 0) hx hb d_rinsert_37 (by decide) ?_
          exact w_rinsert_J38 hC Heq Kr _ _ _ hP hD hS (lv_sub hl [1, 2, 3, 4, 5, 6] rfl)
        · replace Heq := (if_pos c_8).symm.trans Heq
          refine lv_iconst (v := 1) hx hb d_rinsert_33 (by decide) ?_
          refine lv_goto (tgt := 38) hx hb d_rinsert_34 (by decide) ?_
          exact w_rinsert_J38 hC Heq Kr _ _ _ hP hD hS (lv_sub hl [1, 2, 3, 4, 5, 6] rfl)
def m_rinsert (S : MS) (x1 : Int32) (x2 : Int32) (x3 : Int32) (x4 : Int32) (x5 : Int64) : Option (MS × Int32) := m_rinsert_J0 S x1 x2 x3 x4 x5
theorem g_rinsert (l : Launch) (D : va_G) (sz : Nat) {md : Nat → Nat} {mc : Nat → ClassId} {S : MS} {x1 : Int32} {x2 : Int32} {x3 : Int32} {x4 : Int32} {x5 : Int64} {o : MS × Int32} (Heq : m_rinsert S x1 x2 x3 x4 x5 = some o) : Met l ⟨"JoinedTreesModel", "insert", "(IIIIJ)I"⟩ (Cond.code ⟨"JoinedTreesModel", "insert", "(IIIIJ)I"⟩ prog_14_method_33_code 10 (some .int) :: gb) ({ frames := 4, cells := 0, slots := 0, locals := 104 }) (gPc D (mw md mc S) (mty mc) sz [.ref (md 100), .int x1, .int x2, .int x3, .int x4, .long x5]) (va_Qi (fun (r : Int32) (_ : Unit) => r = o.2) (fun _ t => gO D (mw md mc o.1) (mty mc) (va_A (mw md mc S) sz) t) (va_A (mw md mc S) sz)) 0 0 (va_A (mw md mc S) sz) := by
  refine Met.ofW (cc := prog_14_method_33_code) (maxL := 10) (ret := (some .int)) (by decide) rfl ?_
  intro p e s m args below meth c s₁ B hml hv
  obtain ⟨rfl, hsz, hP, hK, hD0⟩ := hv
  have hx := B.exec
  have hb := B.bytes
  have hr := B.returns
  have hts : ∀ w9 ∈ gb, w9.before [.ref (md 100), .int x1, .int x2, .int x3, .int x4, .long x5].toArray s = true := fun w9 h => atoms_spec (ws := Cond.code ⟨"JoinedTreesModel", "insert", "(IIIIJ)I"⟩ prog_14_method_33_code 10 (some .int) :: gb) B.pre w9 (List.mem_cons_of_mem _ h)
  have hown : s.vm.findClass "JoinedTreesModel" = some m.cls := findClass_of_methodNamed B.named
  have hlocks := B.notSynchronized
  subst hsz
  have hD := hD0.self (sz := s.heap.size)
  generalize hAe : va_A (mw md mc S) s.heap.size = A at hD ⊢
  have hA : ∀ q : Nat, s.heap.size ≤ q → A q := fun q h => by rw [← hAe]; exact Or.inr h
  have hS : va_S A s.heap s.heap [] := va_S.rf
  have hl := lv_entry ([.ref (md 100), .int x1, .int x2, .int x3, .int x4, .long x5]) (n := 10) (Nat.le_of_ble_eq_true rfl)
  rw [lg_entry_eq]
  generalize (lg_sl ([.ref (md 100), .int x1, .int x2, .int x3, .int x4, .long x5]) ++ List.replicate (10 - (lg_sl ([.ref (md 100), .int x1, .int x2, .int x3, .int x4, .long x5])).length) Slot.unset).toArray = ls at hl ⊢
  have hl : lv_has ls 10 [(0, .ref (md 100)), (1, .int x1), (2, .int x2), (3, .int x3), (4, .int x4), (5, .long x5)] := hl
  refine w_rinsert_J0 ⟨hx, hb, hr, hml, hown, hts, hK, hA⟩ Heq (fun r h pc H locs ls hd hP hD hS => ?_) _ _ _ hP hD hS (lv_sub hl [0, 1, 2, 3, 4, 5] rfl)
  subst h
  exact W.iret hx hb hr (fun t ht hW => ⟨⟨_, (), rfl, rfl, by rw [ht]; exact hP, va_K.moved hW.alike hK, hD⟩, hS.F ht⟩) hS.2.2 hd
def m_rsplice_J34 (S : MS) : Option (MS × Int32) := ob (m_rno S 1) (fun o_1 => some (o_1.1, o_1.2))
theorem d_rsplice_0 : decode prog_14_method_34_code 0 = .ok (.aload_n 0, 1) := by decide +kernel
theorem d_rsplice_1 : decode prog_14_method_34_code 1 = .ok (.invokevirtual 247, 3) := by decide +kernel
theorem d_rsplice_4 : decode prog_14_method_34_code 4 = .ok (.istore 5, 2) := by decide +kernel
theorem d_rsplice_6 : decode prog_14_method_34_code 6 = .ok (.iload_n 1, 1) := by decide +kernel
theorem d_rsplice_7 : decode prog_14_method_34_code 7 = .ok (.invokestatic 251, 3) := by decide +kernel
theorem d_rsplice_10 : decode prog_14_method_34_code 10 = .ok (.ifCond .eq 24, 3) := by decide +kernel
theorem d_rsplice_34 : decode prog_14_method_34_code 34 = .ok (.aload_n 0, 1) := by decide +kernel
theorem d_rsplice_35 : decode prog_14_method_34_code 35 = .ok (.iconst 1, 1) := by decide +kernel
theorem d_rsplice_36 : decode prog_14_method_34_code 36 = .ok (.invokevirtual 191, 3) := by decide +kernel
theorem d_rsplice_39 : decode prog_14_method_34_code 39 = .ok (.ireturn, 1) := by decide +kernel
set_option maxHeartbeats 4000000 in
set_option maxRecDepth 100000 in
theorem w_rsplice_J34 {p : Program} {l : Launch} {e : Env} {s : State} {m : MethodId} {args : Array Value} {below : List Frame} {meth : Method} {c : Code} {A : Nat → Prop} {D : va_G} {md : Nat → Nat} {mc : Nat → ClassId} {Q : State → Prop} (hC : MCx "JoinedTreesModel" prog_14_method_34_code 10 (some .int) p s m args meth c A D mc) {S : MS} {o : MS × Int32} (Heq : m_rsplice_J34 S = some o) (Kr : ∀ r : MS × Int32, o = r → ∀ (pc : Nat) (H : Heap) (locs : List Loc) (ls : Array Slot), decode prog_14_method_34_code pc = .ok (.ireturn, 1) → va_P D cls (mw md mc r.1) H → va_D A (mw md mc r.1) → va_S A s.heap H locs → W p l e ({ frames := 4, cells := 0, slots := 0, locals := 104 }) s m args below meth c H locs 0 0 Q (F0 m pc ls [.int r.2])) : ∀ (H : Heap) (locs : List Loc) (ls : Array Slot), va_P D cls (mw md mc S) H → va_D A (mw md mc S) → va_S A s.heap H locs → lv_has ls 10 [(0, .ref (md 100))] → W p l e ({ frames := 4, cells := 0, slots := 0, locals := 104 }) s m args below meth c H locs 0 0 Q (F0 m 34 ls []) := by
  intro H locs ls hP hD hS hl
  obtain ⟨hx, hb, hr, hml, hown, hts, hK, hA⟩ := id hC
  unfold m_rsplice_J34 at Heq
  refine lv_aload_n hx hb d_rsplice_34 rfl (lv_at hl 0 rfl) ?_
  refine lv_iconst (v := 1) hx hb d_rsplice_35 (by decide) ?_
  obtain ⟨o_1, h_2, Heq⟩ := ob_some Heq
  have hFc := fr_all hD hS hA
  refine va_calli (va_runV (As := [.int 1]) (rest := []) ⟨hx, hb, hml, hown, hts⟩ (g_rno l D H.size h_2) (cw_v 1 hts kw_1626 kw_1623 kw_1625 kp_29 kw_11 rfl rfl (by decide +kernel) ⟨Nat.le_of_ble_eq_true rfl, Nat.le_of_ble_eq_true rfl⟩) ⟨g_blind, va_recv hK hP (ci := 12) (q0 := 0) rfl rfl, fun U hU hW => g_pre hU hW hP hK hD⟩ rfl rfl hl.1 rfl (lv_room (Nat.le_of_ble_eq_true rfl)) d_rsplice_36 ⟨Nat.le_of_ble_eq_true rfl, Nat.le_of_ble_eq_true rfl⟩) hS (fun q _ h => hFc q h) hFc (fun rz u t H1 locs ht hvm hw hB hz1 hk1 hS => ?_)
  obtain ⟨hP, -, hD1⟩ := hB
  rw [ht] at hP
  have hD := hD1.weaken (fun _ q _ h => hFc q.1 h)
  generalize H1 = H at hP hS ⊢
  refine W.cs (cells' := 0) (slots' := 0) rfl rfl ?_
  subst hw
  exact Kr _ (Option.some.inj Heq).symm 39 _ _ _ d_rsplice_39 hP hD hS
def m_rsplice_J62 (S : MS) : Option (MS × Int32) := ob (m_rno S 1) (fun o_1 => some (o_1.1, o_1.2))
theorem d_rsplice_13 : decode prog_14_method_34_code 13 = .ok (.iload 4, 2) := by decide +kernel
theorem d_rsplice_15 : decode prog_14_method_34_code 15 = .ok (.ifCond .lt 19, 3) := by decide +kernel
theorem d_rsplice_18 : decode prog_14_method_34_code 18 = .ok (.iload 5, 2) := by decide +kernel
theorem d_rsplice_20 : decode prog_14_method_34_code 20 = .ok (.iconst 1, 1) := by decide +kernel
theorem d_rsplice_21 : decode prog_14_method_34_code 21 = .ok (.if_icmp .ne 13, 3) := by decide +kernel
theorem d_rsplice_24 : decode prog_14_method_34_code 24 = .ok (.aload_n 0, 1) := by decide +kernel
theorem d_rsplice_25 : decode prog_14_method_34_code 25 = .ok (.getfield 185, 3) := by decide +kernel
theorem d_rsplice_28 : decode prog_14_method_34_code 28 = .ok (.sipush 1024, 3) := by decide +kernel
theorem d_rsplice_31 : decode prog_14_method_34_code 31 = .ok (.if_icmp .le 9, 3) := by decide +kernel
theorem d_rsplice_40 : decode prog_14_method_34_code 40 = .ok (.aload_n 0, 1) := by decide +kernel
theorem d_rsplice_41 : decode prog_14_method_34_code 41 = .ok (.iload_n 1, 1) := by decide +kernel
theorem d_rsplice_42 : decode prog_14_method_34_code 42 = .ok (.iload_n 2, 1) := by decide +kernel
theorem d_rsplice_43 : decode prog_14_method_34_code 43 = .ok (.invokevirtual 258, 3) := by decide +kernel
theorem d_rsplice_46 : decode prog_14_method_34_code 46 = .ok (.istore 6, 2) := by decide +kernel
theorem d_rsplice_48 : decode prog_14_method_34_code 48 = .ok (.iload 6, 2) := by decide +kernel
theorem d_rsplice_50 : decode prog_14_method_34_code 50 = .ok (.bipush 6, 2) := by decide +kernel
theorem d_rsplice_52 : decode prog_14_method_34_code 52 = .ok (.if_icmp .eq 10, 3) := by decide +kernel
theorem d_rsplice_62 : decode prog_14_method_34_code 62 = .ok (.aload_n 0, 1) := by decide +kernel
theorem d_rsplice_63 : decode prog_14_method_34_code 63 = .ok (.iconst 1, 1) := by decide +kernel
theorem d_rsplice_64 : decode prog_14_method_34_code 64 = .ok (.invokevirtual 191, 3) := by decide +kernel
theorem d_rsplice_67 : decode prog_14_method_34_code 67 = .ok (.ireturn, 1) := by decide +kernel
set_option maxHeartbeats 4000000 in
set_option maxRecDepth 100000 in
theorem w_rsplice_J62 {p : Program} {l : Launch} {e : Env} {s : State} {m : MethodId} {args : Array Value} {below : List Frame} {meth : Method} {c : Code} {A : Nat → Prop} {D : va_G} {md : Nat → Nat} {mc : Nat → ClassId} {Q : State → Prop} (hC : MCx "JoinedTreesModel" prog_14_method_34_code 10 (some .int) p s m args meth c A D mc) {S : MS} {o : MS × Int32} (Heq : m_rsplice_J62 S = some o) (Kr : ∀ r : MS × Int32, o = r → ∀ (pc : Nat) (H : Heap) (locs : List Loc) (ls : Array Slot), decode prog_14_method_34_code pc = .ok (.ireturn, 1) → va_P D cls (mw md mc r.1) H → va_D A (mw md mc r.1) → va_S A s.heap H locs → W p l e ({ frames := 4, cells := 0, slots := 0, locals := 104 }) s m args below meth c H locs 0 0 Q (F0 m pc ls [.int r.2])) : ∀ (H : Heap) (locs : List Loc) (ls : Array Slot), va_P D cls (mw md mc S) H → va_D A (mw md mc S) → va_S A s.heap H locs → lv_has ls 10 [(0, .ref (md 100))] → W p l e ({ frames := 4, cells := 0, slots := 0, locals := 104 }) s m args below meth c H locs 0 0 Q (F0 m 62 ls []) := by
  intro H locs ls hP hD hS hl
  obtain ⟨hx, hb, hr, hml, hown, hts, hK, hA⟩ := id hC
  unfold m_rsplice_J62 at Heq
  refine lv_aload_n hx hb d_rsplice_62 rfl (lv_at hl 0 rfl) ?_
  refine lv_iconst (v := 1) hx hb d_rsplice_63 (by decide) ?_
  obtain ⟨o_1, h_2, Heq⟩ := ob_some Heq
  have hFc := fr_all hD hS hA
  refine va_calli (va_runV (As := [.int 1]) (rest := []) ⟨hx, hb, hml, hown, hts⟩ (g_rno l D H.size h_2) (cw_v 1 hts kw_1626 kw_1623 kw_1625 kp_29 kw_11 rfl rfl (by decide +kernel) ⟨Nat.le_of_ble_eq_true rfl, Nat.le_of_ble_eq_true rfl⟩) ⟨g_blind, va_recv hK hP (ci := 12) (q0 := 0) rfl rfl, fun U hU hW => g_pre hU hW hP hK hD⟩ rfl rfl hl.1 rfl (lv_room (Nat.le_of_ble_eq_true rfl)) d_rsplice_64 ⟨Nat.le_of_ble_eq_true rfl, Nat.le_of_ble_eq_true rfl⟩) hS (fun q _ h => hFc q h) hFc (fun rz u t H1 locs ht hvm hw hB hz1 hk1 hS => ?_)
  obtain ⟨hP, -, hD1⟩ := hB
  rw [ht] at hP
  have hD := hD1.weaken (fun _ q _ h => hFc q.1 h)
  generalize H1 = H at hP hS ⊢
  refine W.cs (cells' := 0) (slots' := 0) rfl rfl ?_
  subst hw
  exact Kr _ (Option.some.inj Heq).symm 67 _ _ _ d_rsplice_67 hP hD hS
def m_rsplice_J94 (S : MS) : Option (MS × Int32) := ob (m_rno S 3) (fun o_1 => some (o_1.1, o_1.2))
theorem d_rsplice_55 : decode prog_14_method_34_code 55 = .ok (.iload 6, 2) := by decide +kernel
theorem d_rsplice_57 : decode prog_14_method_34_code 57 = .ok (.bipush 7, 2) := by decide +kernel
theorem d_rsplice_59 : decode prog_14_method_34_code 59 = .ok (.if_icmp .ne 9, 3) := by decide +kernel
theorem d_rsplice_68 : decode prog_14_method_34_code 68 = .ok (.iload 6, 2) := by decide +kernel
theorem d_rsplice_70 : decode prog_14_method_34_code 70 = .ok (.ifCond .lt 24, 3) := by decide +kernel
theorem d_rsplice_94 : decode prog_14_method_34_code 94 = .ok (.aload_n 0, 1) := by decide +kernel
theorem d_rsplice_95 : decode prog_14_method_34_code 95 = .ok (.iconst 3, 1) := by decide +kernel
theorem d_rsplice_96 : decode prog_14_method_34_code 96 = .ok (.invokevirtual 191, 3) := by decide +kernel
theorem d_rsplice_99 : decode prog_14_method_34_code 99 = .ok (.ireturn, 1) := by decide +kernel
set_option maxHeartbeats 4000000 in
set_option maxRecDepth 100000 in
theorem w_rsplice_J94 {p : Program} {l : Launch} {e : Env} {s : State} {m : MethodId} {args : Array Value} {below : List Frame} {meth : Method} {c : Code} {A : Nat → Prop} {D : va_G} {md : Nat → Nat} {mc : Nat → ClassId} {Q : State → Prop} (hC : MCx "JoinedTreesModel" prog_14_method_34_code 10 (some .int) p s m args meth c A D mc) {S : MS} {o : MS × Int32} (Heq : m_rsplice_J94 S = some o) (Kr : ∀ r : MS × Int32, o = r → ∀ (pc : Nat) (H : Heap) (locs : List Loc) (ls : Array Slot), decode prog_14_method_34_code pc = .ok (.ireturn, 1) → va_P D cls (mw md mc r.1) H → va_D A (mw md mc r.1) → va_S A s.heap H locs → W p l e ({ frames := 4, cells := 0, slots := 0, locals := 104 }) s m args below meth c H locs 0 0 Q (F0 m pc ls [.int r.2])) : ∀ (H : Heap) (locs : List Loc) (ls : Array Slot), va_P D cls (mw md mc S) H → va_D A (mw md mc S) → va_S A s.heap H locs → lv_has ls 10 [(0, .ref (md 100))] → W p l e ({ frames := 4, cells := 0, slots := 0, locals := 104 }) s m args below meth c H locs 0 0 Q (F0 m 94 ls []) := by
  intro H locs ls hP hD hS hl
  obtain ⟨hx, hb, hr, hml, hown, hts, hK, hA⟩ := id hC
  unfold m_rsplice_J94 at Heq
  refine lv_aload_n hx hb d_rsplice_94 rfl (lv_at hl 0 rfl) ?_
  refine lv_iconst (v := 3) hx hb d_rsplice_95 (by decide) ?_
  obtain ⟨o_1, h_2, Heq⟩ := ob_some Heq
  have hFc := fr_all hD hS hA
  refine va_calli (va_runV (As := [.int 3]) (rest := []) ⟨hx, hb, hml, hown, hts⟩ (g_rno l D H.size h_2) (cw_v 1 hts kw_1626 kw_1623 kw_1625 kp_29 kw_11 rfl rfl (by decide +kernel) ⟨Nat.le_of_ble_eq_true rfl, Nat.le_of_ble_eq_true rfl⟩) ⟨g_blind, va_recv hK hP (ci := 12) (q0 := 0) rfl rfl, fun U hU hW => g_pre hU hW hP hK hD⟩ rfl rfl hl.1 rfl (lv_room (Nat.le_of_ble_eq_true rfl)) d_rsplice_96 ⟨Nat.le_of_ble_eq_true rfl, Nat.le_of_ble_eq_true rfl⟩) hS (fun q _ h => hFc q h) hFc (fun rz u t H1 locs ht hvm hw hB hz1 hk1 hS => ?_)
  obtain ⟨hP, -, hD1⟩ := hB
  rw [ht] at hP
  have hD := hD1.weaken (fun _ q _ h => hFc q.1 h)
  generalize H1 = H at hP hS ⊢
  refine W.cs (cells' := 0) (slots' := 0) rfl rfl ?_
  subst hw
  exact Kr _ (Option.some.inj Heq).symm 99 _ _ _ d_rsplice_99 hP hD hS
def m_rsplice_B147 (S : MS) (x1 : Int32) (x2 : Int32) (x3 : Int32) (x4 : Int32) (x7 : Int32) : Option ((MS × Int32 × Int32 × Int32 × Int32 × Int32) ⊕ (MS × Int32 × Int32 × Int32)) := (if x4 ≤ x7 then some (.inr (S, x1, x2, x3)) else ob (m_rat S x1 x2 x3) (fun o_2 => gd o_2.2 4000 (gd (o_2.1.a 48 o_2.2.toNatClampNeg) 4000 (ob (m_relementCandidates o_2.1 x1 x2 (o_2.1.a 8 ((o_2.1.a 48 o_2.2.toNatClampNeg).toNatClampNeg))) (fun o_6 => ob (m_rmake o_6 x1 x2 9 0) (fun o_8 => gd o_8.2 4000 (ob (m_rfollows (o_8.1.setA 10 (upd (o_8.1.a 10) o_8.2.toNatClampNeg (o_2.1.a 8 ((o_2.1.a 48 o_2.2.toNatClampNeg).toNatClampNeg)))) o_8.2 0) (fun o_11 => some (.inl (o_11, x1, x2, x3, x4, (x7 + 1)))))))))))
theorem d_rsplice_73 : decode prog_14_method_34_code 73 = .ok (.iload_n 3, 1) := by decide +kernel
theorem d_rsplice_74 : decode prog_14_method_34_code 74 = .ok (.ifCond .lt 20, 3) := by decide +kernel
theorem d_rsplice_77 : decode prog_14_method_34_code 77 = .ok (.iload_n 3, 1) := by decide +kernel
theorem d_rsplice_78 : decode prog_14_method_34_code 78 = .ok (.i2l, 1) := by decide +kernel
theorem d_rsplice_79 : decode prog_14_method_34_code 79 = .ok (.iload 4, 2) := by decide +kernel
theorem d_rsplice_81 : decode prog_14_method_34_code 81 = .ok (.i2l, 1) := by decide +kernel
theorem d_rsplice_82 : decode prog_14_method_34_code 82 = .ok (.ladd, 1) := by decide +kernel
theorem d_rsplice_83 : decode prog_14_method_34_code 83 = .ok (.aload_n 0, 1) := by decide +kernel
theorem d_rsplice_84 : decode prog_14_method_34_code 84 = .ok (.iload_n 1, 1) := by decide +kernel
theorem d_rsplice_85 : decode prog_14_method_34_code 85 = .ok (.iload_n 2, 1) := by decide +kernel
theorem d_rsplice_86 : decode prog_14_method_34_code 86 = .ok (.invokevirtual 295, 3) := by decide +kernel
theorem d_rsplice_89 : decode prog_14_method_34_code 89 = .ok (.i2l, 1) := by decide +kernel
theorem d_rsplice_90 : decode prog_14_method_34_code 90 = .ok (.lcmp, 1) := by decide +kernel
theorem d_rsplice_91 : decode prog_14_method_34_code 91 = .ok (.ifCond .le 9, 3) := by decide +kernel
theorem d_rsplice_100 : decode prog_14_method_34_code 100 = .ok (.aload_n 0, 1) := by decide +kernel
theorem d_rsplice_101 : decode prog_14_method_34_code 101 = .ok (.getfield 104, 3) := by decide +kernel
theorem d_rsplice_104 : decode prog_14_method_34_code 104 = .ok (.iload_n 1, 1) := by decide +kernel
theorem d_rsplice_105 : decode prog_14_method_34_code 105 = .ok (.iaload, 1) := by decide +kernel
theorem d_rsplice_106 : decode prog_14_method_34_code 106 = .ok (.ifCond .lt 9, 3) := by decide +kernel
theorem d_rsplice_115 : decode prog_14_method_34_code 115 = .ok (.aload_n 0, 1) := by decide +kernel
theorem d_rsplice_116 : decode prog_14_method_34_code 116 = .ok (.iload 4, 2) := by decide +kernel
theorem d_rsplice_118 : decode prog_14_method_34_code 118 = .ok (.aload_n 0, 1) := by decide +kernel
theorem d_rsplice_119 : decode prog_14_method_34_code 119 = .ok (.getfield 185, 3) := by decide +kernel
theorem d_rsplice_122 : decode prog_14_method_34_code 122 = .ok (.iadd, 1) := by decide +kernel
theorem d_rsplice_123 : decode prog_14_method_34_code 123 = .ok (.aload_n 0, 1) := by decide +kernel
theorem d_rsplice_124 : decode prog_14_method_34_code 124 = .ok (.getfield 185, 3) := by decide +kernel
theorem d_rsplice_127 : decode prog_14_method_34_code 127 = .ok (.invokevirtual 261, 3) := by decide +kernel
theorem d_rsplice_130 : decode prog_14_method_34_code 130 = .ok (.ifCond .eq 9, 3) := by decide +kernel
theorem d_rsplice_139 : decode prog_14_method_34_code 139 = .ok (.aload_n 0, 1) := by decide +kernel
theorem d_rsplice_140 : decode prog_14_method_34_code 140 = .ok (.iconst 0, 1) := by decide +kernel
theorem d_rsplice_141 : decode prog_14_method_34_code 141 = .ok (.putfield 176, 3) := by decide +kernel
theorem d_rsplice_144 : decode prog_14_method_34_code 144 = .ok (.iconst 0, 1) := by decide +kernel
theorem d_rsplice_145 : decode prog_14_method_34_code 145 = .ok (.istore 7, 2) := by decide +kernel
theorem d_rsplice_147 : decode prog_14_method_34_code 147 = .ok (.iload 7, 2) := by decide +kernel
theorem d_rsplice_149 : decode prog_14_method_34_code 149 = .ok (.iload 4, 2) := by decide +kernel
theorem d_rsplice_151 : decode prog_14_method_34_code 151 = .ok (.if_icmp .ge 63, 3) := by decide +kernel
theorem d_rsplice_154 : decode prog_14_method_34_code 154 = .ok (.aload_n 0, 1) := by decide +kernel
theorem d_rsplice_155 : decode prog_14_method_34_code 155 = .ok (.getfield 19, 3) := by decide +kernel
theorem d_rsplice_158 : decode prog_14_method_34_code 158 = .ok (.aload_n 0, 1) := by decide +kernel
theorem d_rsplice_159 : decode prog_14_method_34_code 159 = .ok (.getfield 124, 3) := by decide +kernel
theorem d_rsplice_162 : decode prog_14_method_34_code 162 = .ok (.aload_n 0, 1) := by decide +kernel
theorem d_rsplice_163 : decode prog_14_method_34_code 163 = .ok (.iload_n 1, 1) := by decide +kernel
theorem d_rsplice_164 : decode prog_14_method_34_code 164 = .ok (.iload_n 2, 1) := by decide +kernel
theorem d_rsplice_165 : decode prog_14_method_34_code 165 = .ok (.iload_n 3, 1) := by decide +kernel
theorem d_rsplice_166 : decode prog_14_method_34_code 166 = .ok (.invokevirtual 287, 3) := by decide +kernel
theorem d_rsplice_169 : decode prog_14_method_34_code 169 = .ok (.iaload, 1) := by decide +kernel
theorem d_rsplice_170 : decode prog_14_method_34_code 170 = .ok (.iaload, 1) := by decide +kernel
theorem d_rsplice_171 : decode prog_14_method_34_code 171 = .ok (.istore 8, 2) := by decide +kernel
theorem d_rsplice_173 : decode prog_14_method_34_code 173 = .ok (.aload_n 0, 1) := by decide +kernel
theorem d_rsplice_174 : decode prog_14_method_34_code 174 = .ok (.iload_n 1, 1) := by decide +kernel
theorem d_rsplice_175 : decode prog_14_method_34_code 175 = .ok (.iload_n 2, 1) := by decide +kernel
theorem d_rsplice_176 : decode prog_14_method_34_code 176 = .ok (.iload 8, 2) := by decide +kernel
theorem d_rsplice_178 : decode prog_14_method_34_code 178 = .ok (.invokevirtual 291, 3) := by decide +kernel
theorem d_rsplice_181 : decode prog_14_method_34_code 181 = .ok (.aload_n 0, 1) := by decide +kernel
theorem d_rsplice_182 : decode prog_14_method_34_code 182 = .ok (.iload_n 1, 1) := by decide +kernel
theorem d_rsplice_183 : decode prog_14_method_34_code 183 = .ok (.iload_n 2, 1) := by decide +kernel
theorem d_rsplice_184 : decode prog_14_method_34_code 184 = .ok (.bipush 9, 2) := by decide +kernel
theorem d_rsplice_186 : decode prog_14_method_34_code 186 = .ok (.lconst 0, 1) := by decide +kernel
theorem d_rsplice_187 : decode prog_14_method_34_code 187 = .ok (.invokevirtual 272, 3) := by decide +kernel
theorem d_rsplice_190 : decode prog_14_method_34_code 190 = .ok (.istore 9, 2) := by decide +kernel
theorem d_rsplice_192 : decode prog_14_method_34_code 192 = .ok (.aload_n 0, 1) := by decide +kernel
theorem d_rsplice_193 : decode prog_14_method_34_code 193 = .ok (.getfield 26, 3) := by decide +kernel
theorem d_rsplice_196 : decode prog_14_method_34_code 196 = .ok (.iload 9, 2) := by decide +kernel
theorem d_rsplice_198 : decode prog_14_method_34_code 198 = .ok (.iload 8, 2) := by decide +kernel
theorem d_rsplice_200 : decode prog_14_method_34_code 200 = .ok (.iastore, 1) := by decide +kernel
theorem d_rsplice_201 : decode prog_14_method_34_code 201 = .ok (.aload_n 0, 1) := by decide +kernel
theorem d_rsplice_202 : decode prog_14_method_34_code 202 = .ok (.iload 9, 2) := by decide +kernel
theorem d_rsplice_204 : decode prog_14_method_34_code 204 = .ok (.iconst 0, 1) := by decide +kernel
theorem d_rsplice_205 : decode prog_14_method_34_code 205 = .ok (.invokevirtual 276, 3) := by decide +kernel
theorem d_rsplice_208 : decode prog_14_method_34_code 208 = .ok (.iinc 7 1, 3) := by decide +kernel
theorem d_rsplice_211 : decode prog_14_method_34_code 211 = .ok (.goto (-64), 3) := by decide +kernel
set_option maxHeartbeats 4000000 in
set_option maxRecDepth 100000 in
theorem w_rsplice_B147 {p : Program} {l : Launch} {e : Env} {s : State} {m : MethodId} {args : Array Value} {below : List Frame} {meth : Method} {c : Code} {A : Nat → Prop} {D : va_G} {md : Nat → Nat} {mc : Nat → ClassId} {Q : State → Prop} (hC : MCx "JoinedTreesModel" prog_14_method_34_code 10 (some .int) p s m args meth c A D mc) {S : MS} {x1 : Int32} {x2 : Int32} {x3 : Int32} {x4 : Int32} {x7 : Int32} {o : ((MS × Int32 × Int32 × Int32 × Int32 × Int32) ⊕ (MS × Int32 × Int32 × Int32))} (Heq : m_rsplice_B147 S x1 x2 x3 x4 x7 = some o) (Ka : ∀ b : MS × Int32 × Int32 × Int32 × Int32 × Int32, o = .inl b → ∀ (H : Heap) (locs : List Loc) (ls : Array Slot), va_P D cls (mw md mc b.1) H → va_D A (mw md mc b.1) → va_S A s.heap H locs → lv_has ls 10 [(0, .ref (md 100)), (1, .int b.2.1), (2, .int b.2.2.1), (3, .int b.2.2.2.1), (4, .int b.2.2.2.2.1), (7, .int b.2.2.2.2.2)] → W p l e ({ frames := 4, cells := 0, slots := 0, locals := 104 }) s m args below meth c H locs 0 0 Q (F0 m 147 ls [])) (K0 : ∀ b : MS × Int32 × Int32 × Int32, o = .inr b → ∀ (H : Heap) (locs : List Loc) (ls : Array Slot), va_P D cls (mw md mc b.1) H → va_D A (mw md mc b.1) → va_S A s.heap H locs → lv_has ls 10 [(0, .ref (md 100)), (1, .int b.2.1), (2, .int b.2.2.1), (3, .int b.2.2.2)] → W p l e ({ frames := 4, cells := 0, slots := 0, locals := 104 }) s m args below meth c H locs 0 0 Q (F0 m 214 ls [])) : ∀ (H : Heap) (locs : List Loc) (ls : Array Slot), va_P D cls (mw md mc S) H → va_D A (mw md mc S) → va_S A s.heap H locs → lv_has ls 10 [(0, .ref (md 100)), (1, .int x1), (2, .int x2), (3, .int x3), (4, .int x4), (7, .int x7)] → W p l e ({ frames := 4, cells := 0, slots := 0, locals := 104 }) s m args below meth c H locs 0 0 Q (F0 m 147 ls []) := by
  intro H locs ls hP hD hS hl
  obtain ⟨hx, hb, hr, hml, hown, hts, hK, hA⟩ := id hC
  unfold m_rsplice_B147 at Heq
  refine lv_iload hx hb d_rsplice_147 (lv_at hl 5 rfl) ?_
  refine lv_iload hx hb d_rsplice_149 (lv_at hl 4 rfl) ?_
  refine lv_icmp_ge (tgt := 214) hx hb d_rsplice_151 (by decide) (fun c_1 => ?_) (fun c_1 => ?_)
  · replace Heq := (if_pos c_1).symm.trans Heq
    exact K0 _ (Option.some.inj Heq).symm _ _ _ hP hD hS (lv_sub hl [0, 1, 2, 3] rfl)
  · replace Heq := (if_neg c_1).symm.trans Heq
    refine lv_aload_n hx hb d_rsplice_154 rfl (lv_at hl 0 rfl) ?_
    refine va_get (D := D) (ci := 12) (v := .ref (md 8)) (C := R_MM) (T := F_MM) (N := 77) hx hb hts i_MM hown hK hP 0 rfl rfl 8 (by decide) (hts _ kw_1390) (fun _ h9 => h9) rfl d_rsplice_155 ?_
    refine lv_aload_n hx hb d_rsplice_158 rfl (lv_at hl 0 rfl) ?_
    refine va_get (D := D) (ci := 12) (v := .ref (md 48)) (C := R_MM) (T := F_MM) (N := 77) hx hb hts i_MM hown hK hP 0 rfl rfl 48 (by decide) (hts _ kw_1430) (fun _ h9 => h9) rfl d_rsplice_159 ?_
    refine lv_aload_n hx hb d_rsplice_162 rfl (lv_at hl 0 rfl) ?_
    refine lv_iload_n hx hb d_rsplice_163 rfl (lv_at hl 1 rfl) ?_
    refine lv_iload_n hx hb d_rsplice_164 rfl (lv_at hl 2 rfl) ?_
    refine lv_iload_n hx hb d_rsplice_165 rfl (lv_at hl 3 rfl) ?_
    obtain ⟨o_2, h_3, Heq⟩ := ob_some Heq
    have hFc := fr_all hD hS hA
    refine va_calli (va_runV (As := [.int x1, .int x2, .int x3]) (rest := [.ref (md 48), .ref (md 8)]) ⟨hx, hb, hml, hown, hts⟩ (g_rat l D H.size h_3) (cw_v 3 hts kw_1713 kw_1710 kw_1712 kp_46 kw_11 rfl rfl (by decide +kernel) ⟨Nat.le_of_ble_eq_true rfl, Nat.le_of_ble_eq_true rfl⟩) ⟨g_blind, va_recv hK hP (ci := 12) (q0 := 0) rfl rfl, fun U hU hW => g_pre hU hW hP hK hD⟩ rfl rfl hl.1 rfl (lv_room (Nat.le_of_ble_eq_true rfl)) d_rsplice_166 ⟨Nat.le_of_ble_eq_true rfl, Nat.le_of_ble_eq_true rfl⟩) hS (fun q _ h => hFc q h) hFc (fun rz u t H1 locs ht hvm hw hB hz1 hk1 hS => ?_)
    obtain ⟨hP, -, hD1⟩ := hB
    rw [ht] at hP
    have hD := hD1.weaken (fun _ q _ h => hFc q.1 h)
    generalize H1 = H at hP hS ⊢
    refine W.cs (cells' := 0) (slots' := 0) rfl rfl ?_
    subst hw
    obtain ⟨hi_4, Heq⟩ := gd_some Heq
    refine va_iald hx hb hK hP 32 0 rfl rfl (i := o_2.2) hi_4 d_rsplice_169 ?_
    refine w_i (y := o_2.1.a 48 o_2.2.toNatClampNeg) rfl ?_
    obtain ⟨hi_5, Heq⟩ := gd_some Heq
    refine va_iald hx hb hK hP 4 0 rfl rfl (i := o_2.1.a 48 o_2.2.toNatClampNeg) hi_5 d_rsplice_170 ?_
    refine w_i (y := o_2.1.a 8 ((o_2.1.a 48 o_2.2.toNatClampNeg).toNatClampNeg)) rfl ?_
    refine lv_istore (lv' := [(8, .int (o_2.1.a 8 ((o_2.1.a 48 o_2.2.toNatClampNeg).toNatClampNeg))), (0, .ref (md 100)), (1, .int x1), (2, .int x2), (3, .int x3), (4, .int x4), (7, .int x7)]) hx hb d_rsplice_171 hl (by decide) rfl (fun ls hl => ?_)
    refine lv_aload_n hx hb d_rsplice_173 rfl (lv_at hl 1 rfl) ?_
    refine lv_iload_n hx hb d_rsplice_174 rfl (lv_at hl 2 rfl) ?_
    refine lv_iload_n hx hb d_rsplice_175 rfl (lv_at hl 3 rfl) ?_
    refine lv_iload hx hb d_rsplice_176 (lv_at hl 0 rfl) ?_
    obtain ⟨o_6, h_7, Heq⟩ := ob_some Heq
    have hFc := fr_all hD hS hA
    refine va_callv (va_runV (As := [.int x1, .int x2, .int (o_2.1.a 8 ((o_2.1.a 48 o_2.2.toNatClampNeg).toNatClampNeg))]) (rest := []) ⟨hx, hb, hml, hown, hts⟩ (g_relementCandidates l D H.size h_7) (cw_v 3 hts kw_1725 kw_1722 kw_1724 kp_49 kw_11 rfl rfl (by decide +kernel) ⟨Nat.le_of_ble_eq_true rfl, Nat.le_of_ble_eq_true rfl⟩) ⟨g_blind, va_recv hK hP (ci := 12) (q0 := 0) rfl rfl, fun U hU hW => g_pre hU hW hP hK hD⟩ rfl rfl hl.1 rfl (lv_room (Nat.le_of_ble_eq_true rfl)) d_rsplice_178 ⟨Nat.le_of_ble_eq_true rfl, Nat.le_of_ble_eq_true rfl⟩) hS (fun q _ h => hFc q h) hFc (fun u t H1 locs ht hvm hw hB hz1 hk1 hS => ?_)
    obtain ⟨hP, -, hD1⟩ := hB
    rw [ht] at hP
    have hD := hD1.weaken (fun _ q _ h => hFc q.1 h)
    generalize H1 = H at hP hS ⊢
    refine W.cs (cells' := 0) (slots' := 0) rfl rfl ?_
    refine lv_aload_n hx hb d_rsplice_181 rfl (lv_at hl 1 rfl) ?_
    refine lv_iload_n hx hb d_rsplice_182 rfl (lv_at hl 2 rfl) ?_
    refine lv_iload_n hx hb d_rsplice_183 rfl (lv_at hl 3 rfl) ?_
    refine lv_bipush (v := 9) hx hb d_rsplice_184 (by decide) ?_
    refine lv_lconst (v := 0) hx hb d_rsplice_186 (by decide) ?_
    obtain ⟨o_8, h_9, Heq⟩ := ob_some Heq
    have hFc := fr_all hD hS hA
    refine va_calli (va_runV (As := [.int x1, .int x2, .int 9, .long 0]) (rest := []) ⟨hx, hb, hml, hown, hts⟩ (g_rmake l D H.size h_9) (cw_v 4 hts kw_1684 kw_1681 kw_1683 kp_40 kw_11 rfl rfl (by decide +kernel) ⟨Nat.le_of_ble_eq_true rfl, Nat.le_of_ble_eq_true rfl⟩) ⟨g_blind, va_recv hK hP (ci := 12) (q0 := 0) rfl rfl, fun U hU hW => g_pre hU hW hP hK hD⟩ rfl rfl hl.1 rfl (lv_room (Nat.le_of_ble_eq_true rfl)) d_rsplice_187 ⟨Nat.le_of_ble_eq_true rfl, Nat.le_of_ble_eq_true rfl⟩) hS (fun q _ h => hFc q h) hFc (fun rz u t H1 locs ht hvm hw hB hz1 hk1 hS => ?_)
    obtain ⟨hP, -, hD1⟩ := hB
    rw [ht] at hP
    have hD := hD1.weaken (fun _ q _ h => hFc q.1 h)
    generalize H1 = H at hP hS ⊢
    refine W.cs (cells' := 0) (slots' := 0) rfl rfl ?_
    subst hw
    refine lv_istore (lv' := [(9, .int o_8.2), (8, .int (o_2.1.a 8 ((o_2.1.a 48 o_2.2.toNatClampNeg).toNatClampNeg))), (0, .ref (md 100)), (1, .int x1), (2, .int x2), (3, .int x3), (4, .int x4), (7, .int x7)]) hx hb d_rsplice_190 hl (by decide) rfl (fun ls hl => ?_)
    refine lv_aload_n hx hb d_rsplice_192 rfl (lv_at hl 2 rfl) ?_
    refine va_get (D := D) (ci := 12) (v := .ref (md 10)) (C := R_MM) (T := F_MM) (N := 77) hx hb hts i_MM hown hK hP 0 rfl rfl 10 (by decide) (hts _ kw_1392) (fun _ h9 => h9) rfl d_rsplice_193 ?_
    refine lv_iload hx hb d_rsplice_196 (lv_at hl 0 rfl) ?_
    refine lv_iload hx hb d_rsplice_198 (lv_at hl 1 rfl) ?_
    obtain ⟨hi_10, Heq⟩ := gd_some Heq
    refine va_iast hx hb hK hP hD hS 6 0 rfl rfl (i := o_8.2) (x := o_2.1.a 8 ((o_2.1.a 48 o_2.2.toNatClampNeg).toNatClampNeg)) hi_10 d_rsplice_200 (fun H locs hP hD hS => ?_)
    rw [mw_A10] at hP hD
    refine lv_aload_n hx hb d_rsplice_201 rfl (lv_at hl 2 rfl) ?_
    refine lv_iload hx hb d_rsplice_202 (lv_at hl 0 rfl) ?_
    refine lv_iconst (v := 0) hx hb d_rsplice_204 (by decide) ?_
    obtain ⟨o_11, h_12, Heq⟩ := ob_some Heq
    have hFc := fr_all hD hS hA
    refine va_callv (va_runV (As := [.int o_8.2, .int 0]) (rest := []) ⟨hx, hb, hml, hown, hts⟩ (g_rfollows l D H.size h_12) (cw_v 2 hts kw_1697 kw_1694 kw_1696 kp_43 kw_11 rfl rfl (by decide +kernel) ⟨Nat.le_of_ble_eq_true rfl, Nat.le_of_ble_eq_true rfl⟩) ⟨g_blind, va_recv hK hP (ci := 12) (q0 := 0) rfl rfl, fun U hU hW => g_pre hU hW hP hK hD⟩ rfl rfl hl.1 rfl (lv_room (Nat.le_of_ble_eq_true rfl)) d_rsplice_205 ⟨Nat.le_of_ble_eq_true rfl, Nat.le_of_ble_eq_true rfl⟩) hS (fun q _ h => hFc q h) hFc (fun u t H1 locs ht hvm hw hB hz1 hk1 hS => ?_)
    obtain ⟨hP, -, hD1⟩ := hB
    rw [ht] at hP
    have hD := hD1.weaken (fun _ q _ h => hFc q.1 h)
    generalize H1 = H at hP hS ⊢
    refine W.cs (cells' := 0) (slots' := 0) rfl rfl ?_
    refine lv_iinc (v := x7 + 1) (lv' := [(7, .int (x7 + 1)), (9, .int o_8.2), (8, .int (o_2.1.a 8 ((o_2.1.a 48 o_2.2.toNatClampNeg).toNatClampNeg))), (0, .ref (md 100)), (1, .int x1), (2, .int x2), (3, .int x3), (4, .int x4)]) hx hb d_rsplice_208 hl (k := 7) rfl rfl (by decide) rfl (fun ls hl => ?_)
    refine lv_goto (tgt := 147) hx hb d_rsplice_211 (by decide) ?_
    exact Ka _ (Option.some.inj Heq).symm _ _ _ hP hD hS (lv_sub hl [3, 4, 5, 6, 7, 0] rfl)
def m_rsplice_L147 (S : MS) (x1 : Int32) (x2 : Int32) (x3 : Int32) (x4 : Int32) (x7 : Int32) : Option (MS × Int32 × Int32 × Int32) := lp (fun a : MS × Int32 × Int32 × Int32 × Int32 × Int32 => m_rsplice_B147 a.1 a.2.1 a.2.2.1 a.2.2.2.1 a.2.2.2.2.1 a.2.2.2.2.2) FU (S, x1, x2, x3, x4, x7)
theorem w_rsplice_L147 {p : Program} {l : Launch} {e : Env} {s : State} {m : MethodId} {args : Array Value} {below : List Frame} {meth : Method} {c : Code} {A : Nat → Prop} {D : va_G} {md : Nat → Nat} {mc : Nat → ClassId} {Q : State → Prop} (hC : MCx "JoinedTreesModel" prog_14_method_34_code 10 (some .int) p s m args meth c A D mc) {S : MS} {x1 : Int32} {x2 : Int32} {x3 : Int32} {x4 : Int32} {x7 : Int32} {o : MS × Int32 × Int32 × Int32} (Heq : m_rsplice_L147 S x1 x2 x3 x4 x7 = some o) (K0 : ∀ b : MS × Int32 × Int32 × Int32, o = b → ∀ (H : Heap) (locs : List Loc) (ls : Array Slot), va_P D cls (mw md mc b.1) H → va_D A (mw md mc b.1) → va_S A s.heap H locs → lv_has ls 10 [(0, .ref (md 100)), (1, .int b.2.1), (2, .int b.2.2.1), (3, .int b.2.2.2)] → W p l e ({ frames := 4, cells := 0, slots := 0, locals := 104 }) s m args below meth c H locs 0 0 Q (F0 m 214 ls [])) : ∀ (H : Heap) (locs : List Loc) (ls : Array Slot), va_P D cls (mw md mc S) H → va_D A (mw md mc S) → va_S A s.heap H locs → lv_has ls 10 [(0, .ref (md 100)), (1, .int x1), (2, .int x2), (3, .int x3), (4, .int x4), (7, .int x7)] → W p l e ({ frames := 4, cells := 0, slots := 0, locals := 104 }) s m args below meth c H locs 0 0 Q (F0 m 147 ls []) := by
  refine lp_w (G := fun a : MS × Int32 × Int32 × Int32 × Int32 × Int32 => ∀ (H : Heap) (locs : List Loc) (ls : Array Slot), va_P D cls (mw md mc a.1) H → va_D A (mw md mc a.1) → va_S A s.heap H locs → lv_has ls 10 [(0, .ref (md 100)), (1, .int a.2.1), (2, .int a.2.2.1), (3, .int a.2.2.2.1), (4, .int a.2.2.2.2.1), (7, .int a.2.2.2.2.2)] → W p l e ({ frames := 4, cells := 0, slots := 0, locals := 104 }) s m args below meth c H locs 0 0 Q (F0 m 147 ls [])) ?_ FU (S, x1, x2, x3, x4, x7) Heq
  intro a o1 ho Ka Ke
  exact w_rsplice_B147 hC ho (fun b h => Ka b h) (fun b h => K0 b (Ke _ h).symm)
def m_rsplice_B246 (S : MS) (x1 : Int32) (x2 : Int32) (x7 : Int32) (x8 : Int32) : Option ((MS × Int32 × Int32 × Int32 × Int32) ⊕ (MS × Int32 × Int32)) := (if S.i 5 ≤ x8 then some (.inr (S, x1, x2)) else ob (m_rinsertBehind S x1 x2 x7 4 0 2 x8 1) (fun o_2 => gd o_2.2 4000 (some (.inl (o_2.1, x1, x2, (o_2.1.a 8 o_2.2.toNatClampNeg), (x8 + 1))))))
theorem d_rsplice_214 : decode prog_14_method_34_code 214 = .ok (.iload_n 3, 1) := by decide +kernel
theorem d_rsplice_215 : decode prog_14_method_34_code 215 = .ok (.ifCond .ne 7, 3) := by decide +kernel
theorem d_rsplice_222 : decode prog_14_method_34_code 222 = .ok (.aload_n 0, 1) := by decide +kernel
theorem d_rsplice_223 : decode prog_14_method_34_code 223 = .ok (.getfield 19, 3) := by decide +kernel
theorem d_rsplice_226 : decode prog_14_method_34_code 226 = .ok (.aload_n 0, 1) := by decide +kernel
theorem d_rsplice_227 : decode prog_14_method_34_code 227 = .ok (.getfield 124, 3) := by decide +kernel
theorem d_rsplice_230 : decode prog_14_method_34_code 230 = .ok (.aload_n 0, 1) := by decide +kernel
theorem d_rsplice_231 : decode prog_14_method_34_code 231 = .ok (.iload_n 1, 1) := by decide +kernel
theorem d_rsplice_232 : decode prog_14_method_34_code 232 = .ok (.iload_n 2, 1) := by decide +kernel
theorem d_rsplice_233 : decode prog_14_method_34_code 233 = .ok (.iload_n 3, 1) := by decide +kernel
theorem d_rsplice_234 : decode prog_14_method_34_code 234 = .ok (.iconst 1, 1) := by decide +kernel
theorem d_rsplice_235 : decode prog_14_method_34_code 235 = .ok (.isub, 1) := by decide +kernel
theorem d_rsplice_236 : decode prog_14_method_34_code 236 = .ok (.invokevirtual 287, 3) := by decide +kernel
theorem d_rsplice_239 : decode prog_14_method_34_code 239 = .ok (.iaload, 1) := by decide +kernel
theorem d_rsplice_240 : decode prog_14_method_34_code 240 = .ok (.iaload, 1) := by decide +kernel
theorem d_rsplice_241 : decode prog_14_method_34_code 241 = .ok (.istore 7, 2) := by decide +kernel
theorem d_rsplice_243 : decode prog_14_method_34_code 243 = .ok (.iconst 0, 1) := by decide +kernel
theorem d_rsplice_244 : decode prog_14_method_34_code 244 = .ok (.istore 8, 2) := by decide +kernel
theorem d_rsplice_246 : decode prog_14_method_34_code 246 = .ok (.iload 8, 2) := by decide +kernel
theorem d_rsplice_248 : decode prog_14_method_34_code 248 = .ok (.aload_n 0, 1) := by decide +kernel
theorem d_rsplice_249 : decode prog_14_method_34_code 249 = .ok (.getfield 185, 3) := by decide +kernel
theorem d_rsplice_252 : decode prog_14_method_34_code 252 = .ok (.if_icmp .ge 33, 3) := by decide +kernel
theorem d_rsplice_255 : decode prog_14_method_34_code 255 = .ok (.aload_n 0, 1) := by decide +kernel
theorem d_rsplice_256 : decode prog_14_method_34_code 256 = .ok (.getfield 19, 3) := by decide +kernel
theorem d_rsplice_259 : decode prog_14_method_34_code 259 = .ok (.aload_n 0, 1) := by decide +kernel
theorem d_rsplice_260 : decode prog_14_method_34_code 260 = .ok (.iload_n 1, 1) := by decide +kernel
theorem d_rsplice_261 : decode prog_14_method_34_code 261 = .ok (.iload_n 2, 1) := by decide +kernel
theorem d_rsplice_262 : decode prog_14_method_34_code 262 = .ok (.iload 7, 2) := by decide +kernel
theorem d_rsplice_264 : decode prog_14_method_34_code 264 = .ok (.iconst 4, 1) := by decide +kernel
theorem d_rsplice_265 : decode prog_14_method_34_code 265 = .ok (.lconst 0, 1) := by decide +kernel
theorem d_rsplice_266 : decode prog_14_method_34_code 266 = .ok (.aload_n 0, 1) := by decide +kernel
theorem d_rsplice_267 : decode prog_14_method_34_code 267 = .ok (.getfield 13, 3) := by decide +kernel
theorem d_rsplice_270 : decode prog_14_method_34_code 270 = .ok (.iload 8, 2) := by decide +kernel
theorem d_rsplice_272 : decode prog_14_method_34_code 272 = .ok (.iconst 1, 1) := by decide +kernel
theorem d_rsplice_273 : decode prog_14_method_34_code 273 = .ok (.invokevirtual 298, 3) := by decide +kernel
theorem d_rsplice_276 : decode prog_14_method_34_code 276 = .ok (.iaload, 1) := by decide +kernel
theorem d_rsplice_277 : decode prog_14_method_34_code 277 = .ok (.istore 7, 2) := by decide +kernel
theorem d_rsplice_279 : decode prog_14_method_34_code 279 = .ok (.iinc 8 1, 3) := by decide +kernel
theorem d_rsplice_282 : decode prog_14_method_34_code 282 = .ok (.goto (-36), 3) := by decide +kernel
set_option maxHeartbeats 4000000 in
set_option maxRecDepth 100000 in
theorem w_rsplice_B246 {p : Program} {l : Launch} {e : Env} {s : State} {m : MethodId} {args : Array Value} {below : List Frame} {meth : Method} {c : Code} {A : Nat → Prop} {D : va_G} {md : Nat → Nat} {mc : Nat → ClassId} {Q : State → Prop} (hC : MCx "JoinedTreesModel" prog_14_method_34_code 10 (some .int) p s m args meth c A D mc) {S : MS} {x1 : Int32} {x2 : Int32} {x7 : Int32} {x8 : Int32} {o : ((MS × Int32 × Int32 × Int32 × Int32) ⊕ (MS × Int32 × Int32))} (Heq : m_rsplice_B246 S x1 x2 x7 x8 = some o) (Ka : ∀ b : MS × Int32 × Int32 × Int32 × Int32, o = .inl b → ∀ (H : Heap) (locs : List Loc) (ls : Array Slot), va_P D cls (mw md mc b.1) H → va_D A (mw md mc b.1) → va_S A s.heap H locs → lv_has ls 10 [(0, .ref (md 100)), (1, .int b.2.1), (2, .int b.2.2.1), (7, .int b.2.2.2.1), (8, .int b.2.2.2.2)] → W p l e ({ frames := 4, cells := 0, slots := 0, locals := 104 }) s m args below meth c H locs 0 0 Q (F0 m 246 ls [])) (K0 : ∀ b : MS × Int32 × Int32, o = .inr b → ∀ (H : Heap) (locs : List Loc) (ls : Array Slot), va_P D cls (mw md mc b.1) H → va_D A (mw md mc b.1) → va_S A s.heap H locs → lv_has ls 10 [(0, .ref (md 100)), (1, .int b.2.1), (2, .int b.2.2)] → W p l e ({ frames := 4, cells := 0, slots := 0, locals := 104 }) s m args below meth c H locs 0 0 Q (F0 m 285 ls [])) : ∀ (H : Heap) (locs : List Loc) (ls : Array Slot), va_P D cls (mw md mc S) H → va_D A (mw md mc S) → va_S A s.heap H locs → lv_has ls 10 [(0, .ref (md 100)), (1, .int x1), (2, .int x2), (7, .int x7), (8, .int x8)] → W p l e ({ frames := 4, cells := 0, slots := 0, locals := 104 }) s m args below meth c H locs 0 0 Q (F0 m 246 ls []) := by
  intro H locs ls hP hD hS hl
  obtain ⟨hx, hb, hr, hml, hown, hts, hK, hA⟩ := id hC
  unfold m_rsplice_B246 at Heq
  refine lv_iload hx hb d_rsplice_246 (lv_at hl 4 rfl) ?_
  refine lv_aload_n hx hb d_rsplice_248 rfl (lv_at hl 0 rfl) ?_
  refine va_get (D := D) (ci := 12) (v := .int (S.i 5)) (C := R_MM) (T := F_MM) (N := 77) hx hb hts i_MM hown hK hP 0 rfl rfl 5 (by decide) (hts _ kw_1387) (fun _ h9 => h9) rfl d_rsplice_249 ?_
  refine lv_icmp_ge (tgt := 285) hx hb d_rsplice_252 (by decide) (fun c_1 => ?_) (fun c_1 => ?_)
  · replace Heq := (if_pos c_1).symm.trans Heq
    exact K0 _ (Option.some.inj Heq).symm _ _ _ hP hD hS (lv_sub hl [0, 1, 2] rfl)
  · replace Heq := (if_neg c_1).symm.trans Heq
    refine lv_aload_n hx hb d_rsplice_255 rfl (lv_at hl 0 rfl) ?_
    refine va_get (D := D) (ci := 12) (v := .ref (md 8)) (C := R_MM) (T := F_MM) (N := 77) hx hb hts i_MM hown hK hP 0 rfl rfl 8 (by decide) (hts _ kw_1390) (fun _ h9 => h9) rfl d_rsplice_256 ?_
    refine lv_aload_n hx hb d_rsplice_259 rfl (lv_at hl 0 rfl) ?_
    refine lv_iload_n hx hb d_rsplice_260 rfl (lv_at hl 1 rfl) ?_
    refine lv_iload_n hx hb d_rsplice_261 rfl (lv_at hl 2 rfl) ?_
    refine lv_iload hx hb d_rsplice_262 (lv_at hl 3 rfl) ?_
    refine lv_iconst (v := 4) hx hb d_rsplice_264 (by decide) ?_
    refine lv_lconst (v := 0) hx hb d_rsplice_265 (by decide) ?_
    refine lv_aload_n hx hb d_rsplice_266 rfl (lv_at hl 0 rfl) ?_
    refine va_get (D := D) (ci := 12) (v := .ref (md 2)) (C := R_MM) (T := F_MM) (N := 77) hx hb hts i_MM hown hK hP 0 rfl rfl 2 (by decide) (hts _ kw_1384) (fun _ h9 => h9) rfl d_rsplice_267 ?_
    refine lv_iload hx hb d_rsplice_270 (lv_at hl 4 rfl) ?_
    refine lv_iconst (v := 1) hx hb d_rsplice_272 (by decide) ?_
    obtain ⟨o_2, h_3, Heq⟩ := ob_some Heq
    have hFc := fr_all hD hS hA
    refine va_calli (va_runV (As := [.int x1, .int x2, .int x7, .int 4, .long 0, .ref (md 2), .int x8, .int 1]) (rest := [.ref (md 8)]) ⟨hx, hb, hml, hown, hts⟩ (g_rinsertBehind l D H.size h_3) (cw_v 8 hts kw_1737 kw_1734 kw_1736 kp_51 kw_11 rfl rfl (by decide +kernel) ⟨Nat.le_of_ble_eq_true rfl, Nat.le_of_ble_eq_true rfl⟩) ⟨g_blind, va_recv hK hP (ci := 12) (q0 := 0) rfl rfl, fun U hU hW => g_pre hU hW hP hK hD⟩ rfl rfl hl.1 rfl (lv_room (Nat.le_of_ble_eq_true rfl)) d_rsplice_273 ⟨Nat.le_of_ble_eq_true rfl, Nat.le_of_ble_eq_true rfl⟩) hS (fun q _ h => hFc q h) hFc (fun rz u t H1 locs ht hvm hw hB hz1 hk1 hS => ?_)
    obtain ⟨hP, -, hD1⟩ := hB
    rw [ht] at hP
    have hD := hD1.weaken (fun _ q _ h => hFc q.1 h)
    generalize H1 = H at hP hS ⊢
    refine W.cs (cells' := 0) (slots' := 0) rfl rfl ?_
    subst hw
    obtain ⟨hi_4, Heq⟩ := gd_some Heq
    refine va_iald hx hb hK hP 4 0 rfl rfl (i := o_2.2) hi_4 d_rsplice_276 ?_
    refine w_i (y := o_2.1.a 8 o_2.2.toNatClampNeg) rfl ?_
    refine lv_istore (lv' := [(7, .int (o_2.1.a 8 o_2.2.toNatClampNeg)), (0, .ref (md 100)), (1, .int x1), (2, .int x2), (8, .int x8)]) hx hb d_rsplice_277 hl (by decide) rfl (fun ls hl => ?_)
    refine lv_iinc (v := x8 + 1) (lv' := [(8, .int (x8 + 1)), (7, .int (o_2.1.a 8 o_2.2.toNatClampNeg)), (0, .ref (md 100)), (1, .int x1), (2, .int x2)]) hx hb d_rsplice_279 hl (k := 4) rfl rfl (by decide) rfl (fun ls hl => ?_)
    refine lv_goto (tgt := 246) hx hb d_rsplice_282 (by decide) ?_
    exact Ka _ (Option.some.inj Heq).symm _ _ _ hP hD hS (lv_sub hl [2, 3, 4, 1, 0] rfl)
def m_rsplice_L246 (S : MS) (x1 : Int32) (x2 : Int32) (x7 : Int32) (x8 : Int32) : Option (MS × Int32 × Int32) := lp (fun a : MS × Int32 × Int32 × Int32 × Int32 => m_rsplice_B246 a.1 a.2.1 a.2.2.1 a.2.2.2.1 a.2.2.2.2) FU (S, x1, x2, x7, x8)
theorem w_rsplice_L246 {p : Program} {l : Launch} {e : Env} {s : State} {m : MethodId} {args : Array Value} {below : List Frame} {meth : Method} {c : Code} {A : Nat → Prop} {D : va_G} {md : Nat → Nat} {mc : Nat → ClassId} {Q : State → Prop} (hC : MCx "JoinedTreesModel" prog_14_method_34_code 10 (some .int) p s m args meth c A D mc) {S : MS} {x1 : Int32} {x2 : Int32} {x7 : Int32} {x8 : Int32} {o : MS × Int32 × Int32} (Heq : m_rsplice_L246 S x1 x2 x7 x8 = some o) (K0 : ∀ b : MS × Int32 × Int32, o = b → ∀ (H : Heap) (locs : List Loc) (ls : Array Slot), va_P D cls (mw md mc b.1) H → va_D A (mw md mc b.1) → va_S A s.heap H locs → lv_has ls 10 [(0, .ref (md 100)), (1, .int b.2.1), (2, .int b.2.2)] → W p l e ({ frames := 4, cells := 0, slots := 0, locals := 104 }) s m args below meth c H locs 0 0 Q (F0 m 285 ls [])) : ∀ (H : Heap) (locs : List Loc) (ls : Array Slot), va_P D cls (mw md mc S) H → va_D A (mw md mc S) → va_S A s.heap H locs → lv_has ls 10 [(0, .ref (md 100)), (1, .int x1), (2, .int x2), (7, .int x7), (8, .int x8)] → W p l e ({ frames := 4, cells := 0, slots := 0, locals := 104 }) s m args below meth c H locs 0 0 Q (F0 m 246 ls []) := by
  refine lp_w (G := fun a : MS × Int32 × Int32 × Int32 × Int32 => ∀ (H : Heap) (locs : List Loc) (ls : Array Slot), va_P D cls (mw md mc a.1) H → va_D A (mw md mc a.1) → va_S A s.heap H locs → lv_has ls 10 [(0, .ref (md 100)), (1, .int a.2.1), (2, .int a.2.2.1), (7, .int a.2.2.2.1), (8, .int a.2.2.2.2)] → W p l e ({ frames := 4, cells := 0, slots := 0, locals := 104 }) s m args below meth c H locs 0 0 Q (F0 m 246 ls [])) ?_ FU (S, x1, x2, x7, x8) Heq
  intro a o1 ho Ka Ke
  exact w_rsplice_B246 hC ho (fun b h => Ka b h) (fun b h => K0 b (Ke _ h).symm)
def m_rsplice_J241 (S : MS) (x1 : Int32) (x2 : Int32) (t0 : Int32) : Option (MS × Int32) := ob (m_rsplice_L246 S x1 x2 t0 0) (fun b_1 => ob (m_rindices b_1.1 b_1.2.1 b_1.2.2) (fun o_3 => some (o_3.1, o_3.2)))
theorem d_rsplice_285 : decode prog_14_method_34_code 285 = .ok (.aload_n 0, 1) := by decide +kernel
theorem d_rsplice_286 : decode prog_14_method_34_code 286 = .ok (.iload_n 1, 1) := by decide +kernel
theorem d_rsplice_287 : decode prog_14_method_34_code 287 = .ok (.iload_n 2, 1) := by decide +kernel
theorem d_rsplice_288 : decode prog_14_method_34_code 288 = .ok (.invokevirtual 295, 3) := by decide +kernel
theorem d_rsplice_291 : decode prog_14_method_34_code 291 = .ok (.ireturn, 1) := by decide +kernel
set_option maxHeartbeats 4000000 in
set_option maxRecDepth 100000 in
theorem w_rsplice_J241 {p : Program} {l : Launch} {e : Env} {s : State} {m : MethodId} {args : Array Value} {below : List Frame} {meth : Method} {c : Code} {A : Nat → Prop} {D : va_G} {md : Nat → Nat} {mc : Nat → ClassId} {Q : State → Prop} (hC : MCx "JoinedTreesModel" prog_14_method_34_code 10 (some .int) p s m args meth c A D mc) {S : MS} {x1 : Int32} {x2 : Int32} {t0 : Int32} {o : MS × Int32} (Heq : m_rsplice_J241 S x1 x2 t0 = some o) (Kr : ∀ r : MS × Int32, o = r → ∀ (pc : Nat) (H : Heap) (locs : List Loc) (ls : Array Slot), decode prog_14_method_34_code pc = .ok (.ireturn, 1) → va_P D cls (mw md mc r.1) H → va_D A (mw md mc r.1) → va_S A s.heap H locs → W p l e ({ frames := 4, cells := 0, slots := 0, locals := 104 }) s m args below meth c H locs 0 0 Q (F0 m pc ls [.int r.2])) : ∀ (H : Heap) (locs : List Loc) (ls : Array Slot), va_P D cls (mw md mc S) H → va_D A (mw md mc S) → va_S A s.heap H locs → lv_has ls 10 [(0, .ref (md 100)), (1, .int x1), (2, .int x2)] → W p l e ({ frames := 4, cells := 0, slots := 0, locals := 104 }) s m args below meth c H locs 0 0 Q (F0 m 241 ls [.int t0]) := by
  intro H locs ls hP hD hS hl
  obtain ⟨hx, hb, hr, hml, hown, hts, hK, hA⟩ := id hC
  unfold m_rsplice_J241 at Heq
  refine lv_istore (lv' := [(7, .int t0), (0, .ref (md 100)), (1, .int x1), (2, .int x2)]) hx hb d_rsplice_241 hl (by decide) rfl (fun ls hl => ?_)
  refine lv_iconst (v := 0) hx hb d_rsplice_243 (by decide) ?_
  refine lv_istore (lv' := [(8, .int 0), (7, .int t0), (0, .ref (md 100)), (1, .int x1), (2, .int x2)]) hx hb d_rsplice_244 hl (by decide) rfl (fun ls hl => ?_)
  obtain ⟨b_1, h_2, Heq⟩ := ob_some Heq
  refine w_rsplice_L246 hC h_2 (fun b h => ?_) _ _ _ hP hD hS (lv_sub hl [2, 3, 4, 1, 0] rfl)
  subst h
  intro H locs ls hP hD hS hl
  refine lv_aload_n hx hb d_rsplice_285 rfl (lv_at hl 0 rfl) ?_
  refine lv_iload_n hx hb d_rsplice_286 rfl (lv_at hl 1 rfl) ?_
  refine lv_iload_n hx hb d_rsplice_287 rfl (lv_at hl 2 rfl) ?_
  obtain ⟨o_3, h_4, Heq⟩ := ob_some Heq
  have hFc := fr_all hD hS hA
  refine va_calli (va_runV (As := [.int b_1.2.1, .int b_1.2.2]) (rest := []) ⟨hx, hb, hml, hown, hts⟩ (g_rindices l D H.size h_4) (cw_v 2 hts kw_1733 kw_1730 kw_1732 kp_50 kw_11 rfl rfl (by decide +kernel) ⟨Nat.le_of_ble_eq_true rfl, Nat.le_of_ble_eq_true rfl⟩) ⟨g_blind, va_recv hK hP (ci := 12) (q0 := 0) rfl rfl, fun U hU hW => g_pre hU hW hP hK hD⟩ rfl rfl hl.1 rfl (lv_room (Nat.le_of_ble_eq_true rfl)) d_rsplice_288 ⟨Nat.le_of_ble_eq_true rfl, Nat.le_of_ble_eq_true rfl⟩) hS (fun q _ h => hFc q h) hFc (fun rz u t H1 locs ht hvm hw hB hz1 hk1 hS => ?_)
  obtain ⟨hP, -, hD1⟩ := hB
  rw [ht] at hP
  have hD := hD1.weaken (fun _ q _ h => hFc q.1 h)
  generalize H1 = H at hP hS ⊢
  refine W.cs (cells' := 0) (slots' := 0) rfl rfl ?_
  subst hw
  exact Kr _ (Option.some.inj Heq).symm 291 _ _ _ d_rsplice_291 hP hD hS
def m_rsplice_J0 (S : MS) (x1 : Int32) (x2 : Int32) (x3 : Int32) (x4 : Int32) : Option (MS × Int32) := ob (m_rtaken S) (fun o_1 => ob (m_risReplica o_1.1 x1) (fun o_3 => (if o_3.2 = 0 then m_rsplice_J34 o_3.1 else (if x4 < 0 then m_rsplice_J34 o_3.1 else (if o_1.2 = 1 then (if o_3.1.i 5 ≤ 1024 then ob (m_rkindOf o_3.1 x1 x2) (fun o_9 => (if o_9.2 = 6 then m_rsplice_J62 o_9.1 else (if o_9.2 = 7 then m_rsplice_J62 o_9.1 else (if o_9.2 < 0 then m_rsplice_J94 o_9.1 else (if x3 < 0 then m_rsplice_J94 o_9.1 else ob (m_rindices o_9.1 x1 x2) (fun o_15 => (if lg_cmp (x3.toInt64 + x4.toInt64) o_15.2.toInt64 ≤ 0 then gd x1 8 ((if o_15.1.a 39 x1.toNatClampNeg < 0 then ob (m_rfull o_15.1 (x4 + (o_15.1.i 5)) (o_15.1.i 5)) (fun o_20 => (if o_20.2 = 0 then ob (m_rsplice_L147 (o_20.1.setI 0 0) x1 x2 x3 x4 0) (fun b_23 => (if b_23.2.2.2 = 0 then m_rsplice_J241 b_23.1 b_23.2.1 b_23.2.2.1 0 else ob (m_rat b_23.1 b_23.2.1 b_23.2.2.1 (b_23.2.2.2 - 1)) (fun o_26 => gd o_26.2 4000 (gd (o_26.1.a 48 o_26.2.toNatClampNeg) 4000 (m_rsplice_J241 o_26.1 b_23.2.1 b_23.2.2.1 (o_26.1.a 8 ((o_26.1.a 48 o_26.2.toNatClampNeg).toNatClampNeg))))))) else ob (m_rno o_20.1 4) (fun o_30 => some (o_30.1, o_30.2)))) else ob (m_rno o_15.1 2) (fun o_32 => some (o_32.1, o_32.2)))) else m_rsplice_J94 o_15.1))))))) else m_rsplice_J34 o_3.1) else m_rsplice_J34 o_3.1)))))
theorem d_rsplice_218 : decode prog_14_method_34_code 218 = .ok (.iconst 0, 1) := by decide +kernel
theorem d_rsplice_219 : decode prog_14_method_34_code 219 = .ok (.goto 22, 3) := by decide +kernel
theorem d_rsplice_133 : decode prog_14_method_34_code 133 = .ok (.aload_n 0, 1) := by decide +kernel
theorem d_rsplice_134 : decode prog_14_method_34_code 134 = .ok (.iconst 4, 1) := by decide +kernel
theorem d_rsplice_135 : decode prog_14_method_34_code 135 = .ok (.invokevirtual 191, 3) := by decide +kernel
theorem d_rsplice_138 : decode prog_14_method_34_code 138 = .ok (.ireturn, 1) := by decide +kernel
theorem d_rsplice_109 : decode prog_14_method_34_code 109 = .ok (.aload_n 0, 1) := by decide +kernel
theorem d_rsplice_110 : decode prog_14_method_34_code 110 = .ok (.iconst 2, 1) := by decide +kernel
theorem d_rsplice_111 : decode prog_14_method_34_code 111 = .ok (.invokevirtual 191, 3) := by decide +kernel
theorem d_rsplice_114 : decode prog_14_method_34_code 114 = .ok (.ireturn, 1) := by decide +kernel
set_option maxHeartbeats 4000000 in
set_option maxRecDepth 100000 in
theorem w_rsplice_J0 {p : Program} {l : Launch} {e : Env} {s : State} {m : MethodId} {args : Array Value} {below : List Frame} {meth : Method} {c : Code} {A : Nat → Prop} {D : va_G} {md : Nat → Nat} {mc : Nat → ClassId} {Q : State → Prop} (hC : MCx "JoinedTreesModel" prog_14_method_34_code 10 (some .int) p s m args meth c A D mc) {S : MS} {x1 : Int32} {x2 : Int32} {x3 : Int32} {x4 : Int32} {o : MS × Int32} (Heq : m_rsplice_J0 S x1 x2 x3 x4 = some o) (Kr : ∀ r : MS × Int32, o = r → ∀ (pc : Nat) (H : Heap) (locs : List Loc) (ls : Array Slot), decode prog_14_method_34_code pc = .ok (.ireturn, 1) → va_P D cls (mw md mc r.1) H → va_D A (mw md mc r.1) → va_S A s.heap H locs → W p l e ({ frames := 4, cells := 0, slots := 0, locals := 104 }) s m args below meth c H locs 0 0 Q (F0 m pc ls [.int r.2])) : ∀ (H : Heap) (locs : List Loc) (ls : Array Slot), va_P D cls (mw md mc S) H → va_D A (mw md mc S) → va_S A s.heap H locs → lv_has ls 10 [(0, .ref (md 100)), (1, .int x1), (2, .int x2), (3, .int x3), (4, .int x4)] → W p l e ({ frames := 4, cells := 0, slots := 0, locals := 104 }) s m args below meth c H locs 0 0 Q (F0 m 0 ls []) := by
  intro H locs ls hP hD hS hl
  obtain ⟨hx, hb, hr, hml, hown, hts, hK, hA⟩ := id hC
  unfold m_rsplice_J0 at Heq
  refine lv_aload_n hx hb d_rsplice_0 rfl (lv_at hl 0 rfl) ?_
  obtain ⟨o_1, h_2, Heq⟩ := ob_some Heq
  have hFc := fr_all hD hS hA
  refine va_calli (va_runV (As := []) (rest := []) ⟨hx, hb, hml, hown, hts⟩ (g_rtaken l D H.size h_2) (cw_v 0 hts kw_1638 kw_1635 kw_1637 kp_30 kw_11 rfl rfl (by decide +kernel) ⟨Nat.le_of_ble_eq_true rfl, Nat.le_of_ble_eq_true rfl⟩) ⟨g_blind, va_recv hK hP (ci := 12) (q0 := 0) rfl rfl, fun U hU hW => g_pre hU hW hP hK hD⟩ rfl rfl hl.1 rfl (lv_room (Nat.le_of_ble_eq_true rfl)) d_rsplice_1 ⟨Nat.le_of_ble_eq_true rfl, Nat.le_of_ble_eq_true rfl⟩) hS (fun q _ h => hFc q h) hFc (fun rz u t H1 locs ht hvm hw hB hz1 hk1 hS => ?_)
  obtain ⟨hP, -, hD1⟩ := hB
  rw [ht] at hP
  have hD := hD1.weaken (fun _ q _ h => hFc q.1 h)
  generalize H1 = H at hP hS ⊢
  refine W.cs (cells' := 0) (slots' := 0) rfl rfl ?_
  subst hw
  refine lv_istore (lv' := [(5, .int o_1.2), (0, .ref (md 100)), (1, .int x1), (2, .int x2), (3, .int x3), (4, .int x4)]) hx hb d_rsplice_4 hl (by decide) rfl (fun ls hl => ?_)
  refine lv_iload_n hx hb d_rsplice_6 rfl (lv_at hl 2 rfl) ?_
  obtain ⟨o_3, h_4, Heq⟩ := ob_some Heq
  have hFc := fr_all hD hS hA
  refine va_calli (va_runS (As := [.int x1]) (rest := []) ⟨hx, hb, hml, hown, hts⟩ (g_risReplica l D H.size h_4) (cw_s 1 hts kw_1641 kw_1639 kw_1640 kw_11 rfl rfl (by decide +kernel) ⟨Nat.le_of_ble_eq_true rfl, Nat.le_of_ble_eq_true rfl⟩) ⟨g_blind, fun U hU hW => g_pre hU hW hP hK hD⟩ rfl rfl hl.1 rfl (lv_room (Nat.le_of_ble_eq_true rfl)) d_rsplice_7 ⟨Nat.le_of_ble_eq_true rfl, Nat.le_of_ble_eq_true rfl⟩) hS (fun q _ h => hFc q h) hFc (fun rz u t H1 locs ht hvm hw hB hz1 hk1 hS => ?_)
  obtain ⟨hP, -, hD1⟩ := hB
  rw [ht] at hP
  have hD := hD1.weaken (fun _ q _ h => hFc q.1 h)
  generalize H1 = H at hP hS ⊢
  refine W.cs (cells' := 0) (slots' := 0) rfl rfl ?_
  subst hw
  refine lv_if_eq (tgt := 34) hx hb d_rsplice_10 (by decide) (fun c_5 => ?_) (fun c_5 => ?_)
  · replace Heq := (if_pos c_5).symm.trans Heq
    exact w_rsplice_J34 hC Heq Kr _ _ _ hP hD hS (lv_sub hl [1] rfl)
  · replace Heq := (if_neg c_5).symm.trans Heq
    refine lv_iload hx hb d_rsplice_13 (lv_at hl 5 rfl) ?_
    refine lv_if_lt (tgt := 34) hx hb d_rsplice_15 (by decide) (fun c_6 => ?_) (fun c_6 => ?_)
    · replace Heq := (if_pos c_6).symm.trans Heq
      exact w_rsplice_J34 hC Heq Kr _ _ _ hP hD hS (lv_sub hl [1] rfl)
    · replace Heq := (if_neg c_6).symm.trans Heq
      refine lv_iload hx hb d_rsplice_18 (lv_at hl 0 rfl) ?_
      refine lv_iconst (v := 1) hx hb d_rsplice_20 (by decide) ?_
      refine lv_icmp_ne (tgt := 34) hx hb d_rsplice_21 (by decide) (fun c_7 => ?_) (fun c_7 => ?_)
      · replace Heq := (if_neg c_7).symm.trans Heq
        exact w_rsplice_J34 hC Heq Kr _ _ _ hP hD hS (lv_sub hl [1] rfl)
      · replace Heq := (if_pos c_7).symm.trans Heq
        refine lv_aload_n hx hb d_rsplice_24 rfl (lv_at hl 1 rfl) ?_
        refine va_get (D := D) (ci := 12) (v := .int (o_3.1.i 5)) (C := R_MM) (T := F_MM) (N := 77) hx hb hts i_MM hown hK hP 0 rfl rfl 5 (by decide) (hts _ kw_1387) (fun _ h9 => h9) rfl d_rsplice_25 ?_
        refine lv_sipush (v := 1024) hx hb d_rsplice_28 (by decide) ?_
        refine lv_icmp_le (tgt := 40) hx hb d_rsplice_31 (by decide) (fun c_8 => ?_) (fun c_8 => ?_)
        · replace Heq := (if_pos c_8).symm.trans Heq
          refine lv_aload_n hx hb d_rsplice_40 rfl (lv_at hl 1 rfl) ?_
          refine lv_iload_n hx hb d_rsplice_41 rfl (lv_at hl 2 rfl) ?_
          refine lv_iload_n hx hb d_rsplice_42 rfl (lv_at hl 3 rfl) ?_
          obtain ⟨o_9, h_10, Heq⟩ := ob_some Heq
          have hFc := fr_all hD hS hA
          refine va_calli (va_runV (As := [.int x1, .int x2]) (rest := []) ⟨hx, hb, hml, hown, hts⟩ (g_rkindOf l D H.size h_10) (cw_v 2 hts kw_1648 kw_1645 kw_1647 kp_31 kw_11 rfl rfl (by decide +kernel) ⟨Nat.le_of_ble_eq_true rfl, Nat.le_of_ble_eq_true rfl⟩) ⟨g_blind, va_recv hK hP (ci := 12) (q0 := 0) rfl rfl, fun U hU hW => g_pre hU hW hP hK hD⟩ rfl rfl hl.1 rfl (lv_room (Nat.le_of_ble_eq_true rfl)) d_rsplice_43 ⟨Nat.le_of_ble_eq_true rfl, Nat.le_of_ble_eq_true rfl⟩) hS (fun q _ h => hFc q h) hFc (fun rz u t H1 locs ht hvm hw hB hz1 hk1 hS => ?_)
          obtain ⟨hP, -, hD1⟩ := hB
          rw [ht] at hP
          have hD := hD1.weaken (fun _ q _ h => hFc q.1 h)
          generalize H1 = H at hP hS ⊢
          refine W.cs (cells' := 0) (slots' := 0) rfl rfl ?_
          subst hw
          refine lv_istore (lv' := [(6, .int o_9.2), (5, .int o_1.2), (0, .ref (md 100)), (1, .int x1), (2, .int x2), (3, .int x3), (4, .int x4)]) hx hb d_rsplice_46 hl (by decide) rfl (fun ls hl => ?_)
          refine lv_iload hx hb d_rsplice_48 (lv_at hl 0 rfl) ?_
          refine lv_bipush (v := 6) hx hb d_rsplice_50 (by decide) ?_
          refine lv_icmp_eq (tgt := 62) hx hb d_rsplice_52 (by decide) (fun c_11 => ?_) (fun c_11 => ?_)
          · replace Heq := (if_pos c_11).symm.trans Heq
            exact w_rsplice_J62 hC Heq Kr _ _ _ hP hD hS (lv_sub hl [2] rfl)
          · replace Heq := (if_neg c_11).symm.trans Heq
            refine lv_iload hx hb d_rsplice_55 (lv_at hl 0 rfl) ?_
            refine lv_bipush (v := 7) hx hb d_rsplice_57 (by decide) ?_
            refine lv_icmp_ne (tgt := 68) hx hb d_rsplice_59 (by decide) (fun c_12 => ?_) (fun c_12 => ?_)
            · replace Heq := (if_neg c_12).symm.trans Heq
              refine lv_iload hx hb d_rsplice_68 (lv_at hl 0 rfl) ?_
              refine lv_if_lt (tgt := 94) hx hb d_rsplice_70 (by decide) (fun c_13 => ?_) (fun c_13 => ?_)
              · replace Heq := (if_pos c_13).symm.trans Heq
                exact w_rsplice_J94 hC Heq Kr _ _ _ hP hD hS (lv_sub hl [2] rfl)
              · replace Heq := (if_neg c_13).symm.trans Heq
                refine lv_iload_n hx hb d_rsplice_73 rfl (lv_at hl 5 rfl) ?_
                refine lv_if_lt (tgt := 94) hx hb d_rsplice_74 (by decide) (fun c_14 => ?_) (fun c_14 => ?_)
                · replace Heq := (if_pos c_14).symm.trans Heq
                  exact w_rsplice_J94 hC Heq Kr _ _ _ hP hD hS (lv_sub hl [2] rfl)
                · replace Heq := (if_neg c_14).symm.trans Heq
                  refine lv_iload_n hx hb d_rsplice_77 rfl (lv_at hl 5 rfl) ?_
                  refine lv_i2l hx hb d_rsplice_78 rfl ?_
                  refine w_l (y := x3.toInt64) rfl ?_
                  refine lv_iload hx hb d_rsplice_79 (lv_at hl 6 rfl) ?_
                  refine lv_i2l hx hb d_rsplice_81 rfl ?_
                  refine w_l (y := x4.toInt64) rfl ?_
                  refine lv_ladd hx hb d_rsplice_82 ?_
                  refine w_l (y := x3.toInt64 + x4.toInt64) rfl ?_
                  refine lv_aload_n hx hb d_rsplice_83 rfl (lv_at hl 2 rfl) ?_
                  refine lv_iload_n hx hb d_rsplice_84 rfl (lv_at hl 3 rfl) ?_
                  refine lv_iload_n hx hb d_rsplice_85 rfl (lv_at hl 4 rfl) ?_
                  obtain ⟨o_15, h_16, Heq⟩ := ob_some Heq
                  have hFc := fr_all hD hS hA
                  refine va_calli (va_runV (As := [.int x1, .int x2]) (rest := [.long (x3.toInt64 + x4.toInt64)]) ⟨hx, hb, hml, hown, hts⟩ (g_rindices l D H.size h_16) (cw_v 2 hts kw_1733 kw_1730 kw_1732 kp_50 kw_11 rfl rfl (by decide +kernel) ⟨Nat.le_of_ble_eq_true rfl, Nat.le_of_ble_eq_true rfl⟩) ⟨g_blind, va_recv hK hP (ci := 12) (q0 := 0) rfl rfl, fun U hU hW => g_pre hU hW hP hK hD⟩ rfl rfl hl.1 rfl (lv_room (Nat.le_of_ble_eq_true rfl)) d_rsplice_86 ⟨Nat.le_of_ble_eq_true rfl, Nat.le_of_ble_eq_true rfl⟩) hS (fun q _ h => hFc q h) hFc (fun rz u t H1 locs ht hvm hw hB hz1 hk1 hS => ?_)
                  obtain ⟨hP, -, hD1⟩ := hB
                  rw [ht] at hP
                  have hD := hD1.weaken (fun _ q _ h => hFc q.1 h)
                  generalize H1 = H at hP hS ⊢
                  refine W.cs (cells' := 0) (slots' := 0) rfl rfl ?_
                  subst hw
                  refine lv_i2l hx hb d_rsplice_89 rfl ?_
                  refine w_l (y := o_15.2.toInt64) rfl ?_
                  refine W.lcmp hx hb d_rsplice_90 ?_
                  refine w_i (y := lg_cmp (x3.toInt64 + x4.toInt64) o_15.2.toInt64) rfl ?_
                  refine lv_if_le (tgt := 100) hx hb d_rsplice_91 (by decide) (fun c_17 => ?_) (fun c_17 => ?_)
                  · replace Heq := (if_pos c_17).symm.trans Heq
                    refine lv_aload_n hx hb d_rsplice_100 rfl (lv_at hl 2 rfl) ?_
                    refine va_get (D := D) (ci := 12) (v := .ref (md 39)) (C := R_MM) (T := F_MM) (N := 77) hx hb hts i_MM hown hK hP 0 rfl rfl 39 (by decide) (hts _ kw_1421) (fun _ h9 => h9) rfl d_rsplice_101 ?_
                    refine lv_iload_n hx hb d_rsplice_104 rfl (lv_at hl 3 rfl) ?_
                    obtain ⟨hi_18, Heq⟩ := gd_some Heq
                    refine va_iald hx hb hK hP 27 0 rfl rfl (i := x1) hi_18 d_rsplice_105 ?_
                    refine w_i (y := o_15.1.a 39 x1.toNatClampNeg) rfl ?_
                    refine lv_if_lt (tgt := 115) hx hb d_rsplice_106 (by decide) (fun c_19 => ?_) (fun c_19 => ?_)
                    · replace Heq := (if_pos c_19).symm.trans Heq
                      refine lv_aload_n hx hb d_rsplice_115 rfl (lv_at hl 2 rfl) ?_
                      refine lv_iload hx hb d_rsplice_116 (lv_at hl 6 rfl) ?_
                      refine lv_aload_n hx hb d_rsplice_118 rfl (lv_at hl 2 rfl) ?_
                      refine va_get (D := D) (ci := 12) (v := .int (o_15.1.i 5)) (C := R_MM) (T := F_MM) (N := 77) hx hb hts i_MM hown hK hP 0 rfl rfl 5 (by decide) (hts _ kw_1387) (fun _ h9 => h9) rfl d_rsplice_119 ?_
                      refine lv_iadd hx hb d_rsplice_122 ?_
                      refine w_i (y := x4 + (o_15.1.i 5)) rfl ?_
                      refine lv_aload_n hx hb d_rsplice_123 rfl (lv_at hl 2 rfl) ?_
                      refine va_get (D := D) (ci := 12) (v := .int (o_15.1.i 5)) (C := R_MM) (T := F_MM) (N := 77) hx hb hts i_MM hown hK hP 0 rfl rfl 5 (by decide) (hts _ kw_1387) (fun _ h9 => h9) rfl d_rsplice_124 ?_
                      obtain ⟨o_20, h_21, Heq⟩ := ob_some Heq
                      have hFc := fr_all hD hS hA
                      refine va_calli (va_runV (As := [.int (x4 + (o_15.1.i 5)), .int (o_15.1.i 5)]) (rest := []) ⟨hx, hb, hml, hown, hts⟩ (g_rfull l D H.size h_21) (cw_v 2 hts kw_1660 kw_1657 kw_1659 kp_34 kw_11 rfl rfl (by decide +kernel) ⟨Nat.le_of_ble_eq_true rfl, Nat.le_of_ble_eq_true rfl⟩) ⟨g_blind, va_recv hK hP (ci := 12) (q0 := 0) rfl rfl, fun U hU hW => g_pre hU hW hP hK hD⟩ rfl rfl hl.1 rfl (lv_room (Nat.le_of_ble_eq_true rfl)) d_rsplice_127 ⟨Nat.le_of_ble_eq_true rfl, Nat.le_of_ble_eq_true rfl⟩) hS (fun q _ h => hFc q h) hFc (fun rz u t H1 locs ht hvm hw hB hz1 hk1 hS => ?_)
                      obtain ⟨hP, -, hD1⟩ := hB
                      rw [ht] at hP
                      have hD := hD1.weaken (fun _ q _ h => hFc q.1 h)
                      generalize H1 = H at hP hS ⊢
                      refine W.cs (cells' := 0) (slots' := 0) rfl rfl ?_
                      subst hw
                      refine lv_if_eq (tgt := 139) hx hb d_rsplice_130 (by decide) (fun c_22 => ?_) (fun c_22 => ?_)
                      · replace Heq := (if_pos c_22).symm.trans Heq
                        refine lv_aload_n hx hb d_rsplice_139 rfl (lv_at hl 2 rfl) ?_
                        refine lv_iconst (v := 0) hx hb d_rsplice_140 (by decide) ?_
                        refine va_put (D := D) (ci := 12) (v := .int 0) (ty := .int) (C := R_MM) (T := F_MM) (N := 77) hx hb hts i_MM t_MM t_MM_ok n_MM hown hK hP hD hS 0 rfl rfl 0 (by decide) (hts _ kw_1382) (fun _ h9 => h9) rfl (by decide +kernel) rfl rfl (Nat.le_of_ble_eq_true rfl) d_rsplice_141 (fun H locs hP hD hS => ?_)
                        rw [mw_I0] at hP hD
                        refine lv_iconst (v := 0) hx hb d_rsplice_144 (by decide) ?_
                        refine lv_istore (lv' := [(7, .int 0), (6, .int o_9.2), (5, .int o_1.2), (0, .ref (md 100)), (1, .int x1), (2, .int x2), (3, .int x3), (4, .int x4)]) hx hb d_rsplice_145 hl (by decide) rfl (fun ls hl => ?_)
                        obtain ⟨b_23, h_24, Heq⟩ := ob_some Heq
                        refine w_rsplice_L147 hC h_24 (fun b h => ?_) _ _ _ hP hD hS (lv_sub hl [3, 4, 5, 6, 7, 0] rfl)
                        subst h
                        intro H locs ls hP hD hS hl
                        refine lv_iload_n hx hb d_rsplice_214 rfl (lv_at hl 3 rfl) ?_
                        refine lv_if_ne (tgt := 222) hx hb d_rsplice_215 (by decide) (fun c_25 => ?_) (fun c_25 => ?_)
                        · replace Heq := (if_neg c_25).symm.trans Heq
                          refine lv_aload_n hx hb d_rsplice_222 rfl (lv_at hl 0 rfl) ?_
                          refine va_get (D := D) (ci := 12) (v := .ref (md 8)) (C := R_MM) (T := F_MM) (N := 77) hx hb hts i_MM hown hK hP 0 rfl rfl 8 (by decide) (hts _ kw_1390) (fun _ h9 => h9) rfl d_rsplice_223 ?_
                          refine lv_aload_n hx hb d_rsplice_226 rfl (lv_at hl 0 rfl) ?_
                          refine va_get (D := D) (ci := 12) (v := .ref (md 48)) (C := R_MM) (T := F_MM) (N := 77) hx hb hts i_MM hown hK hP 0 rfl rfl 48 (by decide) (hts _ kw_1430) (fun _ h9 => h9) rfl d_rsplice_227 ?_
                          refine lv_aload_n hx hb d_rsplice_230 rfl (lv_at hl 0 rfl) ?_
                          refine lv_iload_n hx hb d_rsplice_231 rfl (lv_at hl 1 rfl) ?_
                          refine lv_iload_n hx hb d_rsplice_232 rfl (lv_at hl 2 rfl) ?_
                          refine lv_iload_n hx hb d_rsplice_233 rfl (lv_at hl 3 rfl) ?_
                          refine lv_iconst (v := 1) hx hb d_rsplice_234 (by decide) ?_
                          refine lv_isub hx hb d_rsplice_235 ?_
                          refine w_i (y := b_23.2.2.2 - 1) rfl ?_
                          obtain ⟨o_26, h_27, Heq⟩ := ob_some Heq
                          have hFc := fr_all hD hS hA
                          refine va_calli (va_runV (As := [.int b_23.2.1, .int b_23.2.2.1, .int (b_23.2.2.2 - 1)]) (rest := [.ref (md 48), .ref (md 8)]) ⟨hx, hb, hml, hown, hts⟩ (g_rat l D H.size h_27) (cw_v 3 hts kw_1713 kw_1710 kw_1712 kp_46 kw_11 rfl rfl (by decide +kernel) ⟨Nat.le_of_ble_eq_true rfl, Nat.le_of_ble_eq_true rfl⟩) ⟨g_blind, va_recv hK hP (ci := 12) (q0 := 0) rfl rfl, fun U hU hW => g_pre hU hW hP hK hD⟩ rfl rfl hl.1 rfl (lv_room (Nat.le_of_ble_eq_true rfl)) d_rsplice_236 ⟨Nat.le_of_ble_eq_true rfl, Nat.le_of_ble_eq_true rfl⟩) hS (fun q _ h => hFc q h) hFc (fun rz u t H1 locs ht hvm hw hB hz1 hk1 hS => ?_)
                          obtain ⟨hP, -, hD1⟩ := hB
                          rw [ht] at hP
                          have hD := hD1.weaken (fun _ q _ h => hFc q.1 h)
                          generalize H1 = H at hP hS ⊢
                          refine W.cs (cells' := 0) (slots' := 0) rfl rfl ?_
                          subst hw
                          obtain ⟨hi_28, Heq⟩ := gd_some Heq
                          refine va_iald hx hb hK hP 32 0 rfl rfl (i := o_26.2) hi_28 d_rsplice_239 ?_
                          refine w_i (y := o_26.1.a 48 o_26.2.toNatClampNeg) rfl ?_
                          obtain ⟨hi_29, Heq⟩ := gd_some Heq
                          refine va_iald hx hb hK hP 4 0 rfl rfl (i := o_26.1.a 48 o_26.2.toNatClampNeg) hi_29 d_rsplice_240 ?_
                          refine w_i (y := o_26.1.a 8 ((o_26.1.a 48 o_26.2.toNatClampNeg).toNatClampNeg)) rfl ?_
                          exact w_rsplice_J241 hC Heq Kr _ _ _ hP hD hS (lv_sub hl [0, 1, 2] rfl)
                        · replace Heq := (if_pos c_25).symm.trans Heq
                          refine lv_iconst (v := 0) hx hb d_rsplice_218 (by decide) ?_
                          refine lv_goto (tgt := 241) hx hb d_rsplice_219 (by decide) ?_
                          exact w_rsplice_J241 hC Heq Kr _ _ _ hP hD hS (lv_sub hl [0, 1, 2] rfl)
                      · replace Heq := (if_neg c_22).symm.trans Heq
                        refine lv_aload_n hx hb d_rsplice_133 rfl (lv_at hl 2 rfl) ?_
                        refine lv_iconst (v := 4) hx hb d_rsplice_134 (by decide) ?_
                        obtain ⟨o_30, h_31, Heq⟩ := ob_some Heq
                        have hFc := fr_all hD hS hA
                        refine va_calli (va_runV (As := [.int 4]) (rest := []) ⟨hx, hb, hml, hown, hts⟩ (g_rno l D H.size h_31) (cw_v 1 hts kw_1626 kw_1623 kw_1625 kp_29 kw_11 rfl rfl (by decide +kernel) ⟨Nat.le_of_ble_eq_true rfl, Nat.le_of_ble_eq_true rfl⟩) ⟨g_blind, va_recv hK hP (ci := 12) (q0 := 0) rfl rfl, fun U hU hW => g_pre hU hW hP hK hD⟩ rfl rfl hl.1 rfl (lv_room (Nat.le_of_ble_eq_true rfl)) d_rsplice_135 ⟨Nat.le_of_ble_eq_true rfl, Nat.le_of_ble_eq_true rfl⟩) hS (fun q _ h => hFc q h) hFc (fun rz u t H1 locs ht hvm hw hB hz1 hk1 hS => ?_)
                        obtain ⟨hP, -, hD1⟩ := hB
                        rw [ht] at hP
                        have hD := hD1.weaken (fun _ q _ h => hFc q.1 h)
                        generalize H1 = H at hP hS ⊢
                        refine W.cs (cells' := 0) (slots' := 0) rfl rfl ?_
                        subst hw
                        exact Kr _ (Option.some.inj Heq).symm 138 _ _ _ d_rsplice_138 hP hD hS
                    · replace Heq := (if_neg c_19).symm.trans Heq
                      refine lv_aload_n hx hb d_rsplice_109 rfl (lv_at hl 2 rfl) ?_
                      refine lv_iconst (v := 2) hx hb d_rsplice_110 (by decide) ?_
                      obtain ⟨o_32, h_33, Heq⟩ := ob_some Heq
                      have hFc := fr_all hD hS hA
                      refine va_calli (va_runV (As := [.int 2]) (rest := []) ⟨hx, hb, hml, hown, hts⟩ (g_rno l D H.size h_33) (cw_v 1 hts kw_1626 kw_1623 kw_1625 kp_29 kw_11 rfl rfl (by decide +kernel) ⟨Nat.le_of_ble_eq_true rfl, Nat.le_of_ble_eq_true rfl⟩) ⟨g_blind, va_recv hK hP (ci := 12) (q0 := 0) rfl rfl, fun U hU hW => g_pre hU hW hP hK hD⟩ rfl rfl hl.1 rfl (lv_room (Nat.le_of_ble_eq_true rfl)) d_rsplice_111 ⟨Nat.le_of_ble_eq_true rfl, Nat.le_of_ble_eq_true rfl⟩) hS (fun q _ h => hFc q h) hFc (fun rz u t H1 locs ht hvm hw hB hz1 hk1 hS => ?_)
                      obtain ⟨hP, -, hD1⟩ := hB
                      rw [ht] at hP
                      have hD := hD1.weaken (fun _ q _ h => hFc q.1 h)
                      generalize H1 = H at hP hS ⊢
                      refine W.cs (cells' := 0) (slots' := 0) rfl rfl ?_
                      subst hw
                      exact Kr _ (Option.some.inj Heq).symm 114 _ _ _ d_rsplice_114 hP hD hS
                  · replace Heq := (if_neg c_17).symm.trans Heq
                    exact w_rsplice_J94 hC Heq Kr _ _ _ hP hD hS (lv_sub hl [2] rfl)
            · replace Heq := (if_pos c_12).symm.trans Heq
              exact w_rsplice_J62 hC Heq Kr _ _ _ hP hD hS (lv_sub hl [2] rfl)
        · replace Heq := (if_neg c_8).symm.trans Heq
          exact w_rsplice_J34 hC Heq Kr _ _ _ hP hD hS (lv_sub hl [1] rfl)
def m_rsplice (S : MS) (x1 : Int32) (x2 : Int32) (x3 : Int32) (x4 : Int32) : Option (MS × Int32) := m_rsplice_J0 S x1 x2 x3 x4
theorem g_rsplice (l : Launch) (D : va_G) (sz : Nat) {md : Nat → Nat} {mc : Nat → ClassId} {S : MS} {x1 : Int32} {x2 : Int32} {x3 : Int32} {x4 : Int32} {o : MS × Int32} (Heq : m_rsplice S x1 x2 x3 x4 = some o) : Met l ⟨"JoinedTreesModel", "splice", "(IIII)I"⟩ (Cond.code ⟨"JoinedTreesModel", "splice", "(IIII)I"⟩ prog_14_method_34_code 10 (some .int) :: gb) ({ frames := 4, cells := 0, slots := 0, locals := 104 }) (gPc D (mw md mc S) (mty mc) sz [.ref (md 100), .int x1, .int x2, .int x3, .int x4]) (va_Qi (fun (r : Int32) (_ : Unit) => r = o.2) (fun _ t => gO D (mw md mc o.1) (mty mc) (va_A (mw md mc S) sz) t) (va_A (mw md mc S) sz)) 0 0 (va_A (mw md mc S) sz) := by
  refine Met.ofW (cc := prog_14_method_34_code) (maxL := 10) (ret := (some .int)) (by decide) rfl ?_
  intro p e s m args below meth c s₁ B hml hv
  obtain ⟨rfl, hsz, hP, hK, hD0⟩ := hv
  have hx := B.exec
  have hb := B.bytes
  have hr := B.returns
  have hts : ∀ w9 ∈ gb, w9.before [.ref (md 100), .int x1, .int x2, .int x3, .int x4].toArray s = true := fun w9 h => atoms_spec (ws := Cond.code ⟨"JoinedTreesModel", "splice", "(IIII)I"⟩ prog_14_method_34_code 10 (some .int) :: gb) B.pre w9 (List.mem_cons_of_mem _ h)
  have hown : s.vm.findClass "JoinedTreesModel" = some m.cls := findClass_of_methodNamed B.named
  have hlocks := B.notSynchronized
  subst hsz
  have hD := hD0.self (sz := s.heap.size)
  generalize hAe : va_A (mw md mc S) s.heap.size = A at hD ⊢
  have hA : ∀ q : Nat, s.heap.size ≤ q → A q := fun q h => by rw [← hAe]; exact Or.inr h
  have hS : va_S A s.heap s.heap [] := va_S.rf
  have hl := lv_entry ([.ref (md 100), .int x1, .int x2, .int x3, .int x4]) (n := 10) (Nat.le_of_ble_eq_true rfl)
  rw [lg_entry_eq]
  generalize (lg_sl ([.ref (md 100), .int x1, .int x2, .int x3, .int x4]) ++ List.replicate (10 - (lg_sl ([.ref (md 100), .int x1, .int x2, .int x3, .int x4])).length) Slot.unset).toArray = ls at hl ⊢
  have hl : lv_has ls 10 [(0, .ref (md 100)), (1, .int x1), (2, .int x2), (3, .int x3), (4, .int x4)] := hl
  refine w_rsplice_J0 ⟨hx, hb, hr, hml, hown, hts, hK, hA⟩ Heq (fun r h pc H locs ls hd hP hD hS => ?_) _ _ _ hP hD hS (lv_sub hl [0, 1, 2, 3, 4] rfl)
  subst h
  exact W.iret hx hb hr (fun t ht hW => ⟨⟨_, (), rfl, rfl, by rw [ht]; exact hP, va_K.moved hW.alike hK, hD⟩, hS.F ht⟩) hS.2.2 hd
