noncomputable def h_read (N : Nat → Nat) (S : CS) (ov : Nat → Int64) (p0 : Int32) (p1 : Int32) : Option (((Nat → Nat) × CS × (Nat → Int64) × Int32) × Nat × Nat) := gl 0 (N 11) (hA [(1, 1), (2, 2), (3, 3), (4, 4)] ov (m_cJT_read N 0 S p0 p1))
theorem d_h_read_0 : decode method_11_code 0 = .ok (.aload_n 3, 1) := by decide +kernel
theorem d_h_read_1 : decode method_11_code 1 = .ok (.iconst 0, 1) := by decide +kernel
theorem d_h_read_2 : decode method_11_code 2 = .ok (.aload_n 0, 1) := by decide +kernel
theorem d_h_read_3 : decode method_11_code 3 = .ok (.iload_n 1, 1) := by decide +kernel
theorem d_h_read_4 : decode method_11_code 4 = .ok (.iload_n 2, 1) := by decide +kernel
theorem d_h_read_5 : decode method_11_code 5 = .ok (.invokevirtual 47, 3) := by decide +kernel
theorem d_h_read_8 : decode method_11_code 8 = .ok (.i2l, 1) := by decide +kernel
theorem d_h_read_9 : decode method_11_code 9 = .ok (.lastore, 1) := by decide +kernel
theorem d_h_read_10 : decode method_11_code 10 = .ok (.goto 19, 3) := by decide +kernel
theorem d_h_read_29 : decode method_11_code 29 = .ok (.iconst 0, 1) := by decide +kernel
theorem d_h_read_30 : decode method_11_code 30 = .ok (.ireturn, 1) := by decide +kernel
theorem d_h_read_13 : decode method_11_code 13 = .ok (.astore 4, 2) := by decide +kernel
theorem d_h_read_15 : decode method_11_code 15 = .ok (.iconst 1, 1) := by decide +kernel
theorem d_h_read_16 : decode method_11_code 16 = .ok (.ireturn, 1) := by decide +kernel
theorem d_h_read_17 : decode method_11_code 17 = .ok (.astore 4, 2) := by decide +kernel
theorem d_h_read_19 : decode method_11_code 19 = .ok (.iconst 2, 1) := by decide +kernel
theorem d_h_read_20 : decode method_11_code 20 = .ok (.ireturn, 1) := by decide +kernel
theorem d_h_read_21 : decode method_11_code 21 = .ok (.astore 4, 2) := by decide +kernel
theorem d_h_read_23 : decode method_11_code 23 = .ok (.iconst 3, 1) := by decide +kernel
theorem d_h_read_24 : decode method_11_code 24 = .ok (.ireturn, 1) := by decide +kernel
theorem d_h_read_25 : decode method_11_code 25 = .ok (.astore 4, 2) := by decide +kernel
theorem d_h_read_27 : decode method_11_code 27 = .ok (.iconst 4, 1) := by decide +kernel
theorem d_h_read_28 : decode method_11_code 28 = .ok (.ireturn, 1) := by decide +kernel
set_option maxHeartbeats 4000000 in
set_option maxRecDepth 100000 in
theorem g_h_read (l : Launch) (hfl : l.flags = flags0) (D : va_G) (sz : Nat) {ad : Nat → Nat → Nat} {cc : Nat → ClassId} {sad sav : Nat → Nat} {N : Nat → Nat} {S : CS} {cL : ClassId} {a : Nat} {ov : Nat → Int64} {p0 : Int32} {p1 : Int32} {o : ((Nat → Nat) × CS × (Nat → Int64) × Int32)} {oc os : Nat} (Heq : h_read N S ov p0 p1 = some (o, oc, os)) : Met l ⟨"JoinedTreesLaw", "read", "(LJoinedTrees;II[J)I"⟩ (Cond.codeWith ⟨"JoinedTreesLaw", "read", "(LJoinedTrees;II[J)I"⟩ method_11_code 5 (some .int) [(0, 10, 13, 19), (0, 10, 17, 25), (0, 10, 21, 27), (0, 10, 25, 13)] :: gb) ({ frames := 9, cells := oc, slots := os, locals := 204 }) (hPc sad sav D (cw ad cc N S ++ [oA cL a ov]) (cty cc ++ [(cL, .long)]) sz [.ref (ad 11 0), .int p0, .int p1, .ref a]) (va_Qi (fun (r : Int32) (_ : Nat → Nat → Nat) => r = o.2.2.2) (fun (u : Nat → Nat → Nat) t => Ext ad N u o.1 ∧ gO D (cw u cc o.1 o.2.1 ++ [oA cL a o.2.2.1]) (cty cc ++ [(cL, .long)]) (va_A (cw ad cc N S ++ [oA cL a ov]) sz) t) (va_A (cw ad cc N S ++ [oA cL a ov]) sz)) oc os (va_A (cw ad cc N S ++ [oA cL a ov]) sz) := by
  refine tx_ofW (cc := method_11_code) (maxL := 5) (ret := (some .int)) (hs := [(0, 10, 13, 19), (0, 10, 17, 25), (0, 10, 21, 27), (0, 10, 25, 13)]) (by decide) rfl ?_
  intro p e s m args below meth c s₁ B hml htab hv
  obtain ⟨rfl, hsz, hP, hK, hD0, hev, hE, hN, hH⟩ := hv
  have hx := B.exec
  have hb := B.bytes
  have hr := B.returns
  have hts : ∀ w9 ∈ gb, w9.before [.ref (ad 11 0), .int p0, .int p1, .ref a].toArray s = true := fun w9 h => atoms_spec (ws := Cond.codeWith ⟨"JoinedTreesLaw", "read", "(LJoinedTrees;II[J)I"⟩ method_11_code 5 (some .int) [(0, 10, 13, 19), (0, 10, 17, 25), (0, 10, 21, 27), (0, 10, 25, 13)] :: gb) B.pre w9 (List.mem_cons_of_mem _ h)
  have hown : s.vm.findClass "JoinedTreesLaw" = some m.cls := findClass_of_methodNamed B.named
  subst hsz
  have hNS := ns_of hP
  have hD := hD0.self (sz := s.heap.size)
  have hD0x := d_l hD0
  generalize hAe : va_A (cw ad cc N S ++ [oA cL a ov]) s.heap.size = A at hD hev hE hNS ⊢
  have hA : ∀ q : Nat, s.heap.size ≤ q → A q := fun q h => by rw [← hAe]; exact Or.inr h
  have hS : va_S A s.heap s.heap [] := va_S.rf
  obtain ⟨ls, hl, hle⟩ : ∃ ls : Array Slot, lv_has ls 5 [(0, .ref (ad 11 0)), (1, .int p0), (2, .int p1), (3, .ref a)] ∧ entryFrame m ([.ref (ad 11 0), .int p0, .int p1, .ref a] : List Value).toArray 5 = F0 m 0 ls [] := ⟨_, lv_entry (n := 5) _ (Nat.le_of_ble_eq_true rfl), lg_entry_eq ..⟩
  rw [hle]
  have hPx := p_l hP
  have hDx := d_l hD
  have hFc := fr_all hDx hS hA
  have hKx := hK.sub (tys' := cty cc) [0, 1, 2, 3, 4, 5, 6] rfl
  obtain ⟨h0, Heq⟩ := gl_some Heq
  refine lv_aload_n hx hb d_h_read_0 rfl (lv_at hl 3 rfl) ?_
  refine lv_iconst (v := 0) hx hb d_h_read_1 (by decide) ?_
  refine lv_aload_n hx hb d_h_read_2 rfl (lv_at hl 0 rfl) ?_
  refine lv_iload_n hx hb d_h_read_3 rfl (lv_at hl 1 rfl) ?_
  refine lv_iload_n hx hb d_h_read_4 rfl (lv_at hl 2 rfl) ?_
  rcases hA_some Heq with ⟨N1, S1, v, hm, rfl⟩ | ⟨N1, S1, k, c, hm, hk, rfl⟩
  · refine va_calli (va_runV (As := [.int p0, .int p1]) (rest := [.int 0, .ref a]) ⟨hx, hb, hml, hown, hts⟩ (g_cJT_read l hfl D s.heap.size (ad := ad) (cc := cc) (sad := sad) (sav := sav) hm) (cw_v 2 hts kw_861 kw_858 kw_859 kw_860 kw_1 rfl rfl (by decide +kernel) ⟨Nat.le_of_ble_eq_true rfl, Nat.le_of_ble_eq_true rfl⟩) ⟨c_blind, va_recv hK hPx (ci := 11) (q0 := cPos N 11 0) rfl (cw_obj (k := 11) (by decide) h0), fun U hU hW => c_pre hU hW hPx hKx hDx hev hE hN hNS hS hFc⟩ rfl rfl hl.1 rfl (lv_room (Nat.le_of_ble_eq_true rfl)) d_h_read_5 ⟨Nat.le_of_eq (Nat.zero_add _), Nat.le_of_eq (Nat.zero_add _)⟩) hS (fun q _ h => hFc q h) hFc (fun rz ad1 t H locs ht hvm hw hB hz1 hk1 hS => ?_)
    obtain ⟨hX, hP1, -, hD1⟩ := hB
    rw [ht] at hP1
    obtain ⟨hP, hD⟩ := join_w hP hD hk1 hFc hP1 hD1
    subst hw
    refine lv_i2l hx hb d_h_read_8 rfl ?_
    refine va_last hx hb hK hP hD hS (cw ad1 cc N1 S1).length 7 at_last rfl (i := 0) (x := rz.toInt64) (vp_in_nI (n := 0) (N := 1) (by decide) (by decide)) d_h_read_9 (fun H locs hP hD hS => ?_)
    rw [set_last] at hP hD
    refine lv_goto (tgt := 29) hx hb d_h_read_10 (by decide) ?_
    refine lv_iconst (v := 0) hx hb d_h_read_29 (by decide) ?_
    refine W.cs (cells' := _) (slots' := _) (Nat.zero_add _) (Nat.zero_add _) ?_
    exact W.iret (v := 0) hx hb hr (fun t ht hW => ⟨⟨0, ad1, rfl, rfl, hX, by rw [ht]; exact hP, va_K.moved hW.alike hK, hD⟩, hS.F ht⟩) hS.2.2 d_h_read_30
  · rcases lk_cons hk with ⟨hc, rfl⟩ | hk
    · refine tx_catch (tx_runV (As := [.int p0, .int p1]) (rest := [.int 0, .ref a]) ⟨hx, hb, hml, hown, hts⟩ (g_cJT_read_t l hfl D s.heap.size (ad := ad) (cc := cc) (sad := sad) (sav := sav) hm) (cw_v 2 hts kw_861 kw_858 kw_859 kw_860 kw_1 rfl rfl (by decide +kernel) ⟨Nat.le_of_ble_eq_true rfl, Nat.le_of_ble_eq_true rfl⟩) ⟨c_blind, va_recv hK hPx (ci := 11) (q0 := cPos N 11 0) rfl (cw_obj (k := 11) (by decide) h0), fun U hU hW => c_pre hU hW hPx hKx hDx hev hE hN hNS hS hFc⟩ rfl rfl hl.1 rfl (lv_room (Nat.le_of_ble_eq_true rfl)) d_h_read_5 ⟨Nat.le_of_eq (Nat.zero_add _), Nat.le_of_eq (Nat.zero_add _)⟩) hown hS hFc htab [] [(0, 10, 17, 25), (0, 10, 21, 27), (0, 10, 25, 13)] (0, 10, 13, 19) rfl (by decide) (by decide) (hts _ kw_553) (by rw [hc]; exact va_Nw.use rfl hev.2.2.2.2.2.1.1) (fun y hy => absurd hy List.not_mem_nil) (fun z H locs hz1 hk1 hB hS => ?_)
      obtain ⟨ad1, hX, hP1, hD1⟩ := hB
      obtain ⟨hP, hD⟩ := join_w hP hD hk1 hFc hP1 hD1
      refine lv_astore (lv' := [(4, .ref z), (0, .ref (ad 11 0)), (1, .int p0), (2, .int p1), (3, .ref a)]) hx hb d_h_read_13 hl (by decide) rfl (fun ls hl => ?_)
      refine lv_iconst (v := 1) hx hb d_h_read_15 (by decide) ?_
      refine W.cs (cells' := _) (slots' := _) (Nat.zero_add _) (Nat.zero_add _) ?_
      exact W.iret (v := 1) hx hb hr (fun t ht hW => ⟨⟨1, ad1, rfl, rfl, hX, by rw [ht]; exact hP, va_K.moved hW.alike hK, hD⟩, hS.F ht⟩) hS.2.2 d_h_read_16
    rcases lk_cons hk with ⟨hc, rfl⟩ | hk
    · refine tx_catch (tx_runV (As := [.int p0, .int p1]) (rest := [.int 0, .ref a]) ⟨hx, hb, hml, hown, hts⟩ (g_cJT_read_t l hfl D s.heap.size (ad := ad) (cc := cc) (sad := sad) (sav := sav) hm) (cw_v 2 hts kw_861 kw_858 kw_859 kw_860 kw_1 rfl rfl (by decide +kernel) ⟨Nat.le_of_ble_eq_true rfl, Nat.le_of_ble_eq_true rfl⟩) ⟨c_blind, va_recv hK hPx (ci := 11) (q0 := cPos N 11 0) rfl (cw_obj (k := 11) (by decide) h0), fun U hU hW => c_pre hU hW hPx hKx hDx hev hE hN hNS hS hFc⟩ rfl rfl hl.1 rfl (lv_room (Nat.le_of_ble_eq_true rfl)) d_h_read_5 ⟨Nat.le_of_eq (Nat.zero_add _), Nat.le_of_eq (Nat.zero_add _)⟩) hown hS hFc htab [(0, 10, 13, 19)] [(0, 10, 21, 27), (0, 10, 25, 13)] (0, 10, 17, 25) rfl (by decide) (by decide) (hts _ kw_580) (by rw [hc]; exact va_Nw.use rfl hev.2.2.2.2.2.1.2.1) (List.forall_mem_cons.mpr ⟨⟨by decide, by decide, "java/lang/IllegalArgumentException", hts _ kw_553, by rw [hc]; exact hev.2.2.2.2.2.2.2.1.2.2⟩, fun y hy => absurd hy List.not_mem_nil⟩) (fun z H locs hz1 hk1 hB hS => ?_)
      obtain ⟨ad1, hX, hP1, hD1⟩ := hB
      obtain ⟨hP, hD⟩ := join_w hP hD hk1 hFc hP1 hD1
      refine lv_astore (lv' := [(4, .ref z), (0, .ref (ad 11 0)), (1, .int p0), (2, .int p1), (3, .ref a)]) hx hb d_h_read_17 hl (by decide) rfl (fun ls hl => ?_)
      refine lv_iconst (v := 2) hx hb d_h_read_19 (by decide) ?_
      refine W.cs (cells' := _) (slots' := _) (Nat.zero_add _) (Nat.zero_add _) ?_
      exact W.iret (v := 2) hx hb hr (fun t ht hW => ⟨⟨2, ad1, rfl, rfl, hX, by rw [ht]; exact hP, va_K.moved hW.alike hK, hD⟩, hS.F ht⟩) hS.2.2 d_h_read_20
    rcases lk_cons hk with ⟨hc, rfl⟩ | hk
    · refine tx_catch (tx_runV (As := [.int p0, .int p1]) (rest := [.int 0, .ref a]) ⟨hx, hb, hml, hown, hts⟩ (g_cJT_read_t l hfl D s.heap.size (ad := ad) (cc := cc) (sad := sad) (sav := sav) hm) (cw_v 2 hts kw_861 kw_858 kw_859 kw_860 kw_1 rfl rfl (by decide +kernel) ⟨Nat.le_of_ble_eq_true rfl, Nat.le_of_ble_eq_true rfl⟩) ⟨c_blind, va_recv hK hPx (ci := 11) (q0 := cPos N 11 0) rfl (cw_obj (k := 11) (by decide) h0), fun U hU hW => c_pre hU hW hPx hKx hDx hev hE hN hNS hS hFc⟩ rfl rfl hl.1 rfl (lv_room (Nat.le_of_ble_eq_true rfl)) d_h_read_5 ⟨Nat.le_of_eq (Nat.zero_add _), Nat.le_of_eq (Nat.zero_add _)⟩) hown hS hFc htab [(0, 10, 13, 19), (0, 10, 17, 25)] [(0, 10, 25, 13)] (0, 10, 21, 27) rfl (by decide) (by decide) (hts _ kw_581) (by rw [hc]; exact va_Nw.use rfl hev.2.2.2.2.2.1.2.2.1) (List.forall_mem_cons.mpr ⟨⟨by decide, by decide, "java/lang/IllegalArgumentException", hts _ kw_553, by rw [hc]; exact hev.2.2.2.2.2.2.2.1.1⟩, List.forall_mem_cons.mpr ⟨⟨by decide, by decide, "java/lang/IllegalStateException", hts _ kw_580, by rw [hc]; exact hev.2.2.2.2.2.2.2.1.2.1⟩, fun y hy => absurd hy List.not_mem_nil⟩⟩) (fun z H locs hz1 hk1 hB hS => ?_)
      obtain ⟨ad1, hX, hP1, hD1⟩ := hB
      obtain ⟨hP, hD⟩ := join_w hP hD hk1 hFc hP1 hD1
      refine lv_astore (lv' := [(4, .ref z), (0, .ref (ad 11 0)), (1, .int p0), (2, .int p1), (3, .ref a)]) hx hb d_h_read_21 hl (by decide) rfl (fun ls hl => ?_)
      refine lv_iconst (v := 3) hx hb d_h_read_23 (by decide) ?_
      refine W.cs (cells' := _) (slots' := _) (Nat.zero_add _) (Nat.zero_add _) ?_
      exact W.iret (v := 3) hx hb hr (fun t ht hW => ⟨⟨3, ad1, rfl, rfl, hX, by rw [ht]; exact hP, va_K.moved hW.alike hK, hD⟩, hS.F ht⟩) hS.2.2 d_h_read_24
    rcases lk_cons hk with ⟨hc, rfl⟩ | hk
    · refine tx_catch (tx_runV (As := [.int p0, .int p1]) (rest := [.int 0, .ref a]) ⟨hx, hb, hml, hown, hts⟩ (g_cJT_read_t l hfl D s.heap.size (ad := ad) (cc := cc) (sad := sad) (sav := sav) hm) (cw_v 2 hts kw_861 kw_858 kw_859 kw_860 kw_1 rfl rfl (by decide +kernel) ⟨Nat.le_of_ble_eq_true rfl, Nat.le_of_ble_eq_true rfl⟩) ⟨c_blind, va_recv hK hPx (ci := 11) (q0 := cPos N 11 0) rfl (cw_obj (k := 11) (by decide) h0), fun U hU hW => c_pre hU hW hPx hKx hDx hev hE hN hNS hS hFc⟩ rfl rfl hl.1 rfl (lv_room (Nat.le_of_ble_eq_true rfl)) d_h_read_5 ⟨Nat.le_of_eq (Nat.zero_add _), Nat.le_of_eq (Nat.zero_add _)⟩) hown hS hFc htab [(0, 10, 13, 19), (0, 10, 17, 25), (0, 10, 21, 27)] [] (0, 10, 25, 13) rfl (by decide) (by decide) (hts _ kw_468) (by rw [hc]; exact va_Nw.use rfl hev.2.2.2.2.2.1.2.2.2) (List.forall_mem_cons.mpr ⟨⟨by decide, by decide, "java/lang/IllegalArgumentException", hts _ kw_553, by rw [hc]; exact hH.1⟩, List.forall_mem_cons.mpr ⟨⟨by decide, by decide, "java/lang/IllegalStateException", hts _ kw_580, by rw [hc]; exact hH.2.1⟩, List.forall_mem_cons.mpr ⟨⟨by decide, by decide, "java/util/NoSuchElementException", hts _ kw_581, by rw [hc]; exact hH.2.2.1⟩, fun y hy => absurd hy List.not_mem_nil⟩⟩⟩) (fun z H locs hz1 hk1 hB hS => ?_)
      obtain ⟨ad1, hX, hP1, hD1⟩ := hB
      obtain ⟨hP, hD⟩ := join_w hP hD hk1 hFc hP1 hD1
      refine lv_astore (lv' := [(4, .ref z), (0, .ref (ad 11 0)), (1, .int p0), (2, .int p1), (3, .ref a)]) hx hb d_h_read_25 hl (by decide) rfl (fun ls hl => ?_)
      refine lv_iconst (v := 4) hx hb d_h_read_27 (by decide) ?_
      refine W.cs (cells' := _) (slots' := _) (Nat.zero_add _) (Nat.zero_add _) ?_
      exact W.iret (v := 4) hx hb hr (fun t ht hW => ⟨⟨4, ad1, rfl, rfl, hX, by rw [ht]; exact hP, va_K.moved hW.alike hK, hD⟩, hS.F ht⟩) hS.2.2 d_h_read_28
    exact (lk_nil hk).elim
noncomputable def h_commit (N : Nat → Nat) (S : CS) (ov : Nat → Int64) (p0 : Int32) : Option (((Nat → Nat) × CS × (Nat → Int64) × Int32) × Nat × Nat) := gl 0 (N 11) (hA [(1, 1), (2, 2), (4, 3)] ov (m_cJT_commit N 0 S p0))
theorem d_h_commit_0 : decode method_12_code 0 = .ok (.aload_n 2, 1) := by decide +kernel
theorem d_h_commit_1 : decode method_12_code 1 = .ok (.iconst 0, 1) := by decide +kernel
theorem d_h_commit_2 : decode method_12_code 2 = .ok (.aload_n 0, 1) := by decide +kernel
theorem d_h_commit_3 : decode method_12_code 3 = .ok (.iload_n 1, 1) := by decide +kernel
theorem d_h_commit_4 : decode method_12_code 4 = .ok (.invokevirtual 51, 3) := by decide +kernel
theorem d_h_commit_7 : decode method_12_code 7 = .ok (.i2l, 1) := by decide +kernel
theorem d_h_commit_8 : decode method_12_code 8 = .ok (.lastore, 1) := by decide +kernel
theorem d_h_commit_9 : decode method_12_code 9 = .ok (.goto 12, 3) := by decide +kernel
theorem d_h_commit_21 : decode method_12_code 21 = .ok (.iconst 0, 1) := by decide +kernel
theorem d_h_commit_22 : decode method_12_code 22 = .ok (.ireturn, 1) := by decide +kernel
theorem d_h_commit_12 : decode method_12_code 12 = .ok (.astore_n 3, 1) := by decide +kernel
theorem d_h_commit_13 : decode method_12_code 13 = .ok (.iconst 1, 1) := by decide +kernel
theorem d_h_commit_14 : decode method_12_code 14 = .ok (.ireturn, 1) := by decide +kernel
theorem d_h_commit_15 : decode method_12_code 15 = .ok (.astore_n 3, 1) := by decide +kernel
theorem d_h_commit_16 : decode method_12_code 16 = .ok (.iconst 2, 1) := by decide +kernel
theorem d_h_commit_17 : decode method_12_code 17 = .ok (.ireturn, 1) := by decide +kernel
theorem d_h_commit_18 : decode method_12_code 18 = .ok (.astore_n 3, 1) := by decide +kernel
theorem d_h_commit_19 : decode method_12_code 19 = .ok (.iconst 3, 1) := by decide +kernel
theorem d_h_commit_20 : decode method_12_code 20 = .ok (.ireturn, 1) := by decide +kernel
set_option maxHeartbeats 4000000 in
set_option maxRecDepth 100000 in
theorem g_h_commit (l : Launch) (hfl : l.flags = flags0) (D : va_G) (sz : Nat) {ad : Nat → Nat → Nat} {cc : Nat → ClassId} {sad sav : Nat → Nat} {N : Nat → Nat} {S : CS} {cL : ClassId} {a : Nat} {ov : Nat → Int64} {p0 : Int32} {o : ((Nat → Nat) × CS × (Nat → Int64) × Int32)} {oc os : Nat} (Heq : h_commit N S ov p0 = some (o, oc, os)) : Met l ⟨"JoinedTreesLaw", "commit", "(LJoinedTrees;I[J)I"⟩ (Cond.codeWith ⟨"JoinedTreesLaw", "commit", "(LJoinedTrees;I[J)I"⟩ method_12_code 4 (some .int) [(0, 9, 12, 19), (0, 9, 15, 25), (0, 9, 18, 13)] :: gb) ({ frames := 8, cells := oc, slots := os, locals := 139 }) (hPc sad sav D (cw ad cc N S ++ [oA cL a ov]) (cty cc ++ [(cL, .long)]) sz [.ref (ad 11 0), .int p0, .ref a]) (va_Qi (fun (r : Int32) (_ : Nat → Nat → Nat) => r = o.2.2.2) (fun (u : Nat → Nat → Nat) t => Ext ad N u o.1 ∧ gO D (cw u cc o.1 o.2.1 ++ [oA cL a o.2.2.1]) (cty cc ++ [(cL, .long)]) (va_A (cw ad cc N S ++ [oA cL a ov]) sz) t) (va_A (cw ad cc N S ++ [oA cL a ov]) sz)) oc os (va_A (cw ad cc N S ++ [oA cL a ov]) sz) := by
  refine tx_ofW (cc := method_12_code) (maxL := 4) (ret := (some .int)) (hs := [(0, 9, 12, 19), (0, 9, 15, 25), (0, 9, 18, 13)]) (by decide) rfl ?_
  intro p e s m args below meth c s₁ B hml htab hv
  obtain ⟨rfl, hsz, hP, hK, hD0, hev, hE, hN, hH⟩ := hv
  have hx := B.exec
  have hb := B.bytes
  have hr := B.returns
  have hts : ∀ w9 ∈ gb, w9.before [.ref (ad 11 0), .int p0, .ref a].toArray s = true := fun w9 h => atoms_spec (ws := Cond.codeWith ⟨"JoinedTreesLaw", "commit", "(LJoinedTrees;I[J)I"⟩ method_12_code 4 (some .int) [(0, 9, 12, 19), (0, 9, 15, 25), (0, 9, 18, 13)] :: gb) B.pre w9 (List.mem_cons_of_mem _ h)
  have hown : s.vm.findClass "JoinedTreesLaw" = some m.cls := findClass_of_methodNamed B.named
  subst hsz
  have hNS := ns_of hP
  have hD := hD0.self (sz := s.heap.size)
  have hD0x := d_l hD0
  generalize hAe : va_A (cw ad cc N S ++ [oA cL a ov]) s.heap.size = A at hD hev hE hNS ⊢
  have hA : ∀ q : Nat, s.heap.size ≤ q → A q := fun q h => by rw [← hAe]; exact Or.inr h
  have hS : va_S A s.heap s.heap [] := va_S.rf
  obtain ⟨ls, hl, hle⟩ : ∃ ls : Array Slot, lv_has ls 4 [(0, .ref (ad 11 0)), (1, .int p0), (2, .ref a)] ∧ entryFrame m ([.ref (ad 11 0), .int p0, .ref a] : List Value).toArray 4 = F0 m 0 ls [] := ⟨_, lv_entry (n := 4) _ (Nat.le_of_ble_eq_true rfl), lg_entry_eq ..⟩
  rw [hle]
  have hPx := p_l hP
  have hDx := d_l hD
  have hFc := fr_all hDx hS hA
  have hKx := hK.sub (tys' := cty cc) [0, 1, 2, 3, 4, 5, 6] rfl
  obtain ⟨h0, Heq⟩ := gl_some Heq
  refine lv_aload_n hx hb d_h_commit_0 rfl (lv_at hl 2 rfl) ?_
  refine lv_iconst (v := 0) hx hb d_h_commit_1 (by decide) ?_
  refine lv_aload_n hx hb d_h_commit_2 rfl (lv_at hl 0 rfl) ?_
  refine lv_iload_n hx hb d_h_commit_3 rfl (lv_at hl 1 rfl) ?_
  rcases hA_some Heq with ⟨N1, S1, v, hm, rfl⟩ | ⟨N1, S1, k, c, hm, hk, rfl⟩
  · refine va_calli (va_runV (As := [.int p0]) (rest := [.int 0, .ref a]) ⟨hx, hb, hml, hown, hts⟩ (g_cJT_commit l hfl D s.heap.size (ad := ad) (cc := cc) (sad := sad) (sav := sav) hm) (cw_v 1 hts kw_990 kw_987 kw_988 kw_989 kw_1 rfl rfl (by decide +kernel) ⟨Nat.le_of_ble_eq_true rfl, Nat.le_of_ble_eq_true rfl⟩) ⟨c_blind, va_recv hK hPx (ci := 11) (q0 := cPos N 11 0) rfl (cw_obj (k := 11) (by decide) h0), fun U hU hW => c_pre hU hW hPx hKx hDx hev hE hN hNS hS hFc⟩ rfl rfl hl.1 rfl (lv_room (Nat.le_of_ble_eq_true rfl)) d_h_commit_4 ⟨Nat.le_of_eq (Nat.zero_add _), Nat.le_of_eq (Nat.zero_add _)⟩) hS (fun q _ h => hFc q h) hFc (fun rz ad1 t H locs ht hvm hw hB hz1 hk1 hS => ?_)
    obtain ⟨hX, hP1, -, hD1⟩ := hB
    rw [ht] at hP1
    obtain ⟨hP, hD⟩ := join_w hP hD hk1 hFc hP1 hD1
    subst hw
    refine lv_i2l hx hb d_h_commit_7 rfl ?_
    refine va_last hx hb hK hP hD hS (cw ad1 cc N1 S1).length 7 at_last rfl (i := 0) (x := rz.toInt64) (vp_in_nI (n := 0) (N := 1) (by decide) (by decide)) d_h_commit_8 (fun H locs hP hD hS => ?_)
    rw [set_last] at hP hD
    refine lv_goto (tgt := 21) hx hb d_h_commit_9 (by decide) ?_
    refine lv_iconst (v := 0) hx hb d_h_commit_21 (by decide) ?_
    refine W.cs (cells' := _) (slots' := _) (Nat.zero_add _) (Nat.zero_add _) ?_
    exact W.iret (v := 0) hx hb hr (fun t ht hW => ⟨⟨0, ad1, rfl, rfl, hX, by rw [ht]; exact hP, va_K.moved hW.alike hK, hD⟩, hS.F ht⟩) hS.2.2 d_h_commit_22
  · rcases lk_cons hk with ⟨hc, rfl⟩ | hk
    · refine tx_catch (tx_runV (As := [.int p0]) (rest := [.int 0, .ref a]) ⟨hx, hb, hml, hown, hts⟩ (g_cJT_commit_t l hfl D s.heap.size (ad := ad) (cc := cc) (sad := sad) (sav := sav) hm) (cw_v 1 hts kw_990 kw_987 kw_988 kw_989 kw_1 rfl rfl (by decide +kernel) ⟨Nat.le_of_ble_eq_true rfl, Nat.le_of_ble_eq_true rfl⟩) ⟨c_blind, va_recv hK hPx (ci := 11) (q0 := cPos N 11 0) rfl (cw_obj (k := 11) (by decide) h0), fun U hU hW => c_pre hU hW hPx hKx hDx hev hE hN hNS hS hFc⟩ rfl rfl hl.1 rfl (lv_room (Nat.le_of_ble_eq_true rfl)) d_h_commit_4 ⟨Nat.le_of_eq (Nat.zero_add _), Nat.le_of_eq (Nat.zero_add _)⟩) hown hS hFc htab [] [(0, 9, 15, 25), (0, 9, 18, 13)] (0, 9, 12, 19) rfl (by decide) (by decide) (hts _ kw_553) (by rw [hc]; exact va_Nw.use rfl hev.2.2.2.2.2.1.1) (fun y hy => absurd hy List.not_mem_nil) (fun z H locs hz1 hk1 hB hS => ?_)
      obtain ⟨ad1, hX, hP1, hD1⟩ := hB
      obtain ⟨hP, hD⟩ := join_w hP hD hk1 hFc hP1 hD1
      refine lv_astore_n (lv' := [(3, .ref z), (0, .ref (ad 11 0)), (1, .int p0), (2, .ref a)]) hx hb d_h_commit_12 rfl hl (by decide) rfl (fun ls hl => ?_)
      refine lv_iconst (v := 1) hx hb d_h_commit_13 (by decide) ?_
      refine W.cs (cells' := _) (slots' := _) (Nat.zero_add _) (Nat.zero_add _) ?_
      exact W.iret (v := 1) hx hb hr (fun t ht hW => ⟨⟨1, ad1, rfl, rfl, hX, by rw [ht]; exact hP, va_K.moved hW.alike hK, hD⟩, hS.F ht⟩) hS.2.2 d_h_commit_14
    rcases lk_cons hk with ⟨hc, rfl⟩ | hk
    · refine tx_catch (tx_runV (As := [.int p0]) (rest := [.int 0, .ref a]) ⟨hx, hb, hml, hown, hts⟩ (g_cJT_commit_t l hfl D s.heap.size (ad := ad) (cc := cc) (sad := sad) (sav := sav) hm) (cw_v 1 hts kw_990 kw_987 kw_988 kw_989 kw_1 rfl rfl (by decide +kernel) ⟨Nat.le_of_ble_eq_true rfl, Nat.le_of_ble_eq_true rfl⟩) ⟨c_blind, va_recv hK hPx (ci := 11) (q0 := cPos N 11 0) rfl (cw_obj (k := 11) (by decide) h0), fun U hU hW => c_pre hU hW hPx hKx hDx hev hE hN hNS hS hFc⟩ rfl rfl hl.1 rfl (lv_room (Nat.le_of_ble_eq_true rfl)) d_h_commit_4 ⟨Nat.le_of_eq (Nat.zero_add _), Nat.le_of_eq (Nat.zero_add _)⟩) hown hS hFc htab [(0, 9, 12, 19)] [(0, 9, 18, 13)] (0, 9, 15, 25) rfl (by decide) (by decide) (hts _ kw_580) (by rw [hc]; exact va_Nw.use rfl hev.2.2.2.2.2.1.2.1) (List.forall_mem_cons.mpr ⟨⟨by decide, by decide, "java/lang/IllegalArgumentException", hts _ kw_553, by rw [hc]; exact hev.2.2.2.2.2.2.2.1.2.2⟩, fun y hy => absurd hy List.not_mem_nil⟩) (fun z H locs hz1 hk1 hB hS => ?_)
      obtain ⟨ad1, hX, hP1, hD1⟩ := hB
      obtain ⟨hP, hD⟩ := join_w hP hD hk1 hFc hP1 hD1
      refine lv_astore_n (lv' := [(3, .ref z), (0, .ref (ad 11 0)), (1, .int p0), (2, .ref a)]) hx hb d_h_commit_15 rfl hl (by decide) rfl (fun ls hl => ?_)
      refine lv_iconst (v := 2) hx hb d_h_commit_16 (by decide) ?_
      refine W.cs (cells' := _) (slots' := _) (Nat.zero_add _) (Nat.zero_add _) ?_
      exact W.iret (v := 2) hx hb hr (fun t ht hW => ⟨⟨2, ad1, rfl, rfl, hX, by rw [ht]; exact hP, va_K.moved hW.alike hK, hD⟩, hS.F ht⟩) hS.2.2 d_h_commit_17
    rcases lk_cons hk with ⟨hc, rfl⟩ | hk
    · refine tx_catch (tx_runV (As := [.int p0]) (rest := [.int 0, .ref a]) ⟨hx, hb, hml, hown, hts⟩ (g_cJT_commit_t l hfl D s.heap.size (ad := ad) (cc := cc) (sad := sad) (sav := sav) hm) (cw_v 1 hts kw_990 kw_987 kw_988 kw_989 kw_1 rfl rfl (by decide +kernel) ⟨Nat.le_of_ble_eq_true rfl, Nat.le_of_ble_eq_true rfl⟩) ⟨c_blind, va_recv hK hPx (ci := 11) (q0 := cPos N 11 0) rfl (cw_obj (k := 11) (by decide) h0), fun U hU hW => c_pre hU hW hPx hKx hDx hev hE hN hNS hS hFc⟩ rfl rfl hl.1 rfl (lv_room (Nat.le_of_ble_eq_true rfl)) d_h_commit_4 ⟨Nat.le_of_eq (Nat.zero_add _), Nat.le_of_eq (Nat.zero_add _)⟩) hown hS hFc htab [(0, 9, 12, 19), (0, 9, 15, 25)] [] (0, 9, 18, 13) rfl (by decide) (by decide) (hts _ kw_468) (by rw [hc]; exact va_Nw.use rfl hev.2.2.2.2.2.1.2.2.2) (List.forall_mem_cons.mpr ⟨⟨by decide, by decide, "java/lang/IllegalArgumentException", hts _ kw_553, by rw [hc]; exact hH.1⟩, List.forall_mem_cons.mpr ⟨⟨by decide, by decide, "java/lang/IllegalStateException", hts _ kw_580, by rw [hc]; exact hH.2.1⟩, fun y hy => absurd hy List.not_mem_nil⟩⟩) (fun z H locs hz1 hk1 hB hS => ?_)
      obtain ⟨ad1, hX, hP1, hD1⟩ := hB
      obtain ⟨hP, hD⟩ := join_w hP hD hk1 hFc hP1 hD1
      refine lv_astore_n (lv' := [(3, .ref z), (0, .ref (ad 11 0)), (1, .int p0), (2, .ref a)]) hx hb d_h_commit_18 rfl hl (by decide) rfl (fun ls hl => ?_)
      refine lv_iconst (v := 3) hx hb d_h_commit_19 (by decide) ?_
      refine W.cs (cells' := _) (slots' := _) (Nat.zero_add _) (Nat.zero_add _) ?_
      exact W.iret (v := 3) hx hb hr (fun t ht hW => ⟨⟨3, ad1, rfl, rfl, hX, by rw [ht]; exact hP, va_K.moved hW.alike hK, hD⟩, hS.F ht⟩) hS.2.2 d_h_commit_20
    exact (lk_nil hk).elim
def h_drop (N : Nat → Nat) (S : CS) (ov : Nat → Int64) (p0 : Int32) : Option (((Nat → Nat) × CS × (Nat → Int64) × Int32) × Nat × Nat) := gl 0 (N 11) (hR Prod.fst (fun ov r => oU ov r.2.toInt64) [(1, 1)] N ov (m_cJT_drop N 0 S p0))
theorem d_h_drop_0 : decode method_13_code 0 = .ok (.aload_n 2, 1) := by decide +kernel
theorem d_h_drop_1 : decode method_13_code 1 = .ok (.iconst 0, 1) := by decide +kernel
theorem d_h_drop_2 : decode method_13_code 2 = .ok (.aload_n 0, 1) := by decide +kernel
theorem d_h_drop_3 : decode method_13_code 3 = .ok (.iload_n 1, 1) := by decide +kernel
theorem d_h_drop_4 : decode method_13_code 4 = .ok (.invokevirtual 54, 3) := by decide +kernel
theorem d_h_drop_7 : decode method_13_code 7 = .ok (.i2l, 1) := by decide +kernel
theorem d_h_drop_8 : decode method_13_code 8 = .ok (.lastore, 1) := by decide +kernel
theorem d_h_drop_9 : decode method_13_code 9 = .ok (.goto 6, 3) := by decide +kernel
theorem d_h_drop_15 : decode method_13_code 15 = .ok (.iconst 0, 1) := by decide +kernel
theorem d_h_drop_16 : decode method_13_code 16 = .ok (.ireturn, 1) := by decide +kernel
theorem d_h_drop_12 : decode method_13_code 12 = .ok (.astore_n 3, 1) := by decide +kernel
theorem d_h_drop_13 : decode method_13_code 13 = .ok (.iconst 1, 1) := by decide +kernel
theorem d_h_drop_14 : decode method_13_code 14 = .ok (.ireturn, 1) := by decide +kernel
set_option maxHeartbeats 4000000 in
set_option maxRecDepth 100000 in
theorem g_h_drop (l : Launch) (hfl : l.flags = flags0) (D : va_G) (sz : Nat) {ad : Nat → Nat → Nat} {cc : Nat → ClassId} {sad sav : Nat → Nat} {N : Nat → Nat} {S : CS} {cL : ClassId} {a : Nat} {ov : Nat → Int64} {p0 : Int32} {o : ((Nat → Nat) × CS × (Nat → Int64) × Int32)} {oc os : Nat} (Heq : h_drop N S ov p0 = some (o, oc, os)) : Met l ⟨"JoinedTreesLaw", "drop", "(LJoinedTrees;I[J)I"⟩ (Cond.codeWith ⟨"JoinedTreesLaw", "drop", "(LJoinedTrees;I[J)I"⟩ method_13_code 4 (some .int) [(0, 9, 12, 19)] :: gb) ({ frames := 8, cells := oc, slots := os, locals := 141 }) (hPc sad sav D (cw ad cc N S ++ [oA cL a ov]) (cty cc ++ [(cL, .long)]) sz [.ref (ad 11 0), .int p0, .ref a]) (va_Qi (fun (r : Int32) (_ : Nat → Nat → Nat) => r = o.2.2.2) (fun (u : Nat → Nat → Nat) t => Ext ad N u o.1 ∧ gO D (cw u cc o.1 o.2.1 ++ [oA cL a o.2.2.1]) (cty cc ++ [(cL, .long)]) (va_A (cw ad cc N S ++ [oA cL a ov]) sz) t) (va_A (cw ad cc N S ++ [oA cL a ov]) sz)) oc os (va_A (cw ad cc N S ++ [oA cL a ov]) sz) := by
  refine tx_ofW (cc := method_13_code) (maxL := 4) (ret := (some .int)) (hs := [(0, 9, 12, 19)]) (by decide) rfl ?_
  intro p e s m args below meth c s₁ B hml htab hv
  obtain ⟨rfl, hsz, hP, hK, hD0, hev, hE, hN, hH⟩ := hv
  have hx := B.exec
  have hb := B.bytes
  have hr := B.returns
  have hts : ∀ w9 ∈ gb, w9.before [.ref (ad 11 0), .int p0, .ref a].toArray s = true := fun w9 h => atoms_spec (ws := Cond.codeWith ⟨"JoinedTreesLaw", "drop", "(LJoinedTrees;I[J)I"⟩ method_13_code 4 (some .int) [(0, 9, 12, 19)] :: gb) B.pre w9 (List.mem_cons_of_mem _ h)
  have hown : s.vm.findClass "JoinedTreesLaw" = some m.cls := findClass_of_methodNamed B.named
  subst hsz
  have hNS := ns_of hP
  have hD := hD0.self (sz := s.heap.size)
  have hD0x := d_l hD0
  generalize hAe : va_A (cw ad cc N S ++ [oA cL a ov]) s.heap.size = A at hD hev hE hNS ⊢
  have hA : ∀ q : Nat, s.heap.size ≤ q → A q := fun q h => by rw [← hAe]; exact Or.inr h
  have hS : va_S A s.heap s.heap [] := va_S.rf
  obtain ⟨ls, hl, hle⟩ : ∃ ls : Array Slot, lv_has ls 4 [(0, .ref (ad 11 0)), (1, .int p0), (2, .ref a)] ∧ entryFrame m ([.ref (ad 11 0), .int p0, .ref a] : List Value).toArray 4 = F0 m 0 ls [] := ⟨_, lv_entry (n := 4) _ (Nat.le_of_ble_eq_true rfl), lg_entry_eq ..⟩
  rw [hle]
  have hPx := p_l hP
  have hDx := d_l hD
  have hFc := fr_all hDx hS hA
  have hKx := hK.sub (tys' := cty cc) [0, 1, 2, 3, 4, 5, 6] rfl
  obtain ⟨h0, Heq⟩ := gl_some Heq
  refine lv_aload_n hx hb d_h_drop_0 rfl (lv_at hl 2 rfl) ?_
  refine lv_iconst (v := 0) hx hb d_h_drop_1 (by decide) ?_
  refine lv_aload_n hx hb d_h_drop_2 rfl (lv_at hl 0 rfl) ?_
  refine lv_iload_n hx hb d_h_drop_3 rfl (lv_at hl 1 rfl) ?_
  rcases hR_some Heq with ⟨r, hm, rfl, rfl, rfl⟩ | ⟨S1, k, c, hm, hk, rfl, rfl, rfl⟩
  · refine va_calli (va_runV (As := [.int p0]) (rest := [.int 0, .ref a]) ⟨hx, hb, hml, hown, hts⟩ (g_cJT_drop l hfl D s.heap.size (ad := ad) (cc := cc) (sad := sad) (sav := sav) hm) (cw_v 1 hts kw_1064 kw_1061 kw_1062 kw_1063 kw_1 rfl rfl (by decide +kernel) ⟨Nat.le_of_ble_eq_true rfl, Nat.le_of_ble_eq_true rfl⟩) ⟨c_blind, va_recv hK hPx (ci := 11) (q0 := cPos N 11 0) rfl (cw_obj (k := 11) (by decide) h0), fun U hU hW => c_pre hU hW hPx hKx hDx hev hE hN hNS hS hFc⟩ rfl rfl hl.1 rfl (lv_room (Nat.le_of_ble_eq_true rfl)) d_h_drop_4 ⟨Nat.le_of_eq (Nat.zero_add _), Nat.le_of_eq (Nat.zero_add _)⟩) hS (fun q _ h => hFc q h) hFc (fun rz u t H locs ht hvm hw hB hz1 hk1 hS => ?_)
    obtain ⟨hP1, -, hD1⟩ := hB
    rw [ht] at hP1
    obtain ⟨hP, hD⟩ := join_w hP hD hk1 hFc hP1 hD1
    subst hw
    refine lv_i2l hx hb d_h_drop_7 rfl ?_
    refine va_last hx hb hK hP hD hS (cw ad cc N r.1).length 7 at_last rfl (i := 0) (x := r.2.toInt64) (vp_in_nI (n := 0) (N := 1) (by decide) (by decide)) d_h_drop_8 (fun H locs hP hD hS => ?_)
    rw [set_last] at hP hD
    refine lv_goto (tgt := 15) hx hb d_h_drop_9 (by decide) ?_
    refine lv_iconst (v := 0) hx hb d_h_drop_15 (by decide) ?_
    refine W.cs (cells' := 0) (slots' := 0) rfl rfl ?_
    exact W.iret (v := 0) hx hb hr (fun t ht hW => ⟨⟨0, ad, rfl, rfl, Ext.rf, by rw [ht]; exact hP, va_K.moved hW.alike hK, hD⟩, hS.F ht⟩) hS.2.2 d_h_drop_16
  · rcases lk_cons hk with ⟨hc, rfl⟩ | hk
    · refine tx_catch (tx_runV (As := [.int p0]) (rest := [.int 0, .ref a]) ⟨hx, hb, hml, hown, hts⟩ (g_cJT_drop_t l hfl D s.heap.size (ad := ad) (cc := cc) (sad := sad) (sav := sav) hm) (cw_v 1 hts kw_1064 kw_1061 kw_1062 kw_1063 kw_1 rfl rfl (by decide +kernel) ⟨Nat.le_of_ble_eq_true rfl, Nat.le_of_ble_eq_true rfl⟩) ⟨c_blind, va_recv hK hPx (ci := 11) (q0 := cPos N 11 0) rfl (cw_obj (k := 11) (by decide) h0), fun U hU hW => c_pre hU hW hPx hKx hDx hev hE hN hNS hS hFc⟩ rfl rfl hl.1 rfl (lv_room (Nat.le_of_ble_eq_true rfl)) d_h_drop_4 ⟨Nat.le_of_eq (Nat.zero_add _), Nat.le_of_eq (Nat.zero_add _)⟩) hown hS hFc htab [] [] (0, 9, 12, 19) rfl (by decide) (by decide) (hts _ kw_553) (by rw [hc]; exact va_Nw.use rfl hev.2.2.2.2.2.1.1) (fun y hy => absurd hy List.not_mem_nil) (fun z H locs hz1 hk1 hB hS => ?_)
      have hP1 := hB
      have hD1 := d_cw S1 (hD0x.self (sz := s.heap.size))
      obtain ⟨hP, hD⟩ := join_w hP hD hk1 hFc hP1 hD1
      refine lv_astore_n (lv' := [(3, .ref z), (0, .ref (ad 11 0)), (1, .int p0), (2, .ref a)]) hx hb d_h_drop_12 rfl hl (by decide) rfl (fun ls hl => ?_)
      refine lv_iconst (v := 1) hx hb d_h_drop_13 (by decide) ?_
      refine W.cs (cells' := 1) (slots' := 6) rfl rfl ?_
      exact W.iret (v := 1) hx hb hr (fun t ht hW => ⟨⟨1, ad, rfl, rfl, Ext.rf, by rw [ht]; exact hP, va_K.moved hW.alike hK, hD⟩, hS.F ht⟩) hS.2.2 d_h_drop_14
    exact (lk_nil hk).elim
def h_send (N : Nat → Nat) (S : CS) (ov : Nat → Int64) (p0 : Int32) (p1 : Int32) (p2 : Int32) (p3 : Int32) : Option (((Nat → Nat) × CS × (Nat → Int64) × Int32) × Nat × Nat) := gl 0 (N 11) (hR Prod.fst (fun ov r => oU ov r.2.toInt64) [(1, 1), (2, 2), (3, 3)] N ov (m_cJT_send N 0 S p0 p1 p2 p3))
theorem d_h_send_0 : decode method_14_code 0 = .ok (.aload 5, 2) := by decide +kernel
theorem d_h_send_2 : decode method_14_code 2 = .ok (.iconst 0, 1) := by decide +kernel
theorem d_h_send_3 : decode method_14_code 3 = .ok (.aload_n 0, 1) := by decide +kernel
theorem d_h_send_4 : decode method_14_code 4 = .ok (.iload_n 1, 1) := by decide +kernel
theorem d_h_send_5 : decode method_14_code 5 = .ok (.iload_n 2, 1) := by decide +kernel
theorem d_h_send_6 : decode method_14_code 6 = .ok (.iload_n 3, 1) := by decide +kernel
theorem d_h_send_7 : decode method_14_code 7 = .ok (.iload 4, 2) := by decide +kernel
theorem d_h_send_9 : decode method_14_code 9 = .ok (.invokevirtual 57, 3) := by decide +kernel
theorem d_h_send_12 : decode method_14_code 12 = .ok (.i2l, 1) := by decide +kernel
theorem d_h_send_13 : decode method_14_code 13 = .ok (.lastore, 1) := by decide +kernel
theorem d_h_send_14 : decode method_14_code 14 = .ok (.goto 15, 3) := by decide +kernel
theorem d_h_send_29 : decode method_14_code 29 = .ok (.iconst 0, 1) := by decide +kernel
theorem d_h_send_30 : decode method_14_code 30 = .ok (.ireturn, 1) := by decide +kernel
theorem d_h_send_17 : decode method_14_code 17 = .ok (.astore 6, 2) := by decide +kernel
theorem d_h_send_19 : decode method_14_code 19 = .ok (.iconst 1, 1) := by decide +kernel
theorem d_h_send_20 : decode method_14_code 20 = .ok (.ireturn, 1) := by decide +kernel
theorem d_h_send_21 : decode method_14_code 21 = .ok (.astore 6, 2) := by decide +kernel
theorem d_h_send_23 : decode method_14_code 23 = .ok (.iconst 2, 1) := by decide +kernel
theorem d_h_send_24 : decode method_14_code 24 = .ok (.ireturn, 1) := by decide +kernel
theorem d_h_send_25 : decode method_14_code 25 = .ok (.astore 6, 2) := by decide +kernel
theorem d_h_send_27 : decode method_14_code 27 = .ok (.iconst 3, 1) := by decide +kernel
theorem d_h_send_28 : decode method_14_code 28 = .ok (.ireturn, 1) := by decide +kernel
set_option maxHeartbeats 4000000 in
set_option maxRecDepth 100000 in
theorem g_h_send (l : Launch) (hfl : l.flags = flags0) (D : va_G) (sz : Nat) {ad : Nat → Nat → Nat} {cc : Nat → ClassId} {sad sav : Nat → Nat} {N : Nat → Nat} {S : CS} {cL : ClassId} {a : Nat} {ov : Nat → Int64} {p0 : Int32} {p1 : Int32} {p2 : Int32} {p3 : Int32} {o : ((Nat → Nat) × CS × (Nat → Int64) × Int32)} {oc os : Nat} (Heq : h_send N S ov p0 p1 p2 p3 = some (o, oc, os)) : Met l ⟨"JoinedTreesLaw", "send", "(LJoinedTrees;IIII[J)I"⟩ (Cond.codeWith ⟨"JoinedTreesLaw", "send", "(LJoinedTrees;IIII[J)I"⟩ method_14_code 7 (some .int) [(0, 14, 17, 19), (0, 14, 21, 25), (0, 14, 25, 27)] :: gb) ({ frames := 8, cells := oc, slots := os, locals := 144 }) (hPc sad sav D (cw ad cc N S ++ [oA cL a ov]) (cty cc ++ [(cL, .long)]) sz [.ref (ad 11 0), .int p0, .int p1, .int p2, .int p3, .ref a]) (va_Qi (fun (r : Int32) (_ : Nat → Nat → Nat) => r = o.2.2.2) (fun (u : Nat → Nat → Nat) t => Ext ad N u o.1 ∧ gO D (cw u cc o.1 o.2.1 ++ [oA cL a o.2.2.1]) (cty cc ++ [(cL, .long)]) (va_A (cw ad cc N S ++ [oA cL a ov]) sz) t) (va_A (cw ad cc N S ++ [oA cL a ov]) sz)) oc os (va_A (cw ad cc N S ++ [oA cL a ov]) sz) := by
  refine tx_ofW (cc := method_14_code) (maxL := 7) (ret := (some .int)) (hs := [(0, 14, 17, 19), (0, 14, 21, 25), (0, 14, 25, 27)]) (by decide) rfl ?_
  intro p e s m args below meth c s₁ B hml htab hv
  obtain ⟨rfl, hsz, hP, hK, hD0, hev, hE, hN, hH⟩ := hv
  have hx := B.exec
  have hb := B.bytes
  have hr := B.returns
  have hts : ∀ w9 ∈ gb, w9.before [.ref (ad 11 0), .int p0, .int p1, .int p2, .int p3, .ref a].toArray s = true := fun w9 h => atoms_spec (ws := Cond.codeWith ⟨"JoinedTreesLaw", "send", "(LJoinedTrees;IIII[J)I"⟩ method_14_code 7 (some .int) [(0, 14, 17, 19), (0, 14, 21, 25), (0, 14, 25, 27)] :: gb) B.pre w9 (List.mem_cons_of_mem _ h)
  have hown : s.vm.findClass "JoinedTreesLaw" = some m.cls := findClass_of_methodNamed B.named
  subst hsz
  have hNS := ns_of hP
  have hD := hD0.self (sz := s.heap.size)
  have hD0x := d_l hD0
  generalize hAe : va_A (cw ad cc N S ++ [oA cL a ov]) s.heap.size = A at hD hev hE hNS ⊢
  have hA : ∀ q : Nat, s.heap.size ≤ q → A q := fun q h => by rw [← hAe]; exact Or.inr h
  have hS : va_S A s.heap s.heap [] := va_S.rf
  obtain ⟨ls, hl, hle⟩ : ∃ ls : Array Slot, lv_has ls 7 [(0, .ref (ad 11 0)), (1, .int p0), (2, .int p1), (3, .int p2), (4, .int p3), (5, .ref a)] ∧ entryFrame m ([.ref (ad 11 0), .int p0, .int p1, .int p2, .int p3, .ref a] : List Value).toArray 7 = F0 m 0 ls [] := ⟨_, lv_entry (n := 7) _ (Nat.le_of_ble_eq_true rfl), lg_entry_eq ..⟩
  rw [hle]
  have hPx := p_l hP
  have hDx := d_l hD
  have hFc := fr_all hDx hS hA
  have hKx := hK.sub (tys' := cty cc) [0, 1, 2, 3, 4, 5, 6] rfl
  obtain ⟨h0, Heq⟩ := gl_some Heq
  refine lv_aload hx hb d_h_send_0 (lv_at hl 5 rfl) ?_
  refine lv_iconst (v := 0) hx hb d_h_send_2 (by decide) ?_
  refine lv_aload_n hx hb d_h_send_3 rfl (lv_at hl 0 rfl) ?_
  refine lv_iload_n hx hb d_h_send_4 rfl (lv_at hl 1 rfl) ?_
  refine lv_iload_n hx hb d_h_send_5 rfl (lv_at hl 2 rfl) ?_
  refine lv_iload_n hx hb d_h_send_6 rfl (lv_at hl 3 rfl) ?_
  refine lv_iload hx hb d_h_send_7 (lv_at hl 4 rfl) ?_
  rcases hR_some Heq with ⟨r, hm, rfl, rfl, rfl⟩ | ⟨S1, k, c, hm, hk, rfl, rfl, rfl⟩
  · refine va_calli (va_runV (As := [.int p0, .int p1, .int p2, .int p3]) (rest := [.int 0, .ref a]) ⟨hx, hb, hml, hown, hts⟩ (g_cJT_send l hfl D s.heap.size (ad := ad) (cc := cc) (sad := sad) (sav := sav) hm) (cw_v 4 hts kw_1075 kw_1072 kw_1073 kw_1074 kw_1 rfl rfl (by decide +kernel) ⟨Nat.le_of_ble_eq_true rfl, Nat.le_of_ble_eq_true rfl⟩) ⟨c_blind, va_recv hK hPx (ci := 11) (q0 := cPos N 11 0) rfl (cw_obj (k := 11) (by decide) h0), fun U hU hW => c_pre hU hW hPx hKx hDx hev hE hN hNS hS hFc⟩ rfl rfl hl.1 rfl (lv_room (Nat.le_of_ble_eq_true rfl)) d_h_send_9 ⟨Nat.le_of_eq (Nat.zero_add _), Nat.le_of_eq (Nat.zero_add _)⟩) hS (fun q _ h => hFc q h) hFc (fun rz u t H locs ht hvm hw hB hz1 hk1 hS => ?_)
    obtain ⟨hP1, -, hD1⟩ := hB
    rw [ht] at hP1
    obtain ⟨hP, hD⟩ := join_w hP hD hk1 hFc hP1 hD1
    subst hw
    refine lv_i2l hx hb d_h_send_12 rfl ?_
    refine va_last hx hb hK hP hD hS (cw ad cc N r.1).length 7 at_last rfl (i := 0) (x := r.2.toInt64) (vp_in_nI (n := 0) (N := 1) (by decide) (by decide)) d_h_send_13 (fun H locs hP hD hS => ?_)
    rw [set_last] at hP hD
    refine lv_goto (tgt := 29) hx hb d_h_send_14 (by decide) ?_
    refine lv_iconst (v := 0) hx hb d_h_send_29 (by decide) ?_
    refine W.cs (cells' := 0) (slots' := 0) rfl rfl ?_
    exact W.iret (v := 0) hx hb hr (fun t ht hW => ⟨⟨0, ad, rfl, rfl, Ext.rf, by rw [ht]; exact hP, va_K.moved hW.alike hK, hD⟩, hS.F ht⟩) hS.2.2 d_h_send_30
  · rcases lk_cons hk with ⟨hc, rfl⟩ | hk
    · refine tx_catch (tx_runV (As := [.int p0, .int p1, .int p2, .int p3]) (rest := [.int 0, .ref a]) ⟨hx, hb, hml, hown, hts⟩ (g_cJT_send_t l hfl D s.heap.size (ad := ad) (cc := cc) (sad := sad) (sav := sav) hm) (cw_v 4 hts kw_1075 kw_1072 kw_1073 kw_1074 kw_1 rfl rfl (by decide +kernel) ⟨Nat.le_of_ble_eq_true rfl, Nat.le_of_ble_eq_true rfl⟩) ⟨c_blind, va_recv hK hPx (ci := 11) (q0 := cPos N 11 0) rfl (cw_obj (k := 11) (by decide) h0), fun U hU hW => c_pre hU hW hPx hKx hDx hev hE hN hNS hS hFc⟩ rfl rfl hl.1 rfl (lv_room (Nat.le_of_ble_eq_true rfl)) d_h_send_9 ⟨Nat.le_of_eq (Nat.zero_add _), Nat.le_of_eq (Nat.zero_add _)⟩) hown hS hFc htab [] [(0, 14, 21, 25), (0, 14, 25, 27)] (0, 14, 17, 19) rfl (by decide) (by decide) (hts _ kw_553) (by rw [hc]; exact va_Nw.use rfl hev.2.2.2.2.2.1.1) (fun y hy => absurd hy List.not_mem_nil) (fun z H locs hz1 hk1 hB hS => ?_)
      have hP1 := hB
      have hD1 := d_cw S1 (hD0x.self (sz := s.heap.size))
      obtain ⟨hP, hD⟩ := join_w hP hD hk1 hFc hP1 hD1
      refine lv_astore (lv' := [(6, .ref z), (0, .ref (ad 11 0)), (1, .int p0), (2, .int p1), (3, .int p2), (4, .int p3), (5, .ref a)]) hx hb d_h_send_17 hl (by decide) rfl (fun ls hl => ?_)
      refine lv_iconst (v := 1) hx hb d_h_send_19 (by decide) ?_
      refine W.cs (cells' := 1) (slots' := 6) rfl rfl ?_
      exact W.iret (v := 1) hx hb hr (fun t ht hW => ⟨⟨1, ad, rfl, rfl, Ext.rf, by rw [ht]; exact hP, va_K.moved hW.alike hK, hD⟩, hS.F ht⟩) hS.2.2 d_h_send_20
    rcases lk_cons hk with ⟨hc, rfl⟩ | hk
    · refine tx_catch (tx_runV (As := [.int p0, .int p1, .int p2, .int p3]) (rest := [.int 0, .ref a]) ⟨hx, hb, hml, hown, hts⟩ (g_cJT_send_t l hfl D s.heap.size (ad := ad) (cc := cc) (sad := sad) (sav := sav) hm) (cw_v 4 hts kw_1075 kw_1072 kw_1073 kw_1074 kw_1 rfl rfl (by decide +kernel) ⟨Nat.le_of_ble_eq_true rfl, Nat.le_of_ble_eq_true rfl⟩) ⟨c_blind, va_recv hK hPx (ci := 11) (q0 := cPos N 11 0) rfl (cw_obj (k := 11) (by decide) h0), fun U hU hW => c_pre hU hW hPx hKx hDx hev hE hN hNS hS hFc⟩ rfl rfl hl.1 rfl (lv_room (Nat.le_of_ble_eq_true rfl)) d_h_send_9 ⟨Nat.le_of_eq (Nat.zero_add _), Nat.le_of_eq (Nat.zero_add _)⟩) hown hS hFc htab [(0, 14, 17, 19)] [(0, 14, 25, 27)] (0, 14, 21, 25) rfl (by decide) (by decide) (hts _ kw_580) (by rw [hc]; exact va_Nw.use rfl hev.2.2.2.2.2.1.2.1) (List.forall_mem_cons.mpr ⟨⟨by decide, by decide, "java/lang/IllegalArgumentException", hts _ kw_553, by rw [hc]; exact hev.2.2.2.2.2.2.2.1.2.2⟩, fun y hy => absurd hy List.not_mem_nil⟩) (fun z H locs hz1 hk1 hB hS => ?_)
      have hP1 := hB
      have hD1 := d_cw S1 (hD0x.self (sz := s.heap.size))
      obtain ⟨hP, hD⟩ := join_w hP hD hk1 hFc hP1 hD1
      refine lv_astore (lv' := [(6, .ref z), (0, .ref (ad 11 0)), (1, .int p0), (2, .int p1), (3, .int p2), (4, .int p3), (5, .ref a)]) hx hb d_h_send_21 hl (by decide) rfl (fun ls hl => ?_)
      refine lv_iconst (v := 2) hx hb d_h_send_23 (by decide) ?_
      refine W.cs (cells' := 1) (slots' := 6) rfl rfl ?_
      exact W.iret (v := 2) hx hb hr (fun t ht hW => ⟨⟨2, ad, rfl, rfl, Ext.rf, by rw [ht]; exact hP, va_K.moved hW.alike hK, hD⟩, hS.F ht⟩) hS.2.2 d_h_send_24
    rcases lk_cons hk with ⟨hc, rfl⟩ | hk
    · refine tx_catch (tx_runV (As := [.int p0, .int p1, .int p2, .int p3]) (rest := [.int 0, .ref a]) ⟨hx, hb, hml, hown, hts⟩ (g_cJT_send_t l hfl D s.heap.size (ad := ad) (cc := cc) (sad := sad) (sav := sav) hm) (cw_v 4 hts kw_1075 kw_1072 kw_1073 kw_1074 kw_1 rfl rfl (by decide +kernel) ⟨Nat.le_of_ble_eq_true rfl, Nat.le_of_ble_eq_true rfl⟩) ⟨c_blind, va_recv hK hPx (ci := 11) (q0 := cPos N 11 0) rfl (cw_obj (k := 11) (by decide) h0), fun U hU hW => c_pre hU hW hPx hKx hDx hev hE hN hNS hS hFc⟩ rfl rfl hl.1 rfl (lv_room (Nat.le_of_ble_eq_true rfl)) d_h_send_9 ⟨Nat.le_of_eq (Nat.zero_add _), Nat.le_of_eq (Nat.zero_add _)⟩) hown hS hFc htab [(0, 14, 17, 19), (0, 14, 21, 25)] [] (0, 14, 25, 27) rfl (by decide) (by decide) (hts _ kw_581) (by rw [hc]; exact va_Nw.use rfl hev.2.2.2.2.2.1.2.2.1) (List.forall_mem_cons.mpr ⟨⟨by decide, by decide, "java/lang/IllegalArgumentException", hts _ kw_553, by rw [hc]; exact hev.2.2.2.2.2.2.2.1.1⟩, List.forall_mem_cons.mpr ⟨⟨by decide, by decide, "java/lang/IllegalStateException", hts _ kw_580, by rw [hc]; exact hev.2.2.2.2.2.2.2.1.2.1⟩, fun y hy => absurd hy List.not_mem_nil⟩⟩) (fun z H locs hz1 hk1 hB hS => ?_)
      have hP1 := hB
      have hD1 := d_cw S1 (hD0x.self (sz := s.heap.size))
      obtain ⟨hP, hD⟩ := join_w hP hD hk1 hFc hP1 hD1
      refine lv_astore (lv' := [(6, .ref z), (0, .ref (ad 11 0)), (1, .int p0), (2, .int p1), (3, .int p2), (4, .int p3), (5, .ref a)]) hx hb d_h_send_25 hl (by decide) rfl (fun ls hl => ?_)
      refine lv_iconst (v := 3) hx hb d_h_send_27 (by decide) ?_
      refine W.cs (cells' := 1) (slots' := 6) rfl rfl ?_
      exact W.iret (v := 3) hx hb hr (fun t ht hW => ⟨⟨3, ad, rfl, rfl, Ext.rf, by rw [ht]; exact hP, va_K.moved hW.alike hK, hD⟩, hS.F ht⟩) hS.2.2 d_h_send_28
    exact (lk_nil hk).elim
def h_join (N : Nat → Nat) (S : CS) (ov : Nat → Int64) (p0 : Int32) (p1 : Int32) : Option (((Nat → Nat) × CS × (Nat → Int64) × Int32) × Nat × Nat) := gl 0 (N 11) (hR Prod.fst (fun ov r => oU ov r.2.toInt64) [(1, 1), (2, 2)] N ov (m_cJT_join N 0 S p0 p1))
theorem d_h_join_0 : decode method_15_code 0 = .ok (.aload_n 3, 1) := by decide +kernel
theorem d_h_join_1 : decode method_15_code 1 = .ok (.iconst 0, 1) := by decide +kernel
theorem d_h_join_2 : decode method_15_code 2 = .ok (.aload_n 0, 1) := by decide +kernel
theorem d_h_join_3 : decode method_15_code 3 = .ok (.iload_n 1, 1) := by decide +kernel
theorem d_h_join_4 : decode method_15_code 4 = .ok (.iload_n 2, 1) := by decide +kernel
theorem d_h_join_5 : decode method_15_code 5 = .ok (.invokevirtual 60, 3) := by decide +kernel
theorem d_h_join_8 : decode method_15_code 8 = .ok (.i2l, 1) := by decide +kernel
theorem d_h_join_9 : decode method_15_code 9 = .ok (.lastore, 1) := by decide +kernel
theorem d_h_join_10 : decode method_15_code 10 = .ok (.goto 11, 3) := by decide +kernel
theorem d_h_join_21 : decode method_15_code 21 = .ok (.iconst 0, 1) := by decide +kernel
theorem d_h_join_22 : decode method_15_code 22 = .ok (.ireturn, 1) := by decide +kernel
theorem d_h_join_13 : decode method_15_code 13 = .ok (.astore 4, 2) := by decide +kernel
theorem d_h_join_15 : decode method_15_code 15 = .ok (.iconst 1, 1) := by decide +kernel
theorem d_h_join_16 : decode method_15_code 16 = .ok (.ireturn, 1) := by decide +kernel
theorem d_h_join_17 : decode method_15_code 17 = .ok (.astore 4, 2) := by decide +kernel
theorem d_h_join_19 : decode method_15_code 19 = .ok (.iconst 2, 1) := by decide +kernel
theorem d_h_join_20 : decode method_15_code 20 = .ok (.ireturn, 1) := by decide +kernel
set_option maxHeartbeats 4000000 in
set_option maxRecDepth 100000 in
theorem g_h_join (l : Launch) (hfl : l.flags = flags0) (D : va_G) (sz : Nat) {ad : Nat → Nat → Nat} {cc : Nat → ClassId} {sad sav : Nat → Nat} {N : Nat → Nat} {S : CS} {cL : ClassId} {a : Nat} {ov : Nat → Int64} {p0 : Int32} {p1 : Int32} {o : ((Nat → Nat) × CS × (Nat → Int64) × Int32)} {oc os : Nat} (Heq : h_join N S ov p0 p1 = some (o, oc, os)) : Met l ⟨"JoinedTreesLaw", "join", "(LJoinedTrees;II[J)I"⟩ (Cond.codeWith ⟨"JoinedTreesLaw", "join", "(LJoinedTrees;II[J)I"⟩ method_15_code 5 (some .int) [(0, 10, 13, 19), (0, 10, 17, 25)] :: gb) ({ frames := 8, cells := oc, slots := os, locals := 143 }) (hPc sad sav D (cw ad cc N S ++ [oA cL a ov]) (cty cc ++ [(cL, .long)]) sz [.ref (ad 11 0), .int p0, .int p1, .ref a]) (va_Qi (fun (r : Int32) (_ : Nat → Nat → Nat) => r = o.2.2.2) (fun (u : Nat → Nat → Nat) t => Ext ad N u o.1 ∧ gO D (cw u cc o.1 o.2.1 ++ [oA cL a o.2.2.1]) (cty cc ++ [(cL, .long)]) (va_A (cw ad cc N S ++ [oA cL a ov]) sz) t) (va_A (cw ad cc N S ++ [oA cL a ov]) sz)) oc os (va_A (cw ad cc N S ++ [oA cL a ov]) sz) := by
  refine tx_ofW (cc := method_15_code) (maxL := 5) (ret := (some .int)) (hs := [(0, 10, 13, 19), (0, 10, 17, 25)]) (by decide) rfl ?_
  intro p e s m args below meth c s₁ B hml htab hv
  obtain ⟨rfl, hsz, hP, hK, hD0, hev, hE, hN, hH⟩ := hv
  have hx := B.exec
  have hb := B.bytes
  have hr := B.returns
  have hts : ∀ w9 ∈ gb, w9.before [.ref (ad 11 0), .int p0, .int p1, .ref a].toArray s = true := fun w9 h => atoms_spec (ws := Cond.codeWith ⟨"JoinedTreesLaw", "join", "(LJoinedTrees;II[J)I"⟩ method_15_code 5 (some .int) [(0, 10, 13, 19), (0, 10, 17, 25)] :: gb) B.pre w9 (List.mem_cons_of_mem _ h)
  have hown : s.vm.findClass "JoinedTreesLaw" = some m.cls := findClass_of_methodNamed B.named
  subst hsz
  have hNS := ns_of hP
  have hD := hD0.self (sz := s.heap.size)
  have hD0x := d_l hD0
  generalize hAe : va_A (cw ad cc N S ++ [oA cL a ov]) s.heap.size = A at hD hev hE hNS ⊢
  have hA : ∀ q : Nat, s.heap.size ≤ q → A q := fun q h => by rw [← hAe]; exact Or.inr h
  have hS : va_S A s.heap s.heap [] := va_S.rf
  obtain ⟨ls, hl, hle⟩ : ∃ ls : Array Slot, lv_has ls 5 [(0, .ref (ad 11 0)), (1, .int p0), (2, .int p1), (3, .ref a)] ∧ entryFrame m ([.ref (ad 11 0), .int p0, .int p1, .ref a] : List Value).toArray 5 = F0 m 0 ls [] := ⟨_, lv_entry (n := 5) _ (Nat.le_of_ble_eq_true rfl), lg_entry_eq ..⟩
  rw [hle]
  have hPx := p_l hP
  have hDx := d_l hD
  have hFc := fr_all hDx hS hA
  have hKx := hK.sub (tys' := cty cc) [0, 1, 2, 3, 4, 5, 6] rfl
  obtain ⟨h0, Heq⟩ := gl_some Heq
  refine lv_aload_n hx hb d_h_join_0 rfl (lv_at hl 3 rfl) ?_
  refine lv_iconst (v := 0) hx hb d_h_join_1 (by decide) ?_
  refine lv_aload_n hx hb d_h_join_2 rfl (lv_at hl 0 rfl) ?_
  refine lv_iload_n hx hb d_h_join_3 rfl (lv_at hl 1 rfl) ?_
  refine lv_iload_n hx hb d_h_join_4 rfl (lv_at hl 2 rfl) ?_
  rcases hR_some Heq with ⟨r, hm, rfl, rfl, rfl⟩ | ⟨S1, k, c, hm, hk, rfl, rfl, rfl⟩
  · refine va_calli (va_runV (As := [.int p0, .int p1]) (rest := [.int 0, .ref a]) ⟨hx, hb, hml, hown, hts⟩ (g_cJT_join l hfl D s.heap.size (ad := ad) (cc := cc) (sad := sad) (sav := sav) hm) (cw_v 2 hts kw_1110 kw_1107 kw_1108 kw_1109 kw_1 rfl rfl (by decide +kernel) ⟨Nat.le_of_ble_eq_true rfl, Nat.le_of_ble_eq_true rfl⟩) ⟨c_blind, va_recv hK hPx (ci := 11) (q0 := cPos N 11 0) rfl (cw_obj (k := 11) (by decide) h0), fun U hU hW => c_pre hU hW hPx hKx hDx hev hE hN hNS hS hFc⟩ rfl rfl hl.1 rfl (lv_room (Nat.le_of_ble_eq_true rfl)) d_h_join_5 ⟨Nat.le_of_eq (Nat.zero_add _), Nat.le_of_eq (Nat.zero_add _)⟩) hS (fun q _ h => hFc q h) hFc (fun rz u t H locs ht hvm hw hB hz1 hk1 hS => ?_)
    obtain ⟨hP1, -, hD1⟩ := hB
    rw [ht] at hP1
    obtain ⟨hP, hD⟩ := join_w hP hD hk1 hFc hP1 hD1
    subst hw
    refine lv_i2l hx hb d_h_join_8 rfl ?_
    refine va_last hx hb hK hP hD hS (cw ad cc N r.1).length 7 at_last rfl (i := 0) (x := r.2.toInt64) (vp_in_nI (n := 0) (N := 1) (by decide) (by decide)) d_h_join_9 (fun H locs hP hD hS => ?_)
    rw [set_last] at hP hD
    refine lv_goto (tgt := 21) hx hb d_h_join_10 (by decide) ?_
    refine lv_iconst (v := 0) hx hb d_h_join_21 (by decide) ?_
    refine W.cs (cells' := 0) (slots' := 0) rfl rfl ?_
    exact W.iret (v := 0) hx hb hr (fun t ht hW => ⟨⟨0, ad, rfl, rfl, Ext.rf, by rw [ht]; exact hP, va_K.moved hW.alike hK, hD⟩, hS.F ht⟩) hS.2.2 d_h_join_22
  · rcases lk_cons hk with ⟨hc, rfl⟩ | hk
    · refine tx_catch (tx_runV (As := [.int p0, .int p1]) (rest := [.int 0, .ref a]) ⟨hx, hb, hml, hown, hts⟩ (g_cJT_join_t l hfl D s.heap.size (ad := ad) (cc := cc) (sad := sad) (sav := sav) hm) (cw_v 2 hts kw_1110 kw_1107 kw_1108 kw_1109 kw_1 rfl rfl (by decide +kernel) ⟨Nat.le_of_ble_eq_true rfl, Nat.le_of_ble_eq_true rfl⟩) ⟨c_blind, va_recv hK hPx (ci := 11) (q0 := cPos N 11 0) rfl (cw_obj (k := 11) (by decide) h0), fun U hU hW => c_pre hU hW hPx hKx hDx hev hE hN hNS hS hFc⟩ rfl rfl hl.1 rfl (lv_room (Nat.le_of_ble_eq_true rfl)) d_h_join_5 ⟨Nat.le_of_eq (Nat.zero_add _), Nat.le_of_eq (Nat.zero_add _)⟩) hown hS hFc htab [] [(0, 10, 17, 25)] (0, 10, 13, 19) rfl (by decide) (by decide) (hts _ kw_553) (by rw [hc]; exact va_Nw.use rfl hev.2.2.2.2.2.1.1) (fun y hy => absurd hy List.not_mem_nil) (fun z H locs hz1 hk1 hB hS => ?_)
      have hP1 := hB
      have hD1 := d_cw S1 (hD0x.self (sz := s.heap.size))
      obtain ⟨hP, hD⟩ := join_w hP hD hk1 hFc hP1 hD1
      refine lv_astore (lv' := [(4, .ref z), (0, .ref (ad 11 0)), (1, .int p0), (2, .int p1), (3, .ref a)]) hx hb d_h_join_13 hl (by decide) rfl (fun ls hl => ?_)
      refine lv_iconst (v := 1) hx hb d_h_join_15 (by decide) ?_
      refine W.cs (cells' := 1) (slots' := 6) rfl rfl ?_
      exact W.iret (v := 1) hx hb hr (fun t ht hW => ⟨⟨1, ad, rfl, rfl, Ext.rf, by rw [ht]; exact hP, va_K.moved hW.alike hK, hD⟩, hS.F ht⟩) hS.2.2 d_h_join_16
    rcases lk_cons hk with ⟨hc, rfl⟩ | hk
    · refine tx_catch (tx_runV (As := [.int p0, .int p1]) (rest := [.int 0, .ref a]) ⟨hx, hb, hml, hown, hts⟩ (g_cJT_join_t l hfl D s.heap.size (ad := ad) (cc := cc) (sad := sad) (sav := sav) hm) (cw_v 2 hts kw_1110 kw_1107 kw_1108 kw_1109 kw_1 rfl rfl (by decide +kernel) ⟨Nat.le_of_ble_eq_true rfl, Nat.le_of_ble_eq_true rfl⟩) ⟨c_blind, va_recv hK hPx (ci := 11) (q0 := cPos N 11 0) rfl (cw_obj (k := 11) (by decide) h0), fun U hU hW => c_pre hU hW hPx hKx hDx hev hE hN hNS hS hFc⟩ rfl rfl hl.1 rfl (lv_room (Nat.le_of_ble_eq_true rfl)) d_h_join_5 ⟨Nat.le_of_eq (Nat.zero_add _), Nat.le_of_eq (Nat.zero_add _)⟩) hown hS hFc htab [(0, 10, 13, 19)] [] (0, 10, 17, 25) rfl (by decide) (by decide) (hts _ kw_580) (by rw [hc]; exact va_Nw.use rfl hev.2.2.2.2.2.1.2.1) (List.forall_mem_cons.mpr ⟨⟨by decide, by decide, "java/lang/IllegalArgumentException", hts _ kw_553, by rw [hc]; exact hev.2.2.2.2.2.2.2.1.2.2⟩, fun y hy => absurd hy List.not_mem_nil⟩) (fun z H locs hz1 hk1 hB hS => ?_)
      have hP1 := hB
      have hD1 := d_cw S1 (hD0x.self (sz := s.heap.size))
      obtain ⟨hP, hD⟩ := join_w hP hD hk1 hFc hP1 hD1
      refine lv_astore (lv' := [(4, .ref z), (0, .ref (ad 11 0)), (1, .int p0), (2, .int p1), (3, .ref a)]) hx hb d_h_join_17 hl (by decide) rfl (fun ls hl => ?_)
      refine lv_iconst (v := 2) hx hb d_h_join_19 (by decide) ?_
      refine W.cs (cells' := 1) (slots' := 6) rfl rfl ?_
      exact W.iret (v := 2) hx hb hr (fun t ht hW => ⟨⟨2, ad, rfl, rfl, Ext.rf, by rw [ht]; exact hP, va_K.moved hW.alike hK, hD⟩, hS.F ht⟩) hS.2.2 d_h_join_20
    exact (lk_nil hk).elim
def h_look (N : Nat → Nat) (S : CS) (ov : Nat → Int64) (p0 : Int32) (p1 : Int32) (p2 : Int32) : Option (((Nat → Nat) × CS × (Nat → Int64) × Int32) × Nat × Nat) := gl 0 (N 11) (hR Prod.fst (fun ov r => oU ov r.2.toInt64) [(1, 1), (3, 2)] N ov (m_cJT_look N 0 S p0 p1 p2))
theorem d_h_look_0 : decode method_16_code 0 = .ok (.aload 4, 2) := by decide +kernel
theorem d_h_look_2 : decode method_16_code 2 = .ok (.iconst 0, 1) := by decide +kernel
theorem d_h_look_3 : decode method_16_code 3 = .ok (.aload_n 0, 1) := by decide +kernel
theorem d_h_look_4 : decode method_16_code 4 = .ok (.iload_n 1, 1) := by decide +kernel
theorem d_h_look_5 : decode method_16_code 5 = .ok (.iload_n 2, 1) := by decide +kernel
theorem d_h_look_6 : decode method_16_code 6 = .ok (.iload_n 3, 1) := by decide +kernel
theorem d_h_look_7 : decode method_16_code 7 = .ok (.invokevirtual 63, 3) := by decide +kernel
theorem d_h_look_10 : decode method_16_code 10 = .ok (.i2l, 1) := by decide +kernel
theorem d_h_look_11 : decode method_16_code 11 = .ok (.lastore, 1) := by decide +kernel
theorem d_h_look_12 : decode method_16_code 12 = .ok (.goto 11, 3) := by decide +kernel
theorem d_h_look_23 : decode method_16_code 23 = .ok (.iconst 0, 1) := by decide +kernel
theorem d_h_look_24 : decode method_16_code 24 = .ok (.ireturn, 1) := by decide +kernel
theorem d_h_look_15 : decode method_16_code 15 = .ok (.astore 5, 2) := by decide +kernel
theorem d_h_look_17 : decode method_16_code 17 = .ok (.iconst 1, 1) := by decide +kernel
theorem d_h_look_18 : decode method_16_code 18 = .ok (.ireturn, 1) := by decide +kernel
theorem d_h_look_19 : decode method_16_code 19 = .ok (.astore 5, 2) := by decide +kernel
theorem d_h_look_21 : decode method_16_code 21 = .ok (.iconst 2, 1) := by decide +kernel
theorem d_h_look_22 : decode method_16_code 22 = .ok (.ireturn, 1) := by decide +kernel
set_option maxHeartbeats 4000000 in
set_option maxRecDepth 100000 in
theorem g_h_look (l : Launch) (hfl : l.flags = flags0) (D : va_G) (sz : Nat) {ad : Nat → Nat → Nat} {cc : Nat → ClassId} {sad sav : Nat → Nat} {N : Nat → Nat} {S : CS} {cL : ClassId} {a : Nat} {ov : Nat → Int64} {p0 : Int32} {p1 : Int32} {p2 : Int32} {o : ((Nat → Nat) × CS × (Nat → Int64) × Int32)} {oc os : Nat} (Heq : h_look N S ov p0 p1 p2 = some (o, oc, os)) : Met l ⟨"JoinedTreesLaw", "look", "(LJoinedTrees;III[J)I"⟩ (Cond.codeWith ⟨"JoinedTreesLaw", "look", "(LJoinedTrees;III[J)I"⟩ method_16_code 6 (some .int) [(0, 12, 15, 19), (0, 12, 19, 27)] :: gb) ({ frames := 8, cells := oc, slots := os, locals := 142 }) (hPc sad sav D (cw ad cc N S ++ [oA cL a ov]) (cty cc ++ [(cL, .long)]) sz [.ref (ad 11 0), .int p0, .int p1, .int p2, .ref a]) (va_Qi (fun (r : Int32) (_ : Nat → Nat → Nat) => r = o.2.2.2) (fun (u : Nat → Nat → Nat) t => Ext ad N u o.1 ∧ gO D (cw u cc o.1 o.2.1 ++ [oA cL a o.2.2.1]) (cty cc ++ [(cL, .long)]) (va_A (cw ad cc N S ++ [oA cL a ov]) sz) t) (va_A (cw ad cc N S ++ [oA cL a ov]) sz)) oc os (va_A (cw ad cc N S ++ [oA cL a ov]) sz) := by
  refine tx_ofW (cc := method_16_code) (maxL := 6) (ret := (some .int)) (hs := [(0, 12, 15, 19), (0, 12, 19, 27)]) (by decide) rfl ?_
  intro p e s m args below meth c s₁ B hml htab hv
  obtain ⟨rfl, hsz, hP, hK, hD0, hev, hE, hN, hH⟩ := hv
  have hx := B.exec
  have hb := B.bytes
  have hr := B.returns
  have hts : ∀ w9 ∈ gb, w9.before [.ref (ad 11 0), .int p0, .int p1, .int p2, .ref a].toArray s = true := fun w9 h => atoms_spec (ws := Cond.codeWith ⟨"JoinedTreesLaw", "look", "(LJoinedTrees;III[J)I"⟩ method_16_code 6 (some .int) [(0, 12, 15, 19), (0, 12, 19, 27)] :: gb) B.pre w9 (List.mem_cons_of_mem _ h)
  have hown : s.vm.findClass "JoinedTreesLaw" = some m.cls := findClass_of_methodNamed B.named
  subst hsz
  have hNS := ns_of hP
  have hD := hD0.self (sz := s.heap.size)
  have hD0x := d_l hD0
  generalize hAe : va_A (cw ad cc N S ++ [oA cL a ov]) s.heap.size = A at hD hev hE hNS ⊢
  have hA : ∀ q : Nat, s.heap.size ≤ q → A q := fun q h => by rw [← hAe]; exact Or.inr h
  have hS : va_S A s.heap s.heap [] := va_S.rf
  obtain ⟨ls, hl, hle⟩ : ∃ ls : Array Slot, lv_has ls 6 [(0, .ref (ad 11 0)), (1, .int p0), (2, .int p1), (3, .int p2), (4, .ref a)] ∧ entryFrame m ([.ref (ad 11 0), .int p0, .int p1, .int p2, .ref a] : List Value).toArray 6 = F0 m 0 ls [] := ⟨_, lv_entry (n := 6) _ (Nat.le_of_ble_eq_true rfl), lg_entry_eq ..⟩
  rw [hle]
  have hPx := p_l hP
  have hDx := d_l hD
  have hFc := fr_all hDx hS hA
  have hKx := hK.sub (tys' := cty cc) [0, 1, 2, 3, 4, 5, 6] rfl
  obtain ⟨h0, Heq⟩ := gl_some Heq
  refine lv_aload hx hb d_h_look_0 (lv_at hl 4 rfl) ?_
  refine lv_iconst (v := 0) hx hb d_h_look_2 (by decide) ?_
  refine lv_aload_n hx hb d_h_look_3 rfl (lv_at hl 0 rfl) ?_
  refine lv_iload_n hx hb d_h_look_4 rfl (lv_at hl 1 rfl) ?_
  refine lv_iload_n hx hb d_h_look_5 rfl (lv_at hl 2 rfl) ?_
  refine lv_iload_n hx hb d_h_look_6 rfl (lv_at hl 3 rfl) ?_
  rcases hR_some Heq with ⟨r, hm, rfl, rfl, rfl⟩ | ⟨S1, k, c, hm, hk, rfl, rfl, rfl⟩
  · refine va_calli (va_runV (As := [.int p0, .int p1, .int p2]) (rest := [.int 0, .ref a]) ⟨hx, hb, hml, hown, hts⟩ (g_cJT_look l hfl D s.heap.size (ad := ad) (cc := cc) (sad := sad) (sav := sav) hm) (cw_v 3 hts kw_1117 kw_1114 kw_1115 kw_1116 kw_1 rfl rfl (by decide +kernel) ⟨Nat.le_of_ble_eq_true rfl, Nat.le_of_ble_eq_true rfl⟩) ⟨c_blind, va_recv hK hPx (ci := 11) (q0 := cPos N 11 0) rfl (cw_obj (k := 11) (by decide) h0), fun U hU hW => c_pre hU hW hPx hKx hDx hev hE hN hNS hS hFc⟩ rfl rfl hl.1 rfl (lv_room (Nat.le_of_ble_eq_true rfl)) d_h_look_7 ⟨Nat.le_of_eq (Nat.zero_add _), Nat.le_of_eq (Nat.zero_add _)⟩) hS (fun q _ h => hFc q h) hFc (fun rz u t H locs ht hvm hw hB hz1 hk1 hS => ?_)
    obtain ⟨hP1, -, hD1⟩ := hB
    rw [ht] at hP1
    obtain ⟨hP, hD⟩ := join_w hP hD hk1 hFc hP1 hD1
    subst hw
    refine lv_i2l hx hb d_h_look_10 rfl ?_
    refine va_last hx hb hK hP hD hS (cw ad cc N r.1).length 7 at_last rfl (i := 0) (x := r.2.toInt64) (vp_in_nI (n := 0) (N := 1) (by decide) (by decide)) d_h_look_11 (fun H locs hP hD hS => ?_)
    rw [set_last] at hP hD
    refine lv_goto (tgt := 23) hx hb d_h_look_12 (by decide) ?_
    refine lv_iconst (v := 0) hx hb d_h_look_23 (by decide) ?_
    refine W.cs (cells' := 0) (slots' := 0) rfl rfl ?_
    exact W.iret (v := 0) hx hb hr (fun t ht hW => ⟨⟨0, ad, rfl, rfl, Ext.rf, by rw [ht]; exact hP, va_K.moved hW.alike hK, hD⟩, hS.F ht⟩) hS.2.2 d_h_look_24
  · rcases lk_cons hk with ⟨hc, rfl⟩ | hk
    · refine tx_catch (tx_runV (As := [.int p0, .int p1, .int p2]) (rest := [.int 0, .ref a]) ⟨hx, hb, hml, hown, hts⟩ (g_cJT_look_t l hfl D s.heap.size (ad := ad) (cc := cc) (sad := sad) (sav := sav) hm) (cw_v 3 hts kw_1117 kw_1114 kw_1115 kw_1116 kw_1 rfl rfl (by decide +kernel) ⟨Nat.le_of_ble_eq_true rfl, Nat.le_of_ble_eq_true rfl⟩) ⟨c_blind, va_recv hK hPx (ci := 11) (q0 := cPos N 11 0) rfl (cw_obj (k := 11) (by decide) h0), fun U hU hW => c_pre hU hW hPx hKx hDx hev hE hN hNS hS hFc⟩ rfl rfl hl.1 rfl (lv_room (Nat.le_of_ble_eq_true rfl)) d_h_look_7 ⟨Nat.le_of_eq (Nat.zero_add _), Nat.le_of_eq (Nat.zero_add _)⟩) hown hS hFc htab [] [(0, 12, 19, 27)] (0, 12, 15, 19) rfl (by decide) (by decide) (hts _ kw_553) (by rw [hc]; exact va_Nw.use rfl hev.2.2.2.2.2.1.1) (fun y hy => absurd hy List.not_mem_nil) (fun z H locs hz1 hk1 hB hS => ?_)
      have hP1 := hB
      have hD1 := d_cw S1 (hD0x.self (sz := s.heap.size))
      obtain ⟨hP, hD⟩ := join_w hP hD hk1 hFc hP1 hD1
      refine lv_astore (lv' := [(5, .ref z), (0, .ref (ad 11 0)), (1, .int p0), (2, .int p1), (3, .int p2), (4, .ref a)]) hx hb d_h_look_15 hl (by decide) rfl (fun ls hl => ?_)
      refine lv_iconst (v := 1) hx hb d_h_look_17 (by decide) ?_
      refine W.cs (cells' := 1) (slots' := 6) rfl rfl ?_
      exact W.iret (v := 1) hx hb hr (fun t ht hW => ⟨⟨1, ad, rfl, rfl, Ext.rf, by rw [ht]; exact hP, va_K.moved hW.alike hK, hD⟩, hS.F ht⟩) hS.2.2 d_h_look_18
    rcases lk_cons hk with ⟨hc, rfl⟩ | hk
    · refine tx_catch (tx_runV (As := [.int p0, .int p1, .int p2]) (rest := [.int 0, .ref a]) ⟨hx, hb, hml, hown, hts⟩ (g_cJT_look_t l hfl D s.heap.size (ad := ad) (cc := cc) (sad := sad) (sav := sav) hm) (cw_v 3 hts kw_1117 kw_1114 kw_1115 kw_1116 kw_1 rfl rfl (by decide +kernel) ⟨Nat.le_of_ble_eq_true rfl, Nat.le_of_ble_eq_true rfl⟩) ⟨c_blind, va_recv hK hPx (ci := 11) (q0 := cPos N 11 0) rfl (cw_obj (k := 11) (by decide) h0), fun U hU hW => c_pre hU hW hPx hKx hDx hev hE hN hNS hS hFc⟩ rfl rfl hl.1 rfl (lv_room (Nat.le_of_ble_eq_true rfl)) d_h_look_7 ⟨Nat.le_of_eq (Nat.zero_add _), Nat.le_of_eq (Nat.zero_add _)⟩) hown hS hFc htab [(0, 12, 15, 19)] [] (0, 12, 19, 27) rfl (by decide) (by decide) (hts _ kw_581) (by rw [hc]; exact va_Nw.use rfl hev.2.2.2.2.2.1.2.2.1) (List.forall_mem_cons.mpr ⟨⟨by decide, by decide, "java/lang/IllegalArgumentException", hts _ kw_553, by rw [hc]; exact hev.2.2.2.2.2.2.2.1.1⟩, fun y hy => absurd hy List.not_mem_nil⟩) (fun z H locs hz1 hk1 hB hS => ?_)
      have hP1 := hB
      have hD1 := d_cw S1 (hD0x.self (sz := s.heap.size))
      obtain ⟨hP, hD⟩ := join_w hP hD hk1 hFc hP1 hD1
      refine lv_astore (lv' := [(5, .ref z), (0, .ref (ad 11 0)), (1, .int p0), (2, .int p1), (3, .int p2), (4, .ref a)]) hx hb d_h_look_19 hl (by decide) rfl (fun ls hl => ?_)
      refine lv_iconst (v := 2) hx hb d_h_look_21 (by decide) ?_
      refine W.cs (cells' := 1) (slots' := 6) rfl rfl ?_
      exact W.iret (v := 2) hx hb hr (fun t ht hW => ⟨⟨2, ad, rfl, rfl, Ext.rf, by rw [ht]; exact hP, va_K.moved hW.alike hK, hD⟩, hS.F ht⟩) hS.2.2 d_h_look_22
    exact (lk_nil hk).elim
def h_object (N : Nat → Nat) (S : CS) (ov : Nat → Int64) (p0 : Int32) (p1 : Int32) (p2 : Int32) : Option (((Nat → Nat) × CS × (Nat → Int64) × Int32) × Nat × Nat) := gl 0 (N 11) (hR Prod.fst (fun ov r => oU ov r.2.toInt64) [(1, 1), (3, 2)] N ov (m_cJT_object N 0 S p0 p1 p2))
theorem d_h_object_0 : decode method_17_code 0 = .ok (.aload 4, 2) := by decide +kernel
theorem d_h_object_2 : decode method_17_code 2 = .ok (.iconst 0, 1) := by decide +kernel
theorem d_h_object_3 : decode method_17_code 3 = .ok (.aload_n 0, 1) := by decide +kernel
theorem d_h_object_4 : decode method_17_code 4 = .ok (.iload_n 1, 1) := by decide +kernel
theorem d_h_object_5 : decode method_17_code 5 = .ok (.iload_n 2, 1) := by decide +kernel
theorem d_h_object_6 : decode method_17_code 6 = .ok (.iload_n 3, 1) := by decide +kernel
theorem d_h_object_7 : decode method_17_code 7 = .ok (.invokevirtual 66, 3) := by decide +kernel
theorem d_h_object_10 : decode method_17_code 10 = .ok (.i2l, 1) := by decide +kernel
theorem d_h_object_11 : decode method_17_code 11 = .ok (.lastore, 1) := by decide +kernel
theorem d_h_object_12 : decode method_17_code 12 = .ok (.goto 11, 3) := by decide +kernel
theorem d_h_object_23 : decode method_17_code 23 = .ok (.iconst 0, 1) := by decide +kernel
theorem d_h_object_24 : decode method_17_code 24 = .ok (.ireturn, 1) := by decide +kernel
theorem d_h_object_15 : decode method_17_code 15 = .ok (.astore 5, 2) := by decide +kernel
theorem d_h_object_17 : decode method_17_code 17 = .ok (.iconst 1, 1) := by decide +kernel
theorem d_h_object_18 : decode method_17_code 18 = .ok (.ireturn, 1) := by decide +kernel
theorem d_h_object_19 : decode method_17_code 19 = .ok (.astore 5, 2) := by decide +kernel
theorem d_h_object_21 : decode method_17_code 21 = .ok (.iconst 2, 1) := by decide +kernel
theorem d_h_object_22 : decode method_17_code 22 = .ok (.ireturn, 1) := by decide +kernel
set_option maxHeartbeats 4000000 in
set_option maxRecDepth 100000 in
theorem g_h_object (l : Launch) (hfl : l.flags = flags0) (D : va_G) (sz : Nat) {ad : Nat → Nat → Nat} {cc : Nat → ClassId} {sad sav : Nat → Nat} {N : Nat → Nat} {S : CS} {cL : ClassId} {a : Nat} {ov : Nat → Int64} {p0 : Int32} {p1 : Int32} {p2 : Int32} {o : ((Nat → Nat) × CS × (Nat → Int64) × Int32)} {oc os : Nat} (Heq : h_object N S ov p0 p1 p2 = some (o, oc, os)) : Met l ⟨"JoinedTreesLaw", "object", "(LJoinedTrees;III[J)I"⟩ (Cond.codeWith ⟨"JoinedTreesLaw", "object", "(LJoinedTrees;III[J)I"⟩ method_17_code 6 (some .int) [(0, 12, 15, 19), (0, 12, 19, 27)] :: gb) ({ frames := 8, cells := oc, slots := os, locals := 142 }) (hPc sad sav D (cw ad cc N S ++ [oA cL a ov]) (cty cc ++ [(cL, .long)]) sz [.ref (ad 11 0), .int p0, .int p1, .int p2, .ref a]) (va_Qi (fun (r : Int32) (_ : Nat → Nat → Nat) => r = o.2.2.2) (fun (u : Nat → Nat → Nat) t => Ext ad N u o.1 ∧ gO D (cw u cc o.1 o.2.1 ++ [oA cL a o.2.2.1]) (cty cc ++ [(cL, .long)]) (va_A (cw ad cc N S ++ [oA cL a ov]) sz) t) (va_A (cw ad cc N S ++ [oA cL a ov]) sz)) oc os (va_A (cw ad cc N S ++ [oA cL a ov]) sz) := by
  refine tx_ofW (cc := method_17_code) (maxL := 6) (ret := (some .int)) (hs := [(0, 12, 15, 19), (0, 12, 19, 27)]) (by decide) rfl ?_
  intro p e s m args below meth c s₁ B hml htab hv
  obtain ⟨rfl, hsz, hP, hK, hD0, hev, hE, hN, hH⟩ := hv
  have hx := B.exec
  have hb := B.bytes
  have hr := B.returns
  have hts : ∀ w9 ∈ gb, w9.before [.ref (ad 11 0), .int p0, .int p1, .int p2, .ref a].toArray s = true := fun w9 h => atoms_spec (ws := Cond.codeWith ⟨"JoinedTreesLaw", "object", "(LJoinedTrees;III[J)I"⟩ method_17_code 6 (some .int) [(0, 12, 15, 19), (0, 12, 19, 27)] :: gb) B.pre w9 (List.mem_cons_of_mem _ h)
  have hown : s.vm.findClass "JoinedTreesLaw" = some m.cls := findClass_of_methodNamed B.named
  subst hsz
  have hNS := ns_of hP
  have hD := hD0.self (sz := s.heap.size)
  have hD0x := d_l hD0
  generalize hAe : va_A (cw ad cc N S ++ [oA cL a ov]) s.heap.size = A at hD hev hE hNS ⊢
  have hA : ∀ q : Nat, s.heap.size ≤ q → A q := fun q h => by rw [← hAe]; exact Or.inr h
  have hS : va_S A s.heap s.heap [] := va_S.rf
  obtain ⟨ls, hl, hle⟩ : ∃ ls : Array Slot, lv_has ls 6 [(0, .ref (ad 11 0)), (1, .int p0), (2, .int p1), (3, .int p2), (4, .ref a)] ∧ entryFrame m ([.ref (ad 11 0), .int p0, .int p1, .int p2, .ref a] : List Value).toArray 6 = F0 m 0 ls [] := ⟨_, lv_entry (n := 6) _ (Nat.le_of_ble_eq_true rfl), lg_entry_eq ..⟩
  rw [hle]
  have hPx := p_l hP
  have hDx := d_l hD
  have hFc := fr_all hDx hS hA
  have hKx := hK.sub (tys' := cty cc) [0, 1, 2, 3, 4, 5, 6] rfl
  obtain ⟨h0, Heq⟩ := gl_some Heq
  refine lv_aload hx hb d_h_object_0 (lv_at hl 4 rfl) ?_
  refine lv_iconst (v := 0) hx hb d_h_object_2 (by decide) ?_
  refine lv_aload_n hx hb d_h_object_3 rfl (lv_at hl 0 rfl) ?_
  refine lv_iload_n hx hb d_h_object_4 rfl (lv_at hl 1 rfl) ?_
  refine lv_iload_n hx hb d_h_object_5 rfl (lv_at hl 2 rfl) ?_
  refine lv_iload_n hx hb d_h_object_6 rfl (lv_at hl 3 rfl) ?_
  rcases hR_some Heq with ⟨r, hm, rfl, rfl, rfl⟩ | ⟨S1, k, c, hm, hk, rfl, rfl, rfl⟩
  · refine va_calli (va_runV (As := [.int p0, .int p1, .int p2]) (rest := [.int 0, .ref a]) ⟨hx, hb, hml, hown, hts⟩ (g_cJT_object l hfl D s.heap.size (ad := ad) (cc := cc) (sad := sad) (sav := sav) hm) (cw_v 3 hts kw_1128 kw_1125 kw_1126 kw_1127 kw_1 rfl rfl (by decide +kernel) ⟨Nat.le_of_ble_eq_true rfl, Nat.le_of_ble_eq_true rfl⟩) ⟨c_blind, va_recv hK hPx (ci := 11) (q0 := cPos N 11 0) rfl (cw_obj (k := 11) (by decide) h0), fun U hU hW => c_pre hU hW hPx hKx hDx hev hE hN hNS hS hFc⟩ rfl rfl hl.1 rfl (lv_room (Nat.le_of_ble_eq_true rfl)) d_h_object_7 ⟨Nat.le_of_eq (Nat.zero_add _), Nat.le_of_eq (Nat.zero_add _)⟩) hS (fun q _ h => hFc q h) hFc (fun rz u t H locs ht hvm hw hB hz1 hk1 hS => ?_)
    obtain ⟨hP1, -, hD1⟩ := hB
    rw [ht] at hP1
    obtain ⟨hP, hD⟩ := join_w hP hD hk1 hFc hP1 hD1
    subst hw
    refine lv_i2l hx hb d_h_object_10 rfl ?_
    refine va_last hx hb hK hP hD hS (cw ad cc N r.1).length 7 at_last rfl (i := 0) (x := r.2.toInt64) (vp_in_nI (n := 0) (N := 1) (by decide) (by decide)) d_h_object_11 (fun H locs hP hD hS => ?_)
    rw [set_last] at hP hD
    refine lv_goto (tgt := 23) hx hb d_h_object_12 (by decide) ?_
    refine lv_iconst (v := 0) hx hb d_h_object_23 (by decide) ?_
    refine W.cs (cells' := 0) (slots' := 0) rfl rfl ?_
    exact W.iret (v := 0) hx hb hr (fun t ht hW => ⟨⟨0, ad, rfl, rfl, Ext.rf, by rw [ht]; exact hP, va_K.moved hW.alike hK, hD⟩, hS.F ht⟩) hS.2.2 d_h_object_24
  · rcases lk_cons hk with ⟨hc, rfl⟩ | hk
    · refine tx_catch (tx_runV (As := [.int p0, .int p1, .int p2]) (rest := [.int 0, .ref a]) ⟨hx, hb, hml, hown, hts⟩ (g_cJT_object_t l hfl D s.heap.size (ad := ad) (cc := cc) (sad := sad) (sav := sav) hm) (cw_v 3 hts kw_1128 kw_1125 kw_1126 kw_1127 kw_1 rfl rfl (by decide +kernel) ⟨Nat.le_of_ble_eq_true rfl, Nat.le_of_ble_eq_true rfl⟩) ⟨c_blind, va_recv hK hPx (ci := 11) (q0 := cPos N 11 0) rfl (cw_obj (k := 11) (by decide) h0), fun U hU hW => c_pre hU hW hPx hKx hDx hev hE hN hNS hS hFc⟩ rfl rfl hl.1 rfl (lv_room (Nat.le_of_ble_eq_true rfl)) d_h_object_7 ⟨Nat.le_of_eq (Nat.zero_add _), Nat.le_of_eq (Nat.zero_add _)⟩) hown hS hFc htab [] [(0, 12, 19, 27)] (0, 12, 15, 19) rfl (by decide) (by decide) (hts _ kw_553) (by rw [hc]; exact va_Nw.use rfl hev.2.2.2.2.2.1.1) (fun y hy => absurd hy List.not_mem_nil) (fun z H locs hz1 hk1 hB hS => ?_)
      have hP1 := hB
      have hD1 := d_cw S1 (hD0x.self (sz := s.heap.size))
      obtain ⟨hP, hD⟩ := join_w hP hD hk1 hFc hP1 hD1
      refine lv_astore (lv' := [(5, .ref z), (0, .ref (ad 11 0)), (1, .int p0), (2, .int p1), (3, .int p2), (4, .ref a)]) hx hb d_h_object_15 hl (by decide) rfl (fun ls hl => ?_)
      refine lv_iconst (v := 1) hx hb d_h_object_17 (by decide) ?_
      refine W.cs (cells' := 1) (slots' := 6) rfl rfl ?_
      exact W.iret (v := 1) hx hb hr (fun t ht hW => ⟨⟨1, ad, rfl, rfl, Ext.rf, by rw [ht]; exact hP, va_K.moved hW.alike hK, hD⟩, hS.F ht⟩) hS.2.2 d_h_object_18
    rcases lk_cons hk with ⟨hc, rfl⟩ | hk
    · refine tx_catch (tx_runV (As := [.int p0, .int p1, .int p2]) (rest := [.int 0, .ref a]) ⟨hx, hb, hml, hown, hts⟩ (g_cJT_object_t l hfl D s.heap.size (ad := ad) (cc := cc) (sad := sad) (sav := sav) hm) (cw_v 3 hts kw_1128 kw_1125 kw_1126 kw_1127 kw_1 rfl rfl (by decide +kernel) ⟨Nat.le_of_ble_eq_true rfl, Nat.le_of_ble_eq_true rfl⟩) ⟨c_blind, va_recv hK hPx (ci := 11) (q0 := cPos N 11 0) rfl (cw_obj (k := 11) (by decide) h0), fun U hU hW => c_pre hU hW hPx hKx hDx hev hE hN hNS hS hFc⟩ rfl rfl hl.1 rfl (lv_room (Nat.le_of_ble_eq_true rfl)) d_h_object_7 ⟨Nat.le_of_eq (Nat.zero_add _), Nat.le_of_eq (Nat.zero_add _)⟩) hown hS hFc htab [(0, 12, 15, 19)] [] (0, 12, 19, 27) rfl (by decide) (by decide) (hts _ kw_581) (by rw [hc]; exact va_Nw.use rfl hev.2.2.2.2.2.1.2.2.1) (List.forall_mem_cons.mpr ⟨⟨by decide, by decide, "java/lang/IllegalArgumentException", hts _ kw_553, by rw [hc]; exact hev.2.2.2.2.2.2.2.1.1⟩, fun y hy => absurd hy List.not_mem_nil⟩) (fun z H locs hz1 hk1 hB hS => ?_)
      have hP1 := hB
      have hD1 := d_cw S1 (hD0x.self (sz := s.heap.size))
      obtain ⟨hP, hD⟩ := join_w hP hD hk1 hFc hP1 hD1
      refine lv_astore (lv' := [(5, .ref z), (0, .ref (ad 11 0)), (1, .int p0), (2, .int p1), (3, .int p2), (4, .ref a)]) hx hb d_h_object_19 hl (by decide) rfl (fun ls hl => ?_)
      refine lv_iconst (v := 2) hx hb d_h_object_21 (by decide) ?_
      refine W.cs (cells' := 1) (slots' := 6) rfl rfl ?_
      exact W.iret (v := 2) hx hb hr (fun t ht hW => ⟨⟨2, ad, rfl, rfl, Ext.rf, by rw [ht]; exact hP, va_K.moved hW.alike hK, hD⟩, hS.F ht⟩) hS.2.2 d_h_object_22
    exact (lk_nil hk).elim
def h_key (N : Nat → Nat) (S : CS) (ov : Nat → Int64) (p0 : Int32) (p1 : Int32) (p2 : Int32) (p3 : Int32) : Option (((Nat → Nat) × CS × (Nat → Int64) × Int32) × Nat × Nat) := gl 0 (N 11) (hR Prod.fst (fun ov r => oU ov r.2.toInt64) [(1, 1), (3, 2)] N ov (m_cJT_key N 0 S p0 p1 p2 p3))
theorem d_h_key_0 : decode method_18_code 0 = .ok (.aload 5, 2) := by decide +kernel
theorem d_h_key_2 : decode method_18_code 2 = .ok (.iconst 0, 1) := by decide +kernel
theorem d_h_key_3 : decode method_18_code 3 = .ok (.aload_n 0, 1) := by decide +kernel
theorem d_h_key_4 : decode method_18_code 4 = .ok (.iload_n 1, 1) := by decide +kernel
theorem d_h_key_5 : decode method_18_code 5 = .ok (.iload_n 2, 1) := by decide +kernel
theorem d_h_key_6 : decode method_18_code 6 = .ok (.iload_n 3, 1) := by decide +kernel
theorem d_h_key_7 : decode method_18_code 7 = .ok (.iload 4, 2) := by decide +kernel
theorem d_h_key_9 : decode method_18_code 9 = .ok (.invokevirtual 69, 3) := by decide +kernel
theorem d_h_key_12 : decode method_18_code 12 = .ok (.i2l, 1) := by decide +kernel
theorem d_h_key_13 : decode method_18_code 13 = .ok (.lastore, 1) := by decide +kernel
theorem d_h_key_14 : decode method_18_code 14 = .ok (.goto 11, 3) := by decide +kernel
theorem d_h_key_25 : decode method_18_code 25 = .ok (.iconst 0, 1) := by decide +kernel
theorem d_h_key_26 : decode method_18_code 26 = .ok (.ireturn, 1) := by decide +kernel
theorem d_h_key_17 : decode method_18_code 17 = .ok (.astore 6, 2) := by decide +kernel
theorem d_h_key_19 : decode method_18_code 19 = .ok (.iconst 1, 1) := by decide +kernel
theorem d_h_key_20 : decode method_18_code 20 = .ok (.ireturn, 1) := by decide +kernel
theorem d_h_key_21 : decode method_18_code 21 = .ok (.astore 6, 2) := by decide +kernel
theorem d_h_key_23 : decode method_18_code 23 = .ok (.iconst 2, 1) := by decide +kernel
theorem d_h_key_24 : decode method_18_code 24 = .ok (.ireturn, 1) := by decide +kernel
set_option maxHeartbeats 4000000 in
set_option maxRecDepth 100000 in
theorem g_h_key (l : Launch) (hfl : l.flags = flags0) (D : va_G) (sz : Nat) {ad : Nat → Nat → Nat} {cc : Nat → ClassId} {sad sav : Nat → Nat} {N : Nat → Nat} {S : CS} {cL : ClassId} {a : Nat} {ov : Nat → Int64} {p0 : Int32} {p1 : Int32} {p2 : Int32} {p3 : Int32} {o : ((Nat → Nat) × CS × (Nat → Int64) × Int32)} {oc os : Nat} (Heq : h_key N S ov p0 p1 p2 p3 = some (o, oc, os)) : Met l ⟨"JoinedTreesLaw", "key", "(LJoinedTrees;IIII[J)I"⟩ (Cond.codeWith ⟨"JoinedTreesLaw", "key", "(LJoinedTrees;IIII[J)I"⟩ method_18_code 7 (some .int) [(0, 14, 17, 19), (0, 14, 21, 27)] :: gb) ({ frames := 9, cells := oc, slots := os, locals := 166 }) (hPc sad sav D (cw ad cc N S ++ [oA cL a ov]) (cty cc ++ [(cL, .long)]) sz [.ref (ad 11 0), .int p0, .int p1, .int p2, .int p3, .ref a]) (va_Qi (fun (r : Int32) (_ : Nat → Nat → Nat) => r = o.2.2.2) (fun (u : Nat → Nat → Nat) t => Ext ad N u o.1 ∧ gO D (cw u cc o.1 o.2.1 ++ [oA cL a o.2.2.1]) (cty cc ++ [(cL, .long)]) (va_A (cw ad cc N S ++ [oA cL a ov]) sz) t) (va_A (cw ad cc N S ++ [oA cL a ov]) sz)) oc os (va_A (cw ad cc N S ++ [oA cL a ov]) sz) := by
  refine tx_ofW (cc := method_18_code) (maxL := 7) (ret := (some .int)) (hs := [(0, 14, 17, 19), (0, 14, 21, 27)]) (by decide) rfl ?_
  intro p e s m args below meth c s₁ B hml htab hv
  obtain ⟨rfl, hsz, hP, hK, hD0, hev, hE, hN, hH⟩ := hv
  have hx := B.exec
  have hb := B.bytes
  have hr := B.returns
  have hts : ∀ w9 ∈ gb, w9.before [.ref (ad 11 0), .int p0, .int p1, .int p2, .int p3, .ref a].toArray s = true := fun w9 h => atoms_spec (ws := Cond.codeWith ⟨"JoinedTreesLaw", "key", "(LJoinedTrees;IIII[J)I"⟩ method_18_code 7 (some .int) [(0, 14, 17, 19), (0, 14, 21, 27)] :: gb) B.pre w9 (List.mem_cons_of_mem _ h)
  have hown : s.vm.findClass "JoinedTreesLaw" = some m.cls := findClass_of_methodNamed B.named
  subst hsz
  have hNS := ns_of hP
  have hD := hD0.self (sz := s.heap.size)
  have hD0x := d_l hD0
  generalize hAe : va_A (cw ad cc N S ++ [oA cL a ov]) s.heap.size = A at hD hev hE hNS ⊢
  have hA : ∀ q : Nat, s.heap.size ≤ q → A q := fun q h => by rw [← hAe]; exact Or.inr h
  have hS : va_S A s.heap s.heap [] := va_S.rf
  obtain ⟨ls, hl, hle⟩ : ∃ ls : Array Slot, lv_has ls 7 [(0, .ref (ad 11 0)), (1, .int p0), (2, .int p1), (3, .int p2), (4, .int p3), (5, .ref a)] ∧ entryFrame m ([.ref (ad 11 0), .int p0, .int p1, .int p2, .int p3, .ref a] : List Value).toArray 7 = F0 m 0 ls [] := ⟨_, lv_entry (n := 7) _ (Nat.le_of_ble_eq_true rfl), lg_entry_eq ..⟩
  rw [hle]
  have hPx := p_l hP
  have hDx := d_l hD
  have hFc := fr_all hDx hS hA
  have hKx := hK.sub (tys' := cty cc) [0, 1, 2, 3, 4, 5, 6] rfl
  obtain ⟨h0, Heq⟩ := gl_some Heq
  refine lv_aload hx hb d_h_key_0 (lv_at hl 5 rfl) ?_
  refine lv_iconst (v := 0) hx hb d_h_key_2 (by decide) ?_
  refine lv_aload_n hx hb d_h_key_3 rfl (lv_at hl 0 rfl) ?_
  refine lv_iload_n hx hb d_h_key_4 rfl (lv_at hl 1 rfl) ?_
  refine lv_iload_n hx hb d_h_key_5 rfl (lv_at hl 2 rfl) ?_
  refine lv_iload_n hx hb d_h_key_6 rfl (lv_at hl 3 rfl) ?_
  refine lv_iload hx hb d_h_key_7 (lv_at hl 4 rfl) ?_
  rcases hR_some Heq with ⟨r, hm, rfl, rfl, rfl⟩ | ⟨S1, k, c, hm, hk, rfl, rfl, rfl⟩
  · refine va_calli (va_runV (As := [.int p0, .int p1, .int p2, .int p3]) (rest := [.int 0, .ref a]) ⟨hx, hb, hml, hown, hts⟩ (g_cJT_key l hfl D s.heap.size (ad := ad) (cc := cc) (sad := sad) (sav := sav) hm) (cw_v 4 hts kw_1135 kw_1132 kw_1133 kw_1134 kw_1 rfl rfl (by decide +kernel) ⟨Nat.le_of_ble_eq_true rfl, Nat.le_of_ble_eq_true rfl⟩) ⟨c_blind, va_recv hK hPx (ci := 11) (q0 := cPos N 11 0) rfl (cw_obj (k := 11) (by decide) h0), fun U hU hW => c_pre hU hW hPx hKx hDx hev hE hN hNS hS hFc⟩ rfl rfl hl.1 rfl (lv_room (Nat.le_of_ble_eq_true rfl)) d_h_key_9 ⟨Nat.le_of_eq (Nat.zero_add _), Nat.le_of_eq (Nat.zero_add _)⟩) hS (fun q _ h => hFc q h) hFc (fun rz u t H locs ht hvm hw hB hz1 hk1 hS => ?_)
    obtain ⟨hP1, -, hD1⟩ := hB
    rw [ht] at hP1
    obtain ⟨hP, hD⟩ := join_w hP hD hk1 hFc hP1 hD1
    subst hw
    refine lv_i2l hx hb d_h_key_12 rfl ?_
    refine va_last hx hb hK hP hD hS (cw ad cc N r.1).length 7 at_last rfl (i := 0) (x := r.2.toInt64) (vp_in_nI (n := 0) (N := 1) (by decide) (by decide)) d_h_key_13 (fun H locs hP hD hS => ?_)
    rw [set_last] at hP hD
    refine lv_goto (tgt := 25) hx hb d_h_key_14 (by decide) ?_
    refine lv_iconst (v := 0) hx hb d_h_key_25 (by decide) ?_
    refine W.cs (cells' := 0) (slots' := 0) rfl rfl ?_
    exact W.iret (v := 0) hx hb hr (fun t ht hW => ⟨⟨0, ad, rfl, rfl, Ext.rf, by rw [ht]; exact hP, va_K.moved hW.alike hK, hD⟩, hS.F ht⟩) hS.2.2 d_h_key_26
  · rcases lk_cons hk with ⟨hc, rfl⟩ | hk
    · refine tx_catch (tx_runV (As := [.int p0, .int p1, .int p2, .int p3]) (rest := [.int 0, .ref a]) ⟨hx, hb, hml, hown, hts⟩ (g_cJT_key_t l hfl D s.heap.size (ad := ad) (cc := cc) (sad := sad) (sav := sav) hm) (cw_v 4 hts kw_1135 kw_1132 kw_1133 kw_1134 kw_1 rfl rfl (by decide +kernel) ⟨Nat.le_of_ble_eq_true rfl, Nat.le_of_ble_eq_true rfl⟩) ⟨c_blind, va_recv hK hPx (ci := 11) (q0 := cPos N 11 0) rfl (cw_obj (k := 11) (by decide) h0), fun U hU hW => c_pre hU hW hPx hKx hDx hev hE hN hNS hS hFc⟩ rfl rfl hl.1 rfl (lv_room (Nat.le_of_ble_eq_true rfl)) d_h_key_9 ⟨Nat.le_of_eq (Nat.zero_add _), Nat.le_of_eq (Nat.zero_add _)⟩) hown hS hFc htab [] [(0, 14, 21, 27)] (0, 14, 17, 19) rfl (by decide) (by decide) (hts _ kw_553) (by rw [hc]; exact va_Nw.use rfl hev.2.2.2.2.2.1.1) (fun y hy => absurd hy List.not_mem_nil) (fun z H locs hz1 hk1 hB hS => ?_)
      have hP1 := hB
      have hD1 := d_cw S1 (hD0x.self (sz := s.heap.size))
      obtain ⟨hP, hD⟩ := join_w hP hD hk1 hFc hP1 hD1
      refine lv_astore (lv' := [(6, .ref z), (0, .ref (ad 11 0)), (1, .int p0), (2, .int p1), (3, .int p2), (4, .int p3), (5, .ref a)]) hx hb d_h_key_17 hl (by decide) rfl (fun ls hl => ?_)
      refine lv_iconst (v := 1) hx hb d_h_key_19 (by decide) ?_
      refine W.cs (cells' := 1) (slots' := 6) rfl rfl ?_
      exact W.iret (v := 1) hx hb hr (fun t ht hW => ⟨⟨1, ad, rfl, rfl, Ext.rf, by rw [ht]; exact hP, va_K.moved hW.alike hK, hD⟩, hS.F ht⟩) hS.2.2 d_h_key_20
    rcases lk_cons hk with ⟨hc, rfl⟩ | hk
    · refine tx_catch (tx_runV (As := [.int p0, .int p1, .int p2, .int p3]) (rest := [.int 0, .ref a]) ⟨hx, hb, hml, hown, hts⟩ (g_cJT_key_t l hfl D s.heap.size (ad := ad) (cc := cc) (sad := sad) (sav := sav) hm) (cw_v 4 hts kw_1135 kw_1132 kw_1133 kw_1134 kw_1 rfl rfl (by decide +kernel) ⟨Nat.le_of_ble_eq_true rfl, Nat.le_of_ble_eq_true rfl⟩) ⟨c_blind, va_recv hK hPx (ci := 11) (q0 := cPos N 11 0) rfl (cw_obj (k := 11) (by decide) h0), fun U hU hW => c_pre hU hW hPx hKx hDx hev hE hN hNS hS hFc⟩ rfl rfl hl.1 rfl (lv_room (Nat.le_of_ble_eq_true rfl)) d_h_key_9 ⟨Nat.le_of_eq (Nat.zero_add _), Nat.le_of_eq (Nat.zero_add _)⟩) hown hS hFc htab [(0, 14, 17, 19)] [] (0, 14, 21, 27) rfl (by decide) (by decide) (hts _ kw_581) (by rw [hc]; exact va_Nw.use rfl hev.2.2.2.2.2.1.2.2.1) (List.forall_mem_cons.mpr ⟨⟨by decide, by decide, "java/lang/IllegalArgumentException", hts _ kw_553, by rw [hc]; exact hev.2.2.2.2.2.2.2.1.1⟩, fun y hy => absurd hy List.not_mem_nil⟩) (fun z H locs hz1 hk1 hB hS => ?_)
      have hP1 := hB
      have hD1 := d_cw S1 (hD0x.self (sz := s.heap.size))
      obtain ⟨hP, hD⟩ := join_w hP hD hk1 hFc hP1 hD1
      refine lv_astore (lv' := [(6, .ref z), (0, .ref (ad 11 0)), (1, .int p0), (2, .int p1), (3, .int p2), (4, .int p3), (5, .ref a)]) hx hb d_h_key_21 hl (by decide) rfl (fun ls hl => ?_)
      refine lv_iconst (v := 2) hx hb d_h_key_23 (by decide) ?_
      refine W.cs (cells' := 1) (slots' := 6) rfl rfl ?_
      exact W.iret (v := 2) hx hb hr (fun t ht hW => ⟨⟨2, ad, rfl, rfl, Ext.rf, by rw [ht]; exact hP, va_K.moved hW.alike hK, hD⟩, hS.F ht⟩) hS.2.2 d_h_key_24
    exact (lk_nil hk).elim
def h_candidate (N : Nat → Nat) (S : CS) (ov : Nat → Int64) (p0 : Int32) (p1 : Int32) (p2 : Int32) (p3 : Int32) (p4 : Int32) : Option (((Nat → Nat) × CS × (Nat → Int64) × Int32) × Nat × Nat) := gl 0 (N 11) (hR Prod.fst (fun ov r => oU ov r.2) [(1, 1), (3, 2)] N ov (m_cJT_candidate N 0 S p0 p1 p2 p3 p4))
theorem d_h_candidate_0 : decode method_19_code 0 = .ok (.aload 6, 2) := by decide +kernel
theorem d_h_candidate_2 : decode method_19_code 2 = .ok (.iconst 0, 1) := by decide +kernel
theorem d_h_candidate_3 : decode method_19_code 3 = .ok (.aload_n 0, 1) := by decide +kernel
theorem d_h_candidate_4 : decode method_19_code 4 = .ok (.iload_n 1, 1) := by decide +kernel
theorem d_h_candidate_5 : decode method_19_code 5 = .ok (.iload_n 2, 1) := by decide +kernel
theorem d_h_candidate_6 : decode method_19_code 6 = .ok (.iload_n 3, 1) := by decide +kernel
theorem d_h_candidate_7 : decode method_19_code 7 = .ok (.iload 4, 2) := by decide +kernel
theorem d_h_candidate_9 : decode method_19_code 9 = .ok (.iload 5, 2) := by decide +kernel
theorem d_h_candidate_11 : decode method_19_code 11 = .ok (.invokevirtual 72, 3) := by decide +kernel
theorem d_h_candidate_14 : decode method_19_code 14 = .ok (.lastore, 1) := by decide +kernel
theorem d_h_candidate_15 : decode method_19_code 15 = .ok (.goto 11, 3) := by decide +kernel
theorem d_h_candidate_26 : decode method_19_code 26 = .ok (.iconst 0, 1) := by decide +kernel
theorem d_h_candidate_27 : decode method_19_code 27 = .ok (.ireturn, 1) := by decide +kernel
theorem d_h_candidate_18 : decode method_19_code 18 = .ok (.astore 7, 2) := by decide +kernel
theorem d_h_candidate_20 : decode method_19_code 20 = .ok (.iconst 1, 1) := by decide +kernel
theorem d_h_candidate_21 : decode method_19_code 21 = .ok (.ireturn, 1) := by decide +kernel
theorem d_h_candidate_22 : decode method_19_code 22 = .ok (.astore 7, 2) := by decide +kernel
theorem d_h_candidate_24 : decode method_19_code 24 = .ok (.iconst 2, 1) := by decide +kernel
theorem d_h_candidate_25 : decode method_19_code 25 = .ok (.ireturn, 1) := by decide +kernel
set_option maxHeartbeats 4000000 in
set_option maxRecDepth 100000 in
theorem g_h_candidate (l : Launch) (hfl : l.flags = flags0) (D : va_G) (sz : Nat) {ad : Nat → Nat → Nat} {cc : Nat → ClassId} {sad sav : Nat → Nat} {N : Nat → Nat} {S : CS} {cL : ClassId} {a : Nat} {ov : Nat → Int64} {p0 : Int32} {p1 : Int32} {p2 : Int32} {p3 : Int32} {p4 : Int32} {o : ((Nat → Nat) × CS × (Nat → Int64) × Int32)} {oc os : Nat} (Heq : h_candidate N S ov p0 p1 p2 p3 p4 = some (o, oc, os)) : Met l ⟨"JoinedTreesLaw", "candidate", "(LJoinedTrees;IIIII[J)I"⟩ (Cond.codeWith ⟨"JoinedTreesLaw", "candidate", "(LJoinedTrees;IIIII[J)I"⟩ method_19_code 8 (some .int) [(0, 15, 18, 19), (0, 15, 22, 27)] :: gb) ({ frames := 10, cells := oc, slots := os, locals := 190 }) (hPc sad sav D (cw ad cc N S ++ [oA cL a ov]) (cty cc ++ [(cL, .long)]) sz [.ref (ad 11 0), .int p0, .int p1, .int p2, .int p3, .int p4, .ref a]) (va_Qi (fun (r : Int32) (_ : Nat → Nat → Nat) => r = o.2.2.2) (fun (u : Nat → Nat → Nat) t => Ext ad N u o.1 ∧ gO D (cw u cc o.1 o.2.1 ++ [oA cL a o.2.2.1]) (cty cc ++ [(cL, .long)]) (va_A (cw ad cc N S ++ [oA cL a ov]) sz) t) (va_A (cw ad cc N S ++ [oA cL a ov]) sz)) oc os (va_A (cw ad cc N S ++ [oA cL a ov]) sz) := by
  refine tx_ofW (cc := method_19_code) (maxL := 8) (ret := (some .int)) (hs := [(0, 15, 18, 19), (0, 15, 22, 27)]) (by decide) rfl ?_
  intro p e s m args below meth c s₁ B hml htab hv
  obtain ⟨rfl, hsz, hP, hK, hD0, hev, hE, hN, hH⟩ := hv
  have hx := B.exec
  have hb := B.bytes
  have hr := B.returns
  have hts : ∀ w9 ∈ gb, w9.before [.ref (ad 11 0), .int p0, .int p1, .int p2, .int p3, .int p4, .ref a].toArray s = true := fun w9 h => atoms_spec (ws := Cond.codeWith ⟨"JoinedTreesLaw", "candidate", "(LJoinedTrees;IIIII[J)I"⟩ method_19_code 8 (some .int) [(0, 15, 18, 19), (0, 15, 22, 27)] :: gb) B.pre w9 (List.mem_cons_of_mem _ h)
  have hown : s.vm.findClass "JoinedTreesLaw" = some m.cls := findClass_of_methodNamed B.named
  subst hsz
  have hNS := ns_of hP
  have hD := hD0.self (sz := s.heap.size)
  have hD0x := d_l hD0
  generalize hAe : va_A (cw ad cc N S ++ [oA cL a ov]) s.heap.size = A at hD hev hE hNS ⊢
  have hA : ∀ q : Nat, s.heap.size ≤ q → A q := fun q h => by rw [← hAe]; exact Or.inr h
  have hS : va_S A s.heap s.heap [] := va_S.rf
  obtain ⟨ls, hl, hle⟩ : ∃ ls : Array Slot, lv_has ls 8 [(0, .ref (ad 11 0)), (1, .int p0), (2, .int p1), (3, .int p2), (4, .int p3), (5, .int p4), (6, .ref a)] ∧ entryFrame m ([.ref (ad 11 0), .int p0, .int p1, .int p2, .int p3, .int p4, .ref a] : List Value).toArray 8 = F0 m 0 ls [] := ⟨_, lv_entry (n := 8) _ (Nat.le_of_ble_eq_true rfl), lg_entry_eq ..⟩
  rw [hle]
  have hPx := p_l hP
  have hDx := d_l hD
  have hFc := fr_all hDx hS hA
  have hKx := hK.sub (tys' := cty cc) [0, 1, 2, 3, 4, 5, 6] rfl
  obtain ⟨h0, Heq⟩ := gl_some Heq
  refine lv_aload hx hb d_h_candidate_0 (lv_at hl 6 rfl) ?_
  refine lv_iconst (v := 0) hx hb d_h_candidate_2 (by decide) ?_
  refine lv_aload_n hx hb d_h_candidate_3 rfl (lv_at hl 0 rfl) ?_
  refine lv_iload_n hx hb d_h_candidate_4 rfl (lv_at hl 1 rfl) ?_
  refine lv_iload_n hx hb d_h_candidate_5 rfl (lv_at hl 2 rfl) ?_
  refine lv_iload_n hx hb d_h_candidate_6 rfl (lv_at hl 3 rfl) ?_
  refine lv_iload hx hb d_h_candidate_7 (lv_at hl 4 rfl) ?_
  refine lv_iload hx hb d_h_candidate_9 (lv_at hl 5 rfl) ?_
  rcases hR_some Heq with ⟨r, hm, rfl, rfl, rfl⟩ | ⟨S1, k, c, hm, hk, rfl, rfl, rfl⟩
  · refine va_calll (va_runV (As := [.int p0, .int p1, .int p2, .int p3, .int p4]) (rest := [.int 0, .ref a]) ⟨hx, hb, hml, hown, hts⟩ (g_cJT_candidate l hfl D s.heap.size (ad := ad) (cc := cc) (sad := sad) (sav := sav) hm) (cw_v 5 hts kw_1143 kw_1140 kw_1141 kw_1142 kw_1 rfl rfl (by decide +kernel) ⟨Nat.le_of_ble_eq_true rfl, Nat.le_of_ble_eq_true rfl⟩) ⟨c_blind, va_recv hK hPx (ci := 11) (q0 := cPos N 11 0) rfl (cw_obj (k := 11) (by decide) h0), fun U hU hW => c_pre hU hW hPx hKx hDx hev hE hN hNS hS hFc⟩ rfl rfl hl.1 rfl (lv_room (Nat.le_of_ble_eq_true rfl)) d_h_candidate_11 ⟨Nat.le_of_eq (Nat.zero_add _), Nat.le_of_eq (Nat.zero_add _)⟩) hS (fun q _ h => hFc q h) hFc (fun rz u t H locs ht hvm hw hB hz1 hk1 hS => ?_)
    obtain ⟨hP1, -, hD1⟩ := hB
    rw [ht] at hP1
    obtain ⟨hP, hD⟩ := join_w hP hD hk1 hFc hP1 hD1
    subst hw
    refine va_last hx hb hK hP hD hS (cw ad cc N r.1).length 7 at_last rfl (i := 0) (x := r.2) (vp_in_nI (n := 0) (N := 1) (by decide) (by decide)) d_h_candidate_14 (fun H locs hP hD hS => ?_)
    rw [set_last] at hP hD
    refine lv_goto (tgt := 26) hx hb d_h_candidate_15 (by decide) ?_
    refine lv_iconst (v := 0) hx hb d_h_candidate_26 (by decide) ?_
    refine W.cs (cells' := 0) (slots' := 0) rfl rfl ?_
    exact W.iret (v := 0) hx hb hr (fun t ht hW => ⟨⟨0, ad, rfl, rfl, Ext.rf, by rw [ht]; exact hP, va_K.moved hW.alike hK, hD⟩, hS.F ht⟩) hS.2.2 d_h_candidate_27
  · rcases lk_cons hk with ⟨hc, rfl⟩ | hk
    · refine tx_catch (tx_runV (As := [.int p0, .int p1, .int p2, .int p3, .int p4]) (rest := [.int 0, .ref a]) ⟨hx, hb, hml, hown, hts⟩ (g_cJT_candidate_t l hfl D s.heap.size (ad := ad) (cc := cc) (sad := sad) (sav := sav) hm) (cw_v 5 hts kw_1143 kw_1140 kw_1141 kw_1142 kw_1 rfl rfl (by decide +kernel) ⟨Nat.le_of_ble_eq_true rfl, Nat.le_of_ble_eq_true rfl⟩) ⟨c_blind, va_recv hK hPx (ci := 11) (q0 := cPos N 11 0) rfl (cw_obj (k := 11) (by decide) h0), fun U hU hW => c_pre hU hW hPx hKx hDx hev hE hN hNS hS hFc⟩ rfl rfl hl.1 rfl (lv_room (Nat.le_of_ble_eq_true rfl)) d_h_candidate_11 ⟨Nat.le_of_eq (Nat.zero_add _), Nat.le_of_eq (Nat.zero_add _)⟩) hown hS hFc htab [] [(0, 15, 22, 27)] (0, 15, 18, 19) rfl (by decide) (by decide) (hts _ kw_553) (by rw [hc]; exact va_Nw.use rfl hev.2.2.2.2.2.1.1) (fun y hy => absurd hy List.not_mem_nil) (fun z H locs hz1 hk1 hB hS => ?_)
      have hP1 := hB
      have hD1 := d_cw S1 (hD0x.self (sz := s.heap.size))
      obtain ⟨hP, hD⟩ := join_w hP hD hk1 hFc hP1 hD1
      refine lv_astore (lv' := [(7, .ref z), (0, .ref (ad 11 0)), (1, .int p0), (2, .int p1), (3, .int p2), (4, .int p3), (5, .int p4), (6, .ref a)]) hx hb d_h_candidate_18 hl (by decide) rfl (fun ls hl => ?_)
      refine lv_iconst (v := 1) hx hb d_h_candidate_20 (by decide) ?_
      refine W.cs (cells' := 1) (slots' := 6) rfl rfl ?_
      exact W.iret (v := 1) hx hb hr (fun t ht hW => ⟨⟨1, ad, rfl, rfl, Ext.rf, by rw [ht]; exact hP, va_K.moved hW.alike hK, hD⟩, hS.F ht⟩) hS.2.2 d_h_candidate_21
    rcases lk_cons hk with ⟨hc, rfl⟩ | hk
    · refine tx_catch (tx_runV (As := [.int p0, .int p1, .int p2, .int p3, .int p4]) (rest := [.int 0, .ref a]) ⟨hx, hb, hml, hown, hts⟩ (g_cJT_candidate_t l hfl D s.heap.size (ad := ad) (cc := cc) (sad := sad) (sav := sav) hm) (cw_v 5 hts kw_1143 kw_1140 kw_1141 kw_1142 kw_1 rfl rfl (by decide +kernel) ⟨Nat.le_of_ble_eq_true rfl, Nat.le_of_ble_eq_true rfl⟩) ⟨c_blind, va_recv hK hPx (ci := 11) (q0 := cPos N 11 0) rfl (cw_obj (k := 11) (by decide) h0), fun U hU hW => c_pre hU hW hPx hKx hDx hev hE hN hNS hS hFc⟩ rfl rfl hl.1 rfl (lv_room (Nat.le_of_ble_eq_true rfl)) d_h_candidate_11 ⟨Nat.le_of_eq (Nat.zero_add _), Nat.le_of_eq (Nat.zero_add _)⟩) hown hS hFc htab [(0, 15, 18, 19)] [] (0, 15, 22, 27) rfl (by decide) (by decide) (hts _ kw_581) (by rw [hc]; exact va_Nw.use rfl hev.2.2.2.2.2.1.2.2.1) (List.forall_mem_cons.mpr ⟨⟨by decide, by decide, "java/lang/IllegalArgumentException", hts _ kw_553, by rw [hc]; exact hev.2.2.2.2.2.2.2.1.1⟩, fun y hy => absurd hy List.not_mem_nil⟩) (fun z H locs hz1 hk1 hB hS => ?_)
      have hP1 := hB
      have hD1 := d_cw S1 (hD0x.self (sz := s.heap.size))
      obtain ⟨hP, hD⟩ := join_w hP hD hk1 hFc hP1 hD1
      refine lv_astore (lv' := [(7, .ref z), (0, .ref (ad 11 0)), (1, .int p0), (2, .int p1), (3, .int p2), (4, .int p3), (5, .int p4), (6, .ref a)]) hx hb d_h_candidate_22 hl (by decide) rfl (fun ls hl => ?_)
      refine lv_iconst (v := 2) hx hb d_h_candidate_24 (by decide) ?_
      refine W.cs (cells' := 1) (slots' := 6) rfl rfl ?_
      exact W.iret (v := 2) hx hb hr (fun t ht hW => ⟨⟨2, ad, rfl, rfl, Ext.rf, by rw [ht]; exact hP, va_K.moved hW.alike hK, hD⟩, hS.F ht⟩) hS.2.2 d_h_candidate_25
    exact (lk_nil hk).elim
