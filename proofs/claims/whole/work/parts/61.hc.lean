def h_letter (N : Nat → Nat) (S : CS) (ov : Nat → Int64) (p0 : Int32) (p1 : Int32) (p2 : Int32) : Option (((Nat → Nat) × CS × (Nat → Int64) × Int32) × Nat × Nat) := gl 0 (N 11) (hR Prod.fst (fun ov r => oU ov r.2.toInt64) [(1, 1), (3, 2)] N ov (m_cJT_letter N 0 S p0 p1 p2))
theorem d_h_letter_0 : decode method_20_code 0 = .ok (.aload 4, 2) := by decide +kernel
theorem d_h_letter_2 : decode method_20_code 2 = .ok (.iconst 0, 1) := by decide +kernel
theorem d_h_letter_3 : decode method_20_code 3 = .ok (.aload_n 0, 1) := by decide +kernel
theorem d_h_letter_4 : decode method_20_code 4 = .ok (.iload_n 1, 1) := by decide +kernel
theorem d_h_letter_5 : decode method_20_code 5 = .ok (.iload_n 2, 1) := by decide +kernel
theorem d_h_letter_6 : decode method_20_code 6 = .ok (.iload_n 3, 1) := by decide +kernel
theorem d_h_letter_7 : decode method_20_code 7 = .ok (.invokevirtual 76, 3) := by decide +kernel
theorem d_h_letter_10 : decode method_20_code 10 = .ok (.i2l, 1) := by decide +kernel
theorem d_h_letter_11 : decode method_20_code 11 = .ok (.lastore, 1) := by decide +kernel
theorem d_h_letter_12 : decode method_20_code 12 = .ok (.goto 11, 3) := by decide +kernel
theorem d_h_letter_23 : decode method_20_code 23 = .ok (.iconst 0, 1) := by decide +kernel
theorem d_h_letter_24 : decode method_20_code 24 = .ok (.ireturn, 1) := by decide +kernel
theorem d_h_letter_15 : decode method_20_code 15 = .ok (.astore 5, 2) := by decide +kernel
theorem d_h_letter_17 : decode method_20_code 17 = .ok (.iconst 1, 1) := by decide +kernel
theorem d_h_letter_18 : decode method_20_code 18 = .ok (.ireturn, 1) := by decide +kernel
theorem d_h_letter_19 : decode method_20_code 19 = .ok (.astore 5, 2) := by decide +kernel
theorem d_h_letter_21 : decode method_20_code 21 = .ok (.iconst 2, 1) := by decide +kernel
theorem d_h_letter_22 : decode method_20_code 22 = .ok (.ireturn, 1) := by decide +kernel
set_option maxHeartbeats 4000000 in
set_option maxRecDepth 100000 in
theorem g_h_letter (l : Launch) (hfl : l.flags = flags0) (D : va_G) (sz : Nat) {ad : Nat → Nat → Nat} {cc : Nat → ClassId} {sad sav : Nat → Nat} {N : Nat → Nat} {S : CS} {cL : ClassId} {a : Nat} {ov : Nat → Int64} {p0 : Int32} {p1 : Int32} {p2 : Int32} {o : ((Nat → Nat) × CS × (Nat → Int64) × Int32)} {oc os : Nat} (Heq : h_letter N S ov p0 p1 p2 = some (o, oc, os)) : Met l ⟨"JoinedTreesLaw", "letter", "(LJoinedTrees;III[J)I"⟩ (Cond.codeWith ⟨"JoinedTreesLaw", "letter", "(LJoinedTrees;III[J)I"⟩ method_20_code 6 (some .int) [(0, 12, 15, 19), (0, 12, 19, 27)] :: gb) ({ frames := 8, cells := oc, slots := os, locals := 141 }) (hPc sad sav D (cw ad cc N S ++ [oA cL a ov]) (cty cc ++ [(cL, .long)]) sz [.ref (ad 11 0), .int p0, .int p1, .int p2, .ref a]) (va_Qi (fun (r : Int32) (_ : Nat → Nat → Nat) => r = o.2.2.2) (fun (u : Nat → Nat → Nat) t => Ext ad N u o.1 ∧ gO D (cw u cc o.1 o.2.1 ++ [oA cL a o.2.2.1]) (cty cc ++ [(cL, .long)]) (va_A (cw ad cc N S ++ [oA cL a ov]) sz) t) (va_A (cw ad cc N S ++ [oA cL a ov]) sz)) oc os (va_A (cw ad cc N S ++ [oA cL a ov]) sz) := by
  refine tx_ofW (cc := method_20_code) (maxL := 6) (ret := (some .int)) (hs := [(0, 12, 15, 19), (0, 12, 19, 27)]) (by decide) rfl ?_
  intro p e s m args below meth c s₁ B hml htab hv
  obtain ⟨rfl, hsz, hP, hK, hD0, hev, hE, hN, hH⟩ := hv
  have hx := B.exec
  have hb := B.bytes
  have hr := B.returns
  have hts : ∀ w9 ∈ gb, w9.before [.ref (ad 11 0), .int p0, .int p1, .int p2, .ref a].toArray s = true := fun w9 h => atoms_spec (ws := Cond.codeWith ⟨"JoinedTreesLaw", "letter", "(LJoinedTrees;III[J)I"⟩ method_20_code 6 (some .int) [(0, 12, 15, 19), (0, 12, 19, 27)] :: gb) B.pre w9 (List.mem_cons_of_mem _ h)
  have hown : s.vm.findClass "JoinedTreesLaw" = some m.cls := findClass_of_methodNamed B.named
  subst hsz
  have hNS := ns_of hP
  have hD := hD0.self (sz := s.heap.size)
  have hD0x := d_l hD0
  generalize hAe : va_A (cw ad cc N S ++ [oA cL a ov]) s.heap.size = A at hD hev hE hNS ⊢
  have hA : ∀ q : Nat, s.heap.size ≤ q → A q := fun q h => by rw [← hAe]; exact Or.inr h
  have hS : va_S A s.heap s.heap [] := va_S.rf
  obtain ⟨ls, hl, hle⟩ : ∃ ls : Array Slot, lv_has ls 6 [(0, .ref (ad 11 0)), (1, .int p0), (2, .int p1), (3, .int p2), (4, .ref a)] ∧ entryFrame m ([.ref (ad 11 0), .int p0, .int p1, .int p2, .ref a] : List Value).toArray 6 = F0 m 0 ls [] := ⟨_, lv_entry (n := 6) _ (Nat.le_of_ble_eq_true rfl), lg_entry_eq ..⟩
  rw [hle]
  have hPx := p_l hP
  have hDx := d_l hD
  have hFc := fr_all hDx hS hA
  have hKx := hK.sub (tys' := cty cc) [0, 1, 2, 3, 4, 5, 6] rfl
  obtain ⟨h0, Heq⟩ := gl_some Heq
  refine lv_aload hx hb d_h_letter_0 (lv_at hl 4 rfl) ?_
  refine lv_iconst (v := 0) hx hb d_h_letter_2 (by decide) ?_
  refine lv_aload_n hx hb d_h_letter_3 rfl (lv_at hl 0 rfl) ?_
  refine lv_iload_n hx hb d_h_letter_4 rfl (lv_at hl 1 rfl) ?_
  refine lv_iload_n hx hb d_h_letter_5 rfl (lv_at hl 2 rfl) ?_
  refine lv_iload_n hx hb d_h_letter_6 rfl (lv_at hl 3 rfl) ?_
  rcases hR_some Heq with ⟨r, hm, rfl, rfl, rfl⟩ | ⟨S1, k, c, hm, hk, rfl, rfl, rfl⟩
  · refine va_calli (va_runV (As := [.int p0, .int p1, .int p2]) (rest := [.int 0, .ref a]) ⟨hx, hb, hml, hown, hts⟩ (g_cJT_letter l hfl D s.heap.size (ad := ad) (cc := cc) (sad := sad) (sav := sav) hm) (cw_v 3 hts kw_1158 kw_1155 kw_1156 kw_1157 kw_1 rfl rfl (by decide +kernel) ⟨Nat.le_of_ble_eq_true rfl, Nat.le_of_ble_eq_true rfl⟩) ⟨c_blind, va_recv hK hPx (ci := 11) (q0 := cPos N 11 0) rfl (cw_obj (k := 11) (by decide) h0), fun U hU hW => c_pre hU hW hPx hKx hDx hev hE hN hNS hS hFc⟩ rfl rfl hl.1 rfl (lv_room (Nat.le_of_ble_eq_true rfl)) d_h_letter_7 ⟨Nat.le_of_eq (Nat.zero_add _), Nat.le_of_eq (Nat.zero_add _)⟩) hS (fun q _ h => hFc q h) hFc (fun rz u t H locs ht hvm hw hB hz1 hk1 hS => ?_)
    obtain ⟨hP1, -, hD1⟩ := hB
    rw [ht] at hP1
    obtain ⟨hP, hD⟩ := join_w hP hD hk1 hFc hP1 hD1
    subst hw
    refine lv_i2l hx hb d_h_letter_10 rfl ?_
    refine va_last hx hb hK hP hD hS (cw ad cc N r.1).length 7 at_last rfl (i := 0) (x := r.2.toInt64) (vp_in_nI (n := 0) (N := 1) (by decide) (by decide)) d_h_letter_11 (fun H locs hP hD hS => ?_)
    rw [set_last] at hP hD
    refine lv_goto (tgt := 23) hx hb d_h_letter_12 (by decide) ?_
    refine lv_iconst (v := 0) hx hb d_h_letter_23 (by decide) ?_
    refine W.cs (cells' := 0) (slots' := 0) rfl rfl ?_
    exact W.iret (v := 0) hx hb hr (fun t ht hW => ⟨⟨0, ad, rfl, rfl, Ext.rf, by rw [ht]; exact hP, va_K.moved hW.alike hK, hD⟩, hS.F ht⟩) hS.2.2 d_h_letter_24
  · rcases lk_cons hk with ⟨hc, rfl⟩ | hk
    · refine tx_catch (tx_runV (As := [.int p0, .int p1, .int p2]) (rest := [.int 0, .ref a]) ⟨hx, hb, hml, hown, hts⟩ (g_cJT_letter_t l hfl D s.heap.size (ad := ad) (cc := cc) (sad := sad) (sav := sav) hm) (cw_v 3 hts kw_1158 kw_1155 kw_1156 kw_1157 kw_1 rfl rfl (by decide +kernel) ⟨Nat.le_of_ble_eq_true rfl, Nat.le_of_ble_eq_true rfl⟩) ⟨c_blind, va_recv hK hPx (ci := 11) (q0 := cPos N 11 0) rfl (cw_obj (k := 11) (by decide) h0), fun U hU hW => c_pre hU hW hPx hKx hDx hev hE hN hNS hS hFc⟩ rfl rfl hl.1 rfl (lv_room (Nat.le_of_ble_eq_true rfl)) d_h_letter_7 ⟨Nat.le_of_eq (Nat.zero_add _), Nat.le_of_eq (Nat.zero_add _)⟩) hown hS hFc htab [] [(0, 12, 19, 27)] (0, 12, 15, 19) rfl (by decide) (by decide) (hts _ kw_553) (by rw [hc]; exact va_Nw.use rfl hev.2.2.2.2.2.1.1) (fun y hy => absurd hy List.not_mem_nil) (fun z H locs hz1 hk1 hB hS => ?_)
      have hP1 := hB
      have hD1 := d_cw S1 (hD0x.self (sz := s.heap.size))
      obtain ⟨hP, hD⟩ := join_w hP hD hk1 hFc hP1 hD1
      refine lv_astore (lv' := [(5, .ref z), (0, .ref (ad 11 0)), (1, .int p0), (2, .int p1), (3, .int p2), (4, .ref a)]) hx hb d_h_letter_15 hl (by decide) rfl (fun ls hl => ?_)
      refine lv_iconst (v := 1) hx hb d_h_letter_17 (by decide) ?_
      refine W.cs (cells' := 1) (slots' := 6) rfl rfl ?_
      exact W.iret (v := 1) hx hb hr (fun t ht hW => ⟨⟨1, ad, rfl, rfl, Ext.rf, by rw [ht]; exact hP, va_K.moved hW.alike hK, hD⟩, hS.F ht⟩) hS.2.2 d_h_letter_18
    rcases lk_cons hk with ⟨hc, rfl⟩ | hk
    · refine tx_catch (tx_runV (As := [.int p0, .int p1, .int p2]) (rest := [.int 0, .ref a]) ⟨hx, hb, hml, hown, hts⟩ (g_cJT_letter_t l hfl D s.heap.size (ad := ad) (cc := cc) (sad := sad) (sav := sav) hm) (cw_v 3 hts kw_1158 kw_1155 kw_1156 kw_1157 kw_1 rfl rfl (by decide +kernel) ⟨Nat.le_of_ble_eq_true rfl, Nat.le_of_ble_eq_true rfl⟩) ⟨c_blind, va_recv hK hPx (ci := 11) (q0 := cPos N 11 0) rfl (cw_obj (k := 11) (by decide) h0), fun U hU hW => c_pre hU hW hPx hKx hDx hev hE hN hNS hS hFc⟩ rfl rfl hl.1 rfl (lv_room (Nat.le_of_ble_eq_true rfl)) d_h_letter_7 ⟨Nat.le_of_eq (Nat.zero_add _), Nat.le_of_eq (Nat.zero_add _)⟩) hown hS hFc htab [(0, 12, 15, 19)] [] (0, 12, 19, 27) rfl (by decide) (by decide) (hts _ kw_581) (by rw [hc]; exact va_Nw.use rfl hev.2.2.2.2.2.1.2.2.1) (List.forall_mem_cons.mpr ⟨⟨by decide, by decide, "java/lang/IllegalArgumentException", hts _ kw_553, by rw [hc]; exact hev.2.2.2.2.2.2.2.1.1⟩, fun y hy => absurd hy List.not_mem_nil⟩) (fun z H locs hz1 hk1 hB hS => ?_)
      have hP1 := hB
      have hD1 := d_cw S1 (hD0x.self (sz := s.heap.size))
      obtain ⟨hP, hD⟩ := join_w hP hD hk1 hFc hP1 hD1
      refine lv_astore (lv' := [(5, .ref z), (0, .ref (ad 11 0)), (1, .int p0), (2, .int p1), (3, .int p2), (4, .ref a)]) hx hb d_h_letter_19 hl (by decide) rfl (fun ls hl => ?_)
      refine lv_iconst (v := 2) hx hb d_h_letter_21 (by decide) ?_
      refine W.cs (cells' := 1) (slots' := 6) rfl rfl ?_
      exact W.iret (v := 2) hx hb hr (fun t ht hW => ⟨⟨2, ad, rfl, rfl, Ext.rf, by rw [ht]; exact hP, va_K.moved hW.alike hK, hD⟩, hS.F ht⟩) hS.2.2 d_h_letter_22
    exact (lk_nil hk).elim
def h_element (N : Nat → Nat) (S : CS) (ov : Nat → Int64) (p0 : Int32) (p1 : Int32) (p2 : Int32) : Option (((Nat → Nat) × CS × (Nat → Int64) × Int32) × Nat × Nat) := gl 0 (N 11) (hR Prod.fst (fun ov r => oU ov r.2.toInt64) [(1, 1), (3, 2)] N ov (m_cJT_element N 0 S p0 p1 p2))
theorem d_h_element_0 : decode method_21_code 0 = .ok (.aload 4, 2) := by decide +kernel
theorem d_h_element_2 : decode method_21_code 2 = .ok (.iconst 0, 1) := by decide +kernel
theorem d_h_element_3 : decode method_21_code 3 = .ok (.aload_n 0, 1) := by decide +kernel
theorem d_h_element_4 : decode method_21_code 4 = .ok (.iload_n 1, 1) := by decide +kernel
theorem d_h_element_5 : decode method_21_code 5 = .ok (.iload_n 2, 1) := by decide +kernel
theorem d_h_element_6 : decode method_21_code 6 = .ok (.iload_n 3, 1) := by decide +kernel
theorem d_h_element_7 : decode method_21_code 7 = .ok (.invokevirtual 79, 3) := by decide +kernel
theorem d_h_element_10 : decode method_21_code 10 = .ok (.i2l, 1) := by decide +kernel
theorem d_h_element_11 : decode method_21_code 11 = .ok (.lastore, 1) := by decide +kernel
theorem d_h_element_12 : decode method_21_code 12 = .ok (.goto 11, 3) := by decide +kernel
theorem d_h_element_23 : decode method_21_code 23 = .ok (.iconst 0, 1) := by decide +kernel
theorem d_h_element_24 : decode method_21_code 24 = .ok (.ireturn, 1) := by decide +kernel
theorem d_h_element_15 : decode method_21_code 15 = .ok (.astore 5, 2) := by decide +kernel
theorem d_h_element_17 : decode method_21_code 17 = .ok (.iconst 1, 1) := by decide +kernel
theorem d_h_element_18 : decode method_21_code 18 = .ok (.ireturn, 1) := by decide +kernel
theorem d_h_element_19 : decode method_21_code 19 = .ok (.astore 5, 2) := by decide +kernel
theorem d_h_element_21 : decode method_21_code 21 = .ok (.iconst 2, 1) := by decide +kernel
theorem d_h_element_22 : decode method_21_code 22 = .ok (.ireturn, 1) := by decide +kernel
set_option maxHeartbeats 4000000 in
set_option maxRecDepth 100000 in
theorem g_h_element (l : Launch) (hfl : l.flags = flags0) (D : va_G) (sz : Nat) {ad : Nat → Nat → Nat} {cc : Nat → ClassId} {sad sav : Nat → Nat} {N : Nat → Nat} {S : CS} {cL : ClassId} {a : Nat} {ov : Nat → Int64} {p0 : Int32} {p1 : Int32} {p2 : Int32} {o : ((Nat → Nat) × CS × (Nat → Int64) × Int32)} {oc os : Nat} (Heq : h_element N S ov p0 p1 p2 = some (o, oc, os)) : Met l ⟨"JoinedTreesLaw", "element", "(LJoinedTrees;III[J)I"⟩ (Cond.codeWith ⟨"JoinedTreesLaw", "element", "(LJoinedTrees;III[J)I"⟩ method_21_code 6 (some .int) [(0, 12, 15, 19), (0, 12, 19, 27)] :: gb) ({ frames := 9, cells := oc, slots := os, locals := 164 }) (hPc sad sav D (cw ad cc N S ++ [oA cL a ov]) (cty cc ++ [(cL, .long)]) sz [.ref (ad 11 0), .int p0, .int p1, .int p2, .ref a]) (va_Qi (fun (r : Int32) (_ : Nat → Nat → Nat) => r = o.2.2.2) (fun (u : Nat → Nat → Nat) t => Ext ad N u o.1 ∧ gO D (cw u cc o.1 o.2.1 ++ [oA cL a o.2.2.1]) (cty cc ++ [(cL, .long)]) (va_A (cw ad cc N S ++ [oA cL a ov]) sz) t) (va_A (cw ad cc N S ++ [oA cL a ov]) sz)) oc os (va_A (cw ad cc N S ++ [oA cL a ov]) sz) := by
  refine tx_ofW (cc := method_21_code) (maxL := 6) (ret := (some .int)) (hs := [(0, 12, 15, 19), (0, 12, 19, 27)]) (by decide) rfl ?_
  intro p e s m args below meth c s₁ B hml htab hv
  obtain ⟨rfl, hsz, hP, hK, hD0, hev, hE, hN, hH⟩ := hv
  have hx := B.exec
  have hb := B.bytes
  have hr := B.returns
  have hts : ∀ w9 ∈ gb, w9.before [.ref (ad 11 0), .int p0, .int p1, .int p2, .ref a].toArray s = true := fun w9 h => atoms_spec (ws := Cond.codeWith ⟨"JoinedTreesLaw", "element", "(LJoinedTrees;III[J)I"⟩ method_21_code 6 (some .int) [(0, 12, 15, 19), (0, 12, 19, 27)] :: gb) B.pre w9 (List.mem_cons_of_mem _ h)
  have hown : s.vm.findClass "JoinedTreesLaw" = some m.cls := findClass_of_methodNamed B.named
  subst hsz
  have hNS := ns_of hP
  have hD := hD0.self (sz := s.heap.size)
  have hD0x := d_l hD0
  generalize hAe : va_A (cw ad cc N S ++ [oA cL a ov]) s.heap.size = A at hD hev hE hNS ⊢
  have hA : ∀ q : Nat, s.heap.size ≤ q → A q := fun q h => by rw [← hAe]; exact Or.inr h
  have hS : va_S A s.heap s.heap [] := va_S.rf
  obtain ⟨ls, hl, hle⟩ : ∃ ls : Array Slot, lv_has ls 6 [(0, .ref (ad 11 0)), (1, .int p0), (2, .int p1), (3, .int p2), (4, .ref a)] ∧ entryFrame m ([.ref (ad 11 0), .int p0, .int p1, .int p2, .ref a] : List Value).toArray 6 = F0 m 0 ls [] := ⟨_, lv_entry (n := 6) _ (Nat.le_of_ble_eq_true rfl), lg_entry_eq ..⟩
  rw [hle]
  have hPx := p_l hP
  have hDx := d_l hD
  have hFc := fr_all hDx hS hA
  have hKx := hK.sub (tys' := cty cc) [0, 1, 2, 3, 4, 5, 6] rfl
  obtain ⟨h0, Heq⟩ := gl_some Heq
  refine lv_aload hx hb d_h_element_0 (lv_at hl 4 rfl) ?_
  refine lv_iconst (v := 0) hx hb d_h_element_2 (by decide) ?_
  refine lv_aload_n hx hb d_h_element_3 rfl (lv_at hl 0 rfl) ?_
  refine lv_iload_n hx hb d_h_element_4 rfl (lv_at hl 1 rfl) ?_
  refine lv_iload_n hx hb d_h_element_5 rfl (lv_at hl 2 rfl) ?_
  refine lv_iload_n hx hb d_h_element_6 rfl (lv_at hl 3 rfl) ?_
  rcases hR_some Heq with ⟨r, hm, rfl, rfl, rfl⟩ | ⟨S1, k, c, hm, hk, rfl, rfl, rfl⟩
  · refine va_calli (va_runV (As := [.int p0, .int p1, .int p2]) (rest := [.int 0, .ref a]) ⟨hx, hb, hml, hown, hts⟩ (g_cJT_element l hfl D s.heap.size (ad := ad) (cc := cc) (sad := sad) (sav := sav) hm) (cw_v 3 hts kw_1165 kw_1162 kw_1163 kw_1164 kw_1 rfl rfl (by decide +kernel) ⟨Nat.le_of_ble_eq_true rfl, Nat.le_of_ble_eq_true rfl⟩) ⟨c_blind, va_recv hK hPx (ci := 11) (q0 := cPos N 11 0) rfl (cw_obj (k := 11) (by decide) h0), fun U hU hW => c_pre hU hW hPx hKx hDx hev hE hN hNS hS hFc⟩ rfl rfl hl.1 rfl (lv_room (Nat.le_of_ble_eq_true rfl)) d_h_element_7 ⟨Nat.le_of_eq (Nat.zero_add _), Nat.le_of_eq (Nat.zero_add _)⟩) hS (fun q _ h => hFc q h) hFc (fun rz u t H locs ht hvm hw hB hz1 hk1 hS => ?_)
    obtain ⟨hP1, -, hD1⟩ := hB
    rw [ht] at hP1
    obtain ⟨hP, hD⟩ := join_w hP hD hk1 hFc hP1 hD1
    subst hw
    refine lv_i2l hx hb d_h_element_10 rfl ?_
    refine va_last hx hb hK hP hD hS (cw ad cc N r.1).length 7 at_last rfl (i := 0) (x := r.2.toInt64) (vp_in_nI (n := 0) (N := 1) (by decide) (by decide)) d_h_element_11 (fun H locs hP hD hS => ?_)
    rw [set_last] at hP hD
    refine lv_goto (tgt := 23) hx hb d_h_element_12 (by decide) ?_
    refine lv_iconst (v := 0) hx hb d_h_element_23 (by decide) ?_
    refine W.cs (cells' := 0) (slots' := 0) rfl rfl ?_
    exact W.iret (v := 0) hx hb hr (fun t ht hW => ⟨⟨0, ad, rfl, rfl, Ext.rf, by rw [ht]; exact hP, va_K.moved hW.alike hK, hD⟩, hS.F ht⟩) hS.2.2 d_h_element_24
  · rcases lk_cons hk with ⟨hc, rfl⟩ | hk
    · refine tx_catch (tx_runV (As := [.int p0, .int p1, .int p2]) (rest := [.int 0, .ref a]) ⟨hx, hb, hml, hown, hts⟩ (g_cJT_element_t l hfl D s.heap.size (ad := ad) (cc := cc) (sad := sad) (sav := sav) hm) (cw_v 3 hts kw_1165 kw_1162 kw_1163 kw_1164 kw_1 rfl rfl (by decide +kernel) ⟨Nat.le_of_ble_eq_true rfl, Nat.le_of_ble_eq_true rfl⟩) ⟨c_blind, va_recv hK hPx (ci := 11) (q0 := cPos N 11 0) rfl (cw_obj (k := 11) (by decide) h0), fun U hU hW => c_pre hU hW hPx hKx hDx hev hE hN hNS hS hFc⟩ rfl rfl hl.1 rfl (lv_room (Nat.le_of_ble_eq_true rfl)) d_h_element_7 ⟨Nat.le_of_eq (Nat.zero_add _), Nat.le_of_eq (Nat.zero_add _)⟩) hown hS hFc htab [] [(0, 12, 19, 27)] (0, 12, 15, 19) rfl (by decide) (by decide) (hts _ kw_553) (by rw [hc]; exact va_Nw.use rfl hev.2.2.2.2.2.1.1) (fun y hy => absurd hy List.not_mem_nil) (fun z H locs hz1 hk1 hB hS => ?_)
      have hP1 := hB
      have hD1 := d_cw S1 (hD0x.self (sz := s.heap.size))
      obtain ⟨hP, hD⟩ := join_w hP hD hk1 hFc hP1 hD1
      refine lv_astore (lv' := [(5, .ref z), (0, .ref (ad 11 0)), (1, .int p0), (2, .int p1), (3, .int p2), (4, .ref a)]) hx hb d_h_element_15 hl (by decide) rfl (fun ls hl => ?_)
      refine lv_iconst (v := 1) hx hb d_h_element_17 (by decide) ?_
      refine W.cs (cells' := 1) (slots' := 6) rfl rfl ?_
      exact W.iret (v := 1) hx hb hr (fun t ht hW => ⟨⟨1, ad, rfl, rfl, Ext.rf, by rw [ht]; exact hP, va_K.moved hW.alike hK, hD⟩, hS.F ht⟩) hS.2.2 d_h_element_18
    rcases lk_cons hk with ⟨hc, rfl⟩ | hk
    · refine tx_catch (tx_runV (As := [.int p0, .int p1, .int p2]) (rest := [.int 0, .ref a]) ⟨hx, hb, hml, hown, hts⟩ (g_cJT_element_t l hfl D s.heap.size (ad := ad) (cc := cc) (sad := sad) (sav := sav) hm) (cw_v 3 hts kw_1165 kw_1162 kw_1163 kw_1164 kw_1 rfl rfl (by decide +kernel) ⟨Nat.le_of_ble_eq_true rfl, Nat.le_of_ble_eq_true rfl⟩) ⟨c_blind, va_recv hK hPx (ci := 11) (q0 := cPos N 11 0) rfl (cw_obj (k := 11) (by decide) h0), fun U hU hW => c_pre hU hW hPx hKx hDx hev hE hN hNS hS hFc⟩ rfl rfl hl.1 rfl (lv_room (Nat.le_of_ble_eq_true rfl)) d_h_element_7 ⟨Nat.le_of_eq (Nat.zero_add _), Nat.le_of_eq (Nat.zero_add _)⟩) hown hS hFc htab [(0, 12, 15, 19)] [] (0, 12, 19, 27) rfl (by decide) (by decide) (hts _ kw_581) (by rw [hc]; exact va_Nw.use rfl hev.2.2.2.2.2.1.2.2.1) (List.forall_mem_cons.mpr ⟨⟨by decide, by decide, "java/lang/IllegalArgumentException", hts _ kw_553, by rw [hc]; exact hev.2.2.2.2.2.2.2.1.1⟩, fun y hy => absurd hy List.not_mem_nil⟩) (fun z H locs hz1 hk1 hB hS => ?_)
      have hP1 := hB
      have hD1 := d_cw S1 (hD0x.self (sz := s.heap.size))
      obtain ⟨hP, hD⟩ := join_w hP hD hk1 hFc hP1 hD1
      refine lv_astore (lv' := [(5, .ref z), (0, .ref (ad 11 0)), (1, .int p0), (2, .int p1), (3, .int p2), (4, .ref a)]) hx hb d_h_element_19 hl (by decide) rfl (fun ls hl => ?_)
      refine lv_iconst (v := 2) hx hb d_h_element_21 (by decide) ?_
      refine W.cs (cells' := 1) (slots' := 6) rfl rfl ?_
      exact W.iret (v := 2) hx hb hr (fun t ht hW => ⟨⟨2, ad, rfl, rfl, Ext.rf, by rw [ht]; exact hP, va_K.moved hW.alike hK, hD⟩, hS.F ht⟩) hS.2.2 d_h_element_22
    exact (lk_nil hk).elim
def h_index (N : Nat → Nat) (S : CS) (ov : Nat → Int64) (p0 : Int32) (p1 : Int32) (p2 : Int32) : Option (((Nat → Nat) × CS × (Nat → Int64) × Int32) × Nat × Nat) := gl 0 (N 11) (hR Prod.fst (fun ov r => oU ov r.2.toInt64) [(1, 1), (3, 2)] N ov (m_cJT_index N 0 S p0 p1 p2))
theorem d_h_index_0 : decode method_22_code 0 = .ok (.aload 4, 2) := by decide +kernel
theorem d_h_index_2 : decode method_22_code 2 = .ok (.iconst 0, 1) := by decide +kernel
theorem d_h_index_3 : decode method_22_code 3 = .ok (.aload_n 0, 1) := by decide +kernel
theorem d_h_index_4 : decode method_22_code 4 = .ok (.iload_n 1, 1) := by decide +kernel
theorem d_h_index_5 : decode method_22_code 5 = .ok (.iload_n 2, 1) := by decide +kernel
theorem d_h_index_6 : decode method_22_code 6 = .ok (.iload_n 3, 1) := by decide +kernel
theorem d_h_index_7 : decode method_22_code 7 = .ok (.invokevirtual 82, 3) := by decide +kernel
theorem d_h_index_10 : decode method_22_code 10 = .ok (.i2l, 1) := by decide +kernel
theorem d_h_index_11 : decode method_22_code 11 = .ok (.lastore, 1) := by decide +kernel
theorem d_h_index_12 : decode method_22_code 12 = .ok (.goto 11, 3) := by decide +kernel
theorem d_h_index_23 : decode method_22_code 23 = .ok (.iconst 0, 1) := by decide +kernel
theorem d_h_index_24 : decode method_22_code 24 = .ok (.ireturn, 1) := by decide +kernel
theorem d_h_index_15 : decode method_22_code 15 = .ok (.astore 5, 2) := by decide +kernel
theorem d_h_index_17 : decode method_22_code 17 = .ok (.iconst 1, 1) := by decide +kernel
theorem d_h_index_18 : decode method_22_code 18 = .ok (.ireturn, 1) := by decide +kernel
theorem d_h_index_19 : decode method_22_code 19 = .ok (.astore 5, 2) := by decide +kernel
theorem d_h_index_21 : decode method_22_code 21 = .ok (.iconst 2, 1) := by decide +kernel
theorem d_h_index_22 : decode method_22_code 22 = .ok (.ireturn, 1) := by decide +kernel
set_option maxHeartbeats 4000000 in
set_option maxRecDepth 100000 in
theorem g_h_index (l : Launch) (hfl : l.flags = flags0) (D : va_G) (sz : Nat) {ad : Nat → Nat → Nat} {cc : Nat → ClassId} {sad sav : Nat → Nat} {N : Nat → Nat} {S : CS} {cL : ClassId} {a : Nat} {ov : Nat → Int64} {p0 : Int32} {p1 : Int32} {p2 : Int32} {o : ((Nat → Nat) × CS × (Nat → Int64) × Int32)} {oc os : Nat} (Heq : h_index N S ov p0 p1 p2 = some (o, oc, os)) : Met l ⟨"JoinedTreesLaw", "index", "(LJoinedTrees;III[J)I"⟩ (Cond.codeWith ⟨"JoinedTreesLaw", "index", "(LJoinedTrees;III[J)I"⟩ method_22_code 6 (some .int) [(0, 12, 15, 19), (0, 12, 19, 27)] :: gb) ({ frames := 9, cells := oc, slots := os, locals := 165 }) (hPc sad sav D (cw ad cc N S ++ [oA cL a ov]) (cty cc ++ [(cL, .long)]) sz [.ref (ad 11 0), .int p0, .int p1, .int p2, .ref a]) (va_Qi (fun (r : Int32) (_ : Nat → Nat → Nat) => r = o.2.2.2) (fun (u : Nat → Nat → Nat) t => Ext ad N u o.1 ∧ gO D (cw u cc o.1 o.2.1 ++ [oA cL a o.2.2.1]) (cty cc ++ [(cL, .long)]) (va_A (cw ad cc N S ++ [oA cL a ov]) sz) t) (va_A (cw ad cc N S ++ [oA cL a ov]) sz)) oc os (va_A (cw ad cc N S ++ [oA cL a ov]) sz) := by
  refine tx_ofW (cc := method_22_code) (maxL := 6) (ret := (some .int)) (hs := [(0, 12, 15, 19), (0, 12, 19, 27)]) (by decide) rfl ?_
  intro p e s m args below meth c s₁ B hml htab hv
  obtain ⟨rfl, hsz, hP, hK, hD0, hev, hE, hN, hH⟩ := hv
  have hx := B.exec
  have hb := B.bytes
  have hr := B.returns
  have hts : ∀ w9 ∈ gb, w9.before [.ref (ad 11 0), .int p0, .int p1, .int p2, .ref a].toArray s = true := fun w9 h => atoms_spec (ws := Cond.codeWith ⟨"JoinedTreesLaw", "index", "(LJoinedTrees;III[J)I"⟩ method_22_code 6 (some .int) [(0, 12, 15, 19), (0, 12, 19, 27)] :: gb) B.pre w9 (List.mem_cons_of_mem _ h)
  have hown : s.vm.findClass "JoinedTreesLaw" = some m.cls := findClass_of_methodNamed B.named
  subst hsz
  have hNS := ns_of hP
  have hD := hD0.self (sz := s.heap.size)
  have hD0x := d_l hD0
  generalize hAe : va_A (cw ad cc N S ++ [oA cL a ov]) s.heap.size = A at hD hev hE hNS ⊢
  have hA : ∀ q : Nat, s.heap.size ≤ q → A q := fun q h => by rw [← hAe]; exact Or.inr h
  have hS : va_S A s.heap s.heap [] := va_S.rf
  obtain ⟨ls, hl, hle⟩ : ∃ ls : Array Slot, lv_has ls 6 [(0, .ref (ad 11 0)), (1, .int p0), (2, .int p1), (3, .int p2), (4, .ref a)] ∧ entryFrame m ([.ref (ad 11 0), .int p0, .int p1, .int p2, .ref a] : List Value).toArray 6 = F0 m 0 ls [] := ⟨_, lv_entry (n := 6) _ (Nat.le_of_ble_eq_true rfl), lg_entry_eq ..⟩
  rw [hle]
  have hPx := p_l hP
  have hDx := d_l hD
  have hFc := fr_all hDx hS hA
  have hKx := hK.sub (tys' := cty cc) [0, 1, 2, 3, 4, 5, 6] rfl
  obtain ⟨h0, Heq⟩ := gl_some Heq
  refine lv_aload hx hb d_h_index_0 (lv_at hl 4 rfl) ?_
  refine lv_iconst (v := 0) hx hb d_h_index_2 (by decide) ?_
  refine lv_aload_n hx hb d_h_index_3 rfl (lv_at hl 0 rfl) ?_
  refine lv_iload_n hx hb d_h_index_4 rfl (lv_at hl 1 rfl) ?_
  refine lv_iload_n hx hb d_h_index_5 rfl (lv_at hl 2 rfl) ?_
  refine lv_iload_n hx hb d_h_index_6 rfl (lv_at hl 3 rfl) ?_
  rcases hR_some Heq with ⟨r, hm, rfl, rfl, rfl⟩ | ⟨S1, k, c, hm, hk, rfl, rfl, rfl⟩
  · refine va_calli (va_runV (As := [.int p0, .int p1, .int p2]) (rest := [.int 0, .ref a]) ⟨hx, hb, hml, hown, hts⟩ (g_cJT_index l hfl D s.heap.size (ad := ad) (cc := cc) (sad := sad) (sav := sav) hm) (cw_v 3 hts kw_1172 kw_1169 kw_1170 kw_1171 kw_1 rfl rfl (by decide +kernel) ⟨Nat.le_of_ble_eq_true rfl, Nat.le_of_ble_eq_true rfl⟩) ⟨c_blind, va_recv hK hPx (ci := 11) (q0 := cPos N 11 0) rfl (cw_obj (k := 11) (by decide) h0), fun U hU hW => c_pre hU hW hPx hKx hDx hev hE hN hNS hS hFc⟩ rfl rfl hl.1 rfl (lv_room (Nat.le_of_ble_eq_true rfl)) d_h_index_7 ⟨Nat.le_of_eq (Nat.zero_add _), Nat.le_of_eq (Nat.zero_add _)⟩) hS (fun q _ h => hFc q h) hFc (fun rz u t H locs ht hvm hw hB hz1 hk1 hS => ?_)
    obtain ⟨hP1, -, hD1⟩ := hB
    rw [ht] at hP1
    obtain ⟨hP, hD⟩ := join_w hP hD hk1 hFc hP1 hD1
    subst hw
    refine lv_i2l hx hb d_h_index_10 rfl ?_
    refine va_last hx hb hK hP hD hS (cw ad cc N r.1).length 7 at_last rfl (i := 0) (x := r.2.toInt64) (vp_in_nI (n := 0) (N := 1) (by decide) (by decide)) d_h_index_11 (fun H locs hP hD hS => ?_)
    rw [set_last] at hP hD
    refine lv_goto (tgt := 23) hx hb d_h_index_12 (by decide) ?_
    refine lv_iconst (v := 0) hx hb d_h_index_23 (by decide) ?_
    refine W.cs (cells' := 0) (slots' := 0) rfl rfl ?_
    exact W.iret (v := 0) hx hb hr (fun t ht hW => ⟨⟨0, ad, rfl, rfl, Ext.rf, by rw [ht]; exact hP, va_K.moved hW.alike hK, hD⟩, hS.F ht⟩) hS.2.2 d_h_index_24
  · rcases lk_cons hk with ⟨hc, rfl⟩ | hk
    · refine tx_catch (tx_runV (As := [.int p0, .int p1, .int p2]) (rest := [.int 0, .ref a]) ⟨hx, hb, hml, hown, hts⟩ (g_cJT_index_t l hfl D s.heap.size (ad := ad) (cc := cc) (sad := sad) (sav := sav) hm) (cw_v 3 hts kw_1172 kw_1169 kw_1170 kw_1171 kw_1 rfl rfl (by decide +kernel) ⟨Nat.le_of_ble_eq_true rfl, Nat.le_of_ble_eq_true rfl⟩) ⟨c_blind, va_recv hK hPx (ci := 11) (q0 := cPos N 11 0) rfl (cw_obj (k := 11) (by decide) h0), fun U hU hW => c_pre hU hW hPx hKx hDx hev hE hN hNS hS hFc⟩ rfl rfl hl.1 rfl (lv_room (Nat.le_of_ble_eq_true rfl)) d_h_index_7 ⟨Nat.le_of_eq (Nat.zero_add _), Nat.le_of_eq (Nat.zero_add _)⟩) hown hS hFc htab [] [(0, 12, 19, 27)] (0, 12, 15, 19) rfl (by decide) (by decide) (hts _ kw_553) (by rw [hc]; exact va_Nw.use rfl hev.2.2.2.2.2.1.1) (fun y hy => absurd hy List.not_mem_nil) (fun z H locs hz1 hk1 hB hS => ?_)
      have hP1 := hB
      have hD1 := d_cw S1 (hD0x.self (sz := s.heap.size))
      obtain ⟨hP, hD⟩ := join_w hP hD hk1 hFc hP1 hD1
      refine lv_astore (lv' := [(5, .ref z), (0, .ref (ad 11 0)), (1, .int p0), (2, .int p1), (3, .int p2), (4, .ref a)]) hx hb d_h_index_15 hl (by decide) rfl (fun ls hl => ?_)
      refine lv_iconst (v := 1) hx hb d_h_index_17 (by decide) ?_
      refine W.cs (cells' := 1) (slots' := 6) rfl rfl ?_
      exact W.iret (v := 1) hx hb hr (fun t ht hW => ⟨⟨1, ad, rfl, rfl, Ext.rf, by rw [ht]; exact hP, va_K.moved hW.alike hK, hD⟩, hS.F ht⟩) hS.2.2 d_h_index_18
    rcases lk_cons hk with ⟨hc, rfl⟩ | hk
    · refine tx_catch (tx_runV (As := [.int p0, .int p1, .int p2]) (rest := [.int 0, .ref a]) ⟨hx, hb, hml, hown, hts⟩ (g_cJT_index_t l hfl D s.heap.size (ad := ad) (cc := cc) (sad := sad) (sav := sav) hm) (cw_v 3 hts kw_1172 kw_1169 kw_1170 kw_1171 kw_1 rfl rfl (by decide +kernel) ⟨Nat.le_of_ble_eq_true rfl, Nat.le_of_ble_eq_true rfl⟩) ⟨c_blind, va_recv hK hPx (ci := 11) (q0 := cPos N 11 0) rfl (cw_obj (k := 11) (by decide) h0), fun U hU hW => c_pre hU hW hPx hKx hDx hev hE hN hNS hS hFc⟩ rfl rfl hl.1 rfl (lv_room (Nat.le_of_ble_eq_true rfl)) d_h_index_7 ⟨Nat.le_of_eq (Nat.zero_add _), Nat.le_of_eq (Nat.zero_add _)⟩) hown hS hFc htab [(0, 12, 15, 19)] [] (0, 12, 19, 27) rfl (by decide) (by decide) (hts _ kw_581) (by rw [hc]; exact va_Nw.use rfl hev.2.2.2.2.2.1.2.2.1) (List.forall_mem_cons.mpr ⟨⟨by decide, by decide, "java/lang/IllegalArgumentException", hts _ kw_553, by rw [hc]; exact hev.2.2.2.2.2.2.2.1.1⟩, fun y hy => absurd hy List.not_mem_nil⟩) (fun z H locs hz1 hk1 hB hS => ?_)
      have hP1 := hB
      have hD1 := d_cw S1 (hD0x.self (sz := s.heap.size))
      obtain ⟨hP, hD⟩ := join_w hP hD hk1 hFc hP1 hD1
      refine lv_astore (lv' := [(5, .ref z), (0, .ref (ad 11 0)), (1, .int p0), (2, .int p1), (3, .int p2), (4, .ref a)]) hx hb d_h_index_19 hl (by decide) rfl (fun ls hl => ?_)
      refine lv_iconst (v := 2) hx hb d_h_index_21 (by decide) ?_
      refine W.cs (cells' := 1) (slots' := 6) rfl rfl ?_
      exact W.iret (v := 2) hx hb hr (fun t ht hW => ⟨⟨2, ad, rfl, rfl, Ext.rf, by rw [ht]; exact hP, va_K.moved hW.alike hK, hD⟩, hS.F ht⟩) hS.2.2 d_h_index_22
    exact (lk_nil hk).elim
def h_find (N : Nat → Nat) (S : CS) (ov : Nat → Int64) (p0 : Int32) : Option (((Nat → Nat) × CS × (Nat → Int64) × Int32) × Nat × Nat) := gl 0 (N 11) (hR Prod.fst (fun ov r => oU ov r.2.toInt64) [(1, 1), (3, 2)] N ov (m_cJT_find N 0 S p0))
theorem d_h_find_0 : decode method_23_code 0 = .ok (.aload_n 2, 1) := by decide +kernel
theorem d_h_find_1 : decode method_23_code 1 = .ok (.iconst 0, 1) := by decide +kernel
theorem d_h_find_2 : decode method_23_code 2 = .ok (.aload_n 0, 1) := by decide +kernel
theorem d_h_find_3 : decode method_23_code 3 = .ok (.iload_n 1, 1) := by decide +kernel
theorem d_h_find_4 : decode method_23_code 4 = .ok (.invokevirtual 85, 3) := by decide +kernel
theorem d_h_find_7 : decode method_23_code 7 = .ok (.i2l, 1) := by decide +kernel
theorem d_h_find_8 : decode method_23_code 8 = .ok (.lastore, 1) := by decide +kernel
theorem d_h_find_9 : decode method_23_code 9 = .ok (.goto 9, 3) := by decide +kernel
theorem d_h_find_18 : decode method_23_code 18 = .ok (.iconst 0, 1) := by decide +kernel
theorem d_h_find_19 : decode method_23_code 19 = .ok (.ireturn, 1) := by decide +kernel
theorem d_h_find_12 : decode method_23_code 12 = .ok (.astore_n 3, 1) := by decide +kernel
theorem d_h_find_13 : decode method_23_code 13 = .ok (.iconst 1, 1) := by decide +kernel
theorem d_h_find_14 : decode method_23_code 14 = .ok (.ireturn, 1) := by decide +kernel
theorem d_h_find_15 : decode method_23_code 15 = .ok (.astore_n 3, 1) := by decide +kernel
theorem d_h_find_16 : decode method_23_code 16 = .ok (.iconst 2, 1) := by decide +kernel
theorem d_h_find_17 : decode method_23_code 17 = .ok (.ireturn, 1) := by decide +kernel
set_option maxHeartbeats 4000000 in
set_option maxRecDepth 100000 in
theorem g_h_find (l : Launch) (hfl : l.flags = flags0) (D : va_G) (sz : Nat) {ad : Nat → Nat → Nat} {cc : Nat → ClassId} {sad sav : Nat → Nat} {N : Nat → Nat} {S : CS} {cL : ClassId} {a : Nat} {ov : Nat → Int64} {p0 : Int32} {o : ((Nat → Nat) × CS × (Nat → Int64) × Int32)} {oc os : Nat} (Heq : h_find N S ov p0 = some (o, oc, os)) : Met l ⟨"JoinedTreesLaw", "find", "(LJoinedTrees;I[J)I"⟩ (Cond.codeWith ⟨"JoinedTreesLaw", "find", "(LJoinedTrees;I[J)I"⟩ method_23_code 4 (some .int) [(0, 9, 12, 19), (0, 9, 15, 27)] :: gb) ({ frames := 8, cells := oc, slots := os, locals := 148 }) (hPc sad sav D (cw ad cc N S ++ [oA cL a ov]) (cty cc ++ [(cL, .long)]) sz [.ref (ad 11 0), .int p0, .ref a]) (va_Qi (fun (r : Int32) (_ : Nat → Nat → Nat) => r = o.2.2.2) (fun (u : Nat → Nat → Nat) t => Ext ad N u o.1 ∧ gO D (cw u cc o.1 o.2.1 ++ [oA cL a o.2.2.1]) (cty cc ++ [(cL, .long)]) (va_A (cw ad cc N S ++ [oA cL a ov]) sz) t) (va_A (cw ad cc N S ++ [oA cL a ov]) sz)) oc os (va_A (cw ad cc N S ++ [oA cL a ov]) sz) := by
  refine tx_ofW (cc := method_23_code) (maxL := 4) (ret := (some .int)) (hs := [(0, 9, 12, 19), (0, 9, 15, 27)]) (by decide) rfl ?_
  intro p e s m args below meth c s₁ B hml htab hv
  obtain ⟨rfl, hsz, hP, hK, hD0, hev, hE, hN, hH⟩ := hv
  have hx := B.exec
  have hb := B.bytes
  have hr := B.returns
  have hts : ∀ w9 ∈ gb, w9.before [.ref (ad 11 0), .int p0, .ref a].toArray s = true := fun w9 h => atoms_spec (ws := Cond.codeWith ⟨"JoinedTreesLaw", "find", "(LJoinedTrees;I[J)I"⟩ method_23_code 4 (some .int) [(0, 9, 12, 19), (0, 9, 15, 27)] :: gb) B.pre w9 (List.mem_cons_of_mem _ h)
  have hown : s.vm.findClass "JoinedTreesLaw" = some m.cls := findClass_of_methodNamed B.named
  subst hsz
  have hNS := ns_of hP
  have hD := hD0.self (sz := s.heap.size)
  have hD0x := d_l hD0
  generalize hAe : va_A (cw ad cc N S ++ [oA cL a ov]) s.heap.size = A at hD hev hE hNS ⊢
  have hA : ∀ q : Nat, s.heap.size ≤ q → A q := fun q h => by rw [← hAe]; exact Or.inr h
  have hS : va_S A s.heap s.heap [] := va_S.rf
  obtain ⟨ls, hl, hle⟩ : ∃ ls : Array Slot, lv_has ls 4 [(0, .ref (ad 11 0)), (1, .int p0), (2, .ref a)] ∧ entryFrame m ([.ref (ad 11 0), .int p0, .ref a] : List Value).toArray 4 = F0 m 0 ls [] := ⟨_, lv_entry (n := 4) _ (Nat.le_of_ble_eq_true rfl), lg_entry_eq ..⟩
  rw [hle]
  have hPx := p_l hP
  have hDx := d_l hD
  have hFc := fr_all hDx hS hA
  have hKx := hK.sub (tys' := cty cc) [0, 1, 2, 3, 4, 5, 6] rfl
  obtain ⟨h0, Heq⟩ := gl_some Heq
  refine lv_aload_n hx hb d_h_find_0 rfl (lv_at hl 2 rfl) ?_
  refine lv_iconst (v := 0) hx hb d_h_find_1 (by decide) ?_
  refine lv_aload_n hx hb d_h_find_2 rfl (lv_at hl 0 rfl) ?_
  refine lv_iload_n hx hb d_h_find_3 rfl (lv_at hl 1 rfl) ?_
  rcases hR_some Heq with ⟨r, hm, rfl, rfl, rfl⟩ | ⟨S1, k, c, hm, hk, rfl, rfl, rfl⟩
  · refine va_calli (va_runV (As := [.int p0]) (rest := [.int 0, .ref a]) ⟨hx, hb, hml, hown, hts⟩ (g_cJT_find l hfl D s.heap.size (ad := ad) (cc := cc) (sad := sad) (sav := sav) hm) (cw_v 1 hts kw_1180 kw_1177 kw_1178 kw_1179 kw_1 rfl rfl (by decide +kernel) ⟨Nat.le_of_ble_eq_true rfl, Nat.le_of_ble_eq_true rfl⟩) ⟨c_blind, va_recv hK hPx (ci := 11) (q0 := cPos N 11 0) rfl (cw_obj (k := 11) (by decide) h0), fun U hU hW => c_pre hU hW hPx hKx hDx hev hE hN hNS hS hFc⟩ rfl rfl hl.1 rfl (lv_room (Nat.le_of_ble_eq_true rfl)) d_h_find_4 ⟨Nat.le_of_eq (Nat.zero_add _), Nat.le_of_eq (Nat.zero_add _)⟩) hS (fun q _ h => hFc q h) hFc (fun rz u t H locs ht hvm hw hB hz1 hk1 hS => ?_)
    obtain ⟨hP1, -, hD1⟩ := hB
    rw [ht] at hP1
    obtain ⟨hP, hD⟩ := join_w hP hD hk1 hFc hP1 hD1
    subst hw
    refine lv_i2l hx hb d_h_find_7 rfl ?_
    refine va_last hx hb hK hP hD hS (cw ad cc N r.1).length 7 at_last rfl (i := 0) (x := r.2.toInt64) (vp_in_nI (n := 0) (N := 1) (by decide) (by decide)) d_h_find_8 (fun H locs hP hD hS => ?_)
    rw [set_last] at hP hD
    refine lv_goto (tgt := 18) hx hb d_h_find_9 (by decide) ?_
    refine lv_iconst (v := 0) hx hb d_h_find_18 (by decide) ?_
    refine W.cs (cells' := 0) (slots' := 0) rfl rfl ?_
    exact W.iret (v := 0) hx hb hr (fun t ht hW => ⟨⟨0, ad, rfl, rfl, Ext.rf, by rw [ht]; exact hP, va_K.moved hW.alike hK, hD⟩, hS.F ht⟩) hS.2.2 d_h_find_19
  · rcases lk_cons hk with ⟨hc, rfl⟩ | hk
    · refine tx_catch (tx_runV (As := [.int p0]) (rest := [.int 0, .ref a]) ⟨hx, hb, hml, hown, hts⟩ (g_cJT_find_t l hfl D s.heap.size (ad := ad) (cc := cc) (sad := sad) (sav := sav) hm) (cw_v 1 hts kw_1180 kw_1177 kw_1178 kw_1179 kw_1 rfl rfl (by decide +kernel) ⟨Nat.le_of_ble_eq_true rfl, Nat.le_of_ble_eq_true rfl⟩) ⟨c_blind, va_recv hK hPx (ci := 11) (q0 := cPos N 11 0) rfl (cw_obj (k := 11) (by decide) h0), fun U hU hW => c_pre hU hW hPx hKx hDx hev hE hN hNS hS hFc⟩ rfl rfl hl.1 rfl (lv_room (Nat.le_of_ble_eq_true rfl)) d_h_find_4 ⟨Nat.le_of_eq (Nat.zero_add _), Nat.le_of_eq (Nat.zero_add _)⟩) hown hS hFc htab [] [(0, 9, 15, 27)] (0, 9, 12, 19) rfl (by decide) (by decide) (hts _ kw_553) (by rw [hc]; exact va_Nw.use rfl hev.2.2.2.2.2.1.1) (fun y hy => absurd hy List.not_mem_nil) (fun z H locs hz1 hk1 hB hS => ?_)
      have hP1 := hB
      have hD1 := d_cw S1 (hD0x.self (sz := s.heap.size))
      obtain ⟨hP, hD⟩ := join_w hP hD hk1 hFc hP1 hD1
      refine lv_astore_n (lv' := [(3, .ref z), (0, .ref (ad 11 0)), (1, .int p0), (2, .ref a)]) hx hb d_h_find_12 rfl hl (by decide) rfl (fun ls hl => ?_)
      refine lv_iconst (v := 1) hx hb d_h_find_13 (by decide) ?_
      refine W.cs (cells' := 1) (slots' := 6) rfl rfl ?_
      exact W.iret (v := 1) hx hb hr (fun t ht hW => ⟨⟨1, ad, rfl, rfl, Ext.rf, by rw [ht]; exact hP, va_K.moved hW.alike hK, hD⟩, hS.F ht⟩) hS.2.2 d_h_find_14
    rcases lk_cons hk with ⟨hc, rfl⟩ | hk
    · refine tx_catch (tx_runV (As := [.int p0]) (rest := [.int 0, .ref a]) ⟨hx, hb, hml, hown, hts⟩ (g_cJT_find_t l hfl D s.heap.size (ad := ad) (cc := cc) (sad := sad) (sav := sav) hm) (cw_v 1 hts kw_1180 kw_1177 kw_1178 kw_1179 kw_1 rfl rfl (by decide +kernel) ⟨Nat.le_of_ble_eq_true rfl, Nat.le_of_ble_eq_true rfl⟩) ⟨c_blind, va_recv hK hPx (ci := 11) (q0 := cPos N 11 0) rfl (cw_obj (k := 11) (by decide) h0), fun U hU hW => c_pre hU hW hPx hKx hDx hev hE hN hNS hS hFc⟩ rfl rfl hl.1 rfl (lv_room (Nat.le_of_ble_eq_true rfl)) d_h_find_4 ⟨Nat.le_of_eq (Nat.zero_add _), Nat.le_of_eq (Nat.zero_add _)⟩) hown hS hFc htab [(0, 9, 12, 19)] [] (0, 9, 15, 27) rfl (by decide) (by decide) (hts _ kw_581) (by rw [hc]; exact va_Nw.use rfl hev.2.2.2.2.2.1.2.2.1) (List.forall_mem_cons.mpr ⟨⟨by decide, by decide, "java/lang/IllegalArgumentException", hts _ kw_553, by rw [hc]; exact hev.2.2.2.2.2.2.2.1.1⟩, fun y hy => absurd hy List.not_mem_nil⟩) (fun z H locs hz1 hk1 hB hS => ?_)
      have hP1 := hB
      have hD1 := d_cw S1 (hD0x.self (sz := s.heap.size))
      obtain ⟨hP, hD⟩ := join_w hP hD hk1 hFc hP1 hD1
      refine lv_astore_n (lv' := [(3, .ref z), (0, .ref (ad 11 0)), (1, .int p0), (2, .ref a)]) hx hb d_h_find_15 rfl hl (by decide) rfl (fun ls hl => ?_)
      refine lv_iconst (v := 2) hx hb d_h_find_16 (by decide) ?_
      refine W.cs (cells' := 1) (slots' := 6) rfl rfl ?_
      exact W.iret (v := 2) hx hb hr (fun t ht hW => ⟨⟨2, ad, rfl, rfl, Ext.rf, by rw [ht]; exact hP, va_K.moved hW.alike hK, hD⟩, hS.F ht⟩) hS.2.2 d_h_find_17
    exact (lk_nil hk).elim
def h_text (N : Nat → Nat) (S : CS) (ov : Nat → Int64) (p0 : Int32) (p1 : Int32) : Option (((Nat → Nat) × CS × (Nat → Int64) × Int32) × Nat × Nat) := gl 0 (N 11) (hR Prod.fst (fun ov r => oU ov r.2.toInt64) [(1, 1), (2, 2), (3, 3)] N ov (m_cJT_text N 0 S p0 p1))
theorem d_h_text_0 : decode method_24_code 0 = .ok (.aload_n 3, 1) := by decide +kernel
theorem d_h_text_1 : decode method_24_code 1 = .ok (.iconst 0, 1) := by decide +kernel
theorem d_h_text_2 : decode method_24_code 2 = .ok (.aload_n 0, 1) := by decide +kernel
theorem d_h_text_3 : decode method_24_code 3 = .ok (.iload_n 1, 1) := by decide +kernel
theorem d_h_text_4 : decode method_24_code 4 = .ok (.iload_n 2, 1) := by decide +kernel
theorem d_h_text_5 : decode method_24_code 5 = .ok (.invokevirtual 88, 3) := by decide +kernel
theorem d_h_text_8 : decode method_24_code 8 = .ok (.i2l, 1) := by decide +kernel
theorem d_h_text_9 : decode method_24_code 9 = .ok (.lastore, 1) := by decide +kernel
theorem d_h_text_10 : decode method_24_code 10 = .ok (.goto 15, 3) := by decide +kernel
theorem d_h_text_25 : decode method_24_code 25 = .ok (.iconst 0, 1) := by decide +kernel
theorem d_h_text_26 : decode method_24_code 26 = .ok (.ireturn, 1) := by decide +kernel
theorem d_h_text_13 : decode method_24_code 13 = .ok (.astore 4, 2) := by decide +kernel
theorem d_h_text_15 : decode method_24_code 15 = .ok (.iconst 1, 1) := by decide +kernel
theorem d_h_text_16 : decode method_24_code 16 = .ok (.ireturn, 1) := by decide +kernel
theorem d_h_text_17 : decode method_24_code 17 = .ok (.astore 4, 2) := by decide +kernel
theorem d_h_text_19 : decode method_24_code 19 = .ok (.iconst 2, 1) := by decide +kernel
theorem d_h_text_20 : decode method_24_code 20 = .ok (.ireturn, 1) := by decide +kernel
theorem d_h_text_21 : decode method_24_code 21 = .ok (.astore 4, 2) := by decide +kernel
theorem d_h_text_23 : decode method_24_code 23 = .ok (.iconst 3, 1) := by decide +kernel
theorem d_h_text_24 : decode method_24_code 24 = .ok (.ireturn, 1) := by decide +kernel
set_option maxHeartbeats 4000000 in
set_option maxRecDepth 100000 in
theorem g_h_text (l : Launch) (hfl : l.flags = flags0) (D : va_G) (sz : Nat) {ad : Nat → Nat → Nat} {cc : Nat → ClassId} {sad sav : Nat → Nat} {N : Nat → Nat} {S : CS} {cL : ClassId} {a : Nat} {ov : Nat → Int64} {p0 : Int32} {p1 : Int32} {o : ((Nat → Nat) × CS × (Nat → Int64) × Int32)} {oc os : Nat} (Heq : h_text N S ov p0 p1 = some (o, oc, os)) : Met l ⟨"JoinedTreesLaw", "text", "(LJoinedTrees;II[J)I"⟩ (Cond.codeWith ⟨"JoinedTreesLaw", "text", "(LJoinedTrees;II[J)I"⟩ method_24_code 5 (some .int) [(0, 10, 13, 19), (0, 10, 17, 25), (0, 10, 21, 27)] :: gb) ({ frames := 8, cells := oc, slots := os, locals := 204 }) (hPc sad sav D (cw ad cc N S ++ [oA cL a ov]) (cty cc ++ [(cL, .long)]) sz [.ref (ad 11 0), .int p0, .int p1, .ref a]) (va_Qi (fun (r : Int32) (_ : Nat → Nat → Nat) => r = o.2.2.2) (fun (u : Nat → Nat → Nat) t => Ext ad N u o.1 ∧ gO D (cw u cc o.1 o.2.1 ++ [oA cL a o.2.2.1]) (cty cc ++ [(cL, .long)]) (va_A (cw ad cc N S ++ [oA cL a ov]) sz) t) (va_A (cw ad cc N S ++ [oA cL a ov]) sz)) oc os (va_A (cw ad cc N S ++ [oA cL a ov]) sz) := by
  refine tx_ofW (cc := method_24_code) (maxL := 5) (ret := (some .int)) (hs := [(0, 10, 13, 19), (0, 10, 17, 25), (0, 10, 21, 27)]) (by decide) rfl ?_
  intro p e s m args below meth c s₁ B hml htab hv
  obtain ⟨rfl, hsz, hP, hK, hD0, hev, hE, hN, hH⟩ := hv
  have hx := B.exec
  have hb := B.bytes
  have hr := B.returns
  have hts : ∀ w9 ∈ gb, w9.before [.ref (ad 11 0), .int p0, .int p1, .ref a].toArray s = true := fun w9 h => atoms_spec (ws := Cond.codeWith ⟨"JoinedTreesLaw", "text", "(LJoinedTrees;II[J)I"⟩ method_24_code 5 (some .int) [(0, 10, 13, 19), (0, 10, 17, 25), (0, 10, 21, 27)] :: gb) B.pre w9 (List.mem_cons_of_mem _ h)
  have hown : s.vm.findClass "JoinedTreesLaw" = some m.cls := findClass_of_methodNamed B.named
  subst hsz
  have hNS := ns_of hP
  have hD := hD0.self (sz := s.heap.size)
  have hD0x := d_l hD0
  generalize hAe : va_A (cw ad cc N S ++ [oA cL a ov]) s.heap.size = A at hD hev hE hNS ⊢
  have hA : ∀ q : Nat, s.heap.size ≤ q → A q := fun q h => by rw [← hAe]; exact Or.inr h
  have hS : va_S A s.heap s.heap [] := va_S.rf
  obtain ⟨ls, hl, hle⟩ : ∃ ls : Array Slot, lv_has ls 5 [(0, .ref (ad 11 0)), (1, .int p0), (2, .int p1), (3, .ref a)] ∧ entryFrame m ([.ref (ad 11 0), .int p0, .int p1, .ref a] : List Value).toArray 5 = F0 m 0 ls [] := ⟨_, lv_entry (n := 5) _ (Nat.le_of_ble_eq_true rfl), lg_entry_eq ..⟩
  rw [hle]
  have hPx := p_l hP
  have hDx := d_l hD
  have hFc := fr_all hDx hS hA
  have hKx := hK.sub (tys' := cty cc) [0, 1, 2, 3, 4, 5, 6] rfl
  obtain ⟨h0, Heq⟩ := gl_some Heq
  refine lv_aload_n hx hb d_h_text_0 rfl (lv_at hl 3 rfl) ?_
  refine lv_iconst (v := 0) hx hb d_h_text_1 (by decide) ?_
  refine lv_aload_n hx hb d_h_text_2 rfl (lv_at hl 0 rfl) ?_
  refine lv_iload_n hx hb d_h_text_3 rfl (lv_at hl 1 rfl) ?_
  refine lv_iload_n hx hb d_h_text_4 rfl (lv_at hl 2 rfl) ?_
  rcases hR_some Heq with ⟨r, hm, rfl, rfl, rfl⟩ | ⟨S1, k, c, hm, hk, rfl, rfl, rfl⟩
  · refine va_calli (va_runV (As := [.int p0, .int p1]) (rest := [.int 0, .ref a]) ⟨hx, hb, hml, hown, hts⟩ (g_cJT_text l hfl D s.heap.size (ad := ad) (cc := cc) (sad := sad) (sav := sav) hm) (cw_v 2 hts kw_1215 kw_1212 kw_1213 kw_1214 kw_1 rfl rfl (by decide +kernel) ⟨Nat.le_of_ble_eq_true rfl, Nat.le_of_ble_eq_true rfl⟩) ⟨c_blind, va_recv hK hPx (ci := 11) (q0 := cPos N 11 0) rfl (cw_obj (k := 11) (by decide) h0), fun U hU hW => c_pre hU hW hPx hKx hDx hev hE hN hNS hS hFc⟩ rfl rfl hl.1 rfl (lv_room (Nat.le_of_ble_eq_true rfl)) d_h_text_5 ⟨Nat.le_of_eq (Nat.zero_add _), Nat.le_of_eq (Nat.zero_add _)⟩) hS (fun q _ h => hFc q h) hFc (fun rz u t H locs ht hvm hw hB hz1 hk1 hS => ?_)
    obtain ⟨hP1, -, hD1⟩ := hB
    rw [ht] at hP1
    obtain ⟨hP, hD⟩ := join_w hP hD hk1 hFc hP1 hD1
    subst hw
    refine lv_i2l hx hb d_h_text_8 rfl ?_
    refine va_last hx hb hK hP hD hS (cw ad cc N r.1).length 7 at_last rfl (i := 0) (x := r.2.toInt64) (vp_in_nI (n := 0) (N := 1) (by decide) (by decide)) d_h_text_9 (fun H locs hP hD hS => ?_)
    rw [set_last] at hP hD
    refine lv_goto (tgt := 25) hx hb d_h_text_10 (by decide) ?_
    refine lv_iconst (v := 0) hx hb d_h_text_25 (by decide) ?_
    refine W.cs (cells' := 0) (slots' := 0) rfl rfl ?_
    exact W.iret (v := 0) hx hb hr (fun t ht hW => ⟨⟨0, ad, rfl, rfl, Ext.rf, by rw [ht]; exact hP, va_K.moved hW.alike hK, hD⟩, hS.F ht⟩) hS.2.2 d_h_text_26
  · rcases lk_cons hk with ⟨hc, rfl⟩ | hk
    · refine tx_catch (tx_runV (As := [.int p0, .int p1]) (rest := [.int 0, .ref a]) ⟨hx, hb, hml, hown, hts⟩ (g_cJT_text_t l hfl D s.heap.size (ad := ad) (cc := cc) (sad := sad) (sav := sav) hm) (cw_v 2 hts kw_1215 kw_1212 kw_1213 kw_1214 kw_1 rfl rfl (by decide +kernel) ⟨Nat.le_of_ble_eq_true rfl, Nat.le_of_ble_eq_true rfl⟩) ⟨c_blind, va_recv hK hPx (ci := 11) (q0 := cPos N 11 0) rfl (cw_obj (k := 11) (by decide) h0), fun U hU hW => c_pre hU hW hPx hKx hDx hev hE hN hNS hS hFc⟩ rfl rfl hl.1 rfl (lv_room (Nat.le_of_ble_eq_true rfl)) d_h_text_5 ⟨Nat.le_of_eq (Nat.zero_add _), Nat.le_of_eq (Nat.zero_add _)⟩) hown hS hFc htab [] [(0, 10, 17, 25), (0, 10, 21, 27)] (0, 10, 13, 19) rfl (by decide) (by decide) (hts _ kw_553) (by rw [hc]; exact va_Nw.use rfl hev.2.2.2.2.2.1.1) (fun y hy => absurd hy List.not_mem_nil) (fun z H locs hz1 hk1 hB hS => ?_)
      have hP1 := hB
      have hD1 := d_cw S1 (hD0x.self (sz := s.heap.size))
      obtain ⟨hP, hD⟩ := join_w hP hD hk1 hFc hP1 hD1
      refine lv_astore (lv' := [(4, .ref z), (0, .ref (ad 11 0)), (1, .int p0), (2, .int p1), (3, .ref a)]) hx hb d_h_text_13 hl (by decide) rfl (fun ls hl => ?_)
      refine lv_iconst (v := 1) hx hb d_h_text_15 (by decide) ?_
      refine W.cs (cells' := 1) (slots' := 6) rfl rfl ?_
      exact W.iret (v := 1) hx hb hr (fun t ht hW => ⟨⟨1, ad, rfl, rfl, Ext.rf, by rw [ht]; exact hP, va_K.moved hW.alike hK, hD⟩, hS.F ht⟩) hS.2.2 d_h_text_16
    rcases lk_cons hk with ⟨hc, rfl⟩ | hk
    · refine tx_catch (tx_runV (As := [.int p0, .int p1]) (rest := [.int 0, .ref a]) ⟨hx, hb, hml, hown, hts⟩ (g_cJT_text_t l hfl D s.heap.size (ad := ad) (cc := cc) (sad := sad) (sav := sav) hm) (cw_v 2 hts kw_1215 kw_1212 kw_1213 kw_1214 kw_1 rfl rfl (by decide +kernel) ⟨Nat.le_of_ble_eq_true rfl, Nat.le_of_ble_eq_true rfl⟩) ⟨c_blind, va_recv hK hPx (ci := 11) (q0 := cPos N 11 0) rfl (cw_obj (k := 11) (by decide) h0), fun U hU hW => c_pre hU hW hPx hKx hDx hev hE hN hNS hS hFc⟩ rfl rfl hl.1 rfl (lv_room (Nat.le_of_ble_eq_true rfl)) d_h_text_5 ⟨Nat.le_of_eq (Nat.zero_add _), Nat.le_of_eq (Nat.zero_add _)⟩) hown hS hFc htab [(0, 10, 13, 19)] [(0, 10, 21, 27)] (0, 10, 17, 25) rfl (by decide) (by decide) (hts _ kw_580) (by rw [hc]; exact va_Nw.use rfl hev.2.2.2.2.2.1.2.1) (List.forall_mem_cons.mpr ⟨⟨by decide, by decide, "java/lang/IllegalArgumentException", hts _ kw_553, by rw [hc]; exact hev.2.2.2.2.2.2.2.1.2.2⟩, fun y hy => absurd hy List.not_mem_nil⟩) (fun z H locs hz1 hk1 hB hS => ?_)
      have hP1 := hB
      have hD1 := d_cw S1 (hD0x.self (sz := s.heap.size))
      obtain ⟨hP, hD⟩ := join_w hP hD hk1 hFc hP1 hD1
      refine lv_astore (lv' := [(4, .ref z), (0, .ref (ad 11 0)), (1, .int p0), (2, .int p1), (3, .ref a)]) hx hb d_h_text_17 hl (by decide) rfl (fun ls hl => ?_)
      refine lv_iconst (v := 2) hx hb d_h_text_19 (by decide) ?_
      refine W.cs (cells' := 1) (slots' := 6) rfl rfl ?_
      exact W.iret (v := 2) hx hb hr (fun t ht hW => ⟨⟨2, ad, rfl, rfl, Ext.rf, by rw [ht]; exact hP, va_K.moved hW.alike hK, hD⟩, hS.F ht⟩) hS.2.2 d_h_text_20
    rcases lk_cons hk with ⟨hc, rfl⟩ | hk
    · refine tx_catch (tx_runV (As := [.int p0, .int p1]) (rest := [.int 0, .ref a]) ⟨hx, hb, hml, hown, hts⟩ (g_cJT_text_t l hfl D s.heap.size (ad := ad) (cc := cc) (sad := sad) (sav := sav) hm) (cw_v 2 hts kw_1215 kw_1212 kw_1213 kw_1214 kw_1 rfl rfl (by decide +kernel) ⟨Nat.le_of_ble_eq_true rfl, Nat.le_of_ble_eq_true rfl⟩) ⟨c_blind, va_recv hK hPx (ci := 11) (q0 := cPos N 11 0) rfl (cw_obj (k := 11) (by decide) h0), fun U hU hW => c_pre hU hW hPx hKx hDx hev hE hN hNS hS hFc⟩ rfl rfl hl.1 rfl (lv_room (Nat.le_of_ble_eq_true rfl)) d_h_text_5 ⟨Nat.le_of_eq (Nat.zero_add _), Nat.le_of_eq (Nat.zero_add _)⟩) hown hS hFc htab [(0, 10, 13, 19), (0, 10, 17, 25)] [] (0, 10, 21, 27) rfl (by decide) (by decide) (hts _ kw_581) (by rw [hc]; exact va_Nw.use rfl hev.2.2.2.2.2.1.2.2.1) (List.forall_mem_cons.mpr ⟨⟨by decide, by decide, "java/lang/IllegalArgumentException", hts _ kw_553, by rw [hc]; exact hev.2.2.2.2.2.2.2.1.1⟩, List.forall_mem_cons.mpr ⟨⟨by decide, by decide, "java/lang/IllegalStateException", hts _ kw_580, by rw [hc]; exact hev.2.2.2.2.2.2.2.1.2.1⟩, fun y hy => absurd hy List.not_mem_nil⟩⟩) (fun z H locs hz1 hk1 hB hS => ?_)
      have hP1 := hB
      have hD1 := d_cw S1 (hD0x.self (sz := s.heap.size))
      obtain ⟨hP, hD⟩ := join_w hP hD hk1 hFc hP1 hD1
      refine lv_astore (lv' := [(4, .ref z), (0, .ref (ad 11 0)), (1, .int p0), (2, .int p1), (3, .ref a)]) hx hb d_h_text_21 hl (by decide) rfl (fun ls hl => ?_)
      refine lv_iconst (v := 3) hx hb d_h_text_23 (by decide) ?_
      refine W.cs (cells' := 1) (slots' := 6) rfl rfl ?_
      exact W.iret (v := 3) hx hb hr (fun t ht hW => ⟨⟨3, ad, rfl, rfl, Ext.rf, by rw [ht]; exact hP, va_K.moved hW.alike hK, hD⟩, hS.F ht⟩) hS.2.2 d_h_text_24
    exact (lk_nil hk).elim
def h_save (N : Nat → Nat) (S : CS) (ov : Nat → Int64) (p0 : Int32) : Option (((Nat → Nat) × CS × (Nat → Int64) × Int32) × Nat × Nat) := gl 0 (N 11) (hR Prod.fst (fun ov r => oU ov r.2.toInt64) [(1, 1), (2, 2)] N ov (m_cJT_save N 0 S p0))
theorem d_h_save_0 : decode method_25_code 0 = .ok (.aload_n 2, 1) := by decide +kernel
theorem d_h_save_1 : decode method_25_code 1 = .ok (.iconst 0, 1) := by decide +kernel
theorem d_h_save_2 : decode method_25_code 2 = .ok (.aload_n 0, 1) := by decide +kernel
theorem d_h_save_3 : decode method_25_code 3 = .ok (.iload_n 1, 1) := by decide +kernel
theorem d_h_save_4 : decode method_25_code 4 = .ok (.invokevirtual 91, 3) := by decide +kernel
theorem d_h_save_7 : decode method_25_code 7 = .ok (.i2l, 1) := by decide +kernel
theorem d_h_save_8 : decode method_25_code 8 = .ok (.lastore, 1) := by decide +kernel
theorem d_h_save_9 : decode method_25_code 9 = .ok (.goto 9, 3) := by decide +kernel
theorem d_h_save_18 : decode method_25_code 18 = .ok (.iconst 0, 1) := by decide +kernel
theorem d_h_save_19 : decode method_25_code 19 = .ok (.ireturn, 1) := by decide +kernel
theorem d_h_save_12 : decode method_25_code 12 = .ok (.astore_n 3, 1) := by decide +kernel
theorem d_h_save_13 : decode method_25_code 13 = .ok (.iconst 1, 1) := by decide +kernel
theorem d_h_save_14 : decode method_25_code 14 = .ok (.ireturn, 1) := by decide +kernel
theorem d_h_save_15 : decode method_25_code 15 = .ok (.astore_n 3, 1) := by decide +kernel
theorem d_h_save_16 : decode method_25_code 16 = .ok (.iconst 2, 1) := by decide +kernel
theorem d_h_save_17 : decode method_25_code 17 = .ok (.ireturn, 1) := by decide +kernel
set_option maxHeartbeats 4000000 in
set_option maxRecDepth 100000 in
theorem g_h_save (l : Launch) (hfl : l.flags = flags0) (D : va_G) (sz : Nat) {ad : Nat → Nat → Nat} {cc : Nat → ClassId} {sad sav : Nat → Nat} {N : Nat → Nat} {S : CS} {cL : ClassId} {a : Nat} {ov : Nat → Int64} {p0 : Int32} {o : ((Nat → Nat) × CS × (Nat → Int64) × Int32)} {oc os : Nat} (Heq : h_save N S ov p0 = some (o, oc, os)) : Met l ⟨"JoinedTreesLaw", "save", "(LJoinedTrees;I[J)I"⟩ (Cond.codeWith ⟨"JoinedTreesLaw", "save", "(LJoinedTrees;I[J)I"⟩ method_25_code 4 (some .int) [(0, 9, 12, 19), (0, 9, 15, 25)] :: gb) ({ frames := 8, cells := oc, slots := os, locals := 159 }) (hPc sad sav D (cw ad cc N S ++ [oA cL a ov]) (cty cc ++ [(cL, .long)]) sz [.ref (ad 11 0), .int p0, .ref a]) (va_Qi (fun (r : Int32) (_ : Nat → Nat → Nat) => r = o.2.2.2) (fun (u : Nat → Nat → Nat) t => Ext ad N u o.1 ∧ gO D (cw u cc o.1 o.2.1 ++ [oA cL a o.2.2.1]) (cty cc ++ [(cL, .long)]) (va_A (cw ad cc N S ++ [oA cL a ov]) sz) t) (va_A (cw ad cc N S ++ [oA cL a ov]) sz)) oc os (va_A (cw ad cc N S ++ [oA cL a ov]) sz) := by
  refine tx_ofW (cc := method_25_code) (maxL := 4) (ret := (some .int)) (hs := [(0, 9, 12, 19), (0, 9, 15, 25)]) (by decide) rfl ?_
  intro p e s m args below meth c s₁ B hml htab hv
  obtain ⟨rfl, hsz, hP, hK, hD0, hev, hE, hN, hH⟩ := hv
  have hx := B.exec
  have hb := B.bytes
  have hr := B.returns
  have hts : ∀ w9 ∈ gb, w9.before [.ref (ad 11 0), .int p0, .ref a].toArray s = true := fun w9 h => atoms_spec (ws := Cond.codeWith ⟨"JoinedTreesLaw", "save", "(LJoinedTrees;I[J)I"⟩ method_25_code 4 (some .int) [(0, 9, 12, 19), (0, 9, 15, 25)] :: gb) B.pre w9 (List.mem_cons_of_mem _ h)
  have hown : s.vm.findClass "JoinedTreesLaw" = some m.cls := findClass_of_methodNamed B.named
  subst hsz
  have hNS := ns_of hP
  have hD := hD0.self (sz := s.heap.size)
  have hD0x := d_l hD0
  generalize hAe : va_A (cw ad cc N S ++ [oA cL a ov]) s.heap.size = A at hD hev hE hNS ⊢
  have hA : ∀ q : Nat, s.heap.size ≤ q → A q := fun q h => by rw [← hAe]; exact Or.inr h
  have hS : va_S A s.heap s.heap [] := va_S.rf
  obtain ⟨ls, hl, hle⟩ : ∃ ls : Array Slot, lv_has ls 4 [(0, .ref (ad 11 0)), (1, .int p0), (2, .ref a)] ∧ entryFrame m ([.ref (ad 11 0), .int p0, .ref a] : List Value).toArray 4 = F0 m 0 ls [] := ⟨_, lv_entry (n := 4) _ (Nat.le_of_ble_eq_true rfl), lg_entry_eq ..⟩
  rw [hle]
  have hPx := p_l hP
  have hDx := d_l hD
  have hFc := fr_all hDx hS hA
  have hKx := hK.sub (tys' := cty cc) [0, 1, 2, 3, 4, 5, 6] rfl
  obtain ⟨h0, Heq⟩ := gl_some Heq
  refine lv_aload_n hx hb d_h_save_0 rfl (lv_at hl 2 rfl) ?_
  refine lv_iconst (v := 0) hx hb d_h_save_1 (by decide) ?_
  refine lv_aload_n hx hb d_h_save_2 rfl (lv_at hl 0 rfl) ?_
  refine lv_iload_n hx hb d_h_save_3 rfl (lv_at hl 1 rfl) ?_
  rcases hR_some Heq with ⟨r, hm, rfl, rfl, rfl⟩ | ⟨S1, k, c, hm, hk, rfl, rfl, rfl⟩
  · refine va_calli (va_runV (As := [.int p0]) (rest := [.int 0, .ref a]) ⟨hx, hb, hml, hown, hts⟩ (g_cJT_save l hfl D s.heap.size (ad := ad) (cc := cc) (sad := sad) (sav := sav) hm) (cw_v 1 hts kw_1274 kw_1271 kw_1272 kw_1273 kw_1 rfl rfl (by decide +kernel) ⟨Nat.le_of_ble_eq_true rfl, Nat.le_of_ble_eq_true rfl⟩) ⟨c_blind, va_recv hK hPx (ci := 11) (q0 := cPos N 11 0) rfl (cw_obj (k := 11) (by decide) h0), fun U hU hW => c_pre hU hW hPx hKx hDx hev hE hN hNS hS hFc⟩ rfl rfl hl.1 rfl (lv_room (Nat.le_of_ble_eq_true rfl)) d_h_save_4 ⟨Nat.le_of_eq (Nat.zero_add _), Nat.le_of_eq (Nat.zero_add _)⟩) hS (fun q _ h => hFc q h) hFc (fun rz u t H locs ht hvm hw hB hz1 hk1 hS => ?_)
    obtain ⟨hP1, -, hD1⟩ := hB
    rw [ht] at hP1
    obtain ⟨hP, hD⟩ := join_w hP hD hk1 hFc hP1 hD1
    subst hw
    refine lv_i2l hx hb d_h_save_7 rfl ?_
    refine va_last hx hb hK hP hD hS (cw ad cc N r.1).length 7 at_last rfl (i := 0) (x := r.2.toInt64) (vp_in_nI (n := 0) (N := 1) (by decide) (by decide)) d_h_save_8 (fun H locs hP hD hS => ?_)
    rw [set_last] at hP hD
    refine lv_goto (tgt := 18) hx hb d_h_save_9 (by decide) ?_
    refine lv_iconst (v := 0) hx hb d_h_save_18 (by decide) ?_
    refine W.cs (cells' := 0) (slots' := 0) rfl rfl ?_
    exact W.iret (v := 0) hx hb hr (fun t ht hW => ⟨⟨0, ad, rfl, rfl, Ext.rf, by rw [ht]; exact hP, va_K.moved hW.alike hK, hD⟩, hS.F ht⟩) hS.2.2 d_h_save_19
  · rcases lk_cons hk with ⟨hc, rfl⟩ | hk
    · refine tx_catch (tx_runV (As := [.int p0]) (rest := [.int 0, .ref a]) ⟨hx, hb, hml, hown, hts⟩ (g_cJT_save_t l hfl D s.heap.size (ad := ad) (cc := cc) (sad := sad) (sav := sav) hm) (cw_v 1 hts kw_1274 kw_1271 kw_1272 kw_1273 kw_1 rfl rfl (by decide +kernel) ⟨Nat.le_of_ble_eq_true rfl, Nat.le_of_ble_eq_true rfl⟩) ⟨c_blind, va_recv hK hPx (ci := 11) (q0 := cPos N 11 0) rfl (cw_obj (k := 11) (by decide) h0), fun U hU hW => c_pre hU hW hPx hKx hDx hev hE hN hNS hS hFc⟩ rfl rfl hl.1 rfl (lv_room (Nat.le_of_ble_eq_true rfl)) d_h_save_4 ⟨Nat.le_of_eq (Nat.zero_add _), Nat.le_of_eq (Nat.zero_add _)⟩) hown hS hFc htab [] [(0, 9, 15, 25)] (0, 9, 12, 19) rfl (by decide) (by decide) (hts _ kw_553) (by rw [hc]; exact va_Nw.use rfl hev.2.2.2.2.2.1.1) (fun y hy => absurd hy List.not_mem_nil) (fun z H locs hz1 hk1 hB hS => ?_)
      have hP1 := hB
      have hD1 := d_cw S1 (hD0x.self (sz := s.heap.size))
      obtain ⟨hP, hD⟩ := join_w hP hD hk1 hFc hP1 hD1
      refine lv_astore_n (lv' := [(3, .ref z), (0, .ref (ad 11 0)), (1, .int p0), (2, .ref a)]) hx hb d_h_save_12 rfl hl (by decide) rfl (fun ls hl => ?_)
      refine lv_iconst (v := 1) hx hb d_h_save_13 (by decide) ?_
      refine W.cs (cells' := 1) (slots' := 6) rfl rfl ?_
      exact W.iret (v := 1) hx hb hr (fun t ht hW => ⟨⟨1, ad, rfl, rfl, Ext.rf, by rw [ht]; exact hP, va_K.moved hW.alike hK, hD⟩, hS.F ht⟩) hS.2.2 d_h_save_14
    rcases lk_cons hk with ⟨hc, rfl⟩ | hk
    · refine tx_catch (tx_runV (As := [.int p0]) (rest := [.int 0, .ref a]) ⟨hx, hb, hml, hown, hts⟩ (g_cJT_save_t l hfl D s.heap.size (ad := ad) (cc := cc) (sad := sad) (sav := sav) hm) (cw_v 1 hts kw_1274 kw_1271 kw_1272 kw_1273 kw_1 rfl rfl (by decide +kernel) ⟨Nat.le_of_ble_eq_true rfl, Nat.le_of_ble_eq_true rfl⟩) ⟨c_blind, va_recv hK hPx (ci := 11) (q0 := cPos N 11 0) rfl (cw_obj (k := 11) (by decide) h0), fun U hU hW => c_pre hU hW hPx hKx hDx hev hE hN hNS hS hFc⟩ rfl rfl hl.1 rfl (lv_room (Nat.le_of_ble_eq_true rfl)) d_h_save_4 ⟨Nat.le_of_eq (Nat.zero_add _), Nat.le_of_eq (Nat.zero_add _)⟩) hown hS hFc htab [(0, 9, 12, 19)] [] (0, 9, 15, 25) rfl (by decide) (by decide) (hts _ kw_580) (by rw [hc]; exact va_Nw.use rfl hev.2.2.2.2.2.1.2.1) (List.forall_mem_cons.mpr ⟨⟨by decide, by decide, "java/lang/IllegalArgumentException", hts _ kw_553, by rw [hc]; exact hev.2.2.2.2.2.2.2.1.2.2⟩, fun y hy => absurd hy List.not_mem_nil⟩) (fun z H locs hz1 hk1 hB hS => ?_)
      have hP1 := hB
      have hD1 := d_cw S1 (hD0x.self (sz := s.heap.size))
      obtain ⟨hP, hD⟩ := join_w hP hD hk1 hFc hP1 hD1
      refine lv_astore_n (lv' := [(3, .ref z), (0, .ref (ad 11 0)), (1, .int p0), (2, .ref a)]) hx hb d_h_save_15 rfl hl (by decide) rfl (fun ls hl => ?_)
      refine lv_iconst (v := 2) hx hb d_h_save_16 (by decide) ?_
      refine W.cs (cells' := 1) (slots' := 6) rfl rfl ?_
      exact W.iret (v := 2) hx hb hr (fun t ht hW => ⟨⟨2, ad, rfl, rfl, Ext.rf, by rw [ht]; exact hP, va_K.moved hW.alike hK, hD⟩, hS.F ht⟩) hS.2.2 d_h_save_17
    exact (lk_nil hk).elim
def h_load (N : Nat → Nat) (S : CS) (ov : Nat → Int64) (p0 : Int32) : Option (((Nat → Nat) × CS × (Nat → Int64) × Int32) × Nat × Nat) := gl 0 (N 11) (hR Prod.fst (fun ov r => oU ov r.2.toInt64) [(1, 1), (2, 2), (5, 3)] N ov (m_cJT_load N 0 S p0))
theorem d_h_load_0 : decode method_26_code 0 = .ok (.aload_n 2, 1) := by decide +kernel
theorem d_h_load_1 : decode method_26_code 1 = .ok (.iconst 0, 1) := by decide +kernel
theorem d_h_load_2 : decode method_26_code 2 = .ok (.aload_n 0, 1) := by decide +kernel
theorem d_h_load_3 : decode method_26_code 3 = .ok (.iload_n 1, 1) := by decide +kernel
theorem d_h_load_4 : decode method_26_code 4 = .ok (.invokevirtual 94, 3) := by decide +kernel
theorem d_h_load_7 : decode method_26_code 7 = .ok (.i2l, 1) := by decide +kernel
theorem d_h_load_8 : decode method_26_code 8 = .ok (.lastore, 1) := by decide +kernel
theorem d_h_load_9 : decode method_26_code 9 = .ok (.goto 12, 3) := by decide +kernel
theorem d_h_load_21 : decode method_26_code 21 = .ok (.iconst 0, 1) := by decide +kernel
theorem d_h_load_22 : decode method_26_code 22 = .ok (.ireturn, 1) := by decide +kernel
theorem d_h_load_12 : decode method_26_code 12 = .ok (.astore_n 3, 1) := by decide +kernel
theorem d_h_load_13 : decode method_26_code 13 = .ok (.iconst 1, 1) := by decide +kernel
theorem d_h_load_14 : decode method_26_code 14 = .ok (.ireturn, 1) := by decide +kernel
theorem d_h_load_15 : decode method_26_code 15 = .ok (.astore_n 3, 1) := by decide +kernel
theorem d_h_load_16 : decode method_26_code 16 = .ok (.iconst 2, 1) := by decide +kernel
theorem d_h_load_17 : decode method_26_code 17 = .ok (.ireturn, 1) := by decide +kernel
theorem d_h_load_18 : decode method_26_code 18 = .ok (.astore_n 3, 1) := by decide +kernel
theorem d_h_load_19 : decode method_26_code 19 = .ok (.iconst 3, 1) := by decide +kernel
theorem d_h_load_20 : decode method_26_code 20 = .ok (.ireturn, 1) := by decide +kernel
set_option maxHeartbeats 4000000 in
set_option maxRecDepth 100000 in
theorem g_h_load (l : Launch) (hfl : l.flags = flags0) (D : va_G) (sz : Nat) {ad : Nat → Nat → Nat} {cc : Nat → ClassId} {sad sav : Nat → Nat} {N : Nat → Nat} {S : CS} {cL : ClassId} {a : Nat} {ov : Nat → Int64} {p0 : Int32} {o : ((Nat → Nat) × CS × (Nat → Int64) × Int32)} {oc os : Nat} (Heq : h_load N S ov p0 = some (o, oc, os)) : Met l ⟨"JoinedTreesLaw", "load", "(LJoinedTrees;I[J)I"⟩ (Cond.codeWith ⟨"JoinedTreesLaw", "load", "(LJoinedTrees;I[J)I"⟩ method_26_code 4 (some .int) [(0, 9, 12, 19), (0, 9, 15, 25), (0, 9, 18, 97)] :: gb) ({ frames := 8, cells := oc, slots := os, locals := 161 }) (hPc sad sav D (cw ad cc N S ++ [oA cL a ov]) (cty cc ++ [(cL, .long)]) sz [.ref (ad 11 0), .int p0, .ref a]) (va_Qi (fun (r : Int32) (_ : Nat → Nat → Nat) => r = o.2.2.2) (fun (u : Nat → Nat → Nat) t => Ext ad N u o.1 ∧ gO D (cw u cc o.1 o.2.1 ++ [oA cL a o.2.2.1]) (cty cc ++ [(cL, .long)]) (va_A (cw ad cc N S ++ [oA cL a ov]) sz) t) (va_A (cw ad cc N S ++ [oA cL a ov]) sz)) oc os (va_A (cw ad cc N S ++ [oA cL a ov]) sz) := by
  refine tx_ofW (cc := method_26_code) (maxL := 4) (ret := (some .int)) (hs := [(0, 9, 12, 19), (0, 9, 15, 25), (0, 9, 18, 97)]) (by decide) rfl ?_
  intro p e s m args below meth c s₁ B hml htab hv
  obtain ⟨rfl, hsz, hP, hK, hD0, hev, hE, hN, hH⟩ := hv
  have hx := B.exec
  have hb := B.bytes
  have hr := B.returns
  have hts : ∀ w9 ∈ gb, w9.before [.ref (ad 11 0), .int p0, .ref a].toArray s = true := fun w9 h => atoms_spec (ws := Cond.codeWith ⟨"JoinedTreesLaw", "load", "(LJoinedTrees;I[J)I"⟩ method_26_code 4 (some .int) [(0, 9, 12, 19), (0, 9, 15, 25), (0, 9, 18, 97)] :: gb) B.pre w9 (List.mem_cons_of_mem _ h)
  have hown : s.vm.findClass "JoinedTreesLaw" = some m.cls := findClass_of_methodNamed B.named
  subst hsz
  have hNS := ns_of hP
  have hD := hD0.self (sz := s.heap.size)
  have hD0x := d_l hD0
  generalize hAe : va_A (cw ad cc N S ++ [oA cL a ov]) s.heap.size = A at hD hev hE hNS ⊢
  have hA : ∀ q : Nat, s.heap.size ≤ q → A q := fun q h => by rw [← hAe]; exact Or.inr h
  have hS : va_S A s.heap s.heap [] := va_S.rf
  obtain ⟨ls, hl, hle⟩ : ∃ ls : Array Slot, lv_has ls 4 [(0, .ref (ad 11 0)), (1, .int p0), (2, .ref a)] ∧ entryFrame m ([.ref (ad 11 0), .int p0, .ref a] : List Value).toArray 4 = F0 m 0 ls [] := ⟨_, lv_entry (n := 4) _ (Nat.le_of_ble_eq_true rfl), lg_entry_eq ..⟩
  rw [hle]
  have hPx := p_l hP
  have hDx := d_l hD
  have hFc := fr_all hDx hS hA
  have hKx := hK.sub (tys' := cty cc) [0, 1, 2, 3, 4, 5, 6] rfl
  obtain ⟨h0, Heq⟩ := gl_some Heq
  refine lv_aload_n hx hb d_h_load_0 rfl (lv_at hl 2 rfl) ?_
  refine lv_iconst (v := 0) hx hb d_h_load_1 (by decide) ?_
  refine lv_aload_n hx hb d_h_load_2 rfl (lv_at hl 0 rfl) ?_
  refine lv_iload_n hx hb d_h_load_3 rfl (lv_at hl 1 rfl) ?_
  rcases hR_some Heq with ⟨r, hm, rfl, rfl, rfl⟩ | ⟨S1, k, c, hm, hk, rfl, rfl, rfl⟩
  · refine va_calli (va_runV (As := [.int p0]) (rest := [.int 0, .ref a]) ⟨hx, hb, hml, hown, hts⟩ (g_cJT_load l hfl D s.heap.size (ad := ad) (cc := cc) (sad := sad) (sav := sav) hm) (cw_v 1 hts kw_1323 kw_1320 kw_1321 kw_1322 kw_1 rfl rfl (by decide +kernel) ⟨Nat.le_of_ble_eq_true rfl, Nat.le_of_ble_eq_true rfl⟩) ⟨c_blind, va_recv hK hPx (ci := 11) (q0 := cPos N 11 0) rfl (cw_obj (k := 11) (by decide) h0), fun U hU hW => c_pre hU hW hPx hKx hDx hev hE hN hNS hS hFc⟩ rfl rfl hl.1 rfl (lv_room (Nat.le_of_ble_eq_true rfl)) d_h_load_4 ⟨Nat.le_of_eq (Nat.zero_add _), Nat.le_of_eq (Nat.zero_add _)⟩) hS (fun q _ h => hFc q h) hFc (fun rz u t H locs ht hvm hw hB hz1 hk1 hS => ?_)
    obtain ⟨hP1, -, hD1⟩ := hB
    rw [ht] at hP1
    obtain ⟨hP, hD⟩ := join_w hP hD hk1 hFc hP1 hD1
    subst hw
    refine lv_i2l hx hb d_h_load_7 rfl ?_
    refine va_last hx hb hK hP hD hS (cw ad cc N r.1).length 7 at_last rfl (i := 0) (x := r.2.toInt64) (vp_in_nI (n := 0) (N := 1) (by decide) (by decide)) d_h_load_8 (fun H locs hP hD hS => ?_)
    rw [set_last] at hP hD
    refine lv_goto (tgt := 21) hx hb d_h_load_9 (by decide) ?_
    refine lv_iconst (v := 0) hx hb d_h_load_21 (by decide) ?_
    refine W.cs (cells' := 0) (slots' := 0) rfl rfl ?_
    exact W.iret (v := 0) hx hb hr (fun t ht hW => ⟨⟨0, ad, rfl, rfl, Ext.rf, by rw [ht]; exact hP, va_K.moved hW.alike hK, hD⟩, hS.F ht⟩) hS.2.2 d_h_load_22
  · rcases lk_cons hk with ⟨hc, rfl⟩ | hk
    · refine tx_catch (tx_runV (As := [.int p0]) (rest := [.int 0, .ref a]) ⟨hx, hb, hml, hown, hts⟩ (g_cJT_load_t l hfl D s.heap.size (ad := ad) (cc := cc) (sad := sad) (sav := sav) hm) (cw_v 1 hts kw_1323 kw_1320 kw_1321 kw_1322 kw_1 rfl rfl (by decide +kernel) ⟨Nat.le_of_ble_eq_true rfl, Nat.le_of_ble_eq_true rfl⟩) ⟨c_blind, va_recv hK hPx (ci := 11) (q0 := cPos N 11 0) rfl (cw_obj (k := 11) (by decide) h0), fun U hU hW => c_pre hU hW hPx hKx hDx hev hE hN hNS hS hFc⟩ rfl rfl hl.1 rfl (lv_room (Nat.le_of_ble_eq_true rfl)) d_h_load_4 ⟨Nat.le_of_eq (Nat.zero_add _), Nat.le_of_eq (Nat.zero_add _)⟩) hown hS hFc htab [] [(0, 9, 15, 25), (0, 9, 18, 97)] (0, 9, 12, 19) rfl (by decide) (by decide) (hts _ kw_553) (by rw [hc]; exact va_Nw.use rfl hev.2.2.2.2.2.1.1) (fun y hy => absurd hy List.not_mem_nil) (fun z H locs hz1 hk1 hB hS => ?_)
      have hP1 := hB
      have hD1 := d_cw S1 (hD0x.self (sz := s.heap.size))
      obtain ⟨hP, hD⟩ := join_w hP hD hk1 hFc hP1 hD1
      refine lv_astore_n (lv' := [(3, .ref z), (0, .ref (ad 11 0)), (1, .int p0), (2, .ref a)]) hx hb d_h_load_12 rfl hl (by decide) rfl (fun ls hl => ?_)
      refine lv_iconst (v := 1) hx hb d_h_load_13 (by decide) ?_
      refine W.cs (cells' := 1) (slots' := 6) rfl rfl ?_
      exact W.iret (v := 1) hx hb hr (fun t ht hW => ⟨⟨1, ad, rfl, rfl, Ext.rf, by rw [ht]; exact hP, va_K.moved hW.alike hK, hD⟩, hS.F ht⟩) hS.2.2 d_h_load_14
    rcases lk_cons hk with ⟨hc, rfl⟩ | hk
    · refine tx_catch (tx_runV (As := [.int p0]) (rest := [.int 0, .ref a]) ⟨hx, hb, hml, hown, hts⟩ (g_cJT_load_t l hfl D s.heap.size (ad := ad) (cc := cc) (sad := sad) (sav := sav) hm) (cw_v 1 hts kw_1323 kw_1320 kw_1321 kw_1322 kw_1 rfl rfl (by decide +kernel) ⟨Nat.le_of_ble_eq_true rfl, Nat.le_of_ble_eq_true rfl⟩) ⟨c_blind, va_recv hK hPx (ci := 11) (q0 := cPos N 11 0) rfl (cw_obj (k := 11) (by decide) h0), fun U hU hW => c_pre hU hW hPx hKx hDx hev hE hN hNS hS hFc⟩ rfl rfl hl.1 rfl (lv_room (Nat.le_of_ble_eq_true rfl)) d_h_load_4 ⟨Nat.le_of_eq (Nat.zero_add _), Nat.le_of_eq (Nat.zero_add _)⟩) hown hS hFc htab [(0, 9, 12, 19)] [(0, 9, 18, 97)] (0, 9, 15, 25) rfl (by decide) (by decide) (hts _ kw_580) (by rw [hc]; exact va_Nw.use rfl hev.2.2.2.2.2.1.2.1) (List.forall_mem_cons.mpr ⟨⟨by decide, by decide, "java/lang/IllegalArgumentException", hts _ kw_553, by rw [hc]; exact hev.2.2.2.2.2.2.2.1.2.2⟩, fun y hy => absurd hy List.not_mem_nil⟩) (fun z H locs hz1 hk1 hB hS => ?_)
      have hP1 := hB
      have hD1 := d_cw S1 (hD0x.self (sz := s.heap.size))
      obtain ⟨hP, hD⟩ := join_w hP hD hk1 hFc hP1 hD1
      refine lv_astore_n (lv' := [(3, .ref z), (0, .ref (ad 11 0)), (1, .int p0), (2, .ref a)]) hx hb d_h_load_15 rfl hl (by decide) rfl (fun ls hl => ?_)
      refine lv_iconst (v := 2) hx hb d_h_load_16 (by decide) ?_
      refine W.cs (cells' := 1) (slots' := 6) rfl rfl ?_
      exact W.iret (v := 2) hx hb hr (fun t ht hW => ⟨⟨2, ad, rfl, rfl, Ext.rf, by rw [ht]; exact hP, va_K.moved hW.alike hK, hD⟩, hS.F ht⟩) hS.2.2 d_h_load_17
    rcases lk_cons hk with ⟨hc, rfl⟩ | hk
    · refine tx_catch (tx_runV (As := [.int p0]) (rest := [.int 0, .ref a]) ⟨hx, hb, hml, hown, hts⟩ (g_cJT_load_t l hfl D s.heap.size (ad := ad) (cc := cc) (sad := sad) (sav := sav) hm) (cw_v 1 hts kw_1323 kw_1320 kw_1321 kw_1322 kw_1 rfl rfl (by decide +kernel) ⟨Nat.le_of_ble_eq_true rfl, Nat.le_of_ble_eq_true rfl⟩) ⟨c_blind, va_recv hK hPx (ci := 11) (q0 := cPos N 11 0) rfl (cw_obj (k := 11) (by decide) h0), fun U hU hW => c_pre hU hW hPx hKx hDx hev hE hN hNS hS hFc⟩ rfl rfl hl.1 rfl (lv_room (Nat.le_of_ble_eq_true rfl)) d_h_load_4 ⟨Nat.le_of_eq (Nat.zero_add _), Nat.le_of_eq (Nat.zero_add _)⟩) hown hS hFc htab [(0, 9, 12, 19), (0, 9, 15, 25)] [] (0, 9, 18, 97) rfl (by decide) (by decide) (hts _ kw_1319) (by rw [hc]; exact va_Nw.use rfl hN.2.1) (List.forall_mem_cons.mpr ⟨⟨by decide, by decide, "java/lang/IllegalArgumentException", hts _ kw_553, by rw [hc]; exact hH.2.2.2.1⟩, List.forall_mem_cons.mpr ⟨⟨by decide, by decide, "java/lang/IllegalStateException", hts _ kw_580, by rw [hc]; exact hH.2.2.2.2⟩, fun y hy => absurd hy List.not_mem_nil⟩⟩) (fun z H locs hz1 hk1 hB hS => ?_)
      have hP1 := hB
      have hD1 := d_cw S1 (hD0x.self (sz := s.heap.size))
      obtain ⟨hP, hD⟩ := join_w hP hD hk1 hFc hP1 hD1
      refine lv_astore_n (lv' := [(3, .ref z), (0, .ref (ad 11 0)), (1, .int p0), (2, .ref a)]) hx hb d_h_load_18 rfl hl (by decide) rfl (fun ls hl => ?_)
      refine lv_iconst (v := 3) hx hb d_h_load_19 (by decide) ?_
      refine W.cs (cells' := 1) (slots' := 6) rfl rfl ?_
      exact W.iret (v := 3) hx hb hr (fun t ht hW => ⟨⟨3, ad, rfl, rfl, Ext.rf, by rw [ht]; exact hP, va_K.moved hW.alike hK, hD⟩, hS.F ht⟩) hS.2.2 d_h_load_20
    exact (lk_nil hk).elim
def h_harm (N : Nat → Nat) (S : CS) (ov : Nat → Int64) (p0 : Int32) (p1 : Int32) : Option (((Nat → Nat) × CS × (Nat → Int64) × Int32) × Nat × Nat) := gl 0 (N 11) (hR id (fun ov _ => ov) [(1, 1), (3, 2)] N ov (m_cJT_harm N 0 S p0 p1))
theorem d_h_harm_0 : decode method_27_code 0 = .ok (.aload_n 0, 1) := by decide +kernel
theorem d_h_harm_1 : decode method_27_code 1 = .ok (.iload_n 1, 1) := by decide +kernel
theorem d_h_harm_2 : decode method_27_code 2 = .ok (.iload_n 2, 1) := by decide +kernel
theorem d_h_harm_3 : decode method_27_code 3 = .ok (.invokevirtual 99, 3) := by decide +kernel
theorem d_h_harm_6 : decode method_27_code 6 = .ok (.goto 9, 3) := by decide +kernel
theorem d_h_harm_15 : decode method_27_code 15 = .ok (.iconst 0, 1) := by decide +kernel
theorem d_h_harm_16 : decode method_27_code 16 = .ok (.ireturn, 1) := by decide +kernel
theorem d_h_harm_9 : decode method_27_code 9 = .ok (.astore_n 3, 1) := by decide +kernel
theorem d_h_harm_10 : decode method_27_code 10 = .ok (.iconst 1, 1) := by decide +kernel
theorem d_h_harm_11 : decode method_27_code 11 = .ok (.ireturn, 1) := by decide +kernel
theorem d_h_harm_12 : decode method_27_code 12 = .ok (.astore_n 3, 1) := by decide +kernel
theorem d_h_harm_13 : decode method_27_code 13 = .ok (.iconst 2, 1) := by decide +kernel
theorem d_h_harm_14 : decode method_27_code 14 = .ok (.ireturn, 1) := by decide +kernel
set_option maxHeartbeats 4000000 in
set_option maxRecDepth 100000 in
theorem g_h_harm (l : Launch) (hfl : l.flags = flags0) (D : va_G) (sz : Nat) {ad : Nat → Nat → Nat} {cc : Nat → ClassId} {sad sav : Nat → Nat} {N : Nat → Nat} {S : CS} {cL : ClassId} {a : Nat} {ov : Nat → Int64} {p0 : Int32} {p1 : Int32} {o : ((Nat → Nat) × CS × (Nat → Int64) × Int32)} {oc os : Nat} (Heq : h_harm N S ov p0 p1 = some (o, oc, os)) : Met l ⟨"JoinedTreesLaw", "harm", "(LJoinedTrees;II)I"⟩ (Cond.codeWith ⟨"JoinedTreesLaw", "harm", "(LJoinedTrees;II)I"⟩ method_27_code 4 (some .int) [(0, 6, 9, 19), (0, 6, 12, 27)] :: gb) ({ frames := 7, cells := oc, slots := os, locals := 118 }) (hPc sad sav D (cw ad cc N S ++ [oA cL a ov]) (cty cc ++ [(cL, .long)]) sz [.ref (ad 11 0), .int p0, .int p1]) (va_Qi (fun (r : Int32) (_ : Nat → Nat → Nat) => r = o.2.2.2) (fun (u : Nat → Nat → Nat) t => Ext ad N u o.1 ∧ gO D (cw u cc o.1 o.2.1 ++ [oA cL a o.2.2.1]) (cty cc ++ [(cL, .long)]) (va_A (cw ad cc N S ++ [oA cL a ov]) sz) t) (va_A (cw ad cc N S ++ [oA cL a ov]) sz)) oc os (va_A (cw ad cc N S ++ [oA cL a ov]) sz) := by
  refine tx_ofW (cc := method_27_code) (maxL := 4) (ret := (some .int)) (hs := [(0, 6, 9, 19), (0, 6, 12, 27)]) (by decide) rfl ?_
  intro p e s m args below meth c s₁ B hml htab hv
  obtain ⟨rfl, hsz, hP, hK, hD0, hev, hE, hN, hH⟩ := hv
  have hx := B.exec
  have hb := B.bytes
  have hr := B.returns
  have hts : ∀ w9 ∈ gb, w9.before [.ref (ad 11 0), .int p0, .int p1].toArray s = true := fun w9 h => atoms_spec (ws := Cond.codeWith ⟨"JoinedTreesLaw", "harm", "(LJoinedTrees;II)I"⟩ method_27_code 4 (some .int) [(0, 6, 9, 19), (0, 6, 12, 27)] :: gb) B.pre w9 (List.mem_cons_of_mem _ h)
  have hown : s.vm.findClass "JoinedTreesLaw" = some m.cls := findClass_of_methodNamed B.named
  subst hsz
  have hNS := ns_of hP
  have hD := hD0.self (sz := s.heap.size)
  have hD0x := d_l hD0
  generalize hAe : va_A (cw ad cc N S ++ [oA cL a ov]) s.heap.size = A at hD hev hE hNS ⊢
  have hA : ∀ q : Nat, s.heap.size ≤ q → A q := fun q h => by rw [← hAe]; exact Or.inr h
  have hS : va_S A s.heap s.heap [] := va_S.rf
  obtain ⟨ls, hl, hle⟩ : ∃ ls : Array Slot, lv_has ls 4 [(0, .ref (ad 11 0)), (1, .int p0), (2, .int p1)] ∧ entryFrame m ([.ref (ad 11 0), .int p0, .int p1] : List Value).toArray 4 = F0 m 0 ls [] := ⟨_, lv_entry (n := 4) _ (Nat.le_of_ble_eq_true rfl), lg_entry_eq ..⟩
  rw [hle]
  have hPx := p_l hP
  have hDx := d_l hD
  have hFc := fr_all hDx hS hA
  have hKx := hK.sub (tys' := cty cc) [0, 1, 2, 3, 4, 5, 6] rfl
  obtain ⟨h0, Heq⟩ := gl_some Heq
  refine lv_aload_n hx hb d_h_harm_0 rfl (lv_at hl 0 rfl) ?_
  refine lv_iload_n hx hb d_h_harm_1 rfl (lv_at hl 1 rfl) ?_
  refine lv_iload_n hx hb d_h_harm_2 rfl (lv_at hl 2 rfl) ?_
  rcases hR_some Heq with ⟨r, hm, rfl, rfl, rfl⟩ | ⟨S1, k, c, hm, hk, rfl, rfl, rfl⟩
  · refine va_callv (va_runV (As := [.int p0, .int p1]) (rest := []) ⟨hx, hb, hml, hown, hts⟩ (g_cJT_harm l hfl D s.heap.size (ad := ad) (cc := cc) (sad := sad) (sav := sav) hm) (cw_v 2 hts kw_1353 kw_1350 kw_1351 kw_1352 kw_1 rfl rfl (by decide +kernel) ⟨Nat.le_of_ble_eq_true rfl, Nat.le_of_ble_eq_true rfl⟩) ⟨c_blind, va_recv hK hPx (ci := 11) (q0 := cPos N 11 0) rfl (cw_obj (k := 11) (by decide) h0), fun U hU hW => c_pre hU hW hPx hKx hDx hev hE hN hNS hS hFc⟩ rfl rfl hl.1 rfl (lv_room (Nat.le_of_ble_eq_true rfl)) d_h_harm_3 ⟨Nat.le_of_eq (Nat.zero_add _), Nat.le_of_eq (Nat.zero_add _)⟩) hS (fun q _ h => hFc q h) hFc (fun u t H locs ht hvm hw hB hz1 hk1 hS => ?_)
    obtain ⟨hP1, -, hD1⟩ := hB
    rw [ht] at hP1
    obtain ⟨hP, hD⟩ := join_w hP hD hk1 hFc hP1 hD1
    refine lv_goto (tgt := 15) hx hb d_h_harm_6 (by decide) ?_
    refine lv_iconst (v := 0) hx hb d_h_harm_15 (by decide) ?_
    refine W.cs (cells' := 0) (slots' := 0) rfl rfl ?_
    exact W.iret (v := 0) hx hb hr (fun t ht hW => ⟨⟨0, ad, rfl, rfl, Ext.rf, by rw [ht]; exact hP, va_K.moved hW.alike hK, hD⟩, hS.F ht⟩) hS.2.2 d_h_harm_16
  · rcases lk_cons hk with ⟨hc, rfl⟩ | hk
    · refine tx_catch (tx_runV (As := [.int p0, .int p1]) (rest := []) ⟨hx, hb, hml, hown, hts⟩ (g_cJT_harm_t l hfl D s.heap.size (ad := ad) (cc := cc) (sad := sad) (sav := sav) hm) (cw_v 2 hts kw_1353 kw_1350 kw_1351 kw_1352 kw_1 rfl rfl (by decide +kernel) ⟨Nat.le_of_ble_eq_true rfl, Nat.le_of_ble_eq_true rfl⟩) ⟨c_blind, va_recv hK hPx (ci := 11) (q0 := cPos N 11 0) rfl (cw_obj (k := 11) (by decide) h0), fun U hU hW => c_pre hU hW hPx hKx hDx hev hE hN hNS hS hFc⟩ rfl rfl hl.1 rfl (lv_room (Nat.le_of_ble_eq_true rfl)) d_h_harm_3 ⟨Nat.le_of_eq (Nat.zero_add _), Nat.le_of_eq (Nat.zero_add _)⟩) hown hS hFc htab [] [(0, 6, 12, 27)] (0, 6, 9, 19) rfl (by decide) (by decide) (hts _ kw_553) (by rw [hc]; exact va_Nw.use rfl hev.2.2.2.2.2.1.1) (fun y hy => absurd hy List.not_mem_nil) (fun z H locs hz1 hk1 hB hS => ?_)
      have hP1 := hB
      have hD1 := d_cw S1 (hD0x.self (sz := s.heap.size))
      obtain ⟨hP, hD⟩ := join_w hP hD hk1 hFc hP1 hD1
      refine lv_astore_n (lv' := [(3, .ref z), (0, .ref (ad 11 0)), (1, .int p0), (2, .int p1)]) hx hb d_h_harm_9 rfl hl (by decide) rfl (fun ls hl => ?_)
      refine lv_iconst (v := 1) hx hb d_h_harm_10 (by decide) ?_
      refine W.cs (cells' := 1) (slots' := 6) rfl rfl ?_
      exact W.iret (v := 1) hx hb hr (fun t ht hW => ⟨⟨1, ad, rfl, rfl, Ext.rf, by rw [ht]; exact hP, va_K.moved hW.alike hK, hD⟩, hS.F ht⟩) hS.2.2 d_h_harm_11
    rcases lk_cons hk with ⟨hc, rfl⟩ | hk
    · refine tx_catch (tx_runV (As := [.int p0, .int p1]) (rest := []) ⟨hx, hb, hml, hown, hts⟩ (g_cJT_harm_t l hfl D s.heap.size (ad := ad) (cc := cc) (sad := sad) (sav := sav) hm) (cw_v 2 hts kw_1353 kw_1350 kw_1351 kw_1352 kw_1 rfl rfl (by decide +kernel) ⟨Nat.le_of_ble_eq_true rfl, Nat.le_of_ble_eq_true rfl⟩) ⟨c_blind, va_recv hK hPx (ci := 11) (q0 := cPos N 11 0) rfl (cw_obj (k := 11) (by decide) h0), fun U hU hW => c_pre hU hW hPx hKx hDx hev hE hN hNS hS hFc⟩ rfl rfl hl.1 rfl (lv_room (Nat.le_of_ble_eq_true rfl)) d_h_harm_3 ⟨Nat.le_of_eq (Nat.zero_add _), Nat.le_of_eq (Nat.zero_add _)⟩) hown hS hFc htab [(0, 6, 9, 19)] [] (0, 6, 12, 27) rfl (by decide) (by decide) (hts _ kw_581) (by rw [hc]; exact va_Nw.use rfl hev.2.2.2.2.2.1.2.2.1) (List.forall_mem_cons.mpr ⟨⟨by decide, by decide, "java/lang/IllegalArgumentException", hts _ kw_553, by rw [hc]; exact hev.2.2.2.2.2.2.2.1.1⟩, fun y hy => absurd hy List.not_mem_nil⟩) (fun z H locs hz1 hk1 hB hS => ?_)
      have hP1 := hB
      have hD1 := d_cw S1 (hD0x.self (sz := s.heap.size))
      obtain ⟨hP, hD⟩ := join_w hP hD hk1 hFc hP1 hD1
      refine lv_astore_n (lv' := [(3, .ref z), (0, .ref (ad 11 0)), (1, .int p0), (2, .int p1)]) hx hb d_h_harm_12 rfl hl (by decide) rfl (fun ls hl => ?_)
      refine lv_iconst (v := 2) hx hb d_h_harm_13 (by decide) ?_
      refine W.cs (cells' := 1) (slots' := 6) rfl rfl ?_
      exact W.iret (v := 2) hx hb hr (fun t ht hW => ⟨⟨2, ad, rfl, rfl, Ext.rf, by rw [ht]; exact hP, va_K.moved hW.alike hK, hD⟩, hS.F ht⟩) hS.2.2 d_h_harm_14
    exact (lk_nil hk).elim
def h_out (N : Nat → Nat) (S : CS) (ov : Nat → Int64) (p0 : Int32) : Option (((Nat → Nat) × CS × (Nat → Int64) × Int32) × Nat × Nat) := gl 0 (N 11) (hR Prod.fst (fun ov r => oU ov r.2) [(1, 1)] N ov (m_cJT_out N 0 S p0))
theorem d_h_out_0 : decode method_28_code 0 = .ok (.aload_n 2, 1) := by decide +kernel
theorem d_h_out_1 : decode method_28_code 1 = .ok (.iconst 0, 1) := by decide +kernel
theorem d_h_out_2 : decode method_28_code 2 = .ok (.aload_n 0, 1) := by decide +kernel
theorem d_h_out_3 : decode method_28_code 3 = .ok (.iload_n 1, 1) := by decide +kernel
theorem d_h_out_4 : decode method_28_code 4 = .ok (.invokevirtual 103, 3) := by decide +kernel
theorem d_h_out_7 : decode method_28_code 7 = .ok (.lastore, 1) := by decide +kernel
theorem d_h_out_8 : decode method_28_code 8 = .ok (.goto 6, 3) := by decide +kernel
theorem d_h_out_14 : decode method_28_code 14 = .ok (.iconst 0, 1) := by decide +kernel
theorem d_h_out_15 : decode method_28_code 15 = .ok (.ireturn, 1) := by decide +kernel
theorem d_h_out_11 : decode method_28_code 11 = .ok (.astore_n 3, 1) := by decide +kernel
theorem d_h_out_12 : decode method_28_code 12 = .ok (.iconst 1, 1) := by decide +kernel
theorem d_h_out_13 : decode method_28_code 13 = .ok (.ireturn, 1) := by decide +kernel
set_option maxHeartbeats 4000000 in
set_option maxRecDepth 100000 in
theorem g_h_out (l : Launch) (hfl : l.flags = flags0) (D : va_G) (sz : Nat) {ad : Nat → Nat → Nat} {cc : Nat → ClassId} {sad sav : Nat → Nat} {N : Nat → Nat} {S : CS} {cL : ClassId} {a : Nat} {ov : Nat → Int64} {p0 : Int32} {o : ((Nat → Nat) × CS × (Nat → Int64) × Int32)} {oc os : Nat} (Heq : h_out N S ov p0 = some (o, oc, os)) : Met l ⟨"JoinedTreesLaw", "out", "(LJoinedTrees;I[J)I"⟩ (Cond.codeWith ⟨"JoinedTreesLaw", "out", "(LJoinedTrees;I[J)I"⟩ method_28_code 4 (some .int) [(0, 8, 11, 19)] :: gb) ({ frames := 7, cells := oc, slots := os, locals := 120 }) (hPc sad sav D (cw ad cc N S ++ [oA cL a ov]) (cty cc ++ [(cL, .long)]) sz [.ref (ad 11 0), .int p0, .ref a]) (va_Qi (fun (r : Int32) (_ : Nat → Nat → Nat) => r = o.2.2.2) (fun (u : Nat → Nat → Nat) t => Ext ad N u o.1 ∧ gO D (cw u cc o.1 o.2.1 ++ [oA cL a o.2.2.1]) (cty cc ++ [(cL, .long)]) (va_A (cw ad cc N S ++ [oA cL a ov]) sz) t) (va_A (cw ad cc N S ++ [oA cL a ov]) sz)) oc os (va_A (cw ad cc N S ++ [oA cL a ov]) sz) := by
  refine tx_ofW (cc := method_28_code) (maxL := 4) (ret := (some .int)) (hs := [(0, 8, 11, 19)]) (by decide) rfl ?_
  intro p e s m args below meth c s₁ B hml htab hv
  obtain ⟨rfl, hsz, hP, hK, hD0, hev, hE, hN, hH⟩ := hv
  have hx := B.exec
  have hb := B.bytes
  have hr := B.returns
  have hts : ∀ w9 ∈ gb, w9.before [.ref (ad 11 0), .int p0, .ref a].toArray s = true := fun w9 h => atoms_spec (ws := Cond.codeWith ⟨"JoinedTreesLaw", "out", "(LJoinedTrees;I[J)I"⟩ method_28_code 4 (some .int) [(0, 8, 11, 19)] :: gb) B.pre w9 (List.mem_cons_of_mem _ h)
  have hown : s.vm.findClass "JoinedTreesLaw" = some m.cls := findClass_of_methodNamed B.named
  subst hsz
  have hNS := ns_of hP
  have hD := hD0.self (sz := s.heap.size)
  have hD0x := d_l hD0
  generalize hAe : va_A (cw ad cc N S ++ [oA cL a ov]) s.heap.size = A at hD hev hE hNS ⊢
  have hA : ∀ q : Nat, s.heap.size ≤ q → A q := fun q h => by rw [← hAe]; exact Or.inr h
  have hS : va_S A s.heap s.heap [] := va_S.rf
  obtain ⟨ls, hl, hle⟩ : ∃ ls : Array Slot, lv_has ls 4 [(0, .ref (ad 11 0)), (1, .int p0), (2, .ref a)] ∧ entryFrame m ([.ref (ad 11 0), .int p0, .ref a] : List Value).toArray 4 = F0 m 0 ls [] := ⟨_, lv_entry (n := 4) _ (Nat.le_of_ble_eq_true rfl), lg_entry_eq ..⟩
  rw [hle]
  have hPx := p_l hP
  have hDx := d_l hD
  have hFc := fr_all hDx hS hA
  have hKx := hK.sub (tys' := cty cc) [0, 1, 2, 3, 4, 5, 6] rfl
  obtain ⟨h0, Heq⟩ := gl_some Heq
  refine lv_aload_n hx hb d_h_out_0 rfl (lv_at hl 2 rfl) ?_
  refine lv_iconst (v := 0) hx hb d_h_out_1 (by decide) ?_
  refine lv_aload_n hx hb d_h_out_2 rfl (lv_at hl 0 rfl) ?_
  refine lv_iload_n hx hb d_h_out_3 rfl (lv_at hl 1 rfl) ?_
  rcases hR_some Heq with ⟨r, hm, rfl, rfl, rfl⟩ | ⟨S1, k, c, hm, hk, rfl, rfl, rfl⟩
  · refine va_calll (va_runV (As := [.int p0]) (rest := [.int 0, .ref a]) ⟨hx, hb, hml, hown, hts⟩ (g_cJT_out l hfl D s.heap.size (ad := ad) (cc := cc) (sad := sad) (sav := sav) hm) (cw_v 1 hts kw_1360 kw_1357 kw_1358 kw_1359 kw_1 rfl rfl (by decide +kernel) ⟨Nat.le_of_ble_eq_true rfl, Nat.le_of_ble_eq_true rfl⟩) ⟨c_blind, va_recv hK hPx (ci := 11) (q0 := cPos N 11 0) rfl (cw_obj (k := 11) (by decide) h0), fun U hU hW => c_pre hU hW hPx hKx hDx hev hE hN hNS hS hFc⟩ rfl rfl hl.1 rfl (lv_room (Nat.le_of_ble_eq_true rfl)) d_h_out_4 ⟨Nat.le_of_eq (Nat.zero_add _), Nat.le_of_eq (Nat.zero_add _)⟩) hS (fun q _ h => hFc q h) hFc (fun rz u t H locs ht hvm hw hB hz1 hk1 hS => ?_)
    obtain ⟨hP1, -, hD1⟩ := hB
    rw [ht] at hP1
    obtain ⟨hP, hD⟩ := join_w hP hD hk1 hFc hP1 hD1
    subst hw
    refine va_last hx hb hK hP hD hS (cw ad cc N r.1).length 7 at_last rfl (i := 0) (x := r.2) (vp_in_nI (n := 0) (N := 1) (by decide) (by decide)) d_h_out_7 (fun H locs hP hD hS => ?_)
    rw [set_last] at hP hD
    refine lv_goto (tgt := 14) hx hb d_h_out_8 (by decide) ?_
    refine lv_iconst (v := 0) hx hb d_h_out_14 (by decide) ?_
    refine W.cs (cells' := 0) (slots' := 0) rfl rfl ?_
    exact W.iret (v := 0) hx hb hr (fun t ht hW => ⟨⟨0, ad, rfl, rfl, Ext.rf, by rw [ht]; exact hP, va_K.moved hW.alike hK, hD⟩, hS.F ht⟩) hS.2.2 d_h_out_15
  · rcases lk_cons hk with ⟨hc, rfl⟩ | hk
    · refine tx_catch (tx_runV (As := [.int p0]) (rest := [.int 0, .ref a]) ⟨hx, hb, hml, hown, hts⟩ (g_cJT_out_t l hfl D s.heap.size (ad := ad) (cc := cc) (sad := sad) (sav := sav) hm) (cw_v 1 hts kw_1360 kw_1357 kw_1358 kw_1359 kw_1 rfl rfl (by decide +kernel) ⟨Nat.le_of_ble_eq_true rfl, Nat.le_of_ble_eq_true rfl⟩) ⟨c_blind, va_recv hK hPx (ci := 11) (q0 := cPos N 11 0) rfl (cw_obj (k := 11) (by decide) h0), fun U hU hW => c_pre hU hW hPx hKx hDx hev hE hN hNS hS hFc⟩ rfl rfl hl.1 rfl (lv_room (Nat.le_of_ble_eq_true rfl)) d_h_out_4 ⟨Nat.le_of_eq (Nat.zero_add _), Nat.le_of_eq (Nat.zero_add _)⟩) hown hS hFc htab [] [] (0, 8, 11, 19) rfl (by decide) (by decide) (hts _ kw_553) (by rw [hc]; exact va_Nw.use rfl hev.2.2.2.2.2.1.1) (fun y hy => absurd hy List.not_mem_nil) (fun z H locs hz1 hk1 hB hS => ?_)
      have hP1 := hB
      have hD1 := d_cw S1 (hD0x.self (sz := s.heap.size))
      obtain ⟨hP, hD⟩ := join_w hP hD hk1 hFc hP1 hD1
      refine lv_astore_n (lv' := [(3, .ref z), (0, .ref (ad 11 0)), (1, .int p0), (2, .ref a)]) hx hb d_h_out_11 rfl hl (by decide) rfl (fun ls hl => ?_)
      refine lv_iconst (v := 1) hx hb d_h_out_12 (by decide) ?_
      refine W.cs (cells' := 1) (slots' := 6) rfl rfl ?_
      exact W.iret (v := 1) hx hb hr (fun t ht hW => ⟨⟨1, ad, rfl, rfl, Ext.rf, by rw [ht]; exact hP, va_K.moved hW.alike hK, hD⟩, hS.F ht⟩) hS.2.2 d_h_out_13
    exact (lk_nil hk).elim
def h_count (N : Nat → Nat) (S : CS) (ov : Nat → Int64) (p0 : Int32) (p1 : Int32) : Option (((Nat → Nat) × CS × (Nat → Int64) × Int32) × Nat × Nat) := gl 0 (N 11) (hR Prod.fst (fun ov r => oU ov r.2.toInt64) [(1, 1)] N ov (m_cJT_count N 0 S p0 p1))
theorem d_h_count_0 : decode method_29_code 0 = .ok (.aload_n 3, 1) := by decide +kernel
theorem d_h_count_1 : decode method_29_code 1 = .ok (.iconst 0, 1) := by decide +kernel
theorem d_h_count_2 : decode method_29_code 2 = .ok (.aload_n 0, 1) := by decide +kernel
theorem d_h_count_3 : decode method_29_code 3 = .ok (.iload_n 1, 1) := by decide +kernel
theorem d_h_count_4 : decode method_29_code 4 = .ok (.iload_n 2, 1) := by decide +kernel
theorem d_h_count_5 : decode method_29_code 5 = .ok (.invokevirtual 107, 3) := by decide +kernel
theorem d_h_count_8 : decode method_29_code 8 = .ok (.i2l, 1) := by decide +kernel
theorem d_h_count_9 : decode method_29_code 9 = .ok (.lastore, 1) := by decide +kernel
theorem d_h_count_10 : decode method_29_code 10 = .ok (.goto 7, 3) := by decide +kernel
theorem d_h_count_17 : decode method_29_code 17 = .ok (.iconst 0, 1) := by decide +kernel
theorem d_h_count_18 : decode method_29_code 18 = .ok (.ireturn, 1) := by decide +kernel
theorem d_h_count_13 : decode method_29_code 13 = .ok (.astore 4, 2) := by decide +kernel
theorem d_h_count_15 : decode method_29_code 15 = .ok (.iconst 1, 1) := by decide +kernel
theorem d_h_count_16 : decode method_29_code 16 = .ok (.ireturn, 1) := by decide +kernel
set_option maxHeartbeats 4000000 in
set_option maxRecDepth 100000 in
theorem g_h_count (l : Launch) (hfl : l.flags = flags0) (D : va_G) (sz : Nat) {ad : Nat → Nat → Nat} {cc : Nat → ClassId} {sad sav : Nat → Nat} {N : Nat → Nat} {S : CS} {cL : ClassId} {a : Nat} {ov : Nat → Int64} {p0 : Int32} {p1 : Int32} {o : ((Nat → Nat) × CS × (Nat → Int64) × Int32)} {oc os : Nat} (Heq : h_count N S ov p0 p1 = some (o, oc, os)) : Met l ⟨"JoinedTreesLaw", "count", "(LJoinedTrees;II[J)I"⟩ (Cond.codeWith ⟨"JoinedTreesLaw", "count", "(LJoinedTrees;II[J)I"⟩ method_29_code 5 (some .int) [(0, 10, 13, 19)] :: gb) ({ frames := 8, cells := oc, slots := os, locals := 140 }) (hPc sad sav D (cw ad cc N S ++ [oA cL a ov]) (cty cc ++ [(cL, .long)]) sz [.ref (ad 11 0), .int p0, .int p1, .ref a]) (va_Qi (fun (r : Int32) (_ : Nat → Nat → Nat) => r = o.2.2.2) (fun (u : Nat → Nat → Nat) t => Ext ad N u o.1 ∧ gO D (cw u cc o.1 o.2.1 ++ [oA cL a o.2.2.1]) (cty cc ++ [(cL, .long)]) (va_A (cw ad cc N S ++ [oA cL a ov]) sz) t) (va_A (cw ad cc N S ++ [oA cL a ov]) sz)) oc os (va_A (cw ad cc N S ++ [oA cL a ov]) sz) := by
  refine tx_ofW (cc := method_29_code) (maxL := 5) (ret := (some .int)) (hs := [(0, 10, 13, 19)]) (by decide) rfl ?_
  intro p e s m args below meth c s₁ B hml htab hv
  obtain ⟨rfl, hsz, hP, hK, hD0, hev, hE, hN, hH⟩ := hv
  have hx := B.exec
  have hb := B.bytes
  have hr := B.returns
  have hts : ∀ w9 ∈ gb, w9.before [.ref (ad 11 0), .int p0, .int p1, .ref a].toArray s = true := fun w9 h => atoms_spec (ws := Cond.codeWith ⟨"JoinedTreesLaw", "count", "(LJoinedTrees;II[J)I"⟩ method_29_code 5 (some .int) [(0, 10, 13, 19)] :: gb) B.pre w9 (List.mem_cons_of_mem _ h)
  have hown : s.vm.findClass "JoinedTreesLaw" = some m.cls := findClass_of_methodNamed B.named
  subst hsz
  have hNS := ns_of hP
  have hD := hD0.self (sz := s.heap.size)
  have hD0x := d_l hD0
  generalize hAe : va_A (cw ad cc N S ++ [oA cL a ov]) s.heap.size = A at hD hev hE hNS ⊢
  have hA : ∀ q : Nat, s.heap.size ≤ q → A q := fun q h => by rw [← hAe]; exact Or.inr h
  have hS : va_S A s.heap s.heap [] := va_S.rf
  obtain ⟨ls, hl, hle⟩ : ∃ ls : Array Slot, lv_has ls 5 [(0, .ref (ad 11 0)), (1, .int p0), (2, .int p1), (3, .ref a)] ∧ entryFrame m ([.ref (ad 11 0), .int p0, .int p1, .ref a] : List Value).toArray 5 = F0 m 0 ls [] := ⟨_, lv_entry (n := 5) _ (Nat.le_of_ble_eq_true rfl), lg_entry_eq ..⟩
  rw [hle]
  have hPx := p_l hP
  have hDx := d_l hD
  have hFc := fr_all hDx hS hA
  have hKx := hK.sub (tys' := cty cc) [0, 1, 2, 3, 4, 5, 6] rfl
  obtain ⟨h0, Heq⟩ := gl_some Heq
  refine lv_aload_n hx hb d_h_count_0 rfl (lv_at hl 3 rfl) ?_
  refine lv_iconst (v := 0) hx hb d_h_count_1 (by decide) ?_
  refine lv_aload_n hx hb d_h_count_2 rfl (lv_at hl 0 rfl) ?_
  refine lv_iload_n hx hb d_h_count_3 rfl (lv_at hl 1 rfl) ?_
  refine lv_iload_n hx hb d_h_count_4 rfl (lv_at hl 2 rfl) ?_
  rcases hR_some Heq with ⟨r, hm, rfl, rfl, rfl⟩ | ⟨S1, k, c, hm, hk, rfl, rfl, rfl⟩
  · refine va_calli (va_runV (As := [.int p0, .int p1]) (rest := [.int 0, .ref a]) ⟨hx, hb, hml, hown, hts⟩ (g_cJT_count l hfl D s.heap.size (ad := ad) (cc := cc) (sad := sad) (sav := sav) hm) (cw_v 2 hts kw_1368 kw_1365 kw_1366 kw_1367 kw_1 rfl rfl (by decide +kernel) ⟨Nat.le_of_ble_eq_true rfl, Nat.le_of_ble_eq_true rfl⟩) ⟨c_blind, va_recv hK hPx (ci := 11) (q0 := cPos N 11 0) rfl (cw_obj (k := 11) (by decide) h0), fun U hU hW => c_pre hU hW hPx hKx hDx hev hE hN hNS hS hFc⟩ rfl rfl hl.1 rfl (lv_room (Nat.le_of_ble_eq_true rfl)) d_h_count_5 ⟨Nat.le_of_eq (Nat.zero_add _), Nat.le_of_eq (Nat.zero_add _)⟩) hS (fun q _ h => hFc q h) hFc (fun rz u t H locs ht hvm hw hB hz1 hk1 hS => ?_)
    obtain ⟨hP1, -, hD1⟩ := hB
    rw [ht] at hP1
    obtain ⟨hP, hD⟩ := join_w hP hD hk1 hFc hP1 hD1
    subst hw
    refine lv_i2l hx hb d_h_count_8 rfl ?_
    refine va_last hx hb hK hP hD hS (cw ad cc N r.1).length 7 at_last rfl (i := 0) (x := r.2.toInt64) (vp_in_nI (n := 0) (N := 1) (by decide) (by decide)) d_h_count_9 (fun H locs hP hD hS => ?_)
    rw [set_last] at hP hD
    refine lv_goto (tgt := 17) hx hb d_h_count_10 (by decide) ?_
    refine lv_iconst (v := 0) hx hb d_h_count_17 (by decide) ?_
    refine W.cs (cells' := 0) (slots' := 0) rfl rfl ?_
    exact W.iret (v := 0) hx hb hr (fun t ht hW => ⟨⟨0, ad, rfl, rfl, Ext.rf, by rw [ht]; exact hP, va_K.moved hW.alike hK, hD⟩, hS.F ht⟩) hS.2.2 d_h_count_18
  · rcases lk_cons hk with ⟨hc, rfl⟩ | hk
    · refine tx_catch (tx_runV (As := [.int p0, .int p1]) (rest := [.int 0, .ref a]) ⟨hx, hb, hml, hown, hts⟩ (g_cJT_count_t l hfl D s.heap.size (ad := ad) (cc := cc) (sad := sad) (sav := sav) hm) (cw_v 2 hts kw_1368 kw_1365 kw_1366 kw_1367 kw_1 rfl rfl (by decide +kernel) ⟨Nat.le_of_ble_eq_true rfl, Nat.le_of_ble_eq_true rfl⟩) ⟨c_blind, va_recv hK hPx (ci := 11) (q0 := cPos N 11 0) rfl (cw_obj (k := 11) (by decide) h0), fun U hU hW => c_pre hU hW hPx hKx hDx hev hE hN hNS hS hFc⟩ rfl rfl hl.1 rfl (lv_room (Nat.le_of_ble_eq_true rfl)) d_h_count_5 ⟨Nat.le_of_eq (Nat.zero_add _), Nat.le_of_eq (Nat.zero_add _)⟩) hown hS hFc htab [] [] (0, 10, 13, 19) rfl (by decide) (by decide) (hts _ kw_553) (by rw [hc]; exact va_Nw.use rfl hev.2.2.2.2.2.1.1) (fun y hy => absurd hy List.not_mem_nil) (fun z H locs hz1 hk1 hB hS => ?_)
      have hP1 := hB
      have hD1 := d_cw S1 (hD0x.self (sz := s.heap.size))
      obtain ⟨hP, hD⟩ := join_w hP hD hk1 hFc hP1 hD1
      refine lv_astore (lv' := [(4, .ref z), (0, .ref (ad 11 0)), (1, .int p0), (2, .int p1), (3, .ref a)]) hx hb d_h_count_13 hl (by decide) rfl (fun ls hl => ?_)
      refine lv_iconst (v := 1) hx hb d_h_count_15 (by decide) ?_
      refine W.cs (cells' := 1) (slots' := 6) rfl rfl ?_
      exact W.iret (v := 1) hx hb hr (fun t ht hW => ⟨⟨1, ad, rfl, rfl, Ext.rf, by rw [ht]; exact hP, va_K.moved hW.alike hK, hD⟩, hS.F ht⟩) hS.2.2 d_h_count_16
    exact (lk_nil hk).elim
