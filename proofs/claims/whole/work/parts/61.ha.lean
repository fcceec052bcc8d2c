def h_feed (N : Nat → Nat) (S : CS) (ov : Nat → Int64) (p0 : Int32) (p1 : Int32) (p2 : Int32) (p3 : Int32) (p4 : Int32) : Option (((Nat → Nat) × CS × (Nat → Int64) × Int32) × Nat × Nat) := gl 0 (N 11) (hR Prod.fst (fun ov r => oU ov r.2.toInt64) [(4, 1)] N ov (m_cJT_feed N 0 S p0 p1 p2 p3 p4))
theorem d_h_feed_0 : decode method_3_code 0 = .ok (.aload 6, 2) := by decide +kernel
theorem d_h_feed_2 : decode method_3_code 2 = .ok (.iconst 0, 1) := by decide +kernel
theorem d_h_feed_3 : decode method_3_code 3 = .ok (.aload_n 0, 1) := by decide +kernel
theorem d_h_feed_4 : decode method_3_code 4 = .ok (.iload_n 1, 1) := by decide +kernel
theorem d_h_feed_5 : decode method_3_code 5 = .ok (.iload_n 2, 1) := by decide +kernel
theorem d_h_feed_6 : decode method_3_code 6 = .ok (.iload_n 3, 1) := by decide +kernel
theorem d_h_feed_7 : decode method_3_code 7 = .ok (.iload 4, 2) := by decide +kernel
theorem d_h_feed_9 : decode method_3_code 9 = .ok (.iload 5, 2) := by decide +kernel
theorem d_h_feed_11 : decode method_3_code 11 = .ok (.invokevirtual 7, 3) := by decide +kernel
theorem d_h_feed_14 : decode method_3_code 14 = .ok (.i2l, 1) := by decide +kernel
theorem d_h_feed_15 : decode method_3_code 15 = .ok (.lastore, 1) := by decide +kernel
theorem d_h_feed_16 : decode method_3_code 16 = .ok (.goto 7, 3) := by decide +kernel
theorem d_h_feed_23 : decode method_3_code 23 = .ok (.iconst 0, 1) := by decide +kernel
theorem d_h_feed_24 : decode method_3_code 24 = .ok (.ireturn, 1) := by decide +kernel
theorem d_h_feed_19 : decode method_3_code 19 = .ok (.astore 7, 2) := by decide +kernel
theorem d_h_feed_21 : decode method_3_code 21 = .ok (.iconst 1, 1) := by decide +kernel
theorem d_h_feed_22 : decode method_3_code 22 = .ok (.ireturn, 1) := by decide +kernel
set_option maxHeartbeats 4000000 in
set_option maxRecDepth 100000 in
theorem g_h_feed (l : Launch) (hfl : l.flags = flags0) (D : va_G) (sz : Nat) {ad : Nat → Nat → Nat} {cc : Nat → ClassId} {sad sav : Nat → Nat} {N : Nat → Nat} {S : CS} {cL : ClassId} {a : Nat} {ov : Nat → Int64} {p0 : Int32} {p1 : Int32} {p2 : Int32} {p3 : Int32} {p4 : Int32} {o : ((Nat → Nat) × CS × (Nat → Int64) × Int32)} {oc os : Nat} (Heq : h_feed N S ov p0 p1 p2 p3 p4 = some (o, oc, os)) : Met l ⟨"JoinedTreesLaw", "feed", "(LJoinedTrees;IIIII[J)I"⟩ (Cond.codeWith ⟨"JoinedTreesLaw", "feed", "(LJoinedTrees;IIIII[J)I"⟩ method_3_code 8 (some .int) [(0, 16, 19, 13)] :: gb) ({ frames := 7, cells := oc, slots := os, locals := 121 }) (hPc sad sav D (cw ad cc N S ++ [oA cL a ov]) (cty cc ++ [(cL, .long)]) sz [.ref (ad 11 0), .int p0, .int p1, .int p2, .int p3, .int p4, .ref a]) (va_Qi (fun (r : Int32) (_ : Nat → Nat → Nat) => r = o.2.2.2) (fun (u : Nat → Nat → Nat) t => Ext ad N u o.1 ∧ gO D (cw u cc o.1 o.2.1 ++ [oA cL a o.2.2.1]) (cty cc ++ [(cL, .long)]) (va_A (cw ad cc N S ++ [oA cL a ov]) sz) t) (va_A (cw ad cc N S ++ [oA cL a ov]) sz)) oc os (va_A (cw ad cc N S ++ [oA cL a ov]) sz) := by
  refine tx_ofW (cc := method_3_code) (maxL := 8) (ret := (some .int)) (hs := [(0, 16, 19, 13)]) (by decide) rfl ?_
  intro p e s m args below meth c s₁ B hml htab hv
  obtain ⟨rfl, hsz, hP, hK, hD0, hev, hE, hN, hH⟩ := hv
  have hx := B.exec
  have hb := B.bytes
  have hr := B.returns
  have hts : ∀ w9 ∈ gb, w9.before [.ref (ad 11 0), .int p0, .int p1, .int p2, .int p3, .int p4, .ref a].toArray s = true := fun w9 h => atoms_spec (ws := Cond.codeWith ⟨"JoinedTreesLaw", "feed", "(LJoinedTrees;IIIII[J)I"⟩ method_3_code 8 (some .int) [(0, 16, 19, 13)] :: gb) B.pre w9 (List.mem_cons_of_mem _ h)
  have hown : s.vm.findClass "JoinedTreesLaw" = some m.cls := findClass_of_methodNamed B.named
  subst hsz
  have hNS := ns_of hP
  have hD := hD0.self (sz := s.heap.size)
  have hD0x := d_l hD0
  generalize hAe : va_A (cw ad cc N S ++ [oA cL a ov]) s.heap.size = A at hD hev hE hNS ⊢
  have hA : ∀ q : Nat, s.heap.size ≤ q → A q := fun q h => by rw [← hAe]; exact Or.inr h
  have hS : va_S A s.heap s.heap [] := va_S.rf
  obtain ⟨ls, hl, hle⟩ : ∃ ls : Array Slot, lv_has ls 8 [(0, .ref (ad 11 0)), (1, .int p0), (2, .int p1), (3, .int p2), (4, .int p3), (5, .int p4), (6, .ref a)] ∧ entryFrame m ([.ref (ad 11 0), .int p0, .int p1, .int p2, .int p3, .int p4, .ref a] : List Value).toArray 8 = F0 m 0 ls [] := ⟨_, lv_entry (n := 8) _ (Nat.le_of_ble_eq_true rfl), lg_entry_eq ..⟩
  rw [hle]
  have hPx := p_l hP
  have hDx := d_l hD
  have hFc := fr_all hDx hS hA
  have hKx := hK.sub (tys' := cty cc) [0, 1, 2, 3, 4, 5, 6] rfl
  obtain ⟨h0, Heq⟩ := gl_some Heq
  refine lv_aload hx hb d_h_feed_0 (lv_at hl 6 rfl) ?_
  refine lv_iconst (v := 0) hx hb d_h_feed_2 (by decide) ?_
  refine lv_aload_n hx hb d_h_feed_3 rfl (lv_at hl 0 rfl) ?_
  refine lv_iload_n hx hb d_h_feed_4 rfl (lv_at hl 1 rfl) ?_
  refine lv_iload_n hx hb d_h_feed_5 rfl (lv_at hl 2 rfl) ?_
  refine lv_iload_n hx hb d_h_feed_6 rfl (lv_at hl 3 rfl) ?_
  refine lv_iload hx hb d_h_feed_7 (lv_at hl 4 rfl) ?_
  refine lv_iload hx hb d_h_feed_9 (lv_at hl 5 rfl) ?_
  rcases hR_some Heq with ⟨r, hm, rfl, rfl, rfl⟩ | ⟨S1, k, c, hm, hk, rfl, rfl, rfl⟩
  · refine va_calli (va_runV (As := [.int p0, .int p1, .int p2, .int p3, .int p4]) (rest := [.int 0, .ref a]) ⟨hx, hb, hml, hown, hts⟩ (g_cJT_feed l hfl D s.heap.size (ad := ad) (cc := cc) (sad := sad) (sav := sav) hm) (cw_v 5 hts kw_472 kw_469 kw_470 kw_471 kw_1 rfl rfl (by decide +kernel) ⟨Nat.le_of_ble_eq_true rfl, Nat.le_of_ble_eq_true rfl⟩) ⟨c_blind, va_recv hK hPx (ci := 11) (q0 := cPos N 11 0) rfl (cw_obj (k := 11) (by decide) h0), fun U hU hW => c_pre hU hW hPx hKx hDx hev hE hN hNS hS hFc⟩ rfl rfl hl.1 rfl (lv_room (Nat.le_of_ble_eq_true rfl)) d_h_feed_11 ⟨Nat.le_of_eq (Nat.zero_add _), Nat.le_of_eq (Nat.zero_add _)⟩) hS (fun q _ h => hFc q h) hFc (fun rz u t H locs ht hvm hw hB hz1 hk1 hS => ?_)
    obtain ⟨hP1, -, hD1⟩ := hB
    rw [ht] at hP1
    obtain ⟨hP, hD⟩ := join_w hP hD hk1 hFc hP1 hD1
    subst hw
    refine lv_i2l hx hb d_h_feed_14 rfl ?_
    refine va_last hx hb hK hP hD hS (cw ad cc N r.1).length 7 at_last rfl (i := 0) (x := r.2.toInt64) (vp_in_nI (n := 0) (N := 1) (by decide) (by decide)) d_h_feed_15 (fun H locs hP hD hS => ?_)
    rw [set_last] at hP hD
    refine lv_goto (tgt := 23) hx hb d_h_feed_16 (by decide) ?_
    refine lv_iconst (v := 0) hx hb d_h_feed_23 (by decide) ?_
    refine W.cs (cells' := 0) (slots' := 0) rfl rfl ?_
    exact W.iret (v := 0) hx hb hr (fun t ht hW => ⟨⟨0, ad, rfl, rfl, Ext.rf, by rw [ht]; exact hP, va_K.moved hW.alike hK, hD⟩, hS.F ht⟩) hS.2.2 d_h_feed_24
  · rcases lk_cons hk with ⟨hc, rfl⟩ | hk
    · refine tx_catch (tx_runV (As := [.int p0, .int p1, .int p2, .int p3, .int p4]) (rest := [.int 0, .ref a]) ⟨hx, hb, hml, hown, hts⟩ (g_cJT_feed_t l hfl D s.heap.size (ad := ad) (cc := cc) (sad := sad) (sav := sav) hm) (cw_v 5 hts kw_472 kw_469 kw_470 kw_471 kw_1 rfl rfl (by decide +kernel) ⟨Nat.le_of_ble_eq_true rfl, Nat.le_of_ble_eq_true rfl⟩) ⟨c_blind, va_recv hK hPx (ci := 11) (q0 := cPos N 11 0) rfl (cw_obj (k := 11) (by decide) h0), fun U hU hW => c_pre hU hW hPx hKx hDx hev hE hN hNS hS hFc⟩ rfl rfl hl.1 rfl (lv_room (Nat.le_of_ble_eq_true rfl)) d_h_feed_11 ⟨Nat.le_of_eq (Nat.zero_add _), Nat.le_of_eq (Nat.zero_add _)⟩) hown hS hFc htab [] [] (0, 16, 19, 13) rfl (by decide) (by decide) (hts _ kw_468) (by rw [hc]; exact va_Nw.use rfl hev.2.2.2.2.2.1.2.2.2) (fun y hy => absurd hy List.not_mem_nil) (fun z H locs hz1 hk1 hB hS => ?_)
      have hP1 := hB
      have hD1 := d_cw S1 (hD0x.self (sz := s.heap.size))
      obtain ⟨hP, hD⟩ := join_w hP hD hk1 hFc hP1 hD1
      refine lv_astore (lv' := [(7, .ref z), (0, .ref (ad 11 0)), (1, .int p0), (2, .int p1), (3, .int p2), (4, .int p3), (5, .int p4), (6, .ref a)]) hx hb d_h_feed_19 hl (by decide) rfl (fun ls hl => ?_)
      refine lv_iconst (v := 1) hx hb d_h_feed_21 (by decide) ?_
      refine W.cs (cells' := 1) (slots' := 6) rfl rfl ?_
      exact W.iret (v := 1) hx hb hr (fun t ht hW => ⟨⟨1, ad, rfl, rfl, Ext.rf, by rw [ht]; exact hP, va_K.moved hW.alike hK, hD⟩, hS.F ht⟩) hS.2.2 d_h_feed_22
    exact (lk_nil hk).elim
def h_end (N : Nat → Nat) (S : CS) (ov : Nat → Int64) (p0 : Int32) : Option (((Nat → Nat) × CS × (Nat → Int64) × Int32) × Nat × Nat) := gl 0 (N 11) (hR Prod.fst (fun ov r => oU ov r.2.toInt64) [(1, 1)] N ov (m_cJT_end N 0 S p0))
theorem d_h_end_0 : decode method_4_code 0 = .ok (.aload_n 2, 1) := by decide +kernel
theorem d_h_end_1 : decode method_4_code 1 = .ok (.iconst 0, 1) := by decide +kernel
theorem d_h_end_2 : decode method_4_code 2 = .ok (.aload_n 0, 1) := by decide +kernel
theorem d_h_end_3 : decode method_4_code 3 = .ok (.iload_n 1, 1) := by decide +kernel
theorem d_h_end_4 : decode method_4_code 4 = .ok (.invokevirtual 15, 3) := by decide +kernel
theorem d_h_end_7 : decode method_4_code 7 = .ok (.i2l, 1) := by decide +kernel
theorem d_h_end_8 : decode method_4_code 8 = .ok (.lastore, 1) := by decide +kernel
theorem d_h_end_9 : decode method_4_code 9 = .ok (.goto 6, 3) := by decide +kernel
theorem d_h_end_15 : decode method_4_code 15 = .ok (.iconst 0, 1) := by decide +kernel
theorem d_h_end_16 : decode method_4_code 16 = .ok (.ireturn, 1) := by decide +kernel
theorem d_h_end_12 : decode method_4_code 12 = .ok (.astore_n 3, 1) := by decide +kernel
theorem d_h_end_13 : decode method_4_code 13 = .ok (.iconst 1, 1) := by decide +kernel
theorem d_h_end_14 : decode method_4_code 14 = .ok (.ireturn, 1) := by decide +kernel
set_option maxHeartbeats 4000000 in
set_option maxRecDepth 100000 in
theorem g_h_end (l : Launch) (hfl : l.flags = flags0) (D : va_G) (sz : Nat) {ad : Nat → Nat → Nat} {cc : Nat → ClassId} {sad sav : Nat → Nat} {N : Nat → Nat} {S : CS} {cL : ClassId} {a : Nat} {ov : Nat → Int64} {p0 : Int32} {o : ((Nat → Nat) × CS × (Nat → Int64) × Int32)} {oc os : Nat} (Heq : h_end N S ov p0 = some (o, oc, os)) : Met l ⟨"JoinedTreesLaw", "end", "(LJoinedTrees;I[J)I"⟩ (Cond.codeWith ⟨"JoinedTreesLaw", "end", "(LJoinedTrees;I[J)I"⟩ method_4_code 4 (some .int) [(0, 9, 12, 19)] :: gb) ({ frames := 7, cells := oc, slots := os, locals := 118 }) (hPc sad sav D (cw ad cc N S ++ [oA cL a ov]) (cty cc ++ [(cL, .long)]) sz [.ref (ad 11 0), .int p0, .ref a]) (va_Qi (fun (r : Int32) (_ : Nat → Nat → Nat) => r = o.2.2.2) (fun (u : Nat → Nat → Nat) t => Ext ad N u o.1 ∧ gO D (cw u cc o.1 o.2.1 ++ [oA cL a o.2.2.1]) (cty cc ++ [(cL, .long)]) (va_A (cw ad cc N S ++ [oA cL a ov]) sz) t) (va_A (cw ad cc N S ++ [oA cL a ov]) sz)) oc os (va_A (cw ad cc N S ++ [oA cL a ov]) sz) := by
  refine tx_ofW (cc := method_4_code) (maxL := 4) (ret := (some .int)) (hs := [(0, 9, 12, 19)]) (by decide) rfl ?_
  intro p e s m args below meth c s₁ B hml htab hv
  obtain ⟨rfl, hsz, hP, hK, hD0, hev, hE, hN, hH⟩ := hv
  have hx := B.exec
  have hb := B.bytes
  have hr := B.returns
  have hts : ∀ w9 ∈ gb, w9.before [.ref (ad 11 0), .int p0, .ref a].toArray s = true := fun w9 h => atoms_spec (ws := Cond.codeWith ⟨"JoinedTreesLaw", "end", "(LJoinedTrees;I[J)I"⟩ method_4_code 4 (some .int) [(0, 9, 12, 19)] :: gb) B.pre w9 (List.mem_cons_of_mem _ h)
  have hown : s.vm.findClass "JoinedTreesLaw" = some m.cls := findClass_of_methodNamed B.named
  subst hsz
  have hNS := ns_of hP
  have hD := hD0.self (sz := s.heap.size)
  have hD0x := d_l hD0
  generalize hAe : va_A (cw ad cc N S ++ [oA cL a ov]) s.heap.size = A at hD hev hE hNS ⊢
  have hA : ∀ q : Nat, s.heap.size ≤ q → A q := fun q h => by rw [← hAe]; exact Or.inr h
  have hS : va_S A s.heap s.heap [] := va_S.rf
  obtain ⟨ls, hl, hle⟩ : ∃ ls : Array Slot, lv_has ls 4 [(0, .ref (ad 11 0)), (1, .int p0), (2, .ref a)] ∧ entryFrame m ([.ref (ad 11 0), .int p0, .ref a] : List Value).toArray 4 = F0 m 0 ls [] := ⟨_, lv_entry (n := 4) _ (Nat.le_of_ble_eq_true rfl), lg_entry_eq ..⟩
  rw [hle]
  have hPx := p_l hP
  have hDx := d_l hD
  have hFc := fr_all hDx hS hA
  have hKx := hK.sub (tys' := cty cc) [0, 1, 2, 3, 4, 5, 6] rfl
  obtain ⟨h0, Heq⟩ := gl_some Heq
  refine lv_aload_n hx hb d_h_end_0 rfl (lv_at hl 2 rfl) ?_
  refine lv_iconst (v := 0) hx hb d_h_end_1 (by decide) ?_
  refine lv_aload_n hx hb d_h_end_2 rfl (lv_at hl 0 rfl) ?_
  refine lv_iload_n hx hb d_h_end_3 rfl (lv_at hl 1 rfl) ?_
  rcases hR_some Heq with ⟨r, hm, rfl, rfl, rfl⟩ | ⟨S1, k, c, hm, hk, rfl, rfl, rfl⟩
  · refine va_calli (va_runV (As := [.int p0]) (rest := [.int 0, .ref a]) ⟨hx, hb, hml, hown, hts⟩ (g_cJT_end l hfl D s.heap.size (ad := ad) (cc := cc) (sad := sad) (sav := sav) hm) (cw_v 1 hts kw_557 kw_554 kw_555 kw_556 kw_1 rfl rfl (by decide +kernel) ⟨Nat.le_of_ble_eq_true rfl, Nat.le_of_ble_eq_true rfl⟩) ⟨c_blind, va_recv hK hPx (ci := 11) (q0 := cPos N 11 0) rfl (cw_obj (k := 11) (by decide) h0), fun U hU hW => c_pre hU hW hPx hKx hDx hev hE hN hNS hS hFc⟩ rfl rfl hl.1 rfl (lv_room (Nat.le_of_ble_eq_true rfl)) d_h_end_4 ⟨Nat.le_of_eq (Nat.zero_add _), Nat.le_of_eq (Nat.zero_add _)⟩) hS (fun q _ h => hFc q h) hFc (fun rz u t H locs ht hvm hw hB hz1 hk1 hS => ?_)
    obtain ⟨hP1, -, hD1⟩ := hB
    rw [ht] at hP1
    obtain ⟨hP, hD⟩ := join_w hP hD hk1 hFc hP1 hD1
    subst hw
    refine lv_i2l hx hb d_h_end_7 rfl ?_
    refine va_last hx hb hK hP hD hS (cw ad cc N r.1).length 7 at_last rfl (i := 0) (x := r.2.toInt64) (vp_in_nI (n := 0) (N := 1) (by decide) (by decide)) d_h_end_8 (fun H locs hP hD hS => ?_)
    rw [set_last] at hP hD
    refine lv_goto (tgt := 15) hx hb d_h_end_9 (by decide) ?_
    refine lv_iconst (v := 0) hx hb d_h_end_15 (by decide) ?_
    refine W.cs (cells' := 0) (slots' := 0) rfl rfl ?_
    exact W.iret (v := 0) hx hb hr (fun t ht hW => ⟨⟨0, ad, rfl, rfl, Ext.rf, by rw [ht]; exact hP, va_K.moved hW.alike hK, hD⟩, hS.F ht⟩) hS.2.2 d_h_end_16
  · rcases lk_cons hk with ⟨hc, rfl⟩ | hk
    · refine tx_catch (tx_runV (As := [.int p0]) (rest := [.int 0, .ref a]) ⟨hx, hb, hml, hown, hts⟩ (g_cJT_end_t l hfl D s.heap.size (ad := ad) (cc := cc) (sad := sad) (sav := sav) hm) (cw_v 1 hts kw_557 kw_554 kw_555 kw_556 kw_1 rfl rfl (by decide +kernel) ⟨Nat.le_of_ble_eq_true rfl, Nat.le_of_ble_eq_true rfl⟩) ⟨c_blind, va_recv hK hPx (ci := 11) (q0 := cPos N 11 0) rfl (cw_obj (k := 11) (by decide) h0), fun U hU hW => c_pre hU hW hPx hKx hDx hev hE hN hNS hS hFc⟩ rfl rfl hl.1 rfl (lv_room (Nat.le_of_ble_eq_true rfl)) d_h_end_4 ⟨Nat.le_of_eq (Nat.zero_add _), Nat.le_of_eq (Nat.zero_add _)⟩) hown hS hFc htab [] [] (0, 9, 12, 19) rfl (by decide) (by decide) (hts _ kw_553) (by rw [hc]; exact va_Nw.use rfl hev.2.2.2.2.2.1.1) (fun y hy => absurd hy List.not_mem_nil) (fun z H locs hz1 hk1 hB hS => ?_)
      have hP1 := hB
      have hD1 := d_cw S1 (hD0x.self (sz := s.heap.size))
      obtain ⟨hP, hD⟩ := join_w hP hD hk1 hFc hP1 hD1
      refine lv_astore_n (lv' := [(3, .ref z), (0, .ref (ad 11 0)), (1, .int p0), (2, .ref a)]) hx hb d_h_end_12 rfl hl (by decide) rfl (fun ls hl => ?_)
      refine lv_iconst (v := 1) hx hb d_h_end_13 (by decide) ?_
      refine W.cs (cells' := 1) (slots' := 6) rfl rfl ?_
      exact W.iret (v := 1) hx hb hr (fun t ht hW => ⟨⟨1, ad, rfl, rfl, Ext.rf, by rw [ht]; exact hP, va_K.moved hW.alike hK, hD⟩, hS.F ht⟩) hS.2.2 d_h_end_14
    exact (lk_nil hk).elim
noncomputable def h_set (N : Nat → Nat) (S : CS) (ov : Nat → Int64) (p0 : Int32) (p1 : Int32) (p2 : Int32) (p3 : Int64) : Option (((Nat → Nat) × CS × (Nat → Int64) × Int32) × Nat × Nat) := gl 0 (N 11) (hA [(1, 1), (2, 2), (3, 3), (4, 4)] ov (m_cJT_set N 0 S p0 p1 p2 p3))
theorem d_h_set_0 : decode method_5_code 0 = .ok (.aload 6, 2) := by decide +kernel
theorem d_h_set_2 : decode method_5_code 2 = .ok (.iconst 0, 1) := by decide +kernel
theorem d_h_set_3 : decode method_5_code 3 = .ok (.aload_n 0, 1) := by decide +kernel
theorem d_h_set_4 : decode method_5_code 4 = .ok (.iload_n 1, 1) := by decide +kernel
theorem d_h_set_5 : decode method_5_code 5 = .ok (.iload_n 2, 1) := by decide +kernel
theorem d_h_set_6 : decode method_5_code 6 = .ok (.iload_n 3, 1) := by decide +kernel
theorem d_h_set_7 : decode method_5_code 7 = .ok (.lload 4, 2) := by decide +kernel
theorem d_h_set_9 : decode method_5_code 9 = .ok (.invokevirtual 21, 3) := by decide +kernel
theorem d_h_set_12 : decode method_5_code 12 = .ok (.i2l, 1) := by decide +kernel
theorem d_h_set_13 : decode method_5_code 13 = .ok (.lastore, 1) := by decide +kernel
theorem d_h_set_14 : decode method_5_code 14 = .ok (.goto 19, 3) := by decide +kernel
theorem d_h_set_33 : decode method_5_code 33 = .ok (.iconst 0, 1) := by decide +kernel
theorem d_h_set_34 : decode method_5_code 34 = .ok (.ireturn, 1) := by decide +kernel
theorem d_h_set_17 : decode method_5_code 17 = .ok (.astore 7, 2) := by decide +kernel
theorem d_h_set_19 : decode method_5_code 19 = .ok (.iconst 1, 1) := by decide +kernel
theorem d_h_set_20 : decode method_5_code 20 = .ok (.ireturn, 1) := by decide +kernel
theorem d_h_set_21 : decode method_5_code 21 = .ok (.astore 7, 2) := by decide +kernel
theorem d_h_set_23 : decode method_5_code 23 = .ok (.iconst 2, 1) := by decide +kernel
theorem d_h_set_24 : decode method_5_code 24 = .ok (.ireturn, 1) := by decide +kernel
theorem d_h_set_25 : decode method_5_code 25 = .ok (.astore 7, 2) := by decide +kernel
theorem d_h_set_27 : decode method_5_code 27 = .ok (.iconst 3, 1) := by decide +kernel
theorem d_h_set_28 : decode method_5_code 28 = .ok (.ireturn, 1) := by decide +kernel
theorem d_h_set_29 : decode method_5_code 29 = .ok (.astore 7, 2) := by decide +kernel
theorem d_h_set_31 : decode method_5_code 31 = .ok (.iconst 4, 1) := by decide +kernel
theorem d_h_set_32 : decode method_5_code 32 = .ok (.ireturn, 1) := by decide +kernel
set_option maxHeartbeats 4000000 in
set_option maxRecDepth 100000 in
theorem g_h_set (l : Launch) (hfl : l.flags = flags0) (D : va_G) (sz : Nat) {ad : Nat → Nat → Nat} {cc : Nat → ClassId} {sad sav : Nat → Nat} {N : Nat → Nat} {S : CS} {cL : ClassId} {a : Nat} {ov : Nat → Int64} {p0 : Int32} {p1 : Int32} {p2 : Int32} {p3 : Int64} {o : ((Nat → Nat) × CS × (Nat → Int64) × Int32)} {oc os : Nat} (Heq : h_set N S ov p0 p1 p2 p3 = some (o, oc, os)) : Met l ⟨"JoinedTreesLaw", "set", "(LJoinedTrees;IIIJ[J)I"⟩ (Cond.codeWith ⟨"JoinedTreesLaw", "set", "(LJoinedTrees;IIIJ[J)I"⟩ method_5_code 8 (some .int) [(0, 14, 17, 19), (0, 14, 21, 25), (0, 14, 25, 27), (0, 14, 29, 13)] :: gb) ({ frames := 9, cells := oc, slots := os, locals := 169 }) (hPc sad sav D (cw ad cc N S ++ [oA cL a ov]) (cty cc ++ [(cL, .long)]) sz [.ref (ad 11 0), .int p0, .int p1, .int p2, .long p3, .ref a]) (va_Qi (fun (r : Int32) (_ : Nat → Nat → Nat) => r = o.2.2.2) (fun (u : Nat → Nat → Nat) t => Ext ad N u o.1 ∧ gO D (cw u cc o.1 o.2.1 ++ [oA cL a o.2.2.1]) (cty cc ++ [(cL, .long)]) (va_A (cw ad cc N S ++ [oA cL a ov]) sz) t) (va_A (cw ad cc N S ++ [oA cL a ov]) sz)) oc os (va_A (cw ad cc N S ++ [oA cL a ov]) sz) := by
  refine tx_ofW (cc := method_5_code) (maxL := 8) (ret := (some .int)) (hs := [(0, 14, 17, 19), (0, 14, 21, 25), (0, 14, 25, 27), (0, 14, 29, 13)]) (by decide) rfl ?_
  intro p e s m args below meth c s₁ B hml htab hv
  obtain ⟨rfl, hsz, hP, hK, hD0, hev, hE, hN, hH⟩ := hv
  have hx := B.exec
  have hb := B.bytes
  have hr := B.returns
  have hts : ∀ w9 ∈ gb, w9.before [.ref (ad 11 0), .int p0, .int p1, .int p2, .long p3, .ref a].toArray s = true := fun w9 h => atoms_spec (ws := Cond.codeWith ⟨"JoinedTreesLaw", "set", "(LJoinedTrees;IIIJ[J)I"⟩ method_5_code 8 (some .int) [(0, 14, 17, 19), (0, 14, 21, 25), (0, 14, 25, 27), (0, 14, 29, 13)] :: gb) B.pre w9 (List.mem_cons_of_mem _ h)
  have hown : s.vm.findClass "JoinedTreesLaw" = some m.cls := findClass_of_methodNamed B.named
  subst hsz
  have hNS := ns_of hP
  have hD := hD0.self (sz := s.heap.size)
  have hD0x := d_l hD0
  generalize hAe : va_A (cw ad cc N S ++ [oA cL a ov]) s.heap.size = A at hD hev hE hNS ⊢
  have hA : ∀ q : Nat, s.heap.size ≤ q → A q := fun q h => by rw [← hAe]; exact Or.inr h
  have hS : va_S A s.heap s.heap [] := va_S.rf
  obtain ⟨ls, hl, hle⟩ : ∃ ls : Array Slot, lv_has ls 8 [(0, .ref (ad 11 0)), (1, .int p0), (2, .int p1), (3, .int p2), (4, .long p3), (6, .ref a)] ∧ entryFrame m ([.ref (ad 11 0), .int p0, .int p1, .int p2, .long p3, .ref a] : List Value).toArray 8 = F0 m 0 ls [] := ⟨_, lv_entry (n := 8) _ (Nat.le_of_ble_eq_true rfl), lg_entry_eq ..⟩
  rw [hle]
  have hPx := p_l hP
  have hDx := d_l hD
  have hFc := fr_all hDx hS hA
  have hKx := hK.sub (tys' := cty cc) [0, 1, 2, 3, 4, 5, 6] rfl
  obtain ⟨h0, Heq⟩ := gl_some Heq
  refine lv_aload hx hb d_h_set_0 (lv_at hl 5 rfl) ?_
  refine lv_iconst (v := 0) hx hb d_h_set_2 (by decide) ?_
  refine lv_aload_n hx hb d_h_set_3 rfl (lv_at hl 0 rfl) ?_
  refine lv_iload_n hx hb d_h_set_4 rfl (lv_at hl 1 rfl) ?_
  refine lv_iload_n hx hb d_h_set_5 rfl (lv_at hl 2 rfl) ?_
  refine lv_iload_n hx hb d_h_set_6 rfl (lv_at hl 3 rfl) ?_
  refine lv_lload hx hb d_h_set_7 (lv_at hl 4 rfl) ?_
  rcases hA_some Heq with ⟨N1, S1, v, hm, rfl⟩ | ⟨N1, S1, k, c, hm, hk, rfl⟩
  · refine va_calli (va_runV (As := [.int p0, .int p1, .int p2, .long p3]) (rest := [.int 0, .ref a]) ⟨hx, hb, hml, hown, hts⟩ (g_cJT_set l hfl D s.heap.size (ad := ad) (cc := cc) (sad := sad) (sav := sav) hm) (cw_v 4 hts kw_585 kw_582 kw_583 kw_584 kw_1 rfl rfl (by decide +kernel) ⟨Nat.le_of_ble_eq_true rfl, Nat.le_of_ble_eq_true rfl⟩) ⟨c_blind, va_recv hK hPx (ci := 11) (q0 := cPos N 11 0) rfl (cw_obj (k := 11) (by decide) h0), fun U hU hW => c_pre hU hW hPx hKx hDx hev hE hN hNS hS hFc⟩ rfl rfl hl.1 rfl (lv_room (Nat.le_of_ble_eq_true rfl)) d_h_set_9 ⟨Nat.le_of_eq (Nat.zero_add _), Nat.le_of_eq (Nat.zero_add _)⟩) hS (fun q _ h => hFc q h) hFc (fun rz ad1 t H locs ht hvm hw hB hz1 hk1 hS => ?_)
    obtain ⟨hX, hP1, -, hD1⟩ := hB
    rw [ht] at hP1
    obtain ⟨hP, hD⟩ := join_w hP hD hk1 hFc hP1 hD1
    subst hw
    refine lv_i2l hx hb d_h_set_12 rfl ?_
    refine va_last hx hb hK hP hD hS (cw ad1 cc N1 S1).length 7 at_last rfl (i := 0) (x := rz.toInt64) (vp_in_nI (n := 0) (N := 1) (by decide) (by decide)) d_h_set_13 (fun H locs hP hD hS => ?_)
    rw [set_last] at hP hD
    refine lv_goto (tgt := 33) hx hb d_h_set_14 (by decide) ?_
    refine lv_iconst (v := 0) hx hb d_h_set_33 (by decide) ?_
    refine W.cs (cells' := _) (slots' := _) (Nat.zero_add _) (Nat.zero_add _) ?_
    exact W.iret (v := 0) hx hb hr (fun t ht hW => ⟨⟨0, ad1, rfl, rfl, hX, by rw [ht]; exact hP, va_K.moved hW.alike hK, hD⟩, hS.F ht⟩) hS.2.2 d_h_set_34
  · rcases lk_cons hk with ⟨hc, rfl⟩ | hk
    · refine tx_catch (tx_runV (As := [.int p0, .int p1, .int p2, .long p3]) (rest := [.int 0, .ref a]) ⟨hx, hb, hml, hown, hts⟩ (g_cJT_set_t l hfl D s.heap.size (ad := ad) (cc := cc) (sad := sad) (sav := sav) hm) (cw_v 4 hts kw_585 kw_582 kw_583 kw_584 kw_1 rfl rfl (by decide +kernel) ⟨Nat.le_of_ble_eq_true rfl, Nat.le_of_ble_eq_true rfl⟩) ⟨c_blind, va_recv hK hPx (ci := 11) (q0 := cPos N 11 0) rfl (cw_obj (k := 11) (by decide) h0), fun U hU hW => c_pre hU hW hPx hKx hDx hev hE hN hNS hS hFc⟩ rfl rfl hl.1 rfl (lv_room (Nat.le_of_ble_eq_true rfl)) d_h_set_9 ⟨Nat.le_of_eq (Nat.zero_add _), Nat.le_of_eq (Nat.zero_add _)⟩) hown hS hFc htab [] [(0, 14, 21, 25), (0, 14, 25, 27), (0, 14, 29, 13)] (0, 14, 17, 19) rfl (by decide) (by decide) (hts _ kw_553) (by rw [hc]; exact va_Nw.use rfl hev.2.2.2.2.2.1.1) (fun y hy => absurd hy List.not_mem_nil) (fun z H locs hz1 hk1 hB hS => ?_)
      obtain ⟨ad1, hX, hP1, hD1⟩ := hB
      obtain ⟨hP, hD⟩ := join_w hP hD hk1 hFc hP1 hD1
      refine lv_astore (lv' := [(7, .ref z), (0, .ref (ad 11 0)), (1, .int p0), (2, .int p1), (3, .int p2), (4, .long p3), (6, .ref a)]) hx hb d_h_set_17 hl (by decide) rfl (fun ls hl => ?_)
      refine lv_iconst (v := 1) hx hb d_h_set_19 (by decide) ?_
      refine W.cs (cells' := _) (slots' := _) (Nat.zero_add _) (Nat.zero_add _) ?_
      exact W.iret (v := 1) hx hb hr (fun t ht hW => ⟨⟨1, ad1, rfl, rfl, hX, by rw [ht]; exact hP, va_K.moved hW.alike hK, hD⟩, hS.F ht⟩) hS.2.2 d_h_set_20
    rcases lk_cons hk with ⟨hc, rfl⟩ | hk
    · refine tx_catch (tx_runV (As := [.int p0, .int p1, .int p2, .long p3]) (rest := [.int 0, .ref a]) ⟨hx, hb, hml, hown, hts⟩ (g_cJT_set_t l hfl D s.heap.size (ad := ad) (cc := cc) (sad := sad) (sav := sav) hm) (cw_v 4 hts kw_585 kw_582 kw_583 kw_584 kw_1 rfl rfl (by decide +kernel) ⟨Nat.le_of_ble_eq_true rfl, Nat.le_of_ble_eq_true rfl⟩) ⟨c_blind, va_recv hK hPx (ci := 11) (q0 := cPos N 11 0) rfl (cw_obj (k := 11) (by decide) h0), fun U hU hW => c_pre hU hW hPx hKx hDx hev hE hN hNS hS hFc⟩ rfl rfl hl.1 rfl (lv_room (Nat.le_of_ble_eq_true rfl)) d_h_set_9 ⟨Nat.le_of_eq (Nat.zero_add _), Nat.le_of_eq (Nat.zero_add _)⟩) hown hS hFc htab [(0, 14, 17, 19)] [(0, 14, 25, 27), (0, 14, 29, 13)] (0, 14, 21, 25) rfl (by decide) (by decide) (hts _ kw_580) (by rw [hc]; exact va_Nw.use rfl hev.2.2.2.2.2.1.2.1) (List.forall_mem_cons.mpr ⟨⟨by decide, by decide, "java/lang/IllegalArgumentException", hts _ kw_553, by rw [hc]; exact hev.2.2.2.2.2.2.2.1.2.2⟩, fun y hy => absurd hy List.not_mem_nil⟩) (fun z H locs hz1 hk1 hB hS => ?_)
      obtain ⟨ad1, hX, hP1, hD1⟩ := hB
      obtain ⟨hP, hD⟩ := join_w hP hD hk1 hFc hP1 hD1
      refine lv_astore (lv' := [(7, .ref z), (0, .ref (ad 11 0)), (1, .int p0), (2, .int p1), (3, .int p2), (4, .long p3), (6, .ref a)]) hx hb d_h_set_21 hl (by decide) rfl (fun ls hl => ?_)
      refine lv_iconst (v := 2) hx hb d_h_set_23 (by decide) ?_
      refine W.cs (cells' := _) (slots' := _) (Nat.zero_add _) (Nat.zero_add _) ?_
      exact W.iret (v := 2) hx hb hr (fun t ht hW => ⟨⟨2, ad1, rfl, rfl, hX, by rw [ht]; exact hP, va_K.moved hW.alike hK, hD⟩, hS.F ht⟩) hS.2.2 d_h_set_24
    rcases lk_cons hk with ⟨hc, rfl⟩ | hk
    · refine tx_catch (tx_runV (As := [.int p0, .int p1, .int p2, .long p3]) (rest := [.int 0, .ref a]) ⟨hx, hb, hml, hown, hts⟩ (g_cJT_set_t l hfl D s.heap.size (ad := ad) (cc := cc) (sad := sad) (sav := sav) hm) (cw_v 4 hts kw_585 kw_582 kw_583 kw_584 kw_1 rfl rfl (by decide +kernel) ⟨Nat.le_of_ble_eq_true rfl, Nat.le_of_ble_eq_true rfl⟩) ⟨c_blind, va_recv hK hPx (ci := 11) (q0 := cPos N 11 0) rfl (cw_obj (k := 11) (by decide) h0), fun U hU hW => c_pre hU hW hPx hKx hDx hev hE hN hNS hS hFc⟩ rfl rfl hl.1 rfl (lv_room (Nat.le_of_ble_eq_true rfl)) d_h_set_9 ⟨Nat.le_of_eq (Nat.zero_add _), Nat.le_of_eq (Nat.zero_add _)⟩) hown hS hFc htab [(0, 14, 17, 19), (0, 14, 21, 25)] [(0, 14, 29, 13)] (0, 14, 25, 27) rfl (by decide) (by decide) (hts _ kw_581) (by rw [hc]; exact va_Nw.use rfl hev.2.2.2.2.2.1.2.2.1) (List.forall_mem_cons.mpr ⟨⟨by decide, by decide, "java/lang/IllegalArgumentException", hts _ kw_553, by rw [hc]; exact hev.2.2.2.2.2.2.2.1.1⟩, List.forall_mem_cons.mpr ⟨⟨by decide, by decide, "java/lang/IllegalStateException", hts _ kw_580, by rw [hc]; exact hev.2.2.2.2.2.2.2.1.2.1⟩, fun y hy => absurd hy List.not_mem_nil⟩⟩) (fun z H locs hz1 hk1 hB hS => ?_)
      obtain ⟨ad1, hX, hP1, hD1⟩ := hB
      obtain ⟨hP, hD⟩ := join_w hP hD hk1 hFc hP1 hD1
      refine lv_astore (lv' := [(7, .ref z), (0, .ref (ad 11 0)), (1, .int p0), (2, .int p1), (3, .int p2), (4, .long p3), (6, .ref a)]) hx hb d_h_set_25 hl (by decide) rfl (fun ls hl => ?_)
      refine lv_iconst (v := 3) hx hb d_h_set_27 (by decide) ?_
      refine W.cs (cells' := _) (slots' := _) (Nat.zero_add _) (Nat.zero_add _) ?_
      exact W.iret (v := 3) hx hb hr (fun t ht hW => ⟨⟨3, ad1, rfl, rfl, hX, by rw [ht]; exact hP, va_K.moved hW.alike hK, hD⟩, hS.F ht⟩) hS.2.2 d_h_set_28
    rcases lk_cons hk with ⟨hc, rfl⟩ | hk
    · refine tx_catch (tx_runV (As := [.int p0, .int p1, .int p2, .long p3]) (rest := [.int 0, .ref a]) ⟨hx, hb, hml, hown, hts⟩ (g_cJT_set_t l hfl D s.heap.size (ad := ad) (cc := cc) (sad := sad) (sav := sav) hm) (cw_v 4 hts kw_585 kw_582 kw_583 kw_584 kw_1 rfl rfl (by decide +kernel) ⟨Nat.le_of_ble_eq_true rfl, Nat.le_of_ble_eq_true rfl⟩) ⟨c_blind, va_recv hK hPx (ci := 11) (q0 := cPos N 11 0) rfl (cw_obj (k := 11) (by decide) h0), fun U hU hW => c_pre hU hW hPx hKx hDx hev hE hN hNS hS hFc⟩ rfl rfl hl.1 rfl (lv_room (Nat.le_of_ble_eq_true rfl)) d_h_set_9 ⟨Nat.le_of_eq (Nat.zero_add _), Nat.le_of_eq (Nat.zero_add _)⟩) hown hS hFc htab [(0, 14, 17, 19), (0, 14, 21, 25), (0, 14, 25, 27)] [] (0, 14, 29, 13) rfl (by decide) (by decide) (hts _ kw_468) (by rw [hc]; exact va_Nw.use rfl hev.2.2.2.2.2.1.2.2.2) (List.forall_mem_cons.mpr ⟨⟨by decide, by decide, "java/lang/IllegalArgumentException", hts _ kw_553, by rw [hc]; exact hH.1⟩, List.forall_mem_cons.mpr ⟨⟨by decide, by decide, "java/lang/IllegalStateException", hts _ kw_580, by rw [hc]; exact hH.2.1⟩, List.forall_mem_cons.mpr ⟨⟨by decide, by decide, "java/util/NoSuchElementException", hts _ kw_581, by rw [hc]; exact hH.2.2.1⟩, fun y hy => absurd hy List.not_mem_nil⟩⟩⟩) (fun z H locs hz1 hk1 hB hS => ?_)
      obtain ⟨ad1, hX, hP1, hD1⟩ := hB
      obtain ⟨hP, hD⟩ := join_w hP hD hk1 hFc hP1 hD1
      refine lv_astore (lv' := [(7, .ref z), (0, .ref (ad 11 0)), (1, .int p0), (2, .int p1), (3, .int p2), (4, .long p3), (6, .ref a)]) hx hb d_h_set_29 hl (by decide) rfl (fun ls hl => ?_)
      refine lv_iconst (v := 4) hx hb d_h_set_31 (by decide) ?_
      refine W.cs (cells' := _) (slots' := _) (Nat.zero_add _) (Nat.zero_add _) ?_
      exact W.iret (v := 4) hx hb hr (fun t ht hW => ⟨⟨4, ad1, rfl, rfl, hX, by rw [ht]; exact hP, va_K.moved hW.alike hK, hD⟩, hS.F ht⟩) hS.2.2 d_h_set_32
    exact (lk_nil hk).elim
noncomputable def h_put (N : Nat → Nat) (S : CS) (ov : Nat → Int64) (p0 : Int32) (p1 : Int32) (p2 : Int32) (p3 : Int32) (p4 : Int64) : Option (((Nat → Nat) × CS × (Nat → Int64) × Int32) × Nat × Nat) := gl 0 (N 11) (hA [(1, 1), (2, 2), (3, 3), (4, 4)] ov (m_cJT_put N 0 S p0 p1 p2 p3 p4))
theorem d_h_put_0 : decode method_6_code 0 = .ok (.aload 7, 2) := by decide +kernel
theorem d_h_put_2 : decode method_6_code 2 = .ok (.iconst 0, 1) := by decide +kernel
theorem d_h_put_3 : decode method_6_code 3 = .ok (.aload_n 0, 1) := by decide +kernel
theorem d_h_put_4 : decode method_6_code 4 = .ok (.iload_n 1, 1) := by decide +kernel
theorem d_h_put_5 : decode method_6_code 5 = .ok (.iload_n 2, 1) := by decide +kernel
theorem d_h_put_6 : decode method_6_code 6 = .ok (.iload_n 3, 1) := by decide +kernel
theorem d_h_put_7 : decode method_6_code 7 = .ok (.iload 4, 2) := by decide +kernel
theorem d_h_put_9 : decode method_6_code 9 = .ok (.lload 5, 2) := by decide +kernel
theorem d_h_put_11 : decode method_6_code 11 = .ok (.invokevirtual 29, 3) := by decide +kernel
theorem d_h_put_14 : decode method_6_code 14 = .ok (.i2l, 1) := by decide +kernel
theorem d_h_put_15 : decode method_6_code 15 = .ok (.lastore, 1) := by decide +kernel
theorem d_h_put_16 : decode method_6_code 16 = .ok (.goto 19, 3) := by decide +kernel
theorem d_h_put_35 : decode method_6_code 35 = .ok (.iconst 0, 1) := by decide +kernel
theorem d_h_put_36 : decode method_6_code 36 = .ok (.ireturn, 1) := by decide +kernel
theorem d_h_put_19 : decode method_6_code 19 = .ok (.astore 8, 2) := by decide +kernel
theorem d_h_put_21 : decode method_6_code 21 = .ok (.iconst 1, 1) := by decide +kernel
theorem d_h_put_22 : decode method_6_code 22 = .ok (.ireturn, 1) := by decide +kernel
theorem d_h_put_23 : decode method_6_code 23 = .ok (.astore 8, 2) := by decide +kernel
theorem d_h_put_25 : decode method_6_code 25 = .ok (.iconst 2, 1) := by decide +kernel
theorem d_h_put_26 : decode method_6_code 26 = .ok (.ireturn, 1) := by decide +kernel
theorem d_h_put_27 : decode method_6_code 27 = .ok (.astore 8, 2) := by decide +kernel
theorem d_h_put_29 : decode method_6_code 29 = .ok (.iconst 3, 1) := by decide +kernel
theorem d_h_put_30 : decode method_6_code 30 = .ok (.ireturn, 1) := by decide +kernel
theorem d_h_put_31 : decode method_6_code 31 = .ok (.astore 8, 2) := by decide +kernel
theorem d_h_put_33 : decode method_6_code 33 = .ok (.iconst 4, 1) := by decide +kernel
theorem d_h_put_34 : decode method_6_code 34 = .ok (.ireturn, 1) := by decide +kernel
set_option maxHeartbeats 4000000 in
set_option maxRecDepth 100000 in
theorem g_h_put (l : Launch) (hfl : l.flags = flags0) (D : va_G) (sz : Nat) {ad : Nat → Nat → Nat} {cc : Nat → ClassId} {sad sav : Nat → Nat} {N : Nat → Nat} {S : CS} {cL : ClassId} {a : Nat} {ov : Nat → Int64} {p0 : Int32} {p1 : Int32} {p2 : Int32} {p3 : Int32} {p4 : Int64} {o : ((Nat → Nat) × CS × (Nat → Int64) × Int32)} {oc os : Nat} (Heq : h_put N S ov p0 p1 p2 p3 p4 = some (o, oc, os)) : Met l ⟨"JoinedTreesLaw", "put", "(LJoinedTrees;IIIIJ[J)I"⟩ (Cond.codeWith ⟨"JoinedTreesLaw", "put", "(LJoinedTrees;IIIIJ[J)I"⟩ method_6_code 9 (some .int) [(0, 16, 19, 19), (0, 16, 23, 25), (0, 16, 27, 27), (0, 16, 31, 13)] :: gb) ({ frames := 9, cells := oc, slots := os, locals := 170 }) (hPc sad sav D (cw ad cc N S ++ [oA cL a ov]) (cty cc ++ [(cL, .long)]) sz [.ref (ad 11 0), .int p0, .int p1, .int p2, .int p3, .long p4, .ref a]) (va_Qi (fun (r : Int32) (_ : Nat → Nat → Nat) => r = o.2.2.2) (fun (u : Nat → Nat → Nat) t => Ext ad N u o.1 ∧ gO D (cw u cc o.1 o.2.1 ++ [oA cL a o.2.2.1]) (cty cc ++ [(cL, .long)]) (va_A (cw ad cc N S ++ [oA cL a ov]) sz) t) (va_A (cw ad cc N S ++ [oA cL a ov]) sz)) oc os (va_A (cw ad cc N S ++ [oA cL a ov]) sz) := by
  refine tx_ofW (cc := method_6_code) (maxL := 9) (ret := (some .int)) (hs := [(0, 16, 19, 19), (0, 16, 23, 25), (0, 16, 27, 27), (0, 16, 31, 13)]) (by decide) rfl ?_
  intro p e s m args below meth c s₁ B hml htab hv
  obtain ⟨rfl, hsz, hP, hK, hD0, hev, hE, hN, hH⟩ := hv
  have hx := B.exec
  have hb := B.bytes
  have hr := B.returns
  have hts : ∀ w9 ∈ gb, w9.before [.ref (ad 11 0), .int p0, .int p1, .int p2, .int p3, .long p4, .ref a].toArray s = true := fun w9 h => atoms_spec (ws := Cond.codeWith ⟨"JoinedTreesLaw", "put", "(LJoinedTrees;IIIIJ[J)I"⟩ method_6_code 9 (some .int) [(0, 16, 19, 19), (0, 16, 23, 25), (0, 16, 27, 27), (0, 16, 31, 13)] :: gb) B.pre w9 (List.mem_cons_of_mem _ h)
  have hown : s.vm.findClass "JoinedTreesLaw" = some m.cls := findClass_of_methodNamed B.named
  subst hsz
  have hNS := ns_of hP
  have hD := hD0.self (sz := s.heap.size)
  have hD0x := d_l hD0
  generalize hAe : va_A (cw ad cc N S ++ [oA cL a ov]) s.heap.size = A at hD hev hE hNS ⊢
  have hA : ∀ q : Nat, s.heap.size ≤ q → A q := fun q h => by rw [← hAe]; exact Or.inr h
  have hS : va_S A s.heap s.heap [] := va_S.rf
  obtain ⟨ls, hl, hle⟩ : ∃ ls : Array Slot, lv_has ls 9 [(0, .ref (ad 11 0)), (1, .int p0), (2, .int p1), (3, .int p2), (4, .int p3), (5, .long p4), (7, .ref a)] ∧ entryFrame m ([.ref (ad 11 0), .int p0, .int p1, .int p2, .int p3, .long p4, .ref a] : List Value).toArray 9 = F0 m 0 ls [] := ⟨_, lv_entry (n := 9) _ (Nat.le_of_ble_eq_true rfl), lg_entry_eq ..⟩
  rw [hle]
  have hPx := p_l hP
  have hDx := d_l hD
  have hFc := fr_all hDx hS hA
  have hKx := hK.sub (tys' := cty cc) [0, 1, 2, 3, 4, 5, 6] rfl
  obtain ⟨h0, Heq⟩ := gl_some Heq
  refine lv_aload hx hb d_h_put_0 (lv_at hl 6 rfl) ?_
  refine lv_iconst (v := 0) hx hb d_h_put_2 (by decide) ?_
  refine lv_aload_n hx hb d_h_put_3 rfl (lv_at hl 0 rfl) ?_
  refine lv_iload_n hx hb d_h_put_4 rfl (lv_at hl 1 rfl) ?_
  refine lv_iload_n hx hb d_h_put_5 rfl (lv_at hl 2 rfl) ?_
  refine lv_iload_n hx hb d_h_put_6 rfl (lv_at hl 3 rfl) ?_
  refine lv_iload hx hb d_h_put_7 (lv_at hl 4 rfl) ?_
  refine lv_lload hx hb d_h_put_9 (lv_at hl 5 rfl) ?_
  rcases hA_some Heq with ⟨N1, S1, v, hm, rfl⟩ | ⟨N1, S1, k, c, hm, hk, rfl⟩
  · refine va_calli (va_runV (As := [.int p0, .int p1, .int p2, .int p3, .long p4]) (rest := [.int 0, .ref a]) ⟨hx, hb, hml, hown, hts⟩ (g_cJT_put l hfl D s.heap.size (ad := ad) (cc := cc) (sad := sad) (sav := sav) hm) (cw_v 5 hts kw_772 kw_769 kw_770 kw_771 kw_1 rfl rfl (by decide +kernel) ⟨Nat.le_of_ble_eq_true rfl, Nat.le_of_ble_eq_true rfl⟩) ⟨c_blind, va_recv hK hPx (ci := 11) (q0 := cPos N 11 0) rfl (cw_obj (k := 11) (by decide) h0), fun U hU hW => c_pre hU hW hPx hKx hDx hev hE hN hNS hS hFc⟩ rfl rfl hl.1 rfl (lv_room (Nat.le_of_ble_eq_true rfl)) d_h_put_11 ⟨Nat.le_of_eq (Nat.zero_add _), Nat.le_of_eq (Nat.zero_add _)⟩) hS (fun q _ h => hFc q h) hFc (fun rz ad1 t H locs ht hvm hw hB hz1 hk1 hS => ?_)
    obtain ⟨hX, hP1, -, hD1⟩ := hB
    rw [ht] at hP1
    obtain ⟨hP, hD⟩ := join_w hP hD hk1 hFc hP1 hD1
    subst hw
    refine lv_i2l hx hb d_h_put_14 rfl ?_
    refine va_last hx hb hK hP hD hS (cw ad1 cc N1 S1).length 7 at_last rfl (i := 0) (x := rz.toInt64) (vp_in_nI (n := 0) (N := 1) (by decide) (by decide)) d_h_put_15 (fun H locs hP hD hS => ?_)
    rw [set_last] at hP hD
    refine lv_goto (tgt := 35) hx hb d_h_put_16 (by decide) ?_
    refine lv_iconst (v := 0) hx hb d_h_put_35 (by decide) ?_
    refine W.cs (cells' := _) (slots' := _) (Nat.zero_add _) (Nat.zero_add _) ?_
    exact W.iret (v := 0) hx hb hr (fun t ht hW => ⟨⟨0, ad1, rfl, rfl, hX, by rw [ht]; exact hP, va_K.moved hW.alike hK, hD⟩, hS.F ht⟩) hS.2.2 d_h_put_36
  · rcases lk_cons hk with ⟨hc, rfl⟩ | hk
    · refine tx_catch (tx_runV (As := [.int p0, .int p1, .int p2, .int p3, .long p4]) (rest := [.int 0, .ref a]) ⟨hx, hb, hml, hown, hts⟩ (g_cJT_put_t l hfl D s.heap.size (ad := ad) (cc := cc) (sad := sad) (sav := sav) hm) (cw_v 5 hts kw_772 kw_769 kw_770 kw_771 kw_1 rfl rfl (by decide +kernel) ⟨Nat.le_of_ble_eq_true rfl, Nat.le_of_ble_eq_true rfl⟩) ⟨c_blind, va_recv hK hPx (ci := 11) (q0 := cPos N 11 0) rfl (cw_obj (k := 11) (by decide) h0), fun U hU hW => c_pre hU hW hPx hKx hDx hev hE hN hNS hS hFc⟩ rfl rfl hl.1 rfl (lv_room (Nat.le_of_ble_eq_true rfl)) d_h_put_11 ⟨Nat.le_of_eq (Nat.zero_add _), Nat.le_of_eq (Nat.zero_add _)⟩) hown hS hFc htab [] [(0, 16, 23, 25), (0, 16, 27, 27), (0, 16, 31, 13)] (0, 16, 19, 19) rfl (by decide) (by decide) (hts _ kw_553) (by rw [hc]; exact va_Nw.use rfl hev.2.2.2.2.2.1.1) (fun y hy => absurd hy List.not_mem_nil) (fun z H locs hz1 hk1 hB hS => ?_)
      obtain ⟨ad1, hX, hP1, hD1⟩ := hB
      obtain ⟨hP, hD⟩ := join_w hP hD hk1 hFc hP1 hD1
      refine lv_astore (lv' := [(8, .ref z), (0, .ref (ad 11 0)), (1, .int p0), (2, .int p1), (3, .int p2), (4, .int p3), (5, .long p4), (7, .ref a)]) hx hb d_h_put_19 hl (by decide) rfl (fun ls hl => ?_)
      refine lv_iconst (v := 1) hx hb d_h_put_21 (by decide) ?_
      refine W.cs (cells' := _) (slots' := _) (Nat.zero_add _) (Nat.zero_add _) ?_
      exact W.iret (v := 1) hx hb hr (fun t ht hW => ⟨⟨1, ad1, rfl, rfl, hX, by rw [ht]; exact hP, va_K.moved hW.alike hK, hD⟩, hS.F ht⟩) hS.2.2 d_h_put_22
    rcases lk_cons hk with ⟨hc, rfl⟩ | hk
    · refine tx_catch (tx_runV (As := [.int p0, .int p1, .int p2, .int p3, .long p4]) (rest := [.int 0, .ref a]) ⟨hx, hb, hml, hown, hts⟩ (g_cJT_put_t l hfl D s.heap.size (ad := ad) (cc := cc) (sad := sad) (sav := sav) hm) (cw_v 5 hts kw_772 kw_769 kw_770 kw_771 kw_1 rfl rfl (by decide +kernel) ⟨Nat.le_of_ble_eq_true rfl, Nat.le_of_ble_eq_true rfl⟩) ⟨c_blind, va_recv hK hPx (ci := 11) (q0 := cPos N 11 0) rfl (cw_obj (k := 11) (by decide) h0), fun U hU hW => c_pre hU hW hPx hKx hDx hev hE hN hNS hS hFc⟩ rfl rfl hl.1 rfl (lv_room (Nat.le_of_ble_eq_true rfl)) d_h_put_11 ⟨Nat.le_of_eq (Nat.zero_add _), Nat.le_of_eq (Nat.zero_add _)⟩) hown hS hFc htab [(0, 16, 19, 19)] [(0, 16, 27, 27), (0, 16, 31, 13)] (0, 16, 23, 25) rfl (by decide) (by decide) (hts _ kw_580) (by rw [hc]; exact va_Nw.use rfl hev.2.2.2.2.2.1.2.1) (List.forall_mem_cons.mpr ⟨⟨by decide, by decide, "java/lang/IllegalArgumentException", hts _ kw_553, by rw [hc]; exact hev.2.2.2.2.2.2.2.1.2.2⟩, fun y hy => absurd hy List.not_mem_nil⟩) (fun z H locs hz1 hk1 hB hS => ?_)
      obtain ⟨ad1, hX, hP1, hD1⟩ := hB
      obtain ⟨hP, hD⟩ := join_w hP hD hk1 hFc hP1 hD1
      refine lv_astore (lv' := [(8, .ref z), (0, .ref (ad 11 0)), (1, .int p0), (2, .int p1), (3, .int p2), (4, .int p3), (5, .long p4), (7, .ref a)]) hx hb d_h_put_23 hl (by decide) rfl (fun ls hl => ?_)
      refine lv_iconst (v := 2) hx hb d_h_put_25 (by decide) ?_
      refine W.cs (cells' := _) (slots' := _) (Nat.zero_add _) (Nat.zero_add _) ?_
      exact W.iret (v := 2) hx hb hr (fun t ht hW => ⟨⟨2, ad1, rfl, rfl, hX, by rw [ht]; exact hP, va_K.moved hW.alike hK, hD⟩, hS.F ht⟩) hS.2.2 d_h_put_26
    rcases lk_cons hk with ⟨hc, rfl⟩ | hk
    · refine tx_catch (tx_runV (As := [.int p0, .int p1, .int p2, .int p3, .long p4]) (rest := [.int 0, .ref a]) ⟨hx, hb, hml, hown, hts⟩ (g_cJT_put_t l hfl D s.heap.size (ad := ad) (cc := cc) (sad := sad) (sav := sav) hm) (cw_v 5 hts kw_772 kw_769 kw_770 kw_771 kw_1 rfl rfl (by decide +kernel) ⟨Nat.le_of_ble_eq_true rfl, Nat.le_of_ble_eq_true rfl⟩) ⟨c_blind, va_recv hK hPx (ci := 11) (q0 := cPos N 11 0) rfl (cw_obj (k := 11) (by decide) h0), fun U hU hW => c_pre hU hW hPx hKx hDx hev hE hN hNS hS hFc⟩ rfl rfl hl.1 rfl (lv_room (Nat.le_of_ble_eq_true rfl)) d_h_put_11 ⟨Nat.le_of_eq (Nat.zero_add _), Nat.le_of_eq (Nat.zero_add _)⟩) hown hS hFc htab [(0, 16, 19, 19), (0, 16, 23, 25)] [(0, 16, 31, 13)] (0, 16, 27, 27) rfl (by decide) (by decide) (hts _ kw_581) (by rw [hc]; exact va_Nw.use rfl hev.2.2.2.2.2.1.2.2.1) (List.forall_mem_cons.mpr ⟨⟨by decide, by decide, "java/lang/IllegalArgumentException", hts _ kw_553, by rw [hc]; exact hev.2.2.2.2.2.2.2.1.1⟩, List.forall_mem_cons.mpr ⟨⟨by decide, by decide, "java/lang/IllegalStateException", hts _ kw_580, by rw [hc]; exact hev.2.2.2.2.2.2.2.1.2.1⟩, fun y hy => absurd hy List.not_mem_nil⟩⟩) (fun z H locs hz1 hk1 hB hS => ?_)
      obtain ⟨ad1, hX, hP1, hD1⟩ := hB
      obtain ⟨hP, hD⟩ := join_w hP hD hk1 hFc hP1 hD1
      refine lv_astore (lv' := [(8, .ref z), (0, .ref (ad 11 0)), (1, .int p0), (2, .int p1), (3, .int p2), (4, .int p3), (5, .long p4), (7, .ref a)]) hx hb d_h_put_27 hl (by decide) rfl (fun ls hl => ?_)
      refine lv_iconst (v := 3) hx hb d_h_put_29 (by decide) ?_
      refine W.cs (cells' := _) (slots' := _) (Nat.zero_add _) (Nat.zero_add _) ?_
      exact W.iret (v := 3) hx hb hr (fun t ht hW => ⟨⟨3, ad1, rfl, rfl, hX, by rw [ht]; exact hP, va_K.moved hW.alike hK, hD⟩, hS.F ht⟩) hS.2.2 d_h_put_30
    rcases lk_cons hk with ⟨hc, rfl⟩ | hk
    · refine tx_catch (tx_runV (As := [.int p0, .int p1, .int p2, .int p3, .long p4]) (rest := [.int 0, .ref a]) ⟨hx, hb, hml, hown, hts⟩ (g_cJT_put_t l hfl D s.heap.size (ad := ad) (cc := cc) (sad := sad) (sav := sav) hm) (cw_v 5 hts kw_772 kw_769 kw_770 kw_771 kw_1 rfl rfl (by decide +kernel) ⟨Nat.le_of_ble_eq_true rfl, Nat.le_of_ble_eq_true rfl⟩) ⟨c_blind, va_recv hK hPx (ci := 11) (q0 := cPos N 11 0) rfl (cw_obj (k := 11) (by decide) h0), fun U hU hW => c_pre hU hW hPx hKx hDx hev hE hN hNS hS hFc⟩ rfl rfl hl.1 rfl (lv_room (Nat.le_of_ble_eq_true rfl)) d_h_put_11 ⟨Nat.le_of_eq (Nat.zero_add _), Nat.le_of_eq (Nat.zero_add _)⟩) hown hS hFc htab [(0, 16, 19, 19), (0, 16, 23, 25), (0, 16, 27, 27)] [] (0, 16, 31, 13) rfl (by decide) (by decide) (hts _ kw_468) (by rw [hc]; exact va_Nw.use rfl hev.2.2.2.2.2.1.2.2.2) (List.forall_mem_cons.mpr ⟨⟨by decide, by decide, "java/lang/IllegalArgumentException", hts _ kw_553, by rw [hc]; exact hH.1⟩, List.forall_mem_cons.mpr ⟨⟨by decide, by decide, "java/lang/IllegalStateException", hts _ kw_580, by rw [hc]; exact hH.2.1⟩, List.forall_mem_cons.mpr ⟨⟨by decide, by decide, "java/util/NoSuchElementException", hts _ kw_581, by rw [hc]; exact hH.2.2.1⟩, fun y hy => absurd hy List.not_mem_nil⟩⟩⟩) (fun z H locs hz1 hk1 hB hS => ?_)
      obtain ⟨ad1, hX, hP1, hD1⟩ := hB
      obtain ⟨hP, hD⟩ := join_w hP hD hk1 hFc hP1 hD1
      refine lv_astore (lv' := [(8, .ref z), (0, .ref (ad 11 0)), (1, .int p0), (2, .int p1), (3, .int p2), (4, .int p3), (5, .long p4), (7, .ref a)]) hx hb d_h_put_31 hl (by decide) rfl (fun ls hl => ?_)
      refine lv_iconst (v := 4) hx hb d_h_put_33 (by decide) ?_
      refine W.cs (cells' := _) (slots' := _) (Nat.zero_add _) (Nat.zero_add _) ?_
      exact W.iret (v := 4) hx hb hr (fun t ht hW => ⟨⟨4, ad1, rfl, rfl, hX, by rw [ht]; exact hP, va_K.moved hW.alike hK, hD⟩, hS.F ht⟩) hS.2.2 d_h_put_34
    exact (lk_nil hk).elim
noncomputable def h_insert (N : Nat → Nat) (S : CS) (ov : Nat → Int64) (p0 : Int32) (p1 : Int32) (p2 : Int32) (p3 : Int32) (p4 : Int64) : Option (((Nat → Nat) × CS × (Nat → Int64) × Int32) × Nat × Nat) := gl 0 (N 11) (hA [(1, 1), (2, 2), (3, 3), (4, 4)] ov (m_cJT_insert N 0 S p0 p1 p2 p3 p4))
theorem d_h_insert_0 : decode method_7_code 0 = .ok (.aload 7, 2) := by decide +kernel
theorem d_h_insert_2 : decode method_7_code 2 = .ok (.iconst 0, 1) := by decide +kernel
theorem d_h_insert_3 : decode method_7_code 3 = .ok (.aload_n 0, 1) := by decide +kernel
theorem d_h_insert_4 : decode method_7_code 4 = .ok (.iload_n 1, 1) := by decide +kernel
theorem d_h_insert_5 : decode method_7_code 5 = .ok (.iload_n 2, 1) := by decide +kernel
theorem d_h_insert_6 : decode method_7_code 6 = .ok (.iload_n 3, 1) := by decide +kernel
theorem d_h_insert_7 : decode method_7_code 7 = .ok (.iload 4, 2) := by decide +kernel
theorem d_h_insert_9 : decode method_7_code 9 = .ok (.lload 5, 2) := by decide +kernel
theorem d_h_insert_11 : decode method_7_code 11 = .ok (.invokevirtual 33, 3) := by decide +kernel
theorem d_h_insert_14 : decode method_7_code 14 = .ok (.i2l, 1) := by decide +kernel
theorem d_h_insert_15 : decode method_7_code 15 = .ok (.lastore, 1) := by decide +kernel
theorem d_h_insert_16 : decode method_7_code 16 = .ok (.goto 19, 3) := by decide +kernel
theorem d_h_insert_35 : decode method_7_code 35 = .ok (.iconst 0, 1) := by decide +kernel
theorem d_h_insert_36 : decode method_7_code 36 = .ok (.ireturn, 1) := by decide +kernel
theorem d_h_insert_19 : decode method_7_code 19 = .ok (.astore 8, 2) := by decide +kernel
theorem d_h_insert_21 : decode method_7_code 21 = .ok (.iconst 1, 1) := by decide +kernel
theorem d_h_insert_22 : decode method_7_code 22 = .ok (.ireturn, 1) := by decide +kernel
theorem d_h_insert_23 : decode method_7_code 23 = .ok (.astore 8, 2) := by decide +kernel
theorem d_h_insert_25 : decode method_7_code 25 = .ok (.iconst 2, 1) := by decide +kernel
theorem d_h_insert_26 : decode method_7_code 26 = .ok (.ireturn, 1) := by decide +kernel
theorem d_h_insert_27 : decode method_7_code 27 = .ok (.astore 8, 2) := by decide +kernel
theorem d_h_insert_29 : decode method_7_code 29 = .ok (.iconst 3, 1) := by decide +kernel
theorem d_h_insert_30 : decode method_7_code 30 = .ok (.ireturn, 1) := by decide +kernel
theorem d_h_insert_31 : decode method_7_code 31 = .ok (.astore 8, 2) := by decide +kernel
theorem d_h_insert_33 : decode method_7_code 33 = .ok (.iconst 4, 1) := by decide +kernel
theorem d_h_insert_34 : decode method_7_code 34 = .ok (.ireturn, 1) := by decide +kernel
set_option maxHeartbeats 4000000 in
set_option maxRecDepth 100000 in
theorem g_h_insert (l : Launch) (hfl : l.flags = flags0) (D : va_G) (sz : Nat) {ad : Nat → Nat → Nat} {cc : Nat → ClassId} {sad sav : Nat → Nat} {N : Nat → Nat} {S : CS} {cL : ClassId} {a : Nat} {ov : Nat → Int64} {p0 : Int32} {p1 : Int32} {p2 : Int32} {p3 : Int32} {p4 : Int64} {o : ((Nat → Nat) × CS × (Nat → Int64) × Int32)} {oc os : Nat} (Heq : h_insert N S ov p0 p1 p2 p3 p4 = some (o, oc, os)) : Met l ⟨"JoinedTreesLaw", "insert", "(LJoinedTrees;IIIIJ[J)I"⟩ (Cond.codeWith ⟨"JoinedTreesLaw", "insert", "(LJoinedTrees;IIIIJ[J)I"⟩ method_7_code 9 (some .int) [(0, 16, 19, 19), (0, 16, 23, 25), (0, 16, 27, 27), (0, 16, 31, 13)] :: gb) ({ frames := 9, cells := oc, slots := os, locals := 171 }) (hPc sad sav D (cw ad cc N S ++ [oA cL a ov]) (cty cc ++ [(cL, .long)]) sz [.ref (ad 11 0), .int p0, .int p1, .int p2, .int p3, .long p4, .ref a]) (va_Qi (fun (r : Int32) (_ : Nat → Nat → Nat) => r = o.2.2.2) (fun (u : Nat → Nat → Nat) t => Ext ad N u o.1 ∧ gO D (cw u cc o.1 o.2.1 ++ [oA cL a o.2.2.1]) (cty cc ++ [(cL, .long)]) (va_A (cw ad cc N S ++ [oA cL a ov]) sz) t) (va_A (cw ad cc N S ++ [oA cL a ov]) sz)) oc os (va_A (cw ad cc N S ++ [oA cL a ov]) sz) := by
  refine tx_ofW (cc := method_7_code) (maxL := 9) (ret := (some .int)) (hs := [(0, 16, 19, 19), (0, 16, 23, 25), (0, 16, 27, 27), (0, 16, 31, 13)]) (by decide) rfl ?_
  intro p e s m args below meth c s₁ B hml htab hv
  obtain ⟨rfl, hsz, hP, hK, hD0, hev, hE, hN, hH⟩ := hv
  have hx := B.exec
  have hb := B.bytes
  have hr := B.returns
  have hts : ∀ w9 ∈ gb, w9.before [.ref (ad 11 0), .int p0, .int p1, .int p2, .int p3, .long p4, .ref a].toArray s = true := fun w9 h => atoms_spec (ws := Cond.codeWith ⟨"JoinedTreesLaw", "insert", "(LJoinedTrees;IIIIJ[J)I"⟩ method_7_code 9 (some .int) [(0, 16, 19, 19), (0, 16, 23, 25), (0, 16, 27, 27), (0, 16, 31, 13)] :: gb) B.pre w9 (List.mem_cons_of_mem _ h)
  have hown : s.vm.findClass "JoinedTreesLaw" = some m.cls := findClass_of_methodNamed B.named
  subst hsz
  have hNS := ns_of hP
  have hD := hD0.self (sz := s.heap.size)
  have hD0x := d_l hD0
  generalize hAe : va_A (cw ad cc N S ++ [oA cL a ov]) s.heap.size = A at hD hev hE hNS ⊢
  have hA : ∀ q : Nat, s.heap.size ≤ q → A q := fun q h => by rw [← hAe]; exact Or.inr h
  have hS : va_S A s.heap s.heap [] := va_S.rf
  obtain ⟨ls, hl, hle⟩ : ∃ ls : Array Slot, lv_has ls 9 [(0, .ref (ad 11 0)), (1, .int p0), (2, .int p1), (3, .int p2), (4, .int p3), (5, .long p4), (7, .ref a)] ∧ entryFrame m ([.ref (ad 11 0), .int p0, .int p1, .int p2, .int p3, .long p4, .ref a] : List Value).toArray 9 = F0 m 0 ls [] := ⟨_, lv_entry (n := 9) _ (Nat.le_of_ble_eq_true rfl), lg_entry_eq ..⟩
  rw [hle]
  have hPx := p_l hP
  have hDx := d_l hD
  have hFc := fr_all hDx hS hA
  have hKx := hK.sub (tys' := cty cc) [0, 1, 2, 3, 4, 5, 6] rfl
  obtain ⟨h0, Heq⟩ := gl_some Heq
  refine lv_aload hx hb d_h_insert_0 (lv_at hl 6 rfl) ?_
  refine lv_iconst (v := 0) hx hb d_h_insert_2 (by decide) ?_
  refine lv_aload_n hx hb d_h_insert_3 rfl (lv_at hl 0 rfl) ?_
  refine lv_iload_n hx hb d_h_insert_4 rfl (lv_at hl 1 rfl) ?_
  refine lv_iload_n hx hb d_h_insert_5 rfl (lv_at hl 2 rfl) ?_
  refine lv_iload_n hx hb d_h_insert_6 rfl (lv_at hl 3 rfl) ?_
  refine lv_iload hx hb d_h_insert_7 (lv_at hl 4 rfl) ?_
  refine lv_lload hx hb d_h_insert_9 (lv_at hl 5 rfl) ?_
  rcases hA_some Heq with ⟨N1, S1, v, hm, rfl⟩ | ⟨N1, S1, k, c, hm, hk, rfl⟩
  · refine va_calli (va_runV (As := [.int p0, .int p1, .int p2, .int p3, .long p4]) (rest := [.int 0, .ref a]) ⟨hx, hb, hml, hown, hts⟩ (g_cJT_insert l hfl D s.heap.size (ad := ad) (cc := cc) (sad := sad) (sav := sav) hm) (cw_v 5 hts kw_796 kw_793 kw_794 kw_795 kw_1 rfl rfl (by decide +kernel) ⟨Nat.le_of_ble_eq_true rfl, Nat.le_of_ble_eq_true rfl⟩) ⟨c_blind, va_recv hK hPx (ci := 11) (q0 := cPos N 11 0) rfl (cw_obj (k := 11) (by decide) h0), fun U hU hW => c_pre hU hW hPx hKx hDx hev hE hN hNS hS hFc⟩ rfl rfl hl.1 rfl (lv_room (Nat.le_of_ble_eq_true rfl)) d_h_insert_11 ⟨Nat.le_of_eq (Nat.zero_add _), Nat.le_of_eq (Nat.zero_add _)⟩) hS (fun q _ h => hFc q h) hFc (fun rz ad1 t H locs ht hvm hw hB hz1 hk1 hS => ?_)
    obtain ⟨hX, hP1, -, hD1⟩ := hB
    rw [ht] at hP1
    obtain ⟨hP, hD⟩ := join_w hP hD hk1 hFc hP1 hD1
    subst hw
    refine lv_i2l hx hb d_h_insert_14 rfl ?_
    refine va_last hx hb hK hP hD hS (cw ad1 cc N1 S1).length 7 at_last rfl (i := 0) (x := rz.toInt64) (vp_in_nI (n := 0) (N := 1) (by decide) (by decide)) d_h_insert_15 (fun H locs hP hD hS => ?_)
    rw [set_last] at hP hD
    refine lv_goto (tgt := 35) hx hb d_h_insert_16 (by decide) ?_
    refine lv_iconst (v := 0) hx hb d_h_insert_35 (by decide) ?_
    refine W.cs (cells' := _) (slots' := _) (Nat.zero_add _) (Nat.zero_add _) ?_
    exact W.iret (v := 0) hx hb hr (fun t ht hW => ⟨⟨0, ad1, rfl, rfl, hX, by rw [ht]; exact hP, va_K.moved hW.alike hK, hD⟩, hS.F ht⟩) hS.2.2 d_h_insert_36
  · rcases lk_cons hk with ⟨hc, rfl⟩ | hk
    · refine tx_catch (tx_runV (As := [.int p0, .int p1, .int p2, .int p3, .long p4]) (rest := [.int 0, .ref a]) ⟨hx, hb, hml, hown, hts⟩ (g_cJT_insert_t l hfl D s.heap.size (ad := ad) (cc := cc) (sad := sad) (sav := sav) hm) (cw_v 5 hts kw_796 kw_793 kw_794 kw_795 kw_1 rfl rfl (by decide +kernel) ⟨Nat.le_of_ble_eq_true rfl, Nat.le_of_ble_eq_true rfl⟩) ⟨c_blind, va_recv hK hPx (ci := 11) (q0 := cPos N 11 0) rfl (cw_obj (k := 11) (by decide) h0), fun U hU hW => c_pre hU hW hPx hKx hDx hev hE hN hNS hS hFc⟩ rfl rfl hl.1 rfl (lv_room (Nat.le_of_ble_eq_true rfl)) d_h_insert_11 ⟨Nat.le_of_eq (Nat.zero_add _), Nat.le_of_eq (Nat.zero_add _)⟩) hown hS hFc htab [] [(0, 16, 23, 25), (0, 16, 27, 27), (0, 16, 31, 13)] (0, 16, 19, 19) rfl (by decide) (by decide) (hts _ kw_553) (by rw [hc]; exact va_Nw.use rfl hev.2.2.2.2.2.1.1) (fun y hy => absurd hy List.not_mem_nil) (fun z H locs hz1 hk1 hB hS => ?_)
      obtain ⟨ad1, hX, hP1, hD1⟩ := hB
      obtain ⟨hP, hD⟩ := join_w hP hD hk1 hFc hP1 hD1
      refine lv_astore (lv' := [(8, .ref z), (0, .ref (ad 11 0)), (1, .int p0), (2, .int p1), (3, .int p2), (4, .int p3), (5, .long p4), (7, .ref a)]) hx hb d_h_insert_19 hl (by decide) rfl (fun ls hl => ?_)
      refine lv_iconst (v := 1) hx hb d_h_insert_21 (by decide) ?_
      refine W.cs (cells' := _) (slots' := _) (Nat.zero_add _) (Nat.zero_add _) ?_
      exact W.iret (v := 1) hx hb hr (fun t ht hW => ⟨⟨1, ad1, rfl, rfl, hX, by rw [ht]; exact hP, va_K.moved hW.alike hK, hD⟩, hS.F ht⟩) hS.2.2 d_h_insert_22
    rcases lk_cons hk with ⟨hc, rfl⟩ | hk
    · refine tx_catch (tx_runV (As := [.int p0, .int p1, .int p2, .int p3, .long p4]) (rest := [.int 0, .ref a]) ⟨hx, hb, hml, hown, hts⟩ (g_cJT_insert_t l hfl D s.heap.size (ad := ad) (cc := cc) (sad := sad) (sav := sav) hm) (cw_v 5 hts kw_796 kw_793 kw_794 kw_795 kw_1 rfl rfl (by decide +kernel) ⟨Nat.le_of_ble_eq_true rfl, Nat.le_of_ble_eq_true rfl⟩) ⟨c_blind, va_recv hK hPx (ci := 11) (q0 := cPos N 11 0) rfl (cw_obj (k := 11) (by decide) h0), fun U hU hW => c_pre hU hW hPx hKx hDx hev hE hN hNS hS hFc⟩ rfl rfl hl.1 rfl (lv_room (Nat.le_of_ble_eq_true rfl)) d_h_insert_11 ⟨Nat.le_of_eq (Nat.zero_add _), Nat.le_of_eq (Nat.zero_add _)⟩) hown hS hFc htab [(0, 16, 19, 19)] [(0, 16, 27, 27), (0, 16, 31, 13)] (0, 16, 23, 25) rfl (by decide) (by decide) (hts _ kw_580) (by rw [hc]; exact va_Nw.use rfl hev.2.2.2.2.2.1.2.1) (List.forall_mem_cons.mpr ⟨⟨by decide, by decide, "java/lang/IllegalArgumentException", hts _ kw_553, by rw [hc]; exact hev.2.2.2.2.2.2.2.1.2.2⟩, fun y hy => absurd hy List.not_mem_nil⟩) (fun z H locs hz1 hk1 hB hS => ?_)
      obtain ⟨ad1, hX, hP1, hD1⟩ := hB
      obtain ⟨hP, hD⟩ := join_w hP hD hk1 hFc hP1 hD1
      refine lv_astore (lv' := [(8, .ref z), (0, .ref (ad 11 0)), (1, .int p0), (2, .int p1), (3, .int p2), (4, .int p3), (5, .long p4), (7, .ref a)]) hx hb d_h_insert_23 hl (by decide) rfl (fun ls hl => ?_)
      refine lv_iconst (v := 2) hx hb d_h_insert_25 (by decide) ?_
      refine W.cs (cells' := _) (slots' := _) (Nat.zero_add _) (Nat.zero_add _) ?_
      exact W.iret (v := 2) hx hb hr (fun t ht hW => ⟨⟨2, ad1, rfl, rfl, hX, by rw [ht]; exact hP, va_K.moved hW.alike hK, hD⟩, hS.F ht⟩) hS.2.2 d_h_insert_26
    rcases lk_cons hk with ⟨hc, rfl⟩ | hk
    · refine tx_catch (tx_runV (As := [.int p0, .int p1, .int p2, .int p3, .long p4]) (rest := [.int 0, .ref a]) ⟨hx, hb, hml, hown, hts⟩ (g_cJT_insert_t l hfl D s.heap.size (ad := ad) (cc := cc) (sad := sad) (sav := sav) hm) (cw_v 5 hts kw_796 kw_793 kw_794 kw_795 kw_1 rfl rfl (by decide +kernel) ⟨Nat.le_of_ble_eq_true rfl, Nat.le_of_ble_eq_true rfl⟩) ⟨c_blind, va_recv hK hPx (ci := 11) (q0 := cPos N 11 0) rfl (cw_obj (k := 11) (by decide) h0), fun U hU hW => c_pre hU hW hPx hKx hDx hev hE hN hNS hS hFc⟩ rfl rfl hl.1 rfl (lv_room (Nat.le_of_ble_eq_true rfl)) d_h_insert_11 ⟨Nat.le_of_eq (Nat.zero_add _), Nat.le_of_eq (Nat.zero_add _)⟩) hown hS hFc htab [(0, 16, 19, 19), (0, 16, 23, 25)] [(0, 16, 31, 13)] (0, 16, 27, 27) rfl (by decide) (by decide) (hts _ kw_581) (by rw [hc]; exact va_Nw.use rfl hev.2.2.2.2.2.1.2.2.1) (List.forall_mem_cons.mpr ⟨⟨by decide, by decide, "java/lang/IllegalArgumentException", hts _ kw_553, by rw [hc]; exact hev.2.2.2.2.2.2.2.1.1⟩, List.forall_mem_cons.mpr ⟨⟨by decide, by decide, "java/lang/IllegalStateException", hts _ kw_580, by rw [hc]; exact hev.2.2.2.2.2.2.2.1.2.1⟩, fun y hy => absurd hy List.not_mem_nil⟩⟩) (fun z H locs hz1 hk1 hB hS => ?_)
      obtain ⟨ad1, hX, hP1, hD1⟩ := hB
      obtain ⟨hP, hD⟩ := join_w hP hD hk1 hFc hP1 hD1
      refine lv_astore (lv' := [(8, .ref z), (0, .ref (ad 11 0)), (1, .int p0), (2, .int p1), (3, .int p2), (4, .int p3), (5, .long p4), (7, .ref a)]) hx hb d_h_insert_27 hl (by decide) rfl (fun ls hl => ?_)
      refine lv_iconst (v := 3) hx hb d_h_insert_29 (by decide) ?_
      refine W.cs (cells' := _) (slots' := _) (Nat.zero_add _) (Nat.zero_add _) ?_
      exact W.iret (v := 3) hx hb hr (fun t ht hW => ⟨⟨3, ad1, rfl, rfl, hX, by rw [ht]; exact hP, va_K.moved hW.alike hK, hD⟩, hS.F ht⟩) hS.2.2 d_h_insert_30
    rcases lk_cons hk with ⟨hc, rfl⟩ | hk
    · refine tx_catch (tx_runV (As := [.int p0, .int p1, .int p2, .int p3, .long p4]) (rest := [.int 0, .ref a]) ⟨hx, hb, hml, hown, hts⟩ (g_cJT_insert_t l hfl D s.heap.size (ad := ad) (cc := cc) (sad := sad) (sav := sav) hm) (cw_v 5 hts kw_796 kw_793 kw_794 kw_795 kw_1 rfl rfl (by decide +kernel) ⟨Nat.le_of_ble_eq_true rfl, Nat.le_of_ble_eq_true rfl⟩) ⟨c_blind, va_recv hK hPx (ci := 11) (q0 := cPos N 11 0) rfl (cw_obj (k := 11) (by decide) h0), fun U hU hW => c_pre hU hW hPx hKx hDx hev hE hN hNS hS hFc⟩ rfl rfl hl.1 rfl (lv_room (Nat.le_of_ble_eq_true rfl)) d_h_insert_11 ⟨Nat.le_of_eq (Nat.zero_add _), Nat.le_of_eq (Nat.zero_add _)⟩) hown hS hFc htab [(0, 16, 19, 19), (0, 16, 23, 25), (0, 16, 27, 27)] [] (0, 16, 31, 13) rfl (by decide) (by decide) (hts _ kw_468) (by rw [hc]; exact va_Nw.use rfl hev.2.2.2.2.2.1.2.2.2) (List.forall_mem_cons.mpr ⟨⟨by decide, by decide, "java/lang/IllegalArgumentException", hts _ kw_553, by rw [hc]; exact hH.1⟩, List.forall_mem_cons.mpr ⟨⟨by decide, by decide, "java/lang/IllegalStateException", hts _ kw_580, by rw [hc]; exact hH.2.1⟩, List.forall_mem_cons.mpr ⟨⟨by decide, by decide, "java/util/NoSuchElementException", hts _ kw_581, by rw [hc]; exact hH.2.2.1⟩, fun y hy => absurd hy List.not_mem_nil⟩⟩⟩) (fun z H locs hz1 hk1 hB hS => ?_)
      obtain ⟨ad1, hX, hP1, hD1⟩ := hB
      obtain ⟨hP, hD⟩ := join_w hP hD hk1 hFc hP1 hD1
      refine lv_astore (lv' := [(8, .ref z), (0, .ref (ad 11 0)), (1, .int p0), (2, .int p1), (3, .int p2), (4, .int p3), (5, .long p4), (7, .ref a)]) hx hb d_h_insert_31 hl (by decide) rfl (fun ls hl => ?_)
      refine lv_iconst (v := 4) hx hb d_h_insert_33 (by decide) ?_
      refine W.cs (cells' := _) (slots' := _) (Nat.zero_add _) (Nat.zero_add _) ?_
      exact W.iret (v := 4) hx hb hr (fun t ht hW => ⟨⟨4, ad1, rfl, rfl, hX, by rw [ht]; exact hP, va_K.moved hW.alike hK, hD⟩, hS.F ht⟩) hS.2.2 d_h_insert_34
    exact (lk_nil hk).elim
noncomputable def h_splice (N : Nat → Nat) (S : CS) (ov : Nat → Int64) (p0 : Int32) (p1 : Int32) (p2 : Int32) (p3 : Int32) : Option (((Nat → Nat) × CS × (Nat → Int64) × Int32) × Nat × Nat) := gl 0 (N 11) (hA [(1, 1), (2, 2), (3, 3), (4, 4)] ov (m_cJT_splice N 0 S p0 p1 p2 p3))
theorem d_h_splice_0 : decode method_8_code 0 = .ok (.aload 5, 2) := by decide +kernel
theorem d_h_splice_2 : decode method_8_code 2 = .ok (.iconst 0, 1) := by decide +kernel
theorem d_h_splice_3 : decode method_8_code 3 = .ok (.aload_n 0, 1) := by decide +kernel
theorem d_h_splice_4 : decode method_8_code 4 = .ok (.iload_n 1, 1) := by decide +kernel
theorem d_h_splice_5 : decode method_8_code 5 = .ok (.iload_n 2, 1) := by decide +kernel
theorem d_h_splice_6 : decode method_8_code 6 = .ok (.iload_n 3, 1) := by decide +kernel
theorem d_h_splice_7 : decode method_8_code 7 = .ok (.iload 4, 2) := by decide +kernel
theorem d_h_splice_9 : decode method_8_code 9 = .ok (.invokevirtual 36, 3) := by decide +kernel
theorem d_h_splice_12 : decode method_8_code 12 = .ok (.i2l, 1) := by decide +kernel
theorem d_h_splice_13 : decode method_8_code 13 = .ok (.lastore, 1) := by decide +kernel
theorem d_h_splice_14 : decode method_8_code 14 = .ok (.goto 19, 3) := by decide +kernel
theorem d_h_splice_33 : decode method_8_code 33 = .ok (.iconst 0, 1) := by decide +kernel
theorem d_h_splice_34 : decode method_8_code 34 = .ok (.ireturn, 1) := by decide +kernel
theorem d_h_splice_17 : decode method_8_code 17 = .ok (.astore 6, 2) := by decide +kernel
theorem d_h_splice_19 : decode method_8_code 19 = .ok (.iconst 1, 1) := by decide +kernel
theorem d_h_splice_20 : decode method_8_code 20 = .ok (.ireturn, 1) := by decide +kernel
theorem d_h_splice_21 : decode method_8_code 21 = .ok (.astore 6, 2) := by decide +kernel
theorem d_h_splice_23 : decode method_8_code 23 = .ok (.iconst 2, 1) := by decide +kernel
theorem d_h_splice_24 : decode method_8_code 24 = .ok (.ireturn, 1) := by decide +kernel
theorem d_h_splice_25 : decode method_8_code 25 = .ok (.astore 6, 2) := by decide +kernel
theorem d_h_splice_27 : decode method_8_code 27 = .ok (.iconst 3, 1) := by decide +kernel
theorem d_h_splice_28 : decode method_8_code 28 = .ok (.ireturn, 1) := by decide +kernel
theorem d_h_splice_29 : decode method_8_code 29 = .ok (.astore 6, 2) := by decide +kernel
theorem d_h_splice_31 : decode method_8_code 31 = .ok (.iconst 4, 1) := by decide +kernel
theorem d_h_splice_32 : decode method_8_code 32 = .ok (.ireturn, 1) := by decide +kernel
set_option maxHeartbeats 4000000 in
set_option maxRecDepth 100000 in
theorem g_h_splice (l : Launch) (hfl : l.flags = flags0) (D : va_G) (sz : Nat) {ad : Nat → Nat → Nat} {cc : Nat → ClassId} {sad sav : Nat → Nat} {N : Nat → Nat} {S : CS} {cL : ClassId} {a : Nat} {ov : Nat → Int64} {p0 : Int32} {p1 : Int32} {p2 : Int32} {p3 : Int32} {o : ((Nat → Nat) × CS × (Nat → Int64) × Int32)} {oc os : Nat} (Heq : h_splice N S ov p0 p1 p2 p3 = some (o, oc, os)) : Met l ⟨"JoinedTreesLaw", "splice", "(LJoinedTrees;IIII[J)I"⟩ (Cond.codeWith ⟨"JoinedTreesLaw", "splice", "(LJoinedTrees;IIII[J)I"⟩ method_8_code 7 (some .int) [(0, 14, 17, 19), (0, 14, 21, 25), (0, 14, 25, 27), (0, 14, 29, 13)] :: gb) ({ frames := 9, cells := oc, slots := os, locals := 174 }) (hPc sad sav D (cw ad cc N S ++ [oA cL a ov]) (cty cc ++ [(cL, .long)]) sz [.ref (ad 11 0), .int p0, .int p1, .int p2, .int p3, .ref a]) (va_Qi (fun (r : Int32) (_ : Nat → Nat → Nat) => r = o.2.2.2) (fun (u : Nat → Nat → Nat) t => Ext ad N u o.1 ∧ gO D (cw u cc o.1 o.2.1 ++ [oA cL a o.2.2.1]) (cty cc ++ [(cL, .long)]) (va_A (cw ad cc N S ++ [oA cL a ov]) sz) t) (va_A (cw ad cc N S ++ [oA cL a ov]) sz)) oc os (va_A (cw ad cc N S ++ [oA cL a ov]) sz) := by
  refine tx_ofW (cc := method_8_code) (maxL := 7) (ret := (some .int)) (hs := [(0, 14, 17, 19), (0, 14, 21, 25), (0, 14, 25, 27), (0, 14, 29, 13)]) (by decide) rfl ?_
  intro p e s m args below meth c s₁ B hml htab hv
  obtain ⟨rfl, hsz, hP, hK, hD0, hev, hE, hN, hH⟩ := hv
  have hx := B.exec
  have hb := B.bytes
  have hr := B.returns
  have hts : ∀ w9 ∈ gb, w9.before [.ref (ad 11 0), .int p0, .int p1, .int p2, .int p3, .ref a].toArray s = true := fun w9 h => atoms_spec (ws := Cond.codeWith ⟨"JoinedTreesLaw", "splice", "(LJoinedTrees;IIII[J)I"⟩ method_8_code 7 (some .int) [(0, 14, 17, 19), (0, 14, 21, 25), (0, 14, 25, 27), (0, 14, 29, 13)] :: gb) B.pre w9 (List.mem_cons_of_mem _ h)
  have hown : s.vm.findClass "JoinedTreesLaw" = some m.cls := findClass_of_methodNamed B.named
  subst hsz
  have hNS := ns_of hP
  have hD := hD0.self (sz := s.heap.size)
  have hD0x := d_l hD0
  generalize hAe : va_A (cw ad cc N S ++ [oA cL a ov]) s.heap.size = A at hD hev hE hNS ⊢
  have hA : ∀ q : Nat, s.heap.size ≤ q → A q := fun q h => by rw [← hAe]; exact Or.inr h
  have hS : va_S A s.heap s.heap [] := va_S.rf
  obtain ⟨ls, hl, hle⟩ : ∃ ls : Array Slot, lv_has ls 7 [(0, .ref (ad 11 0)), (1, .int p0), (2, .int p1), (3, .int p2), (4, .int p3), (5, .ref a)] ∧ entryFrame m ([.ref (ad 11 0), .int p0, .int p1, .int p2, .int p3, .ref a] : List Value).toArray 7 = F0 m 0 ls [] := ⟨_, lv_entry (n := 7) _ (Nat.le_of_ble_eq_true rfl), lg_entry_eq ..⟩
  rw [hle]
  have hPx := p_l hP
  have hDx := d_l hD
  have hFc := fr_all hDx hS hA
  have hKx := hK.sub (tys' := cty cc) [0, 1, 2, 3, 4, 5, 6] rfl
  obtain ⟨h0, Heq⟩ := gl_some Heq
  refine lv_aload hx hb d_h_splice_0 (lv_at hl 5 rfl) ?_
  refine lv_iconst (v := 0) hx hb d_h_splice_2 (by decide) ?_
  refine lv_aload_n hx hb d_h_splice_3 rfl (lv_at hl 0 rfl) ?_
  refine lv_iload_n hx hb d_h_splice_4 rfl (lv_at hl 1 rfl) ?_
  refine lv_iload_n hx hb d_h_splice_5 rfl (lv_at hl 2 rfl) ?_
  refine lv_iload_n hx hb d_h_splice_6 rfl (lv_at hl 3 rfl) ?_
  refine lv_iload hx hb d_h_splice_7 (lv_at hl 4 rfl) ?_
  rcases hA_some Heq with ⟨N1, S1, v, hm, rfl⟩ | ⟨N1, S1, k, c, hm, hk, rfl⟩
  · refine va_calli (va_runV (As := [.int p0, .int p1, .int p2, .int p3]) (rest := [.int 0, .ref a]) ⟨hx, hb, hml, hown, hts⟩ (g_cJT_splice l hfl D s.heap.size (ad := ad) (cc := cc) (sad := sad) (sav := sav) hm) (cw_v 4 hts kw_815 kw_812 kw_813 kw_814 kw_1 rfl rfl (by decide +kernel) ⟨Nat.le_of_ble_eq_true rfl, Nat.le_of_ble_eq_true rfl⟩) ⟨c_blind, va_recv hK hPx (ci := 11) (q0 := cPos N 11 0) rfl (cw_obj (k := 11) (by decide) h0), fun U hU hW => c_pre hU hW hPx hKx hDx hev hE hN hNS hS hFc⟩ rfl rfl hl.1 rfl (lv_room (Nat.le_of_ble_eq_true rfl)) d_h_splice_9 ⟨Nat.le_of_eq (Nat.zero_add _), Nat.le_of_eq (Nat.zero_add _)⟩) hS (fun q _ h => hFc q h) hFc (fun rz ad1 t H locs ht hvm hw hB hz1 hk1 hS => ?_)
    obtain ⟨hX, hP1, -, hD1⟩ := hB
    rw [ht] at hP1
    obtain ⟨hP, hD⟩ := join_w hP hD hk1 hFc hP1 hD1
    subst hw
    refine lv_i2l hx hb d_h_splice_12 rfl ?_
    refine va_last hx hb hK hP hD hS (cw ad1 cc N1 S1).length 7 at_last rfl (i := 0) (x := rz.toInt64) (vp_in_nI (n := 0) (N := 1) (by decide) (by decide)) d_h_splice_13 (fun H locs hP hD hS => ?_)
    rw [set_last] at hP hD
    refine lv_goto (tgt := 33) hx hb d_h_splice_14 (by decide) ?_
    refine lv_iconst (v := 0) hx hb d_h_splice_33 (by decide) ?_
    refine W.cs (cells' := _) (slots' := _) (Nat.zero_add _) (Nat.zero_add _) ?_
    exact W.iret (v := 0) hx hb hr (fun t ht hW => ⟨⟨0, ad1, rfl, rfl, hX, by rw [ht]; exact hP, va_K.moved hW.alike hK, hD⟩, hS.F ht⟩) hS.2.2 d_h_splice_34
  · rcases lk_cons hk with ⟨hc, rfl⟩ | hk
    · refine tx_catch (tx_runV (As := [.int p0, .int p1, .int p2, .int p3]) (rest := [.int 0, .ref a]) ⟨hx, hb, hml, hown, hts⟩ (g_cJT_splice_t l hfl D s.heap.size (ad := ad) (cc := cc) (sad := sad) (sav := sav) hm) (cw_v 4 hts kw_815 kw_812 kw_813 kw_814 kw_1 rfl rfl (by decide +kernel) ⟨Nat.le_of_ble_eq_true rfl, Nat.le_of_ble_eq_true rfl⟩) ⟨c_blind, va_recv hK hPx (ci := 11) (q0 := cPos N 11 0) rfl (cw_obj (k := 11) (by decide) h0), fun U hU hW => c_pre hU hW hPx hKx hDx hev hE hN hNS hS hFc⟩ rfl rfl hl.1 rfl (lv_room (Nat.le_of_ble_eq_true rfl)) d_h_splice_9 ⟨Nat.le_of_eq (Nat.zero_add _), Nat.le_of_eq (Nat.zero_add _)⟩) hown hS hFc htab [] [(0, 14, 21, 25), (0, 14, 25, 27), (0, 14, 29, 13)] (0, 14, 17, 19) rfl (by decide) (by decide) (hts _ kw_553) (by rw [hc]; exact va_Nw.use rfl hev.2.2.2.2.2.1.1) (fun y hy => absurd hy List.not_mem_nil) (fun z H locs hz1 hk1 hB hS => ?_)
      obtain ⟨ad1, hX, hP1, hD1⟩ := hB
      obtain ⟨hP, hD⟩ := join_w hP hD hk1 hFc hP1 hD1
      refine lv_astore (lv' := [(6, .ref z), (0, .ref (ad 11 0)), (1, .int p0), (2, .int p1), (3, .int p2), (4, .int p3), (5, .ref a)]) hx hb d_h_splice_17 hl (by decide) rfl (fun ls hl => ?_)
      refine lv_iconst (v := 1) hx hb d_h_splice_19 (by decide) ?_
      refine W.cs (cells' := _) (slots' := _) (Nat.zero_add _) (Nat.zero_add _) ?_
      exact W.iret (v := 1) hx hb hr (fun t ht hW => ⟨⟨1, ad1, rfl, rfl, hX, by rw [ht]; exact hP, va_K.moved hW.alike hK, hD⟩, hS.F ht⟩) hS.2.2 d_h_splice_20
    rcases lk_cons hk with ⟨hc, rfl⟩ | hk
    · refine tx_catch (tx_runV (As := [.int p0, .int p1, .int p2, .int p3]) (rest := [.int 0, .ref a]) ⟨hx, hb, hml, hown, hts⟩ (g_cJT_splice_t l hfl D s.heap.size (ad := ad) (cc := cc) (sad := sad) (sav := sav) hm) (cw_v 4 hts kw_815 kw_812 kw_813 kw_814 kw_1 rfl rfl (by decide +kernel) ⟨Nat.le_of_ble_eq_true rfl, Nat.le_of_ble_eq_true rfl⟩) ⟨c_blind, va_recv hK hPx (ci := 11) (q0 := cPos N 11 0) rfl (cw_obj (k := 11) (by decide) h0), fun U hU hW => c_pre hU hW hPx hKx hDx hev hE hN hNS hS hFc⟩ rfl rfl hl.1 rfl (lv_room (Nat.le_of_ble_eq_true rfl)) d_h_splice_9 ⟨Nat.le_of_eq (Nat.zero_add _), Nat.le_of_eq (Nat.zero_add _)⟩) hown hS hFc htab [(0, 14, 17, 19)] [(0, 14, 25, 27), (0, 14, 29, 13)] (0, 14, 21, 25) rfl (by decide) (by decide) (hts _ kw_580) (by rw [hc]; exact va_Nw.use rfl hev.2.2.2.2.2.1.2.1) (List.forall_mem_cons.mpr ⟨⟨by decide, by decide, "java/lang/IllegalArgumentException", hts _ kw_553, by rw [hc]; exact hev.2.2.2.2.2.2.2.1.2.2⟩, fun y hy => absurd hy List.not_mem_nil⟩) (fun z H locs hz1 hk1 hB hS => ?_)
      obtain ⟨ad1, hX, hP1, hD1⟩ := hB
      obtain ⟨hP, hD⟩ := join_w hP hD hk1 hFc hP1 hD1
      refine lv_astore (lv' := [(6, .ref z), (0, .ref (ad 11 0)), (1, .int p0), (2, .int p1), (3, .int p2), (4, .int p3), (5, .ref a)]) hx hb d_h_splice_21 hl (by decide) rfl (fun ls hl => ?_)
      refine lv_iconst (v := 2) hx hb d_h_splice_23 (by decide) ?_
      refine W.cs (cells' := _) (slots' := _) (Nat.zero_add _) (Nat.zero_add _) ?_
      exact W.iret (v := 2) hx hb hr (fun t ht hW => ⟨⟨2, ad1, rfl, rfl, hX, by rw [ht]; exact hP, va_K.moved hW.alike hK, hD⟩, hS.F ht⟩) hS.2.2 d_h_splice_24
    rcases lk_cons hk with ⟨hc, rfl⟩ | hk
    · refine tx_catch (tx_runV (As := [.int p0, .int p1, .int p2, .int p3]) (rest := [.int 0, .ref a]) ⟨hx, hb, hml, hown, hts⟩ (g_cJT_splice_t l hfl D s.heap.size (ad := ad) (cc := cc) (sad := sad) (sav := sav) hm) (cw_v 4 hts kw_815 kw_812 kw_813 kw_814 kw_1 rfl rfl (by decide +kernel) ⟨Nat.le_of_ble_eq_true rfl, Nat.le_of_ble_eq_true rfl⟩) ⟨c_blind, va_recv hK hPx (ci := 11) (q0 := cPos N 11 0) rfl (cw_obj (k := 11) (by decide) h0), fun U hU hW => c_pre hU hW hPx hKx hDx hev hE hN hNS hS hFc⟩ rfl rfl hl.1 rfl (lv_room (Nat.le_of_ble_eq_true rfl)) d_h_splice_9 ⟨Nat.le_of_eq (Nat.zero_add _), Nat.le_of_eq (Nat.zero_add _)⟩) hown hS hFc htab [(0, 14, 17, 19), (0, 14, 21, 25)] [(0, 14, 29, 13)] (0, 14, 25, 27) rfl (by decide) (by decide) (hts _ kw_581) (by rw [hc]; exact va_Nw.use rfl hev.2.2.2.2.2.1.2.2.1) (List.forall_mem_cons.mpr ⟨⟨by decide, by decide, "java/lang/IllegalArgumentException", hts _ kw_553, by rw [hc]; exact hev.2.2.2.2.2.2.2.1.1⟩, List.forall_mem_cons.mpr ⟨⟨by decide, by decide, "java/lang/IllegalStateException", hts _ kw_580, by rw [hc]; exact hev.2.2.2.2.2.2.2.1.2.1⟩, fun y hy => absurd hy List.not_mem_nil⟩⟩) (fun z H locs hz1 hk1 hB hS => ?_)
      obtain ⟨ad1, hX, hP1, hD1⟩ := hB
      obtain ⟨hP, hD⟩ := join_w hP hD hk1 hFc hP1 hD1
      refine lv_astore (lv' := [(6, .ref z), (0, .ref (ad 11 0)), (1, .int p0), (2, .int p1), (3, .int p2), (4, .int p3), (5, .ref a)]) hx hb d_h_splice_25 hl (by decide) rfl (fun ls hl => ?_)
      refine lv_iconst (v := 3) hx hb d_h_splice_27 (by decide) ?_
      refine W.cs (cells' := _) (slots' := _) (Nat.zero_add _) (Nat.zero_add _) ?_
      exact W.iret (v := 3) hx hb hr (fun t ht hW => ⟨⟨3, ad1, rfl, rfl, hX, by rw [ht]; exact hP, va_K.moved hW.alike hK, hD⟩, hS.F ht⟩) hS.2.2 d_h_splice_28
    rcases lk_cons hk with ⟨hc, rfl⟩ | hk
    · refine tx_catch (tx_runV (As := [.int p0, .int p1, .int p2, .int p3]) (rest := [.int 0, .ref a]) ⟨hx, hb, hml, hown, hts⟩ (g_cJT_splice_t l hfl D s.heap.size (ad := ad) (cc := cc) (sad := sad) (sav := sav) hm) (cw_v 4 hts kw_815 kw_812 kw_813 kw_814 kw_1 rfl rfl (by decide +kernel) ⟨Nat.le_of_ble_eq_true rfl, Nat.le_of_ble_eq_true rfl⟩) ⟨c_blind, va_recv hK hPx (ci := 11) (q0 := cPos N 11 0) rfl (cw_obj (k := 11) (by decide) h0), fun U hU hW => c_pre hU hW hPx hKx hDx hev hE hN hNS hS hFc⟩ rfl rfl hl.1 rfl (lv_room (Nat.le_of_ble_eq_true rfl)) d_h_splice_9 ⟨Nat.le_of_eq (Nat.zero_add _), Nat.le_of_eq (Nat.zero_add _)⟩) hown hS hFc htab [(0, 14, 17, 19), (0, 14, 21, 25), (0, 14, 25, 27)] [] (0, 14, 29, 13) rfl (by decide) (by decide) (hts _ kw_468) (by rw [hc]; exact va_Nw.use rfl hev.2.2.2.2.2.1.2.2.2) (List.forall_mem_cons.mpr ⟨⟨by decide, by decide, "java/lang/IllegalArgumentException", hts _ kw_553, by rw [hc]; exact hH.1⟩, List.forall_mem_cons.mpr ⟨⟨by decide, by decide, "java/lang/IllegalStateException", hts _ kw_580, by rw [hc]; exact hH.2.1⟩, List.forall_mem_cons.mpr ⟨⟨by decide, by decide, "java/util/NoSuchElementException", hts _ kw_581, by rw [hc]; exact hH.2.2.1⟩, fun y hy => absurd hy List.not_mem_nil⟩⟩⟩) (fun z H locs hz1 hk1 hB hS => ?_)
      obtain ⟨ad1, hX, hP1, hD1⟩ := hB
      obtain ⟨hP, hD⟩ := join_w hP hD hk1 hFc hP1 hD1
      refine lv_astore (lv' := [(6, .ref z), (0, .ref (ad 11 0)), (1, .int p0), (2, .int p1), (3, .int p2), (4, .int p3), (5, .ref a)]) hx hb d_h_splice_29 hl (by decide) rfl (fun ls hl => ?_)
      refine lv_iconst (v := 4) hx hb d_h_splice_31 (by decide) ?_
      refine W.cs (cells' := _) (slots' := _) (Nat.zero_add _) (Nat.zero_add _) ?_
      exact W.iret (v := 4) hx hb hr (fun t ht hW => ⟨⟨4, ad1, rfl, rfl, hX, by rw [ht]; exact hP, va_K.moved hW.alike hK, hD⟩, hS.F ht⟩) hS.2.2 d_h_splice_32
    exact (lk_nil hk).elim
noncomputable def h_erase (N : Nat → Nat) (S : CS) (ov : Nat → Int64) (p0 : Int32) (p1 : Int32) (p2 : Int32) : Option (((Nat → Nat) × CS × (Nat → Int64) × Int32) × Nat × Nat) := gl 0 (N 11) (hA [(1, 1), (2, 2), (3, 3), (4, 4)] ov (m_cJT_erase N 0 S p0 p1 p2))
theorem d_h_erase_0 : decode method_9_code 0 = .ok (.aload 4, 2) := by decide +kernel
theorem d_h_erase_2 : decode method_9_code 2 = .ok (.iconst 0, 1) := by decide +kernel
theorem d_h_erase_3 : decode method_9_code 3 = .ok (.aload_n 0, 1) := by decide +kernel
theorem d_h_erase_4 : decode method_9_code 4 = .ok (.iload_n 1, 1) := by decide +kernel
theorem d_h_erase_5 : decode method_9_code 5 = .ok (.iload_n 2, 1) := by decide +kernel
theorem d_h_erase_6 : decode method_9_code 6 = .ok (.iload_n 3, 1) := by decide +kernel
theorem d_h_erase_7 : decode method_9_code 7 = .ok (.invokevirtual 40, 3) := by decide +kernel
theorem d_h_erase_10 : decode method_9_code 10 = .ok (.i2l, 1) := by decide +kernel
theorem d_h_erase_11 : decode method_9_code 11 = .ok (.lastore, 1) := by decide +kernel
theorem d_h_erase_12 : decode method_9_code 12 = .ok (.goto 19, 3) := by decide +kernel
theorem d_h_erase_31 : decode method_9_code 31 = .ok (.iconst 0, 1) := by decide +kernel
theorem d_h_erase_32 : decode method_9_code 32 = .ok (.ireturn, 1) := by decide +kernel
theorem d_h_erase_15 : decode method_9_code 15 = .ok (.astore 5, 2) := by decide +kernel
theorem d_h_erase_17 : decode method_9_code 17 = .ok (.iconst 1, 1) := by decide +kernel
theorem d_h_erase_18 : decode method_9_code 18 = .ok (.ireturn, 1) := by decide +kernel
theorem d_h_erase_19 : decode method_9_code 19 = .ok (.astore 5, 2) := by decide +kernel
theorem d_h_erase_21 : decode method_9_code 21 = .ok (.iconst 2, 1) := by decide +kernel
theorem d_h_erase_22 : decode method_9_code 22 = .ok (.ireturn, 1) := by decide +kernel
theorem d_h_erase_23 : decode method_9_code 23 = .ok (.astore 5, 2) := by decide +kernel
theorem d_h_erase_25 : decode method_9_code 25 = .ok (.iconst 3, 1) := by decide +kernel
theorem d_h_erase_26 : decode method_9_code 26 = .ok (.ireturn, 1) := by decide +kernel
theorem d_h_erase_27 : decode method_9_code 27 = .ok (.astore 5, 2) := by decide +kernel
theorem d_h_erase_29 : decode method_9_code 29 = .ok (.iconst 4, 1) := by decide +kernel
theorem d_h_erase_30 : decode method_9_code 30 = .ok (.ireturn, 1) := by decide +kernel
set_option maxHeartbeats 4000000 in
set_option maxRecDepth 100000 in
theorem g_h_erase (l : Launch) (hfl : l.flags = flags0) (D : va_G) (sz : Nat) {ad : Nat → Nat → Nat} {cc : Nat → ClassId} {sad sav : Nat → Nat} {N : Nat → Nat} {S : CS} {cL : ClassId} {a : Nat} {ov : Nat → Int64} {p0 : Int32} {p1 : Int32} {p2 : Int32} {o : ((Nat → Nat) × CS × (Nat → Int64) × Int32)} {oc os : Nat} (Heq : h_erase N S ov p0 p1 p2 = some (o, oc, os)) : Met l ⟨"JoinedTreesLaw", "erase", "(LJoinedTrees;III[J)I"⟩ (Cond.codeWith ⟨"JoinedTreesLaw", "erase", "(LJoinedTrees;III[J)I"⟩ method_9_code 6 (some .int) [(0, 12, 15, 19), (0, 12, 19, 25), (0, 12, 23, 27), (0, 12, 27, 13)] :: gb) ({ frames := 10, cells := oc, slots := os, locals := 189 }) (hPc sad sav D (cw ad cc N S ++ [oA cL a ov]) (cty cc ++ [(cL, .long)]) sz [.ref (ad 11 0), .int p0, .int p1, .int p2, .ref a]) (va_Qi (fun (r : Int32) (_ : Nat → Nat → Nat) => r = o.2.2.2) (fun (u : Nat → Nat → Nat) t => Ext ad N u o.1 ∧ gO D (cw u cc o.1 o.2.1 ++ [oA cL a o.2.2.1]) (cty cc ++ [(cL, .long)]) (va_A (cw ad cc N S ++ [oA cL a ov]) sz) t) (va_A (cw ad cc N S ++ [oA cL a ov]) sz)) oc os (va_A (cw ad cc N S ++ [oA cL a ov]) sz) := by
  refine tx_ofW (cc := method_9_code) (maxL := 6) (ret := (some .int)) (hs := [(0, 12, 15, 19), (0, 12, 19, 25), (0, 12, 23, 27), (0, 12, 27, 13)]) (by decide) rfl ?_
  intro p e s m args below meth c s₁ B hml htab hv
  obtain ⟨rfl, hsz, hP, hK, hD0, hev, hE, hN, hH⟩ := hv
  have hx := B.exec
  have hb := B.bytes
  have hr := B.returns
  have hts : ∀ w9 ∈ gb, w9.before [.ref (ad 11 0), .int p0, .int p1, .int p2, .ref a].toArray s = true := fun w9 h => atoms_spec (ws := Cond.codeWith ⟨"JoinedTreesLaw", "erase", "(LJoinedTrees;III[J)I"⟩ method_9_code 6 (some .int) [(0, 12, 15, 19), (0, 12, 19, 25), (0, 12, 23, 27), (0, 12, 27, 13)] :: gb) B.pre w9 (List.mem_cons_of_mem _ h)
  have hown : s.vm.findClass "JoinedTreesLaw" = some m.cls := findClass_of_methodNamed B.named
  subst hsz
  have hNS := ns_of hP
  have hD := hD0.self (sz := s.heap.size)
  have hD0x := d_l hD0
  generalize hAe : va_A (cw ad cc N S ++ [oA cL a ov]) s.heap.size = A at hD hev hE hNS ⊢
  have hA : ∀ q : Nat, s.heap.size ≤ q → A q := fun q h => by rw [← hAe]; exact Or.inr h
  have hS : va_S A s.heap s.heap [] := va_S.rf
  obtain ⟨ls, hl, hle⟩ : ∃ ls : Array Slot, lv_has ls 6 [(0, .ref (ad 11 0)), (1, .int p0), (2, .int p1), (3, .int p2), (4, .ref a)] ∧ entryFrame m ([.ref (ad 11 0), .int p0, .int p1, .int p2, .ref a] : List Value).toArray 6 = F0 m 0 ls [] := ⟨_, lv_entry (n := 6) _ (Nat.le_of_ble_eq_true rfl), lg_entry_eq ..⟩
  rw [hle]
  have hPx := p_l hP
  have hDx := d_l hD
  have hFc := fr_all hDx hS hA
  have hKx := hK.sub (tys' := cty cc) [0, 1, 2, 3, 4, 5, 6] rfl
  obtain ⟨h0, Heq⟩ := gl_some Heq
  refine lv_aload hx hb d_h_erase_0 (lv_at hl 4 rfl) ?_
  refine lv_iconst (v := 0) hx hb d_h_erase_2 (by decide) ?_
  refine lv_aload_n hx hb d_h_erase_3 rfl (lv_at hl 0 rfl) ?_
  refine lv_iload_n hx hb d_h_erase_4 rfl (lv_at hl 1 rfl) ?_
  refine lv_iload_n hx hb d_h_erase_5 rfl (lv_at hl 2 rfl) ?_
  refine lv_iload_n hx hb d_h_erase_6 rfl (lv_at hl 3 rfl) ?_
  rcases hA_some Heq with ⟨N1, S1, v, hm, rfl⟩ | ⟨N1, S1, k, c, hm, hk, rfl⟩
  · refine va_calli (va_runV (As := [.int p0, .int p1, .int p2]) (rest := [.int 0, .ref a]) ⟨hx, hb, hml, hown, hts⟩ (g_cJT_erase l hfl D s.heap.size (ad := ad) (cc := cc) (sad := sad) (sav := sav) hm) (cw_v 3 hts kw_839 kw_836 kw_837 kw_838 kw_1 rfl rfl (by decide +kernel) ⟨Nat.le_of_ble_eq_true rfl, Nat.le_of_ble_eq_true rfl⟩) ⟨c_blind, va_recv hK hPx (ci := 11) (q0 := cPos N 11 0) rfl (cw_obj (k := 11) (by decide) h0), fun U hU hW => c_pre hU hW hPx hKx hDx hev hE hN hNS hS hFc⟩ rfl rfl hl.1 rfl (lv_room (Nat.le_of_ble_eq_true rfl)) d_h_erase_7 ⟨Nat.le_of_eq (Nat.zero_add _), Nat.le_of_eq (Nat.zero_add _)⟩) hS (fun q _ h => hFc q h) hFc (fun rz ad1 t H locs ht hvm hw hB hz1 hk1 hS => ?_)
    obtain ⟨hX, hP1, -, hD1⟩ := hB
    rw [ht] at hP1
    obtain ⟨hP, hD⟩ := join_w hP hD hk1 hFc hP1 hD1
    subst hw
    refine lv_i2l hx hb d_h_erase_10 rfl ?_
    refine va_last hx hb hK hP hD hS (cw ad1 cc N1 S1).length 7 at_last rfl (i := 0) (x := rz.toInt64) (vp_in_nI (n := 0) (N := 1) (by decide) (by decide)) d_h_erase_11 (fun H locs hP hD hS => ?_)
    rw [set_last] at hP hD
    refine lv_goto (tgt := 31) hx hb d_h_erase_12 (by decide) ?_
    refine lv_iconst (v := 0) hx hb d_h_erase_31 (by decide) ?_
    refine W.cs (cells' := _) (slots' := _) (Nat.zero_add _) (Nat.zero_add _) ?_
    exact W.iret (v := 0) hx hb hr (fun t ht hW => ⟨⟨0, ad1, rfl, rfl, hX, by rw [ht]; exact hP, va_K.moved hW.alike hK, hD⟩, hS.F ht⟩) hS.2.2 d_h_erase_32
  · rcases lk_cons hk with ⟨hc, rfl⟩ | hk
    · refine tx_catch (tx_runV (As := [.int p0, .int p1, .int p2]) (rest := [.int 0, .ref a]) ⟨hx, hb, hml, hown, hts⟩ (g_cJT_erase_t l hfl D s.heap.size (ad := ad) (cc := cc) (sad := sad) (sav := sav) hm) (cw_v 3 hts kw_839 kw_836 kw_837 kw_838 kw_1 rfl rfl (by decide +kernel) ⟨Nat.le_of_ble_eq_true rfl, Nat.le_of_ble_eq_true rfl⟩) ⟨c_blind, va_recv hK hPx (ci := 11) (q0 := cPos N 11 0) rfl (cw_obj (k := 11) (by decide) h0), fun U hU hW => c_pre hU hW hPx hKx hDx hev hE hN hNS hS hFc⟩ rfl rfl hl.1 rfl (lv_room (Nat.le_of_ble_eq_true rfl)) d_h_erase_7 ⟨Nat.le_of_eq (Nat.zero_add _), Nat.le_of_eq (Nat.zero_add _)⟩) hown hS hFc htab [] [(0, 12, 19, 25), (0, 12, 23, 27), (0, 12, 27, 13)] (0, 12, 15, 19) rfl (by decide) (by decide) (hts _ kw_553) (by rw [hc]; exact va_Nw.use rfl hev.2.2.2.2.2.1.1) (fun y hy => absurd hy List.not_mem_nil) (fun z H locs hz1 hk1 hB hS => ?_)
      obtain ⟨ad1, hX, hP1, hD1⟩ := hB
      obtain ⟨hP, hD⟩ := join_w hP hD hk1 hFc hP1 hD1
      refine lv_astore (lv' := [(5, .ref z), (0, .ref (ad 11 0)), (1, .int p0), (2, .int p1), (3, .int p2), (4, .ref a)]) hx hb d_h_erase_15 hl (by decide) rfl (fun ls hl => ?_)
      refine lv_iconst (v := 1) hx hb d_h_erase_17 (by decide) ?_
      refine W.cs (cells' := _) (slots' := _) (Nat.zero_add _) (Nat.zero_add _) ?_
      exact W.iret (v := 1) hx hb hr (fun t ht hW => ⟨⟨1, ad1, rfl, rfl, hX, by rw [ht]; exact hP, va_K.moved hW.alike hK, hD⟩, hS.F ht⟩) hS.2.2 d_h_erase_18
    rcases lk_cons hk with ⟨hc, rfl⟩ | hk
    · refine tx_catch (tx_runV (As := [.int p0, .int p1, .int p2]) (rest := [.int 0, .ref a]) ⟨hx, hb, hml, hown, hts⟩ (g_cJT_erase_t l hfl D s.heap.size (ad := ad) (cc := cc) (sad := sad) (sav := sav) hm) (cw_v 3 hts kw_839 kw_836 kw_837 kw_838 kw_1 rfl rfl (by decide +kernel) ⟨Nat.le_of_ble_eq_true rfl, Nat.le_of_ble_eq_true rfl⟩) ⟨c_blind, va_recv hK hPx (ci := 11) (q0 := cPos N 11 0) rfl (cw_obj (k := 11) (by decide) h0), fun U hU hW => c_pre hU hW hPx hKx hDx hev hE hN hNS hS hFc⟩ rfl rfl hl.1 rfl (lv_room (Nat.le_of_ble_eq_true rfl)) d_h_erase_7 ⟨Nat.le_of_eq (Nat.zero_add _), Nat.le_of_eq (Nat.zero_add _)⟩) hown hS hFc htab [(0, 12, 15, 19)] [(0, 12, 23, 27), (0, 12, 27, 13)] (0, 12, 19, 25) rfl (by decide) (by decide) (hts _ kw_580) (by rw [hc]; exact va_Nw.use rfl hev.2.2.2.2.2.1.2.1) (List.forall_mem_cons.mpr ⟨⟨by decide, by decide, "java/lang/IllegalArgumentException", hts _ kw_553, by rw [hc]; exact hev.2.2.2.2.2.2.2.1.2.2⟩, fun y hy => absurd hy List.not_mem_nil⟩) (fun z H locs hz1 hk1 hB hS => ?_)
      obtain ⟨ad1, hX, hP1, hD1⟩ := hB
      obtain ⟨hP, hD⟩ := join_w hP hD hk1 hFc hP1 hD1
      refine lv_astore (lv' := [(5, .ref z), (0, .ref (ad 11 0)), (1, .int p0), (2, .int p1), (3, .int p2), (4, .ref a)]) hx hb d_h_erase_19 hl (by decide) rfl (fun ls hl => ?_)
      refine lv_iconst (v := 2) hx hb d_h_erase_21 (by decide) ?_
      refine W.cs (cells' := _) (slots' := _) (Nat.zero_add _) (Nat.zero_add _) ?_
      exact W.iret (v := 2) hx hb hr (fun t ht hW => ⟨⟨2, ad1, rfl, rfl, hX, by rw [ht]; exact hP, va_K.moved hW.alike hK, hD⟩, hS.F ht⟩) hS.2.2 d_h_erase_22
    rcases lk_cons hk with ⟨hc, rfl⟩ | hk
    · refine tx_catch (tx_runV (As := [.int p0, .int p1, .int p2]) (rest := [.int 0, .ref a]) ⟨hx, hb, hml, hown, hts⟩ (g_cJT_erase_t l hfl D s.heap.size (ad := ad) (cc := cc) (sad := sad) (sav := sav) hm) (cw_v 3 hts kw_839 kw_836 kw_837 kw_838 kw_1 rfl rfl (by decide +kernel) ⟨Nat.le_of_ble_eq_true rfl, Nat.le_of_ble_eq_true rfl⟩) ⟨c_blind, va_recv hK hPx (ci := 11) (q0 := cPos N 11 0) rfl (cw_obj (k := 11) (by decide) h0), fun U hU hW => c_pre hU hW hPx hKx hDx hev hE hN hNS hS hFc⟩ rfl rfl hl.1 rfl (lv_room (Nat.le_of_ble_eq_true rfl)) d_h_erase_7 ⟨Nat.le_of_eq (Nat.zero_add _), Nat.le_of_eq (Nat.zero_add _)⟩) hown hS hFc htab [(0, 12, 15, 19), (0, 12, 19, 25)] [(0, 12, 27, 13)] (0, 12, 23, 27) rfl (by decide) (by decide) (hts _ kw_581) (by rw [hc]; exact va_Nw.use rfl hev.2.2.2.2.2.1.2.2.1) (List.forall_mem_cons.mpr ⟨⟨by decide, by decide, "java/lang/IllegalArgumentException", hts _ kw_553, by rw [hc]; exact hev.2.2.2.2.2.2.2.1.1⟩, List.forall_mem_cons.mpr ⟨⟨by decide, by decide, "java/lang/IllegalStateException", hts _ kw_580, by rw [hc]; exact hev.2.2.2.2.2.2.2.1.2.1⟩, fun y hy => absurd hy List.not_mem_nil⟩⟩) (fun z H locs hz1 hk1 hB hS => ?_)
      obtain ⟨ad1, hX, hP1, hD1⟩ := hB
      obtain ⟨hP, hD⟩ := join_w hP hD hk1 hFc hP1 hD1
      refine lv_astore (lv' := [(5, .ref z), (0, .ref (ad 11 0)), (1, .int p0), (2, .int p1), (3, .int p2), (4, .ref a)]) hx hb d_h_erase_23 hl (by decide) rfl (fun ls hl => ?_)
      refine lv_iconst (v := 3) hx hb d_h_erase_25 (by decide) ?_
      refine W.cs (cells' := _) (slots' := _) (Nat.zero_add _) (Nat.zero_add _) ?_
      exact W.iret (v := 3) hx hb hr (fun t ht hW => ⟨⟨3, ad1, rfl, rfl, hX, by rw [ht]; exact hP, va_K.moved hW.alike hK, hD⟩, hS.F ht⟩) hS.2.2 d_h_erase_26
    rcases lk_cons hk with ⟨hc, rfl⟩ | hk
    · refine tx_catch (tx_runV (As := [.int p0, .int p1, .int p2]) (rest := [.int 0, .ref a]) ⟨hx, hb, hml, hown, hts⟩ (g_cJT_erase_t l hfl D s.heap.size (ad := ad) (cc := cc) (sad := sad) (sav := sav) hm) (cw_v 3 hts kw_839 kw_836 kw_837 kw_838 kw_1 rfl rfl (by decide +kernel) ⟨Nat.le_of_ble_eq_true rfl, Nat.le_of_ble_eq_true rfl⟩) ⟨c_blind, va_recv hK hPx (ci := 11) (q0 := cPos N 11 0) rfl (cw_obj (k := 11) (by decide) h0), fun U hU hW => c_pre hU hW hPx hKx hDx hev hE hN hNS hS hFc⟩ rfl rfl hl.1 rfl (lv_room (Nat.le_of_ble_eq_true rfl)) d_h_erase_7 ⟨Nat.le_of_eq (Nat.zero_add _), Nat.le_of_eq (Nat.zero_add _)⟩) hown hS hFc htab [(0, 12, 15, 19), (0, 12, 19, 25), (0, 12, 23, 27)] [] (0, 12, 27, 13) rfl (by decide) (by decide) (hts _ kw_468) (by rw [hc]; exact va_Nw.use rfl hev.2.2.2.2.2.1.2.2.2) (List.forall_mem_cons.mpr ⟨⟨by decide, by decide, "java/lang/IllegalArgumentException", hts _ kw_553, by rw [hc]; exact hH.1⟩, List.forall_mem_cons.mpr ⟨⟨by decide, by decide, "java/lang/IllegalStateException", hts _ kw_580, by rw [hc]; exact hH.2.1⟩, List.forall_mem_cons.mpr ⟨⟨by decide, by decide, "java/util/NoSuchElementException", hts _ kw_581, by rw [hc]; exact hH.2.2.1⟩, fun y hy => absurd hy List.not_mem_nil⟩⟩⟩) (fun z H locs hz1 hk1 hB hS => ?_)
      obtain ⟨ad1, hX, hP1, hD1⟩ := hB
      obtain ⟨hP, hD⟩ := join_w hP hD hk1 hFc hP1 hD1
      refine lv_astore (lv' := [(5, .ref z), (0, .ref (ad 11 0)), (1, .int p0), (2, .int p1), (3, .int p2), (4, .ref a)]) hx hb d_h_erase_27 hl (by decide) rfl (fun ls hl => ?_)
      refine lv_iconst (v := 4) hx hb d_h_erase_29 (by decide) ?_
      refine W.cs (cells' := _) (slots' := _) (Nat.zero_add _) (Nat.zero_add _) ?_
      exact W.iret (v := 4) hx hb hr (fun t ht hW => ⟨⟨4, ad1, rfl, rfl, hX, by rw [ht]; exact hP, va_K.moved hW.alike hK, hD⟩, hS.F ht⟩) hS.2.2 d_h_erase_30
    exact (lk_nil hk).elim
noncomputable def h_add (N : Nat → Nat) (S : CS) (ov : Nat → Int64) (p0 : Int32) (p1 : Int32) (p2 : Int32) (p3 : Int64) : Option (((Nat → Nat) × CS × (Nat → Int64) × Int32) × Nat × Nat) := gl 0 (N 11) (hA [(1, 1), (2, 2), (3, 3), (4, 4)] ov (m_cJT_add N 0 S p0 p1 p2 p3))
theorem d_h_add_0 : decode method_10_code 0 = .ok (.aload 6, 2) := by decide +kernel
theorem d_h_add_2 : decode method_10_code 2 = .ok (.iconst 0, 1) := by decide +kernel
theorem d_h_add_3 : decode method_10_code 3 = .ok (.aload_n 0, 1) := by decide +kernel
theorem d_h_add_4 : decode method_10_code 4 = .ok (.iload_n 1, 1) := by decide +kernel
theorem d_h_add_5 : decode method_10_code 5 = .ok (.iload_n 2, 1) := by decide +kernel
theorem d_h_add_6 : decode method_10_code 6 = .ok (.iload_n 3, 1) := by decide +kernel
theorem d_h_add_7 : decode method_10_code 7 = .ok (.lload 4, 2) := by decide +kernel
theorem d_h_add_9 : decode method_10_code 9 = .ok (.invokevirtual 44, 3) := by decide +kernel
theorem d_h_add_12 : decode method_10_code 12 = .ok (.i2l, 1) := by decide +kernel
theorem d_h_add_13 : decode method_10_code 13 = .ok (.lastore, 1) := by decide +kernel
theorem d_h_add_14 : decode method_10_code 14 = .ok (.goto 19, 3) := by decide +kernel
theorem d_h_add_33 : decode method_10_code 33 = .ok (.iconst 0, 1) := by decide +kernel
theorem d_h_add_34 : decode method_10_code 34 = .ok (.ireturn, 1) := by decide +kernel
theorem d_h_add_17 : decode method_10_code 17 = .ok (.astore 7, 2) := by decide +kernel
theorem d_h_add_19 : decode method_10_code 19 = .ok (.iconst 1, 1) := by decide +kernel
theorem d_h_add_20 : decode method_10_code 20 = .ok (.ireturn, 1) := by decide +kernel
theorem d_h_add_21 : decode method_10_code 21 = .ok (.astore 7, 2) := by decide +kernel
theorem d_h_add_23 : decode method_10_code 23 = .ok (.iconst 2, 1) := by decide +kernel
theorem d_h_add_24 : decode method_10_code 24 = .ok (.ireturn, 1) := by decide +kernel
theorem d_h_add_25 : decode method_10_code 25 = .ok (.astore 7, 2) := by decide +kernel
theorem d_h_add_27 : decode method_10_code 27 = .ok (.iconst 3, 1) := by decide +kernel
theorem d_h_add_28 : decode method_10_code 28 = .ok (.ireturn, 1) := by decide +kernel
theorem d_h_add_29 : decode method_10_code 29 = .ok (.astore 7, 2) := by decide +kernel
theorem d_h_add_31 : decode method_10_code 31 = .ok (.iconst 4, 1) := by decide +kernel
theorem d_h_add_32 : decode method_10_code 32 = .ok (.ireturn, 1) := by decide +kernel
set_option maxHeartbeats 4000000 in
set_option maxRecDepth 100000 in
theorem g_h_add (l : Launch) (hfl : l.flags = flags0) (D : va_G) (sz : Nat) {ad : Nat → Nat → Nat} {cc : Nat → ClassId} {sad sav : Nat → Nat} {N : Nat → Nat} {S : CS} {cL : ClassId} {a : Nat} {ov : Nat → Int64} {p0 : Int32} {p1 : Int32} {p2 : Int32} {p3 : Int64} {o : ((Nat → Nat) × CS × (Nat → Int64) × Int32)} {oc os : Nat} (Heq : h_add N S ov p0 p1 p2 p3 = some (o, oc, os)) : Met l ⟨"JoinedTreesLaw", "add", "(LJoinedTrees;IIIJ[J)I"⟩ (Cond.codeWith ⟨"JoinedTreesLaw", "add", "(LJoinedTrees;IIIJ[J)I"⟩ method_10_code 8 (some .int) [(0, 14, 17, 19), (0, 14, 21, 25), (0, 14, 25, 27), (0, 14, 29, 13)] :: gb) ({ frames := 10, cells := oc, slots := os, locals := 191 }) (hPc sad sav D (cw ad cc N S ++ [oA cL a ov]) (cty cc ++ [(cL, .long)]) sz [.ref (ad 11 0), .int p0, .int p1, .int p2, .long p3, .ref a]) (va_Qi (fun (r : Int32) (_ : Nat → Nat → Nat) => r = o.2.2.2) (fun (u : Nat → Nat → Nat) t => Ext ad N u o.1 ∧ gO D (cw u cc o.1 o.2.1 ++ [oA cL a o.2.2.1]) (cty cc ++ [(cL, .long)]) (va_A (cw ad cc N S ++ [oA cL a ov]) sz) t) (va_A (cw ad cc N S ++ [oA cL a ov]) sz)) oc os (va_A (cw ad cc N S ++ [oA cL a ov]) sz) := by
  refine tx_ofW (cc := method_10_code) (maxL := 8) (ret := (some .int)) (hs := [(0, 14, 17, 19), (0, 14, 21, 25), (0, 14, 25, 27), (0, 14, 29, 13)]) (by decide) rfl ?_
  intro p e s m args below meth c s₁ B hml htab hv
  obtain ⟨rfl, hsz, hP, hK, hD0, hev, hE, hN, hH⟩ := hv
  have hx := B.exec
  have hb := B.bytes
  have hr := B.returns
  have hts : ∀ w9 ∈ gb, w9.before [.ref (ad 11 0), .int p0, .int p1, .int p2, .long p3, .ref a].toArray s = true := fun w9 h => atoms_spec (ws := Cond.codeWith ⟨"JoinedTreesLaw", "add", "(LJoinedTrees;IIIJ[J)I"⟩ method_10_code 8 (some .int) [(0, 14, 17, 19), (0, 14, 21, 25), (0, 14, 25, 27), (0, 14, 29, 13)] :: gb) B.pre w9 (List.mem_cons_of_mem _ h)
  have hown : s.vm.findClass "JoinedTreesLaw" = some m.cls := findClass_of_methodNamed B.named
  subst hsz
  have hNS := ns_of hP
  have hD := hD0.self (sz := s.heap.size)
  have hD0x := d_l hD0
  generalize hAe : va_A (cw ad cc N S ++ [oA cL a ov]) s.heap.size = A at hD hev hE hNS ⊢
  have hA : ∀ q : Nat, s.heap.size ≤ q → A q := fun q h => by rw [← hAe]; exact Or.inr h
  have hS : va_S A s.heap s.heap [] := va_S.rf
  obtain ⟨ls, hl, hle⟩ : ∃ ls : Array Slot, lv_has ls 8 [(0, .ref (ad 11 0)), (1, .int p0), (2, .int p1), (3, .int p2), (4, .long p3), (6, .ref a)] ∧ entryFrame m ([.ref (ad 11 0), .int p0, .int p1, .int p2, .long p3, .ref a] : List Value).toArray 8 = F0 m 0 ls [] := ⟨_, lv_entry (n := 8) _ (Nat.le_of_ble_eq_true rfl), lg_entry_eq ..⟩
  rw [hle]
  have hPx := p_l hP
  have hDx := d_l hD
  have hFc := fr_all hDx hS hA
  have hKx := hK.sub (tys' := cty cc) [0, 1, 2, 3, 4, 5, 6] rfl
  obtain ⟨h0, Heq⟩ := gl_some Heq
  refine lv_aload hx hb d_h_add_0 (lv_at hl 5 rfl) ?_
  refine lv_iconst (v := 0) hx hb d_h_add_2 (by decide) ?_
  refine lv_aload_n hx hb d_h_add_3 rfl (lv_at hl 0 rfl) ?_
  refine lv_iload_n hx hb d_h_add_4 rfl (lv_at hl 1 rfl) ?_
  refine lv_iload_n hx hb d_h_add_5 rfl (lv_at hl 2 rfl) ?_
  refine lv_iload_n hx hb d_h_add_6 rfl (lv_at hl 3 rfl) ?_
  refine lv_lload hx hb d_h_add_7 (lv_at hl 4 rfl) ?_
  rcases hA_some Heq with ⟨N1, S1, v, hm, rfl⟩ | ⟨N1, S1, k, c, hm, hk, rfl⟩
  · refine va_calli (va_runV (As := [.int p0, .int p1, .int p2, .long p3]) (rest := [.int 0, .ref a]) ⟨hx, hb, hml, hown, hts⟩ (g_cJT_add l hfl D s.heap.size (ad := ad) (cc := cc) (sad := sad) (sav := sav) hm) (cw_v 4 hts kw_854 kw_851 kw_852 kw_853 kw_1 rfl rfl (by decide +kernel) ⟨Nat.le_of_ble_eq_true rfl, Nat.le_of_ble_eq_true rfl⟩) ⟨c_blind, va_recv hK hPx (ci := 11) (q0 := cPos N 11 0) rfl (cw_obj (k := 11) (by decide) h0), fun U hU hW => c_pre hU hW hPx hKx hDx hev hE hN hNS hS hFc⟩ rfl rfl hl.1 rfl (lv_room (Nat.le_of_ble_eq_true rfl)) d_h_add_9 ⟨Nat.le_of_eq (Nat.zero_add _), Nat.le_of_eq (Nat.zero_add _)⟩) hS (fun q _ h => hFc q h) hFc (fun rz ad1 t H locs ht hvm hw hB hz1 hk1 hS => ?_)
    obtain ⟨hX, hP1, -, hD1⟩ := hB
    rw [ht] at hP1
    obtain ⟨hP, hD⟩ := join_w hP hD hk1 hFc hP1 hD1
    subst hw
    refine lv_i2l hx hb d_h_add_12 rfl ?_
    refine va_last hx hb hK hP hD hS (cw ad1 cc N1 S1).length 7 at_last rfl (i := 0) (x := rz.toInt64) (vp_in_nI (n := 0) (N := 1) (by decide) (by decide)) d_h_add_13 (fun H locs hP hD hS => ?_)
    rw [set_last] at hP hD
    refine lv_goto (tgt := 33) hx hb d_h_add_14 (by decide) ?_
    refine lv_iconst (v := 0) hx hb d_h_add_33 (by decide) ?_
    refine W.cs (cells' := _) (slots' := _) (Nat.zero_add _) (Nat.zero_add _) ?_
    exact W.iret (v := 0) hx hb hr (fun t ht hW => ⟨⟨0, ad1, rfl, rfl, hX, by rw [ht]; exact hP, va_K.moved hW.alike hK, hD⟩, hS.F ht⟩) hS.2.2 d_h_add_34
  · rcases lk_cons hk with ⟨hc, rfl⟩ | hk
    · refine tx_catch (tx_runV (As := [.int p0, .int p1, .int p2, .long p3]) (rest := [.int 0, .ref a]) ⟨hx, hb, hml, hown, hts⟩ (g_cJT_add_t l hfl D s.heap.size (ad := ad) (cc := cc) (sad := sad) (sav := sav) hm) (cw_v 4 hts kw_854 kw_851 kw_852 kw_853 kw_1 rfl rfl (by decide +kernel) ⟨Nat.le_of_ble_eq_true rfl, Nat.le_of_ble_eq_true rfl⟩) ⟨c_blind, va_recv hK hPx (ci := 11) (q0 := cPos N 11 0) rfl (cw_obj (k := 11) (by decide) h0), fun U hU hW => c_pre hU hW hPx hKx hDx hev hE hN hNS hS hFc⟩ rfl rfl hl.1 rfl (lv_room (Nat.le_of_ble_eq_true rfl)) d_h_add_9 ⟨Nat.le_of_eq (Nat.zero_add _), Nat.le_of_eq (Nat.zero_add _)⟩) hown hS hFc htab [] [(0, 14, 21, 25), (0, 14, 25, 27), (0, 14, 29, 13)] (0, 14, 17, 19) rfl (by decide) (by decide) (hts _ kw_553) (by rw [hc]; exact va_Nw.use rfl hev.2.2.2.2.2.1.1) (fun y hy => absurd hy List.not_mem_nil) (fun z H locs hz1 hk1 hB hS => ?_)
      obtain ⟨ad1, hX, hP1, hD1⟩ := hB
      obtain ⟨hP, hD⟩ := join_w hP hD hk1 hFc hP1 hD1
      refine lv_astore (lv' := [(7, .ref z), (0, .ref (ad 11 0)), (1, .int p0), (2, .int p1), (3, .int p2), (4, .long p3), (6, .ref a)]) hx hb d_h_add_17 hl (by decide) rfl (fun ls hl => ?_)
      refine lv_iconst (v := 1) hx hb d_h_add_19 (by decide) ?_
      refine W.cs (cells' := _) (slots' := _) (Nat.zero_add _) (Nat.zero_add _) ?_
      exact W.iret (v := 1) hx hb hr (fun t ht hW => ⟨⟨1, ad1, rfl, rfl, hX, by rw [ht]; exact hP, va_K.moved hW.alike hK, hD⟩, hS.F ht⟩) hS.2.2 d_h_add_20
    rcases lk_cons hk with ⟨hc, rfl⟩ | hk
    · refine tx_catch (tx_runV (As := [.int p0, .int p1, .int p2, .long p3]) (rest := [.int 0, .ref a]) ⟨hx, hb, hml, hown, hts⟩ (g_cJT_add_t l hfl D s.heap.size (ad := ad) (cc := cc) (sad := sad) (sav := sav) hm) (cw_v 4 hts kw_854 kw_851 kw_852 kw_853 kw_1 rfl rfl (by decide +kernel) ⟨Nat.le_of_ble_eq_true rfl, Nat.le_of_ble_eq_true rfl⟩) ⟨c_blind, va_recv hK hPx (ci := 11) (q0 := cPos N 11 0) rfl (cw_obj (k := 11) (by decide) h0), fun U hU hW => c_pre hU hW hPx hKx hDx hev hE hN hNS hS hFc⟩ rfl rfl hl.1 rfl (lv_room (Nat.le_of_ble_eq_true rfl)) d_h_add_9 ⟨Nat.le_of_eq (Nat.zero_add _), Nat.le_of_eq (Nat.zero_add _)⟩) hown hS hFc htab [(0, 14, 17, 19)] [(0, 14, 25, 27), (0, 14, 29, 13)] (0, 14, 21, 25) rfl (by decide) (by decide) (hts _ kw_580) (by rw [hc]; exact va_Nw.use rfl hev.2.2.2.2.2.1.2.1) (List.forall_mem_cons.mpr ⟨⟨by decide, by decide, "java/lang/IllegalArgumentException", hts _ kw_553, by rw [hc]; exact hev.2.2.2.2.2.2.2.1.2.2⟩, fun y hy => absurd hy List.not_mem_nil⟩) (fun z H locs hz1 hk1 hB hS => ?_)
      obtain ⟨ad1, hX, hP1, hD1⟩ := hB
      obtain ⟨hP, hD⟩ := join_w hP hD hk1 hFc hP1 hD1
      refine lv_astore (lv' := [(7, .ref z), (0, .ref (ad 11 0)), (1, .int p0), (2, .int p1), (3, .int p2), (4, .long p3), (6, .ref a)]) hx hb d_h_add_21 hl (by decide) rfl (fun ls hl => ?_)
      refine lv_iconst (v := 2) hx hb d_h_add_23 (by decide) ?_
      refine W.cs (cells' := _) (slots' := _) (Nat.zero_add _) (Nat.zero_add _) ?_
      exact W.iret (v := 2) hx hb hr (fun t ht hW => ⟨⟨2, ad1, rfl, rfl, hX, by rw [ht]; exact hP, va_K.moved hW.alike hK, hD⟩, hS.F ht⟩) hS.2.2 d_h_add_24
    rcases lk_cons hk with ⟨hc, rfl⟩ | hk
    · refine tx_catch (tx_runV (As := [.int p0, .int p1, .int p2, .long p3]) (rest := [.int 0, .ref a]) ⟨hx, hb, hml, hown, hts⟩ (g_cJT_add_t l hfl D s.heap.size (ad := ad) (cc := cc) (sad := sad) (sav := sav) hm) (cw_v 4 hts kw_854 kw_851 kw_852 kw_853 kw_1 rfl rfl (by decide +kernel) ⟨Nat.le_of_ble_eq_true rfl, Nat.le_of_ble_eq_true rfl⟩) ⟨c_blind, va_recv hK hPx (ci := 11) (q0 := cPos N 11 0) rfl (cw_obj (k := 11) (by decide) h0), fun U hU hW => c_pre hU hW hPx hKx hDx hev hE hN hNS hS hFc⟩ rfl rfl hl.1 rfl (lv_room (Nat.le_of_ble_eq_true rfl)) d_h_add_9 ⟨Nat.le_of_eq (Nat.zero_add _), Nat.le_of_eq (Nat.zero_add _)⟩) hown hS hFc htab [(0, 14, 17, 19), (0, 14, 21, 25)] [(0, 14, 29, 13)] (0, 14, 25, 27) rfl (by decide) (by decide) (hts _ kw_581) (by rw [hc]; exact va_Nw.use rfl hev.2.2.2.2.2.1.2.2.1) (List.forall_mem_cons.mpr ⟨⟨by decide, by decide, "java/lang/IllegalArgumentException", hts _ kw_553, by rw [hc]; exact hev.2.2.2.2.2.2.2.1.1⟩, List.forall_mem_cons.mpr ⟨⟨by decide, by decide, "java/lang/IllegalStateException", hts _ kw_580, by rw [hc]; exact hev.2.2.2.2.2.2.2.1.2.1⟩, fun y hy => absurd hy List.not_mem_nil⟩⟩) (fun z H locs hz1 hk1 hB hS => ?_)
      obtain ⟨ad1, hX, hP1, hD1⟩ := hB
      obtain ⟨hP, hD⟩ := join_w hP hD hk1 hFc hP1 hD1
      refine lv_astore (lv' := [(7, .ref z), (0, .ref (ad 11 0)), (1, .int p0), (2, .int p1), (3, .int p2), (4, .long p3), (6, .ref a)]) hx hb d_h_add_25 hl (by decide) rfl (fun ls hl => ?_)
      refine lv_iconst (v := 3) hx hb d_h_add_27 (by decide) ?_
      refine W.cs (cells' := _) (slots' := _) (Nat.zero_add _) (Nat.zero_add _) ?_
      exact W.iret (v := 3) hx hb hr (fun t ht hW => ⟨⟨3, ad1, rfl, rfl, hX, by rw [ht]; exact hP, va_K.moved hW.alike hK, hD⟩, hS.F ht⟩) hS.2.2 d_h_add_28
    rcases lk_cons hk with ⟨hc, rfl⟩ | hk
    · refine tx_catch (tx_runV (As := [.int p0, .int p1, .int p2, .long p3]) (rest := [.int 0, .ref a]) ⟨hx, hb, hml, hown, hts⟩ (g_cJT_add_t l hfl D s.heap.size (ad := ad) (cc := cc) (sad := sad) (sav := sav) hm) (cw_v 4 hts kw_854 kw_851 kw_852 kw_853 kw_1 rfl rfl (by decide +kernel) ⟨Nat.le_of_ble_eq_true rfl, Nat.le_of_ble_eq_true rfl⟩) ⟨c_blind, va_recv hK hPx (ci := 11) (q0 := cPos N 11 0) rfl (cw_obj (k := 11) (by decide) h0), fun U hU hW => c_pre hU hW hPx hKx hDx hev hE hN hNS hS hFc⟩ rfl rfl hl.1 rfl (lv_room (Nat.le_of_ble_eq_true rfl)) d_h_add_9 ⟨Nat.le_of_eq (Nat.zero_add _), Nat.le_of_eq (Nat.zero_add _)⟩) hown hS hFc htab [(0, 14, 17, 19), (0, 14, 21, 25), (0, 14, 25, 27)] [] (0, 14, 29, 13) rfl (by decide) (by decide) (hts _ kw_468) (by rw [hc]; exact va_Nw.use rfl hev.2.2.2.2.2.1.2.2.2) (List.forall_mem_cons.mpr ⟨⟨by decide, by decide, "java/lang/IllegalArgumentException", hts _ kw_553, by rw [hc]; exact hH.1⟩, List.forall_mem_cons.mpr ⟨⟨by decide, by decide, "java/lang/IllegalStateException", hts _ kw_580, by rw [hc]; exact hH.2.1⟩, List.forall_mem_cons.mpr ⟨⟨by decide, by decide, "java/util/NoSuchElementException", hts _ kw_581, by rw [hc]; exact hH.2.2.1⟩, fun y hy => absurd hy List.not_mem_nil⟩⟩⟩) (fun z H locs hz1 hk1 hB hS => ?_)
      obtain ⟨ad1, hX, hP1, hD1⟩ := hB
      obtain ⟨hP, hD⟩ := join_w hP hD hk1 hFc hP1 hD1
      refine lv_astore (lv' := [(7, .ref z), (0, .ref (ad 11 0)), (1, .int p0), (2, .int p1), (3, .int p2), (4, .long p3), (6, .ref a)]) hx hb d_h_add_29 hl (by decide) rfl (fun ls hl => ?_)
      refine lv_iconst (v := 4) hx hb d_h_add_31 (by decide) ?_
      refine W.cs (cells' := _) (slots' := _) (Nat.zero_add _) (Nat.zero_add _) ?_
      exact W.iret (v := 4) hx hb hr (fun t ht hW => ⟨⟨4, ad1, rfl, rfl, hX, by rw [ht]; exact hP, va_K.moved hW.alike hK, hD⟩, hS.F ht⟩) hS.2.2 d_h_add_32
    exact (lk_nil hk).elim
