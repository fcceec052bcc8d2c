theorem d_law_1616 : decode code 1616 = .ok (.aload_n 1, 1) := by decide +kernel
theorem d_law_1617 : decode code 1617 = .ok (.aload_n 0, 1) := by decide +kernel
theorem d_law_1618 : decode code 1618 = .ok (.iload 4, 2) := by decide +kernel
theorem d_law_1620 : decode code 1620 = .ok (.iconst 1, 1) := by decide +kernel
theorem d_law_1621 : decode code 1621 = .ok (.iadd, 1) := by decide +kernel
theorem d_law_1622 : decode code 1622 = .ok (.iaload, 1) := by decide +kernel
theorem d_law_1623 : decode code 1623 = .ok (.aload_n 0, 1) := by decide +kernel
theorem d_law_1624 : decode code 1624 = .ok (.iload 4, 2) := by decide +kernel
theorem d_law_1626 : decode code 1626 = .ok (.iconst 2, 1) := by decide +kernel
theorem d_law_1627 : decode code 1627 = .ok (.iadd, 1) := by decide +kernel
theorem d_law_1628 : decode code 1628 = .ok (.iaload, 1) := by decide +kernel
theorem d_law_1629 : decode code 1629 = .ok (.aload_n 0, 1) := by decide +kernel
theorem d_law_1630 : decode code 1630 = .ok (.iload 4, 2) := by decide +kernel
theorem d_law_1632 : decode code 1632 = .ok (.iconst 3, 1) := by decide +kernel
theorem d_law_1633 : decode code 1633 = .ok (.iadd, 1) := by decide +kernel
theorem d_law_1634 : decode code 1634 = .ok (.iaload, 1) := by decide +kernel
theorem d_law_1635 : decode code 1635 = .ok (.aload_n 0, 1) := by decide +kernel
theorem d_law_1636 : decode code 1636 = .ok (.iload 4, 2) := by decide +kernel
theorem d_law_1638 : decode code 1638 = .ok (.iconst 4, 1) := by decide +kernel
theorem d_law_1639 : decode code 1639 = .ok (.iadd, 1) := by decide +kernel
theorem d_law_1640 : decode code 1640 = .ok (.iaload, 1) := by decide +kernel
theorem d_law_1641 : decode code 1641 = .ok (.aload_n 0, 1) := by decide +kernel
theorem d_law_1642 : decode code 1642 = .ok (.iload 4, 2) := by decide +kernel
theorem d_law_1644 : decode code 1644 = .ok (.iconst 5, 1) := by decide +kernel
theorem d_law_1645 : decode code 1645 = .ok (.iadd, 1) := by decide +kernel
theorem d_law_1646 : decode code 1646 = .ok (.iaload, 1) := by decide +kernel
theorem d_law_1647 : decode code 1647 = .ok (.aload_n 3, 1) := by decide +kernel
theorem d_law_1648 : decode code 1648 = .ok (.invokestatic 177, 3) := by decide +kernel
theorem d_law_1651 : decode code 1651 = .ok (.istore 5, 2) := by decide +kernel
theorem d_law_1653 : decode code 1653 = .ok (.aload_n 2, 1) := by decide +kernel
theorem d_law_1654 : decode code 1654 = .ok (.aload_n 0, 1) := by decide +kernel
theorem d_law_1655 : decode code 1655 = .ok (.iload 4, 2) := by decide +kernel
theorem d_law_1657 : decode code 1657 = .ok (.iconst 1, 1) := by decide +kernel
theorem d_law_1658 : decode code 1658 = .ok (.iadd, 1) := by decide +kernel
theorem d_law_1659 : decode code 1659 = .ok (.iaload, 1) := by decide +kernel
theorem d_law_1660 : decode code 1660 = .ok (.aload_n 0, 1) := by decide +kernel
theorem d_law_1661 : decode code 1661 = .ok (.iload 4, 2) := by decide +kernel
theorem d_law_1663 : decode code 1663 = .ok (.iconst 2, 1) := by decide +kernel
theorem d_law_1664 : decode code 1664 = .ok (.iadd, 1) := by decide +kernel
theorem d_law_1665 : decode code 1665 = .ok (.iaload, 1) := by decide +kernel
theorem d_law_1666 : decode code 1666 = .ok (.aload_n 0, 1) := by decide +kernel
theorem d_law_1667 : decode code 1667 = .ok (.iload 4, 2) := by decide +kernel
theorem d_law_1669 : decode code 1669 = .ok (.iconst 3, 1) := by decide +kernel
theorem d_law_1670 : decode code 1670 = .ok (.iadd, 1) := by decide +kernel
theorem d_law_1671 : decode code 1671 = .ok (.iaload, 1) := by decide +kernel
theorem d_law_1672 : decode code 1672 = .ok (.aload_n 0, 1) := by decide +kernel
theorem d_law_1673 : decode code 1673 = .ok (.iload 4, 2) := by decide +kernel
theorem d_law_1675 : decode code 1675 = .ok (.iconst 4, 1) := by decide +kernel
theorem d_law_1676 : decode code 1676 = .ok (.iadd, 1) := by decide +kernel
theorem d_law_1677 : decode code 1677 = .ok (.iaload, 1) := by decide +kernel
theorem d_law_1678 : decode code 1678 = .ok (.aload_n 0, 1) := by decide +kernel
theorem d_law_1679 : decode code 1679 = .ok (.iload 4, 2) := by decide +kernel
theorem d_law_1681 : decode code 1681 = .ok (.iconst 5, 1) := by decide +kernel
theorem d_law_1682 : decode code 1682 = .ok (.iadd, 1) := by decide +kernel
theorem d_law_1683 : decode code 1683 = .ok (.iaload, 1) := by decide +kernel
theorem d_law_1684 : decode code 1684 = .ok (.invokevirtual 179, 3) := by decide +kernel
theorem d_law_1687 : decode code 1687 = .ok (.lstore 6, 2) := by decide +kernel
theorem d_law_1689 : decode code 1689 = .ok (.aload_n 2, 1) := by decide +kernel
theorem d_law_1690 : decode code 1690 = .ok (.invokevirtual 120, 3) := by decide +kernel
theorem d_law_1693 : decode code 1693 = .ok (.iload 5, 2) := by decide +kernel
theorem d_law_1695 : decode code 1695 = .ok (.if_icmp .eq 5, 3) := by decide +kernel
theorem d_law_1700 : decode code 1700 = .ok (.iload 5, 2) := by decide +kernel
theorem d_law_1702 : decode code 1702 = .ok (.ifCond .ne 14, 3) := by decide +kernel
theorem d_law_1716 : decode code 1716 = .ok (.goto 675, 3) := by decide +kernel
theorem d_law_1705 : decode code 1705 = .ok (.aload_n 3, 1) := by decide +kernel
theorem d_law_1706 : decode code 1706 = .ok (.iconst 0, 1) := by decide +kernel
theorem d_law_1707 : decode code 1707 = .ok (.laload, 1) := by decide +kernel
theorem d_law_1708 : decode code 1708 = .ok (.lload 6, 2) := by decide +kernel
theorem d_law_1710 : decode code 1710 = .ok (.lcmp, 1) := by decide +kernel
theorem d_law_1711 : decode code 1711 = .ok (.ifCond .eq 5, 3) := by decide +kernel
set_option maxHeartbeats 8000000 in
set_option maxRecDepth 100000 in
theorem law_k16 {p : Program} {e : Env} {s : State} {m : MethodId} {below : List Frame} {meth : Method} {c : Code} (l : Launch) (hfl : l.flags = flags0) {b L i : Nat} {xs : Nat → Int32} {D : va_G} {cc : Nat → ClassId} {md : Nat → Nat} {mc : Nat → ClassId} {o : Nat} {cL : ClassId} {sad sav : Nat → Nat} {ad : Nat → Nat → Nat} {ov : Nat → Int64} {N : Nat → Nat} {C : CS} {S : MS} {A : AS} {rd cells slots : Nat} {H : Heap} {locs : List Loc} {ls : Array Slot} (h : LwW p s m meth c b L xs D cc md mc o cL sad sav i ad ov N C S A rd H locs ls) (hi7 : i + 7 ≤ L) (hrd : rd + 60000 < 2 ^ 30) (hcb : cells ≤ 500000) (hsb : slots ≤ 6000000) (hk : ∀ (ad1 : Nat → Nat → Nat) (ov1 : Nat → Int64) (N1 : Nat → Nat) (C1 : CS) (S1 : MS) (A1 : AS) (rd1 c1 z1 : Nat) (H1 : Heap) (locs1 : List Loc) (ls1 : Array Slot), LwW p s m meth c b L xs D cc md mc o cL sad sav i ad1 ov1 N1 C1 S1 A1 rd1 H1 locs1 ls1 → A.n ≤ A1.n → A.m ≤ A1.m → rd1 ≤ rd + 50000 → c1 ≤ 2 * (A1.n - A.n) + 3 * (A1.m - A.m) + 1 → z1 ≤ 23 * (A1.n - A.n) + 40 * (A1.m - A.m) + 6 → W p l e room_1 s m #[Value.ref b] below meth c H1 locs1 (cells + c1) (slots + z1) (lw_Z below #[Value.ref b] s) (F0 m 2391 ls1 [])) : W p l e room_1 s m #[Value.ref b] below meth c H locs cells slots (lw_Z below #[Value.ref b] s) (F0 m 1616 ls []) := by
  obtain ⟨⟨hx, hb, hr, hml, hown, hts, hX, hbl, hlocks, hL⟩, ⟨hev, hE, hN, hH⟩, ⟨hP, hK, hD, hS, hl⟩, hI⟩ := h
  have hNS : tx_NS (lA s) s := fun q cell hq hc => absurd (Array.getElem?_eq_some_iff.mp hc).1 (Nat.not_lt.mpr hq)
  have hA : ∀ q : Nat, s.heap.size ≤ q → lA s q := fun _ h => h
  have hbA : ¬ lA s b := Nat.not_le.mpr hbl
  have h11 : N 11 = 1 := hI.2.1.nn.2.2.2.2.2.2.2.2.2.2.2.1
  refine lv_aload_n hx hb d_law_1616 rfl (lv_at hl 3 rfl) ?_
  refine lv_aload_n hx hb d_law_1617 rfl (lv_at hl 4 rfl) ?_
  refine lv_iload hx hb d_law_1618 (lv_at hl 0 rfl) ?_
  refine lv_iconst (v := 1) hx hb d_law_1620 (by decide) ?_
  refine lv_iadd hx hb d_law_1621 ?_
  refine w_i (y := nI (i + 1)) (nI_add i 1) ?_
  refine va_sld hx hb hX hbl hbA hS (i := nI (i + 1)) (vp_in_nI (n := i + 1) (N := L) (by omega) (by omega)) d_law_1622 ?_
  refine w_i (y := xs (i + 1)) (by rw [cl_nI (by omega)]) ?_
  refine lv_aload_n hx hb d_law_1623 rfl (lv_at hl 4 rfl) ?_
  refine lv_iload hx hb d_law_1624 (lv_at hl 0 rfl) ?_
  refine lv_iconst (v := 2) hx hb d_law_1626 (by decide) ?_
  refine lv_iadd hx hb d_law_1627 ?_
  refine w_i (y := nI (i + 2)) (nI_add i 2) ?_
  refine va_sld hx hb hX hbl hbA hS (i := nI (i + 2)) (vp_in_nI (n := i + 2) (N := L) (by omega) (by omega)) d_law_1628 ?_
  refine w_i (y := xs (i + 2)) (by rw [cl_nI (by omega)]) ?_
  refine lv_aload_n hx hb d_law_1629 rfl (lv_at hl 4 rfl) ?_
  refine lv_iload hx hb d_law_1630 (lv_at hl 0 rfl) ?_
  refine lv_iconst (v := 3) hx hb d_law_1632 (by decide) ?_
  refine lv_iadd hx hb d_law_1633 ?_
  refine w_i (y := nI (i + 3)) (nI_add i 3) ?_
  refine va_sld hx hb hX hbl hbA hS (i := nI (i + 3)) (vp_in_nI (n := i + 3) (N := L) (by omega) (by omega)) d_law_1634 ?_
  refine w_i (y := xs (i + 3)) (by rw [cl_nI (by omega)]) ?_
  refine lv_aload_n hx hb d_law_1635 rfl (lv_at hl 4 rfl) ?_
  refine lv_iload hx hb d_law_1636 (lv_at hl 0 rfl) ?_
  refine lv_iconst (v := 4) hx hb d_law_1638 (by decide) ?_
  refine lv_iadd hx hb d_law_1639 ?_
  refine w_i (y := nI (i + 4)) (nI_add i 4) ?_
  refine va_sld hx hb hX hbl hbA hS (i := nI (i + 4)) (vp_in_nI (n := i + 4) (N := L) (by omega) (by omega)) d_law_1640 ?_
  refine w_i (y := xs (i + 4)) (by rw [cl_nI (by omega)]) ?_
  refine lv_aload_n hx hb d_law_1641 rfl (lv_at hl 4 rfl) ?_
  refine lv_iload hx hb d_law_1642 (lv_at hl 0 rfl) ?_
  refine lv_iconst (v := 5) hx hb d_law_1644 (by decide) ?_
  refine lv_iadd hx hb d_law_1645 ?_
  refine w_i (y := nI (i + 5)) (nI_add i 5) ?_
  refine va_sld hx hb hX hbl hbA hS (i := nI (i + 5)) (vp_in_nI (n := i + 5) (N := L) (by omega) (by omega)) d_law_1646 ?_
  refine w_i (y := xs (i + 5)) (by rw [cl_nI (by omega)]) ?_
  refine lv_aload_n hx hb d_law_1647 rfl (lv_at hl 1 rfl) ?_
  obtain ⟨N1, C1, ov1, kk, c1, z1, S1, bb, A1, rd1, e1, e2, e3, e4, hI1, e5, e6, e7, e8, e9⟩ := st_candidate (ov := ov) hI hrd (xs (i + 1)) (xs (i + 2)) (xs (i + 3)) (xs (i + 4)) (xs (i + 5))
  have hn1 := hI1.2.2.1.1.1
  have hm1 := hI1.2.2.1.1.2.1
  have hPh := p_l hP
  have hDh := d_l hD
  have hKh := hK.sub (tys' := cty cc ++ [(cL, .long)]) [0, 1, 2, 3, 4, 5, 6, 7] rfl
  have hFc := fr_all hDh hS hA
  refine va_calli (tx_runSW (As := [.ref (ad 11 0), .int (xs (i + 1)), .int (xs (i + 2)), .int (xs (i + 3)), .int (xs (i + 4)), .int (xs (i + 5)), .ref o]) (rest := []) ⟨hx, hb, hml, hown, hts⟩ (g_h_candidate l hfl D H.size (ad := ad) (cc := cc) (sad := sad) (sav := sav) (cL := cL) (a := o) e1) (cw_w 7 hts kw_1139 kw_1137 kw_1138 kw_0 rfl rfl (by decide +kernel) ⟨Nat.le_of_ble_eq_true rfl, Nat.le_of_ble_eq_true rfl⟩) ⟨h_blind, fun U hU hW => h_pre hU hW hPh hKh hDh hev hE hN hH hNS hS hFc⟩ rfl rfl hl.1 rfl (lv_room (Nat.le_of_ble_eq_true rfl)) d_law_1648 ⟨by show cells + c1 ≤ 601024; omega, by show slots + z1 ≤ 7293034; omega⟩) hS (fun q _ h => hFc q h) hFc (fun rz ad1 t H1 locs ht hvm hw hB hz1 hk1 hS => ?_)
  obtain ⟨hXt, hP1, -, hD1⟩ := hB
  rw [ht] at hP1
  obtain ⟨hP, hD⟩ := join_w hP hD hk1 hFc hP1 hD1
  refine w_i (y := kk) hw ?_
  have had : ad1 11 0 = ad 11 0 := hXt.2 11 0 (by rw [h11]; decide)
  rw [← had] at hl
  generalize H1 = H at hP hS ⊢
  refine W.cs (cells' := cells + c1) (slots' := slots + z1) rfl rfl ?_
  refine lv_istore (lv' := [(5, .int kk), (4, .int (nI i)), (3, .ref o), (2, .ref (md 100)), (1, .ref (ad1 11 0)), (0, .ref b)]) hx hb d_law_1651 hl (by decide) rfl (fun ls hl => ?_)
  refine lv_aload_n hx hb d_law_1653 rfl (lv_at hl 3 rfl) ?_
  refine lv_aload_n hx hb d_law_1654 rfl (lv_at hl 5 rfl) ?_
  refine lv_iload hx hb d_law_1655 (lv_at hl 1 rfl) ?_
  refine lv_iconst (v := 1) hx hb d_law_1657 (by decide) ?_
  refine lv_iadd hx hb d_law_1658 ?_
  refine w_i (y := nI (i + 1)) (nI_add i 1) ?_
  refine va_sld hx hb hX hbl hbA hS (i := nI (i + 1)) (vp_in_nI (n := i + 1) (N := L) (by omega) (by omega)) d_law_1659 ?_
  refine w_i (y := xs (i + 1)) (by rw [cl_nI (by omega)]) ?_
  refine lv_aload_n hx hb d_law_1660 rfl (lv_at hl 5 rfl) ?_
  refine lv_iload hx hb d_law_1661 (lv_at hl 1 rfl) ?_
  refine lv_iconst (v := 2) hx hb d_law_1663 (by decide) ?_
  refine lv_iadd hx hb d_law_1664 ?_
  refine w_i (y := nI (i + 2)) (nI_add i 2) ?_
  refine va_sld hx hb hX hbl hbA hS (i := nI (i + 2)) (vp_in_nI (n := i + 2) (N := L) (by omega) (by omega)) d_law_1665 ?_
  refine w_i (y := xs (i + 2)) (by rw [cl_nI (by omega)]) ?_
  refine lv_aload_n hx hb d_law_1666 rfl (lv_at hl 5 rfl) ?_
  refine lv_iload hx hb d_law_1667 (lv_at hl 1 rfl) ?_
  refine lv_iconst (v := 3) hx hb d_law_1669 (by decide) ?_
  refine lv_iadd hx hb d_law_1670 ?_
  refine w_i (y := nI (i + 3)) (nI_add i 3) ?_
  refine va_sld hx hb hX hbl hbA hS (i := nI (i + 3)) (vp_in_nI (n := i + 3) (N := L) (by omega) (by omega)) d_law_1671 ?_
  refine w_i (y := xs (i + 3)) (by rw [cl_nI (by omega)]) ?_
  refine lv_aload_n hx hb d_law_1672 rfl (lv_at hl 5 rfl) ?_
  refine lv_iload hx hb d_law_1673 (lv_at hl 1 rfl) ?_
  refine lv_iconst (v := 4) hx hb d_law_1675 (by decide) ?_
  refine lv_iadd hx hb d_law_1676 ?_
  refine w_i (y := nI (i + 4)) (nI_add i 4) ?_
  refine va_sld hx hb hX hbl hbA hS (i := nI (i + 4)) (vp_in_nI (n := i + 4) (N := L) (by omega) (by omega)) d_law_1677 ?_
  refine w_i (y := xs (i + 4)) (by rw [cl_nI (by omega)]) ?_
  refine lv_aload_n hx hb d_law_1678 rfl (lv_at hl 5 rfl) ?_
  refine lv_iload hx hb d_law_1679 (lv_at hl 1 rfl) ?_
  refine lv_iconst (v := 5) hx hb d_law_1681 (by decide) ?_
  refine lv_iadd hx hb d_law_1682 ?_
  refine w_i (y := nI (i + 5)) (nI_add i 5) ?_
  refine va_sld hx hb hX hbl hbA hS (i := nI (i + 5)) (vp_in_nI (n := i + 5) (N := L) (by omega) (by omega)) d_law_1683 ?_
  refine w_i (y := xs (i + 5)) (by rw [cl_nI (by omega)]) ?_
  have hPc := p_r hP
  have hDc := d_r hD
  have hKc := hK.sub (tys' := mty mc) [8, 9, 10, 11, 12] rfl
  have hFc := fr_all hDc hS hA
  refine va_calll (va_runV (As := [.int (xs (i + 1)), .int (xs (i + 2)), .int (xs (i + 3)), .int (xs (i + 4)), .int (xs (i + 5))]) (rest := []) ⟨hx, hb, hml, hown, hts⟩ (g_rcandidate l D H.size (md := md) (mc := mc) e2) (cw_v 5 hts kw_1875 kw_1872 kw_1873 kw_1874 kw_11 rfl rfl (by decide +kernel) ⟨Nat.le_of_ble_eq_true rfl, Nat.le_of_ble_eq_true rfl⟩) ⟨g_blind, va_recv hKc hPc (ci := 12) (q0 := 0) rfl rfl, fun U hU hW => g_pre hU hW hPc hKc hDc⟩ rfl rfl hl.1 rfl (lv_room (Nat.le_of_ble_eq_true rfl)) d_law_1684 ⟨by show cells + c1 + 0 ≤ 601024; omega, by show slots + z1 + 0 ≤ 7293034; omega⟩) hS (fun q _ h => hFc q h) hFc (fun rb u t H1 locs ht hvm hw hB hz1 hk1 hS => ?_)
  obtain ⟨hP1, -, hD1⟩ := hB
  rw [ht] at hP1
  obtain ⟨hP, hD⟩ := join_r hP hD hk1 hFc hP1 hD1
  refine w_l (y := bb) hw ?_
  generalize H1 = H at hP hS ⊢
  refine W.cs (cells' := cells + c1) (slots' := slots + z1) rfl rfl ?_
  refine lv_lstore (lv' := [(6, .long bb), (5, .int kk), (4, .int (nI i)), (3, .ref o), (2, .ref (md 100)), (1, .ref (ad1 11 0)), (0, .ref b)]) hx hb d_law_1687 hl (by decide) rfl (fun ls hl => ?_)
  refine lv_aload_n hx hb d_law_1689 rfl (lv_at hl 4 rfl) ?_
  have hPc := p_r hP
  have hDc := d_r hD
  have hKc := hK.sub (tys' := mty mc) [8, 9, 10, 11, 12] rfl
  have hFc := fr_all hDc hS hA
  refine va_calli (va_runV (As := []) (rest := []) ⟨hx, hb, hml, hown, hts⟩ (g_rthrown l D H.size (md := md) (mc := mc) (show m_rthrown S1 = some (S1, S1.i 0) from rfl)) (cw_v 0 hts kw_1618 kw_1615 kw_1616 kw_1617 kw_11 rfl rfl (by decide +kernel) ⟨Nat.le_of_ble_eq_true rfl, Nat.le_of_ble_eq_true rfl⟩) ⟨g_blind, va_recv hKc hPc (ci := 12) (q0 := 0) rfl rfl, fun U hU hW => g_pre hU hW hPc hKc hDc⟩ rfl rfl hl.1 rfl (lv_room (Nat.le_of_ble_eq_true rfl)) d_law_1690 ⟨by show cells + c1 + 0 ≤ 601024; omega, by show slots + z1 + 0 ≤ 7293034; omega⟩) hS (fun q _ h => hFc q h) hFc (fun rt u t H1 locs ht hvm hw hB hz1 hk1 hS => ?_)
  obtain ⟨hP1, -, hD1⟩ := hB
  rw [ht] at hP1
  obtain ⟨hP, hD⟩ := join_r hP hD hk1 hFc hP1 hD1
  refine w_i (y := kk) (hw.trans e3) ?_
  generalize H1 = H at hP hS ⊢
  refine W.cs (cells' := cells + c1) (slots' := slots + z1) rfl rfl ?_
  refine lv_iload hx hb d_law_1693 (lv_at hl 1 rfl) ?_
  refine lv_icmp_eq (tgt := 1700) hx hb d_law_1695 (by decide) (fun _ => ?_) (fun h => absurd rfl h)
  refine lv_iload hx hb d_law_1700 (lv_at hl 1 rfl) ?_
  refine lv_if_ne (tgt := 1716) hx hb d_law_1702 (by decide) (fun ck => ?_) (fun ck => ?_)
  · refine lv_goto (tgt := 2391) hx hb d_law_1716 (by decide) ?_
    exact hk ad1 ov1 N1 C1 S1 A1 rd1 c1 z1 H _ ls ⟨⟨hx, hb, hr, hml, hown, hts, hX, hbl, hlocks, hL⟩, ⟨hev, hE, hN, hH⟩, ⟨hP, hK, hD, hS, lv_sub hl [2, 3, 4, 5, 6] rfl⟩, hI1⟩ e5 e6 e7 e8 e9
  · refine lv_aload_n hx hb d_law_1705 rfl (lv_at hl 3 rfl) ?_
    refine lv_iconst (v := 0) hx hb d_law_1706 (by decide) ?_
    refine va_lald hx hb hK hP (cw ad1 cc N1 C1).length 7 at_mid rfl (i := 0) (vp_in_nI (n := 0) (N := 1) (by decide) (by decide)) d_law_1707 ?_
    refine w_l (y := ov1 0) rfl ?_
    refine lv_lload hx hb d_law_1708 (lv_at hl 0 rfl) ?_
    refine w_l (y := ov1 0) (e4 ck).symm ?_
    refine W.lcmp hx hb d_law_1710 ?_
    refine w_i (y := 0) (by simp [lg_cmp]) ?_
    refine lv_if_eq (tgt := 1716) hx hb d_law_1711 (by decide) (fun _ => ?_) (fun h => absurd rfl h)
    refine lv_goto (tgt := 2391) hx hb d_law_1716 (by decide) ?_
    exact hk ad1 ov1 N1 C1 S1 A1 rd1 c1 z1 H _ ls ⟨⟨hx, hb, hr, hml, hown, hts, hX, hbl, hlocks, hL⟩, ⟨hev, hE, hN, hH⟩, ⟨hP, hK, hD, hS, lv_sub hl [2, 3, 4, 5, 6] rfl⟩, hI1⟩ e5 e6 e7 e8 e9
theorem d_law_1719 : decode code 1719 = .ok (.aload_n 1, 1) := by decide +kernel
theorem d_law_1720 : decode code 1720 = .ok (.aload_n 0, 1) := by decide +kernel
theorem d_law_1721 : decode code 1721 = .ok (.iload 4, 2) := by decide +kernel
theorem d_law_1723 : decode code 1723 = .ok (.iconst 1, 1) := by decide +kernel
theorem d_law_1724 : decode code 1724 = .ok (.iadd, 1) := by decide +kernel
theorem d_law_1725 : decode code 1725 = .ok (.iaload, 1) := by decide +kernel
theorem d_law_1726 : decode code 1726 = .ok (.aload_n 0, 1) := by decide +kernel
theorem d_law_1727 : decode code 1727 = .ok (.iload 4, 2) := by decide +kernel
theorem d_law_1729 : decode code 1729 = .ok (.iconst 2, 1) := by decide +kernel
theorem d_law_1730 : decode code 1730 = .ok (.iadd, 1) := by decide +kernel
theorem d_law_1731 : decode code 1731 = .ok (.iaload, 1) := by decide +kernel
theorem d_law_1732 : decode code 1732 = .ok (.aload_n 0, 1) := by decide +kernel
theorem d_law_1733 : decode code 1733 = .ok (.iload 4, 2) := by decide +kernel
theorem d_law_1735 : decode code 1735 = .ok (.iconst 3, 1) := by decide +kernel
theorem d_law_1736 : decode code 1736 = .ok (.iadd, 1) := by decide +kernel
theorem d_law_1737 : decode code 1737 = .ok (.iaload, 1) := by decide +kernel
theorem d_law_1738 : decode code 1738 = .ok (.aload_n 3, 1) := by decide +kernel
theorem d_law_1739 : decode code 1739 = .ok (.invokestatic 180, 3) := by decide +kernel
theorem d_law_1742 : decode code 1742 = .ok (.istore 5, 2) := by decide +kernel
theorem d_law_1744 : decode code 1744 = .ok (.aload_n 2, 1) := by decide +kernel
theorem d_law_1745 : decode code 1745 = .ok (.aload_n 0, 1) := by decide +kernel
theorem d_law_1746 : decode code 1746 = .ok (.iload 4, 2) := by decide +kernel
theorem d_law_1748 : decode code 1748 = .ok (.iconst 1, 1) := by decide +kernel
theorem d_law_1749 : decode code 1749 = .ok (.iadd, 1) := by decide +kernel
theorem d_law_1750 : decode code 1750 = .ok (.iaload, 1) := by decide +kernel
theorem d_law_1751 : decode code 1751 = .ok (.aload_n 0, 1) := by decide +kernel
theorem d_law_1752 : decode code 1752 = .ok (.iload 4, 2) := by decide +kernel
theorem d_law_1754 : decode code 1754 = .ok (.iconst 2, 1) := by decide +kernel
theorem d_law_1755 : decode code 1755 = .ok (.iadd, 1) := by decide +kernel
theorem d_law_1756 : decode code 1756 = .ok (.iaload, 1) := by decide +kernel
theorem d_law_1757 : decode code 1757 = .ok (.aload_n 0, 1) := by decide +kernel
theorem d_law_1758 : decode code 1758 = .ok (.iload 4, 2) := by decide +kernel
theorem d_law_1760 : decode code 1760 = .ok (.iconst 3, 1) := by decide +kernel
theorem d_law_1761 : decode code 1761 = .ok (.iadd, 1) := by decide +kernel
theorem d_law_1762 : decode code 1762 = .ok (.iaload, 1) := by decide +kernel
theorem d_law_1763 : decode code 1763 = .ok (.invokevirtual 182, 3) := by decide +kernel
theorem d_law_1766 : decode code 1766 = .ok (.istore 6, 2) := by decide +kernel
theorem d_law_1768 : decode code 1768 = .ok (.aload_n 2, 1) := by decide +kernel
theorem d_law_1769 : decode code 1769 = .ok (.invokevirtual 120, 3) := by decide +kernel
theorem d_law_1772 : decode code 1772 = .ok (.iload 5, 2) := by decide +kernel
theorem d_law_1774 : decode code 1774 = .ok (.if_icmp .eq 5, 3) := by decide +kernel
theorem d_law_1779 : decode code 1779 = .ok (.iload 5, 2) := by decide +kernel
theorem d_law_1781 : decode code 1781 = .ok (.ifCond .ne 15, 3) := by decide +kernel
theorem d_law_1796 : decode code 1796 = .ok (.goto 595, 3) := by decide +kernel
theorem d_law_1784 : decode code 1784 = .ok (.aload_n 3, 1) := by decide +kernel
theorem d_law_1785 : decode code 1785 = .ok (.iconst 0, 1) := by decide +kernel
theorem d_law_1786 : decode code 1786 = .ok (.laload, 1) := by decide +kernel
theorem d_law_1787 : decode code 1787 = .ok (.iload 6, 2) := by decide +kernel
theorem d_law_1789 : decode code 1789 = .ok (.i2l, 1) := by decide +kernel
theorem d_law_1790 : decode code 1790 = .ok (.lcmp, 1) := by decide +kernel
theorem d_law_1791 : decode code 1791 = .ok (.ifCond .eq 5, 3) := by decide +kernel
set_option maxHeartbeats 8000000 in
set_option maxRecDepth 100000 in
theorem law_k17 {p : Program} {e : Env} {s : State} {m : MethodId} {below : List Frame} {meth : Method} {c : Code} (l : Launch) (hfl : l.flags = flags0) {b L i : Nat} {xs : Nat → Int32} {D : va_G} {cc : Nat → ClassId} {md : Nat → Nat} {mc : Nat → ClassId} {o : Nat} {cL : ClassId} {sad sav : Nat → Nat} {ad : Nat → Nat → Nat} {ov : Nat → Int64} {N : Nat → Nat} {C : CS} {S : MS} {A : AS} {rd cells slots : Nat} {H : Heap} {locs : List Loc} {ls : Array Slot} (h : LwW p s m meth c b L xs D cc md mc o cL sad sav i ad ov N C S A rd H locs ls) (hi7 : i + 7 ≤ L) (hrd : rd + 60000 < 2 ^ 30) (hcb : cells ≤ 500000) (hsb : slots ≤ 6000000) (hk : ∀ (ad1 : Nat → Nat → Nat) (ov1 : Nat → Int64) (N1 : Nat → Nat) (C1 : CS) (S1 : MS) (A1 : AS) (rd1 c1 z1 : Nat) (H1 : Heap) (locs1 : List Loc) (ls1 : Array Slot), LwW p s m meth c b L xs D cc md mc o cL sad sav i ad1 ov1 N1 C1 S1 A1 rd1 H1 locs1 ls1 → A.n ≤ A1.n → A.m ≤ A1.m → rd1 ≤ rd + 50000 → c1 ≤ 2 * (A1.n - A.n) + 3 * (A1.m - A.m) + 1 → z1 ≤ 23 * (A1.n - A.n) + 40 * (A1.m - A.m) + 6 → W p l e room_1 s m #[Value.ref b] below meth c H1 locs1 (cells + c1) (slots + z1) (lw_Z below #[Value.ref b] s) (F0 m 2391 ls1 [])) : W p l e room_1 s m #[Value.ref b] below meth c H locs cells slots (lw_Z below #[Value.ref b] s) (F0 m 1719 ls []) := by
  obtain ⟨⟨hx, hb, hr, hml, hown, hts, hX, hbl, hlocks, hL⟩, ⟨hev, hE, hN, hH⟩, ⟨hP, hK, hD, hS, hl⟩, hI⟩ := h
  have hNS : tx_NS (lA s) s := fun q cell hq hc => absurd (Array.getElem?_eq_some_iff.mp hc).1 (Nat.not_lt.mpr hq)
  have hA : ∀ q : Nat, s.heap.size ≤ q → lA s q := fun _ h => h
  have hbA : ¬ lA s b := Nat.not_le.mpr hbl
  have h11 : N 11 = 1 := hI.2.1.nn.2.2.2.2.2.2.2.2.2.2.2.1
  refine lv_aload_n hx hb d_law_1719 rfl (lv_at hl 3 rfl) ?_
  refine lv_aload_n hx hb d_law_1720 rfl (lv_at hl 4 rfl) ?_
  refine lv_iload hx hb d_law_1721 (lv_at hl 0 rfl) ?_
  refine lv_iconst (v := 1) hx hb d_law_1723 (by decide) ?_
  refine lv_iadd hx hb d_law_1724 ?_
  refine w_i (y := nI (i + 1)) (nI_add i 1) ?_
  refine va_sld hx hb hX hbl hbA hS (i := nI (i + 1)) (vp_in_nI (n := i + 1) (N := L) (by omega) (by omega)) d_law_1725 ?_
  refine w_i (y := xs (i + 1)) (by rw [cl_nI (by omega)]) ?_
  refine lv_aload_n hx hb d_law_1726 rfl (lv_at hl 4 rfl) ?_
  refine lv_iload hx hb d_law_1727 (lv_at hl 0 rfl) ?_
  refine lv_iconst (v := 2) hx hb d_law_1729 (by decide) ?_
  refine lv_iadd hx hb d_law_1730 ?_
  refine w_i (y := nI (i + 2)) (nI_add i 2) ?_
  refine va_sld hx hb hX hbl hbA hS (i := nI (i + 2)) (vp_in_nI (n := i + 2) (N := L) (by omega) (by omega)) d_law_1731 ?_
  refine w_i (y := xs (i + 2)) (by rw [cl_nI (by omega)]) ?_
  refine lv_aload_n hx hb d_law_1732 rfl (lv_at hl 4 rfl) ?_
  refine lv_iload hx hb d_law_1733 (lv_at hl 0 rfl) ?_
  refine lv_iconst (v := 3) hx hb d_law_1735 (by decide) ?_
  refine lv_iadd hx hb d_law_1736 ?_
  refine w_i (y := nI (i + 3)) (nI_add i 3) ?_
  refine va_sld hx hb hX hbl hbA hS (i := nI (i + 3)) (vp_in_nI (n := i + 3) (N := L) (by omega) (by omega)) d_law_1737 ?_
  refine w_i (y := xs (i + 3)) (by rw [cl_nI (by omega)]) ?_
  refine lv_aload_n hx hb d_law_1738 rfl (lv_at hl 1 rfl) ?_
  obtain ⟨N1, C1, ov1, kk, c1, z1, S1, bb, A1, rd1, e1, e2, e3, e4, hI1, e5, e6, e7, e8, e9⟩ := st_letter (ov := ov) hI hrd (xs (i + 1)) (xs (i + 2)) (xs (i + 3))
  have hn1 := hI1.2.2.1.1.1
  have hm1 := hI1.2.2.1.1.2.1
  have hPh := p_l hP
  have hDh := d_l hD
  have hKh := hK.sub (tys' := cty cc ++ [(cL, .long)]) [0, 1, 2, 3, 4, 5, 6, 7] rfl
  have hFc := fr_all hDh hS hA
  refine va_calli (tx_runSW (As := [.ref (ad 11 0), .int (xs (i + 1)), .int (xs (i + 2)), .int (xs (i + 3)), .ref o]) (rest := []) ⟨hx, hb, hml, hown, hts⟩ (g_h_letter l hfl D H.size (ad := ad) (cc := cc) (sad := sad) (sav := sav) (cL := cL) (a := o) e1) (cw_w 5 hts kw_1154 kw_1152 kw_1153 kw_0 rfl rfl (by decide +kernel) ⟨Nat.le_of_ble_eq_true rfl, Nat.le_of_ble_eq_true rfl⟩) ⟨h_blind, fun U hU hW => h_pre hU hW hPh hKh hDh hev hE hN hH hNS hS hFc⟩ rfl rfl hl.1 rfl (lv_room (Nat.le_of_ble_eq_true rfl)) d_law_1739 ⟨by show cells + c1 ≤ 601024; omega, by show slots + z1 ≤ 7293034; omega⟩) hS (fun q _ h => hFc q h) hFc (fun rz ad1 t H1 locs ht hvm hw hB hz1 hk1 hS => ?_)
  obtain ⟨hXt, hP1, -, hD1⟩ := hB
  rw [ht] at hP1
  obtain ⟨hP, hD⟩ := join_w hP hD hk1 hFc hP1 hD1
  refine w_i (y := kk) hw ?_
  have had : ad1 11 0 = ad 11 0 := hXt.2 11 0 (by rw [h11]; decide)
  rw [← had] at hl
  generalize H1 = H at hP hS ⊢
  refine W.cs (cells' := cells + c1) (slots' := slots + z1) rfl rfl ?_
  refine lv_istore (lv' := [(5, .int kk), (4, .int (nI i)), (3, .ref o), (2, .ref (md 100)), (1, .ref (ad1 11 0)), (0, .ref b)]) hx hb d_law_1742 hl (by decide) rfl (fun ls hl => ?_)
  refine lv_aload_n hx hb d_law_1744 rfl (lv_at hl 3 rfl) ?_
  refine lv_aload_n hx hb d_law_1745 rfl (lv_at hl 5 rfl) ?_
  refine lv_iload hx hb d_law_1746 (lv_at hl 1 rfl) ?_
  refine lv_iconst (v := 1) hx hb d_law_1748 (by decide) ?_
  refine lv_iadd hx hb d_law_1749 ?_
  refine w_i (y := nI (i + 1)) (nI_add i 1) ?_
  refine va_sld hx hb hX hbl hbA hS (i := nI (i + 1)) (vp_in_nI (n := i + 1) (N := L) (by omega) (by omega)) d_law_1750 ?_
  refine w_i (y := xs (i + 1)) (by rw [cl_nI (by omega)]) ?_
  refine lv_aload_n hx hb d_law_1751 rfl (lv_at hl 5 rfl) ?_
  refine lv_iload hx hb d_law_1752 (lv_at hl 1 rfl) ?_
  refine lv_iconst (v := 2) hx hb d_law_1754 (by decide) ?_
  refine lv_iadd hx hb d_law_1755 ?_
  refine w_i (y := nI (i + 2)) (nI_add i 2) ?_
  refine va_sld hx hb hX hbl hbA hS (i := nI (i + 2)) (vp_in_nI (n := i + 2) (N := L) (by omega) (by omega)) d_law_1756 ?_
  refine w_i (y := xs (i + 2)) (by rw [cl_nI (by omega)]) ?_
  refine lv_aload_n hx hb d_law_1757 rfl (lv_at hl 5 rfl) ?_
  refine lv_iload hx hb d_law_1758 (lv_at hl 1 rfl) ?_
  refine lv_iconst (v := 3) hx hb d_law_1760 (by decide) ?_
  refine lv_iadd hx hb d_law_1761 ?_
  refine w_i (y := nI (i + 3)) (nI_add i 3) ?_
  refine va_sld hx hb hX hbl hbA hS (i := nI (i + 3)) (vp_in_nI (n := i + 3) (N := L) (by omega) (by omega)) d_law_1762 ?_
  refine w_i (y := xs (i + 3)) (by rw [cl_nI (by omega)]) ?_
  have hPc := p_r hP
  have hDc := d_r hD
  have hKc := hK.sub (tys' := mty mc) [8, 9, 10, 11, 12] rfl
  have hFc := fr_all hDc hS hA
  refine va_calli (va_runV (As := [.int (xs (i + 1)), .int (xs (i + 2)), .int (xs (i + 3))]) (rest := []) ⟨hx, hb, hml, hown, hts⟩ (g_rletter l D H.size (md := md) (mc := mc) e2) (cw_v 3 hts kw_1883 kw_1880 kw_1881 kw_1882 kw_11 rfl rfl (by decide +kernel) ⟨Nat.le_of_ble_eq_true rfl, Nat.le_of_ble_eq_true rfl⟩) ⟨g_blind, va_recv hKc hPc (ci := 12) (q0 := 0) rfl rfl, fun U hU hW => g_pre hU hW hPc hKc hDc⟩ rfl rfl hl.1 rfl (lv_room (Nat.le_of_ble_eq_true rfl)) d_law_1763 ⟨by show cells + c1 + 0 ≤ 601024; omega, by show slots + z1 + 0 ≤ 7293034; omega⟩) hS (fun q _ h => hFc q h) hFc (fun rb u t H1 locs ht hvm hw hB hz1 hk1 hS => ?_)
  obtain ⟨hP1, -, hD1⟩ := hB
  rw [ht] at hP1
  obtain ⟨hP, hD⟩ := join_r hP hD hk1 hFc hP1 hD1
  refine w_i (y := bb) hw ?_
  generalize H1 = H at hP hS ⊢
  refine W.cs (cells' := cells + c1) (slots' := slots + z1) rfl rfl ?_
  refine lv_istore (lv' := [(6, .int bb), (5, .int kk), (4, .int (nI i)), (3, .ref o), (2, .ref (md 100)), (1, .ref (ad1 11 0)), (0, .ref b)]) hx hb d_law_1766 hl (by decide) rfl (fun ls hl => ?_)
  refine lv_aload_n hx hb d_law_1768 rfl (lv_at hl 4 rfl) ?_
  have hPc := p_r hP
  have hDc := d_r hD
  have hKc := hK.sub (tys' := mty mc) [8, 9, 10, 11, 12] rfl
  have hFc := fr_all hDc hS hA
  refine va_calli (va_runV (As := []) (rest := []) ⟨hx, hb, hml, hown, hts⟩ (g_rthrown l D H.size (md := md) (mc := mc) (show m_rthrown S1 = some (S1, S1.i 0) from rfl)) (cw_v 0 hts kw_1618 kw_1615 kw_1616 kw_1617 kw_11 rfl rfl (by decide +kernel) ⟨Nat.le_of_ble_eq_true rfl, Nat.le_of_ble_eq_true rfl⟩) ⟨g_blind, va_recv hKc hPc (ci := 12) (q0 := 0) rfl rfl, fun U hU hW => g_pre hU hW hPc hKc hDc⟩ rfl rfl hl.1 rfl (lv_room (Nat.le_of_ble_eq_true rfl)) d_law_1769 ⟨by show cells + c1 + 0 ≤ 601024; omega, by show slots + z1 + 0 ≤ 7293034; omega⟩) hS (fun q _ h => hFc q h) hFc (fun rt u t H1 locs ht hvm hw hB hz1 hk1 hS => ?_)
  obtain ⟨hP1, -, hD1⟩ := hB
  rw [ht] at hP1
  obtain ⟨hP, hD⟩ := join_r hP hD hk1 hFc hP1 hD1
  refine w_i (y := kk) (hw.trans e3) ?_
  generalize H1 = H at hP hS ⊢
  refine W.cs (cells' := cells + c1) (slots' := slots + z1) rfl rfl ?_
  refine lv_iload hx hb d_law_1772 (lv_at hl 1 rfl) ?_
  refine lv_icmp_eq (tgt := 1779) hx hb d_law_1774 (by decide) (fun _ => ?_) (fun h => absurd rfl h)
  refine lv_iload hx hb d_law_1779 (lv_at hl 1 rfl) ?_
  refine lv_if_ne (tgt := 1796) hx hb d_law_1781 (by decide) (fun ck => ?_) (fun ck => ?_)
  · refine lv_goto (tgt := 2391) hx hb d_law_1796 (by decide) ?_
    exact hk ad1 ov1 N1 C1 S1 A1 rd1 c1 z1 H _ ls ⟨⟨hx, hb, hr, hml, hown, hts, hX, hbl, hlocks, hL⟩, ⟨hev, hE, hN, hH⟩, ⟨hP, hK, hD, hS, lv_sub hl [2, 3, 4, 5, 6] rfl⟩, hI1⟩ e5 e6 e7 e8 e9
  · refine lv_aload_n hx hb d_law_1784 rfl (lv_at hl 3 rfl) ?_
    refine lv_iconst (v := 0) hx hb d_law_1785 (by decide) ?_
    refine va_lald hx hb hK hP (cw ad1 cc N1 C1).length 7 at_mid rfl (i := 0) (vp_in_nI (n := 0) (N := 1) (by decide) (by decide)) d_law_1786 ?_
    refine w_l (y := ov1 0) rfl ?_
    refine lv_iload hx hb d_law_1787 (lv_at hl 0 rfl) ?_
    refine lv_i2l hx hb d_law_1789 rfl ?_
    refine w_l (y := ov1 0) (e4 ck).symm ?_
    refine W.lcmp hx hb d_law_1790 ?_
    refine w_i (y := 0) (by simp [lg_cmp]) ?_
    refine lv_if_eq (tgt := 1796) hx hb d_law_1791 (by decide) (fun _ => ?_) (fun h => absurd rfl h)
    refine lv_goto (tgt := 2391) hx hb d_law_1796 (by decide) ?_
    exact hk ad1 ov1 N1 C1 S1 A1 rd1 c1 z1 H _ ls ⟨⟨hx, hb, hr, hml, hown, hts, hX, hbl, hlocks, hL⟩, ⟨hev, hE, hN, hH⟩, ⟨hP, hK, hD, hS, lv_sub hl [2, 3, 4, 5, 6] rfl⟩, hI1⟩ e5 e6 e7 e8 e9
theorem d_law_1799 : decode code 1799 = .ok (.aload_n 1, 1) := by decide +kernel
theorem d_law_1800 : decode code 1800 = .ok (.aload_n 0, 1) := by decide +kernel
theorem d_law_1801 : decode code 1801 = .ok (.iload 4, 2) := by decide +kernel
theorem d_law_1803 : decode code 1803 = .ok (.iconst 1, 1) := by decide +kernel
theorem d_law_1804 : decode code 1804 = .ok (.iadd, 1) := by decide +kernel
theorem d_law_1805 : decode code 1805 = .ok (.iaload, 1) := by decide +kernel
theorem d_law_1806 : decode code 1806 = .ok (.aload_n 0, 1) := by decide +kernel
theorem d_law_1807 : decode code 1807 = .ok (.iload 4, 2) := by decide +kernel
theorem d_law_1809 : decode code 1809 = .ok (.iconst 2, 1) := by decide +kernel
theorem d_law_1810 : decode code 1810 = .ok (.iadd, 1) := by decide +kernel
theorem d_law_1811 : decode code 1811 = .ok (.iaload, 1) := by decide +kernel
theorem d_law_1812 : decode code 1812 = .ok (.aload_n 0, 1) := by decide +kernel
theorem d_law_1813 : decode code 1813 = .ok (.iload 4, 2) := by decide +kernel
theorem d_law_1815 : decode code 1815 = .ok (.iconst 3, 1) := by decide +kernel
theorem d_law_1816 : decode code 1816 = .ok (.iadd, 1) := by decide +kernel
theorem d_law_1817 : decode code 1817 = .ok (.iaload, 1) := by decide +kernel
theorem d_law_1818 : decode code 1818 = .ok (.aload_n 3, 1) := by decide +kernel
theorem d_law_1819 : decode code 1819 = .ok (.invokestatic 183, 3) := by decide +kernel
theorem d_law_1822 : decode code 1822 = .ok (.istore 5, 2) := by decide +kernel
theorem d_law_1824 : decode code 1824 = .ok (.aload_n 2, 1) := by decide +kernel
theorem d_law_1825 : decode code 1825 = .ok (.aload_n 0, 1) := by decide +kernel
theorem d_law_1826 : decode code 1826 = .ok (.iload 4, 2) := by decide +kernel
theorem d_law_1828 : decode code 1828 = .ok (.iconst 1, 1) := by decide +kernel
theorem d_law_1829 : decode code 1829 = .ok (.iadd, 1) := by decide +kernel
theorem d_law_1830 : decode code 1830 = .ok (.iaload, 1) := by decide +kernel
theorem d_law_1831 : decode code 1831 = .ok (.aload_n 0, 1) := by decide +kernel
theorem d_law_1832 : decode code 1832 = .ok (.iload 4, 2) := by decide +kernel
theorem d_law_1834 : decode code 1834 = .ok (.iconst 2, 1) := by decide +kernel
theorem d_law_1835 : decode code 1835 = .ok (.iadd, 1) := by decide +kernel
theorem d_law_1836 : decode code 1836 = .ok (.iaload, 1) := by decide +kernel
theorem d_law_1837 : decode code 1837 = .ok (.aload_n 0, 1) := by decide +kernel
theorem d_law_1838 : decode code 1838 = .ok (.iload 4, 2) := by decide +kernel
theorem d_law_1840 : decode code 1840 = .ok (.iconst 3, 1) := by decide +kernel
theorem d_law_1841 : decode code 1841 = .ok (.iadd, 1) := by decide +kernel
theorem d_law_1842 : decode code 1842 = .ok (.iaload, 1) := by decide +kernel
theorem d_law_1843 : decode code 1843 = .ok (.invokevirtual 185, 3) := by decide +kernel
theorem d_law_1846 : decode code 1846 = .ok (.istore 6, 2) := by decide +kernel
theorem d_law_1848 : decode code 1848 = .ok (.aload_n 2, 1) := by decide +kernel
theorem d_law_1849 : decode code 1849 = .ok (.invokevirtual 120, 3) := by decide +kernel
theorem d_law_1852 : decode code 1852 = .ok (.iload 5, 2) := by decide +kernel
theorem d_law_1854 : decode code 1854 = .ok (.if_icmp .eq 5, 3) := by decide +kernel
theorem d_law_1859 : decode code 1859 = .ok (.iload 5, 2) := by decide +kernel
theorem d_law_1861 : decode code 1861 = .ok (.ifCond .ne 15, 3) := by decide +kernel
theorem d_law_1876 : decode code 1876 = .ok (.goto 515, 3) := by decide +kernel
theorem d_law_1864 : decode code 1864 = .ok (.aload_n 3, 1) := by decide +kernel
theorem d_law_1865 : decode code 1865 = .ok (.iconst 0, 1) := by decide +kernel
theorem d_law_1866 : decode code 1866 = .ok (.laload, 1) := by decide +kernel
theorem d_law_1867 : decode code 1867 = .ok (.iload 6, 2) := by decide +kernel
theorem d_law_1869 : decode code 1869 = .ok (.i2l, 1) := by decide +kernel
theorem d_law_1870 : decode code 1870 = .ok (.lcmp, 1) := by decide +kernel
theorem d_law_1871 : decode code 1871 = .ok (.ifCond .eq 5, 3) := by decide +kernel
set_option maxHeartbeats 8000000 in
set_option maxRecDepth 100000 in
theorem law_k18 {p : Program} {e : Env} {s : State} {m : MethodId} {below : List Frame} {meth : Method} {c : Code} (l : Launch) (hfl : l.flags = flags0) {b L i : Nat} {xs : Nat → Int32} {D : va_G} {cc : Nat → ClassId} {md : Nat → Nat} {mc : Nat → ClassId} {o : Nat} {cL : ClassId} {sad sav : Nat → Nat} {ad : Nat → Nat → Nat} {ov : Nat → Int64} {N : Nat → Nat} {C : CS} {S : MS} {A : AS} {rd cells slots : Nat} {H : Heap} {locs : List Loc} {ls : Array Slot} (h : LwW p s m meth c b L xs D cc md mc o cL sad sav i ad ov N C S A rd H locs ls) (hi7 : i + 7 ≤ L) (hrd : rd + 60000 < 2 ^ 30) (hcb : cells ≤ 500000) (hsb : slots ≤ 6000000) (hk : ∀ (ad1 : Nat → Nat → Nat) (ov1 : Nat → Int64) (N1 : Nat → Nat) (C1 : CS) (S1 : MS) (A1 : AS) (rd1 c1 z1 : Nat) (H1 : Heap) (locs1 : List Loc) (ls1 : Array Slot), LwW p s m meth c b L xs D cc md mc o cL sad sav i ad1 ov1 N1 C1 S1 A1 rd1 H1 locs1 ls1 → A.n ≤ A1.n → A.m ≤ A1.m → rd1 ≤ rd + 50000 → c1 ≤ 2 * (A1.n - A.n) + 3 * (A1.m - A.m) + 1 → z1 ≤ 23 * (A1.n - A.n) + 40 * (A1.m - A.m) + 6 → W p l e room_1 s m #[Value.ref b] below meth c H1 locs1 (cells + c1) (slots + z1) (lw_Z below #[Value.ref b] s) (F0 m 2391 ls1 [])) : W p l e room_1 s m #[Value.ref b] below meth c H locs cells slots (lw_Z below #[Value.ref b] s) (F0 m 1799 ls []) := by
  obtain ⟨⟨hx, hb, hr, hml, hown, hts, hX, hbl, hlocks, hL⟩, ⟨hev, hE, hN, hH⟩, ⟨hP, hK, hD, hS, hl⟩, hI⟩ := h
  have hNS : tx_NS (lA s) s := fun q cell hq hc => absurd (Array.getElem?_eq_some_iff.mp hc).1 (Nat.not_lt.mpr hq)
  have hA : ∀ q : Nat, s.heap.size ≤ q → lA s q := fun _ h => h
  have hbA : ¬ lA s b := Nat.not_le.mpr hbl
  have h11 : N 11 = 1 := hI.2.1.nn.2.2.2.2.2.2.2.2.2.2.2.1
  refine lv_aload_n hx hb d_law_1799 rfl (lv_at hl 3 rfl) ?_
  refine lv_aload_n hx hb d_law_1800 rfl (lv_at hl 4 rfl) ?_
  refine lv_iload hx hb d_law_1801 (lv_at hl 0 rfl) ?_
  refine lv_iconst (v := 1) hx hb d_law_1803 (by decide) ?_
  refine lv_iadd hx hb d_law_1804 ?_
  refine w_i (y := nI (i + 1)) (nI_add i 1) ?_
  refine va_sld hx hb hX hbl hbA hS (i := nI (i + 1)) (vp_in_nI (n := i + 1) (N := L) (by omega) (by omega)) d_law_1805 ?_
  refine w_i (y := xs (i + 1)) (by rw [cl_nI (by omega)]) ?_
  refine lv_aload_n hx hb d_law_1806 rfl (lv_at hl 4 rfl) ?_
  refine lv_iload hx hb d_law_1807 (lv_at hl 0 rfl) ?_
  refine lv_iconst (v := 2) hx hb d_law_1809 (by decide) ?_
  refine lv_iadd hx hb d_law_1810 ?_
  refine w_i (y := nI (i + 2)) (nI_add i 2) ?_
  refine va_sld hx hb hX hbl hbA hS (i := nI (i + 2)) (vp_in_nI (n := i + 2) (N := L) (by omega) (by omega)) d_law_1811 ?_
  refine w_i (y := xs (i + 2)) (by rw [cl_nI (by omega)]) ?_
  refine lv_aload_n hx hb d_law_1812 rfl (lv_at hl 4 rfl) ?_
  refine lv_iload hx hb d_law_1813 (lv_at hl 0 rfl) ?_
  refine lv_iconst (v := 3) hx hb d_law_1815 (by decide) ?_
  refine lv_iadd hx hb d_law_1816 ?_
  refine w_i (y := nI (i + 3)) (nI_add i 3) ?_
  refine va_sld hx hb hX hbl hbA hS (i := nI (i + 3)) (vp_in_nI (n := i + 3) (N := L) (by omega) (by omega)) d_law_1817 ?_
  refine w_i (y := xs (i + 3)) (by rw [cl_nI (by omega)]) ?_
  refine lv_aload_n hx hb d_law_1818 rfl (lv_at hl 1 rfl) ?_
  obtain ⟨N1, C1, ov1, kk, c1, z1, S1, bb, A1, rd1, e1, e2, e3, e4, hI1, e5, e6, e7, e8, e9⟩ := st_element (ov := ov) hI hrd (xs (i + 1)) (xs (i + 2)) (xs (i + 3))
  have hn1 := hI1.2.2.1.1.1
  have hm1 := hI1.2.2.1.1.2.1
  have hPh := p_l hP
  have hDh := d_l hD
  have hKh := hK.sub (tys' := cty cc ++ [(cL, .long)]) [0, 1, 2, 3, 4, 5, 6, 7] rfl
  have hFc := fr_all hDh hS hA
  refine va_calli (tx_runSW (As := [.ref (ad 11 0), .int (xs (i + 1)), .int (xs (i + 2)), .int (xs (i + 3)), .ref o]) (rest := []) ⟨hx, hb, hml, hown, hts⟩ (g_h_element l hfl D H.size (ad := ad) (cc := cc) (sad := sad) (sav := sav) (cL := cL) (a := o) e1) (cw_w 5 hts kw_1161 kw_1159 kw_1160 kw_0 rfl rfl (by decide +kernel) ⟨Nat.le_of_ble_eq_true rfl, Nat.le_of_ble_eq_true rfl⟩) ⟨h_blind, fun U hU hW => h_pre hU hW hPh hKh hDh hev hE hN hH hNS hS hFc⟩ rfl rfl hl.1 rfl (lv_room (Nat.le_of_ble_eq_true rfl)) d_law_1819 ⟨by show cells + c1 ≤ 601024; omega, by show slots + z1 ≤ 7293034; omega⟩) hS (fun q _ h => hFc q h) hFc (fun rz ad1 t H1 locs ht hvm hw hB hz1 hk1 hS => ?_)
  obtain ⟨hXt, hP1, -, hD1⟩ := hB
  rw [ht] at hP1
  obtain ⟨hP, hD⟩ := join_w hP hD hk1 hFc hP1 hD1
  refine w_i (y := kk) hw ?_
  have had : ad1 11 0 = ad 11 0 := hXt.2 11 0 (by rw [h11]; decide)
  rw [← had] at hl
  generalize H1 = H at hP hS ⊢
  refine W.cs (cells' := cells + c1) (slots' := slots + z1) rfl rfl ?_
  refine lv_istore (lv' := [(5, .int kk), (4, .int (nI i)), (3, .ref o), (2, .ref (md 100)), (1, .ref (ad1 11 0)), (0, .ref b)]) hx hb d_law_1822 hl (by decide) rfl (fun ls hl => ?_)
  refine lv_aload_n hx hb d_law_1824 rfl (lv_at hl 3 rfl) ?_
  refine lv_aload_n hx hb d_law_1825 rfl (lv_at hl 5 rfl) ?_
  refine lv_iload hx hb d_law_1826 (lv_at hl 1 rfl) ?_
  refine lv_iconst (v := 1) hx hb d_law_1828 (by decide) ?_
  refine lv_iadd hx hb d_law_1829 ?_
  refine w_i (y := nI (i + 1)) (nI_add i 1) ?_
  refine va_sld hx hb hX hbl hbA hS (i := nI (i + 1)) (vp_in_nI (n := i + 1) (N := L) (by omega) (by omega)) d_law_1830 ?_
  refine w_i (y := xs (i + 1)) (by rw [cl_nI (by omega)]) ?_
  refine lv_aload_n hx hb d_law_1831 rfl (lv_at hl 5 rfl) ?_
  refine lv_iload hx hb d_law_1832 (lv_at hl 1 rfl) ?_
  refine lv_iconst (v := 2) hx hb d_law_1834 (by decide) ?_
  refine lv_iadd hx hb d_law_1835 ?_
  refine w_i (y := nI (i + 2)) (nI_add i 2) ?_
  refine va_sld hx hb hX hbl hbA hS (i := nI (i + 2)) (vp_in_nI (n := i + 2) (N := L) (by omega) (by omega)) d_law_1836 ?_
  refine w_i (y := xs (i + 2)) (by rw [cl_nI (by omega)]) ?_
  refine lv_aload_n hx hb d_law_1837 rfl (lv_at hl 5 rfl) ?_
  refine lv_iload hx hb d_law_1838 (lv_at hl 1 rfl) ?_
  refine lv_iconst (v := 3) hx hb d_law_1840 (by decide) ?_
  refine lv_iadd hx hb d_law_1841 ?_
  refine w_i (y := nI (i + 3)) (nI_add i 3) ?_
  refine va_sld hx hb hX hbl hbA hS (i := nI (i + 3)) (vp_in_nI (n := i + 3) (N := L) (by omega) (by omega)) d_law_1842 ?_
  refine w_i (y := xs (i + 3)) (by rw [cl_nI (by omega)]) ?_
  have hPc := p_r hP
  have hDc := d_r hD
  have hKc := hK.sub (tys' := mty mc) [8, 9, 10, 11, 12] rfl
  have hFc := fr_all hDc hS hA
  refine va_calli (va_runV (As := [.int (xs (i + 1)), .int (xs (i + 2)), .int (xs (i + 3))]) (rest := []) ⟨hx, hb, hml, hown, hts⟩ (g_relement l D H.size (md := md) (mc := mc) e2) (cw_v 3 hts kw_1887 kw_1884 kw_1885 kw_1886 kw_11 rfl rfl (by decide +kernel) ⟨Nat.le_of_ble_eq_true rfl, Nat.le_of_ble_eq_true rfl⟩) ⟨g_blind, va_recv hKc hPc (ci := 12) (q0 := 0) rfl rfl, fun U hU hW => g_pre hU hW hPc hKc hDc⟩ rfl rfl hl.1 rfl (lv_room (Nat.le_of_ble_eq_true rfl)) d_law_1843 ⟨by show cells + c1 + 0 ≤ 601024; omega, by show slots + z1 + 0 ≤ 7293034; omega⟩) hS (fun q _ h => hFc q h) hFc (fun rb u t H1 locs ht hvm hw hB hz1 hk1 hS => ?_)
  obtain ⟨hP1, -, hD1⟩ := hB
  rw [ht] at hP1
  obtain ⟨hP, hD⟩ := join_r hP hD hk1 hFc hP1 hD1
  refine w_i (y := bb) hw ?_
  generalize H1 = H at hP hS ⊢
  refine W.cs (cells' := cells + c1) (slots' := slots + z1) rfl rfl ?_
  refine lv_istore (lv' := [(6, .int bb), (5, .int kk), (4, .int (nI i)), (3, .ref o), (2, .ref (md 100)), (1, .ref (ad1 11 0)), (0, .ref b)]) hx hb d_law_1846 hl (by decide) rfl (fun ls hl => ?_)
  refine lv_aload_n hx hb d_law_1848 rfl (lv_at hl 4 rfl) ?_
  have hPc := p_r hP
  have hDc := d_r hD
  have hKc := hK.sub (tys' := mty mc) [8, 9, 10, 11, 12] rfl
  have hFc := fr_all hDc hS hA
  refine va_calli (va_runV (As := []) (rest := []) ⟨hx, hb, hml, hown, hts⟩ (g_rthrown l D H.size (md := md) (mc := mc) (show m_rthrown S1 = some (S1, S1.i 0) from rfl)) (cw_v 0 hts kw_1618 kw_1615 kw_1616 kw_1617 kw_11 rfl rfl (by decide +kernel) ⟨Nat.le_of_ble_eq_true rfl, Nat.le_of_ble_eq_true rfl⟩) ⟨g_blind, va_recv hKc hPc (ci := 12) (q0 := 0) rfl rfl, fun U hU hW => g_pre hU hW hPc hKc hDc⟩ rfl rfl hl.1 rfl (lv_room (Nat.le_of_ble_eq_true rfl)) d_law_1849 ⟨by show cells + c1 + 0 ≤ 601024; omega, by show slots + z1 + 0 ≤ 7293034; omega⟩) hS (fun q _ h => hFc q h) hFc (fun rt u t H1 locs ht hvm hw hB hz1 hk1 hS => ?_)
  obtain ⟨hP1, -, hD1⟩ := hB
  rw [ht] at hP1
  obtain ⟨hP, hD⟩ := join_r hP hD hk1 hFc hP1 hD1
  refine w_i (y := kk) (hw.trans e3) ?_
  generalize H1 = H at hP hS ⊢
  refine W.cs (cells' := cells + c1) (slots' := slots + z1) rfl rfl ?_
  refine lv_iload hx hb d_law_1852 (lv_at hl 1 rfl) ?_
  refine lv_icmp_eq (tgt := 1859) hx hb d_law_1854 (by decide) (fun _ => ?_) (fun h => absurd rfl h)
  refine lv_iload hx hb d_law_1859 (lv_at hl 1 rfl) ?_
  refine lv_if_ne (tgt := 1876) hx hb d_law_1861 (by decide) (fun ck => ?_) (fun ck => ?_)
  · refine lv_goto (tgt := 2391) hx hb d_law_1876 (by decide) ?_
    exact hk ad1 ov1 N1 C1 S1 A1 rd1 c1 z1 H _ ls ⟨⟨hx, hb, hr, hml, hown, hts, hX, hbl, hlocks, hL⟩, ⟨hev, hE, hN, hH⟩, ⟨hP, hK, hD, hS, lv_sub hl [2, 3, 4, 5, 6] rfl⟩, hI1⟩ e5 e6 e7 e8 e9
  · refine lv_aload_n hx hb d_law_1864 rfl (lv_at hl 3 rfl) ?_
    refine lv_iconst (v := 0) hx hb d_law_1865 (by decide) ?_
    refine va_lald hx hb hK hP (cw ad1 cc N1 C1).length 7 at_mid rfl (i := 0) (vp_in_nI (n := 0) (N := 1) (by decide) (by decide)) d_law_1866 ?_
    refine w_l (y := ov1 0) rfl ?_
    refine lv_iload hx hb d_law_1867 (lv_at hl 0 rfl) ?_
    refine lv_i2l hx hb d_law_1869 rfl ?_
    refine w_l (y := ov1 0) (e4 ck).symm ?_
    refine W.lcmp hx hb d_law_1870 ?_
    refine w_i (y := 0) (by simp [lg_cmp]) ?_
    refine lv_if_eq (tgt := 1876) hx hb d_law_1871 (by decide) (fun _ => ?_) (fun h => absurd rfl h)
    refine lv_goto (tgt := 2391) hx hb d_law_1876 (by decide) ?_
    exact hk ad1 ov1 N1 C1 S1 A1 rd1 c1 z1 H _ ls ⟨⟨hx, hb, hr, hml, hown, hts, hX, hbl, hlocks, hL⟩, ⟨hev, hE, hN, hH⟩, ⟨hP, hK, hD, hS, lv_sub hl [2, 3, 4, 5, 6] rfl⟩, hI1⟩ e5 e6 e7 e8 e9
theorem d_law_1879 : decode code 1879 = .ok (.aload_n 1, 1) := by decide +kernel
theorem d_law_1880 : decode code 1880 = .ok (.aload_n 0, 1) := by decide +kernel
theorem d_law_1881 : decode code 1881 = .ok (.iload 4, 2) := by decide +kernel
theorem d_law_1883 : decode code 1883 = .ok (.iconst 1, 1) := by decide +kernel
theorem d_law_1884 : decode code 1884 = .ok (.iadd, 1) := by decide +kernel
theorem d_law_1885 : decode code 1885 = .ok (.iaload, 1) := by decide +kernel
theorem d_law_1886 : decode code 1886 = .ok (.aload_n 0, 1) := by decide +kernel
theorem d_law_1887 : decode code 1887 = .ok (.iload 4, 2) := by decide +kernel
theorem d_law_1889 : decode code 1889 = .ok (.iconst 2, 1) := by decide +kernel
theorem d_law_1890 : decode code 1890 = .ok (.iadd, 1) := by decide +kernel
theorem d_law_1891 : decode code 1891 = .ok (.iaload, 1) := by decide +kernel
theorem d_law_1892 : decode code 1892 = .ok (.aload_n 0, 1) := by decide +kernel
theorem d_law_1893 : decode code 1893 = .ok (.iload 4, 2) := by decide +kernel
theorem d_law_1895 : decode code 1895 = .ok (.iconst 3, 1) := by decide +kernel
theorem d_law_1896 : decode code 1896 = .ok (.iadd, 1) := by decide +kernel
theorem d_law_1897 : decode code 1897 = .ok (.iaload, 1) := by decide +kernel
theorem d_law_1898 : decode code 1898 = .ok (.aload_n 3, 1) := by decide +kernel
theorem d_law_1899 : decode code 1899 = .ok (.invokestatic 186, 3) := by decide +kernel
theorem d_law_1902 : decode code 1902 = .ok (.istore 5, 2) := by decide +kernel
theorem d_law_1904 : decode code 1904 = .ok (.aload_n 2, 1) := by decide +kernel
theorem d_law_1905 : decode code 1905 = .ok (.aload_n 0, 1) := by decide +kernel
theorem d_law_1906 : decode code 1906 = .ok (.iload 4, 2) := by decide +kernel
theorem d_law_1908 : decode code 1908 = .ok (.iconst 1, 1) := by decide +kernel
theorem d_law_1909 : decode code 1909 = .ok (.iadd, 1) := by decide +kernel
theorem d_law_1910 : decode code 1910 = .ok (.iaload, 1) := by decide +kernel
theorem d_law_1911 : decode code 1911 = .ok (.aload_n 0, 1) := by decide +kernel
theorem d_law_1912 : decode code 1912 = .ok (.iload 4, 2) := by decide +kernel
theorem d_law_1914 : decode code 1914 = .ok (.iconst 2, 1) := by decide +kernel
theorem d_law_1915 : decode code 1915 = .ok (.iadd, 1) := by decide +kernel
theorem d_law_1916 : decode code 1916 = .ok (.iaload, 1) := by decide +kernel
theorem d_law_1917 : decode code 1917 = .ok (.aload_n 0, 1) := by decide +kernel
theorem d_law_1918 : decode code 1918 = .ok (.iload 4, 2) := by decide +kernel
theorem d_law_1920 : decode code 1920 = .ok (.iconst 3, 1) := by decide +kernel
theorem d_law_1921 : decode code 1921 = .ok (.iadd, 1) := by decide +kernel
theorem d_law_1922 : decode code 1922 = .ok (.iaload, 1) := by decide +kernel
theorem d_law_1923 : decode code 1923 = .ok (.invokevirtual 188, 3) := by decide +kernel
theorem d_law_1926 : decode code 1926 = .ok (.istore 6, 2) := by decide +kernel
theorem d_law_1928 : decode code 1928 = .ok (.aload_n 2, 1) := by decide +kernel
theorem d_law_1929 : decode code 1929 = .ok (.invokevirtual 120, 3) := by decide +kernel
theorem d_law_1932 : decode code 1932 = .ok (.iload 5, 2) := by decide +kernel
theorem d_law_1934 : decode code 1934 = .ok (.if_icmp .eq 5, 3) := by decide +kernel
theorem d_law_1939 : decode code 1939 = .ok (.iload 5, 2) := by decide +kernel
theorem d_law_1941 : decode code 1941 = .ok (.ifCond .ne 15, 3) := by decide +kernel
theorem d_law_1956 : decode code 1956 = .ok (.goto 435, 3) := by decide +kernel
theorem d_law_1944 : decode code 1944 = .ok (.aload_n 3, 1) := by decide +kernel
theorem d_law_1945 : decode code 1945 = .ok (.iconst 0, 1) := by decide +kernel
theorem d_law_1946 : decode code 1946 = .ok (.laload, 1) := by decide +kernel
theorem d_law_1947 : decode code 1947 = .ok (.iload 6, 2) := by decide +kernel
theorem d_law_1949 : decode code 1949 = .ok (.i2l, 1) := by decide +kernel
theorem d_law_1950 : decode code 1950 = .ok (.lcmp, 1) := by decide +kernel
theorem d_law_1951 : decode code 1951 = .ok (.ifCond .eq 5, 3) := by decide +kernel
set_option maxHeartbeats 8000000 in
set_option maxRecDepth 100000 in
theorem law_k19 {p : Program} {e : Env} {s : State} {m : MethodId} {below : List Frame} {meth : Method} {c : Code} (l : Launch) (hfl : l.flags = flags0) {b L i : Nat} {xs : Nat → Int32} {D : va_G} {cc : Nat → ClassId} {md : Nat → Nat} {mc : Nat → ClassId} {o : Nat} {cL : ClassId} {sad sav : Nat → Nat} {ad : Nat → Nat → Nat} {ov : Nat → Int64} {N : Nat → Nat} {C : CS} {S : MS} {A : AS} {rd cells slots : Nat} {H : Heap} {locs : List Loc} {ls : Array Slot} (h : LwW p s m meth c b L xs D cc md mc o cL sad sav i ad ov N C S A rd H locs ls) (hi7 : i + 7 ≤ L) (hrd : rd + 60000 < 2 ^ 30) (hcb : cells ≤ 500000) (hsb : slots ≤ 6000000) (hk : ∀ (ad1 : Nat → Nat → Nat) (ov1 : Nat → Int64) (N1 : Nat → Nat) (C1 : CS) (S1 : MS) (A1 : AS) (rd1 c1 z1 : Nat) (H1 : Heap) (locs1 : List Loc) (ls1 : Array Slot), LwW p s m meth c b L xs D cc md mc o cL sad sav i ad1 ov1 N1 C1 S1 A1 rd1 H1 locs1 ls1 → A.n ≤ A1.n → A.m ≤ A1.m → rd1 ≤ rd + 50000 → c1 ≤ 2 * (A1.n - A.n) + 3 * (A1.m - A.m) + 1 → z1 ≤ 23 * (A1.n - A.n) + 40 * (A1.m - A.m) + 6 → W p l e room_1 s m #[Value.ref b] below meth c H1 locs1 (cells + c1) (slots + z1) (lw_Z below #[Value.ref b] s) (F0 m 2391 ls1 [])) : W p l e room_1 s m #[Value.ref b] below meth c H locs cells slots (lw_Z below #[Value.ref b] s) (F0 m 1879 ls []) := by
  obtain ⟨⟨hx, hb, hr, hml, hown, hts, hX, hbl, hlocks, hL⟩, ⟨hev, hE, hN, hH⟩, ⟨hP, hK, hD, hS, hl⟩, hI⟩ := h
  have hNS : tx_NS (lA s) s := fun q cell hq hc => absurd (Array.getElem?_eq_some_iff.mp hc).1 (Nat.not_lt.mpr hq)
  have hA : ∀ q : Nat, s.heap.size ≤ q → lA s q := fun _ h => h
  have hbA : ¬ lA s b := Nat.not_le.mpr hbl
  have h11 : N 11 = 1 := hI.2.1.nn.2.2.2.2.2.2.2.2.2.2.2.1
  refine lv_aload_n hx hb d_law_1879 rfl (lv_at hl 3 rfl) ?_
  refine lv_aload_n hx hb d_law_1880 rfl (lv_at hl 4 rfl) ?_
  refine lv_iload hx hb d_law_1881 (lv_at hl 0 rfl) ?_
  refine lv_iconst (v := 1) hx hb d_law_1883 (by decide) ?_
  refine lv_iadd hx hb d_law_1884 ?_
  refine w_i (y := nI (i + 1)) (nI_add i 1) ?_
  refine va_sld hx hb hX hbl hbA hS (i := nI (i + 1)) (vp_in_nI (n := i + 1) (N := L) (by omega) (by omega)) d_law_1885 ?_
  refine w_i (y := xs (i + 1)) (by rw [cl_nI (by omega)]) ?_
  refine lv_aload_n hx hb d_law_1886 rfl (lv_at hl 4 rfl) ?_
  refine lv_iload hx hb d_law_1887 (lv_at hl 0 rfl) ?_
  refine lv_iconst (v := 2) hx hb d_law_1889 (by decide) ?_
  refine lv_iadd hx hb d_law_1890 ?_
  refine w_i (y := nI (i + 2)) (nI_add i 2) ?_
  refine va_sld hx hb hX hbl hbA hS (i := nI (i + 2)) (vp_in_nI (n := i + 2) (N := L) (by omega) (by omega)) d_law_1891 ?_
  refine w_i (y := xs (i + 2)) (by rw [cl_nI (by omega)]) ?_
  refine lv_aload_n hx hb d_law_1892 rfl (lv_at hl 4 rfl) ?_
  refine lv_iload hx hb d_law_1893 (lv_at hl 0 rfl) ?_
  refine lv_iconst (v := 3) hx hb d_law_1895 (by decide) ?_
  refine lv_iadd hx hb d_law_1896 ?_
  refine w_i (y := nI (i + 3)) (nI_add i 3) ?_
  refine va_sld hx hb hX hbl hbA hS (i := nI (i + 3)) (vp_in_nI (n := i + 3) (N := L) (by omega) (by omega)) d_law_1897 ?_
  refine w_i (y := xs (i + 3)) (by rw [cl_nI (by omega)]) ?_
  refine lv_aload_n hx hb d_law_1898 rfl (lv_at hl 1 rfl) ?_
  obtain ⟨N1, C1, ov1, kk, c1, z1, S1, bb, A1, rd1, e1, e2, e3, e4, hI1, e5, e6, e7, e8, e9⟩ := st_index (ov := ov) hI hrd (xs (i + 1)) (xs (i + 2)) (xs (i + 3))
  have hn1 := hI1.2.2.1.1.1
  have hm1 := hI1.2.2.1.1.2.1
  have hPh := p_l hP
  have hDh := d_l hD
  have hKh := hK.sub (tys' := cty cc ++ [(cL, .long)]) [0, 1, 2, 3, 4, 5, 6, 7] rfl
  have hFc := fr_all hDh hS hA
  refine va_calli (tx_runSW (As := [.ref (ad 11 0), .int (xs (i + 1)), .int (xs (i + 2)), .int (xs (i + 3)), .ref o]) (rest := []) ⟨hx, hb, hml, hown, hts⟩ (g_h_index l hfl D H.size (ad := ad) (cc := cc) (sad := sad) (sav := sav) (cL := cL) (a := o) e1) (cw_w 5 hts kw_1168 kw_1166 kw_1167 kw_0 rfl rfl (by decide +kernel) ⟨Nat.le_of_ble_eq_true rfl, Nat.le_of_ble_eq_true rfl⟩) ⟨h_blind, fun U hU hW => h_pre hU hW hPh hKh hDh hev hE hN hH hNS hS hFc⟩ rfl rfl hl.1 rfl (lv_room (Nat.le_of_ble_eq_true rfl)) d_law_1899 ⟨by show cells + c1 ≤ 601024; omega, by show slots + z1 ≤ 7293034; omega⟩) hS (fun q _ h => hFc q h) hFc (fun rz ad1 t H1 locs ht hvm hw hB hz1 hk1 hS => ?_)
  obtain ⟨hXt, hP1, -, hD1⟩ := hB
  rw [ht] at hP1
  obtain ⟨hP, hD⟩ := join_w hP hD hk1 hFc hP1 hD1
  refine w_i (y := kk) hw ?_
  have had : ad1 11 0 = ad 11 0 := hXt.2 11 0 (by rw [h11]; decide)
  rw [← had] at hl
  generalize H1 = H at hP hS ⊢
  refine W.cs (cells' := cells + c1) (slots' := slots + z1) rfl rfl ?_
  refine lv_istore (lv' := [(5, .int kk), (4, .int (nI i)), (3, .ref o), (2, .ref (md 100)), (1, .ref (ad1 11 0)), (0, .ref b)]) hx hb d_law_1902 hl (by decide) rfl (fun ls hl => ?_)
  refine lv_aload_n hx hb d_law_1904 rfl (lv_at hl 3 rfl) ?_
  refine lv_aload_n hx hb d_law_1905 rfl (lv_at hl 5 rfl) ?_
  refine lv_iload hx hb d_law_1906 (lv_at hl 1 rfl) ?_
  refine lv_iconst (v := 1) hx hb d_law_1908 (by decide) ?_
  refine lv_iadd hx hb d_law_1909 ?_
  refine w_i (y := nI (i + 1)) (nI_add i 1) ?_
  refine va_sld hx hb hX hbl hbA hS (i := nI (i + 1)) (vp_in_nI (n := i + 1) (N := L) (by omega) (by omega)) d_law_1910 ?_
  refine w_i (y := xs (i + 1)) (by rw [cl_nI (by omega)]) ?_
  refine lv_aload_n hx hb d_law_1911 rfl (lv_at hl 5 rfl) ?_
  refine lv_iload hx hb d_law_1912 (lv_at hl 1 rfl) ?_
  refine lv_iconst (v := 2) hx hb d_law_1914 (by decide) ?_
  refine lv_iadd hx hb d_law_1915 ?_
  refine w_i (y := nI (i + 2)) (nI_add i 2) ?_
  refine va_sld hx hb hX hbl hbA hS (i := nI (i + 2)) (vp_in_nI (n := i + 2) (N := L) (by omega) (by omega)) d_law_1916 ?_
  refine w_i (y := xs (i + 2)) (by rw [cl_nI (by omega)]) ?_
  refine lv_aload_n hx hb d_law_1917 rfl (lv_at hl 5 rfl) ?_
  refine lv_iload hx hb d_law_1918 (lv_at hl 1 rfl) ?_
  refine lv_iconst (v := 3) hx hb d_law_1920 (by decide) ?_
  refine lv_iadd hx hb d_law_1921 ?_
  refine w_i (y := nI (i + 3)) (nI_add i 3) ?_
  refine va_sld hx hb hX hbl hbA hS (i := nI (i + 3)) (vp_in_nI (n := i + 3) (N := L) (by omega) (by omega)) d_law_1922 ?_
  refine w_i (y := xs (i + 3)) (by rw [cl_nI (by omega)]) ?_
  have hPc := p_r hP
  have hDc := d_r hD
  have hKc := hK.sub (tys' := mty mc) [8, 9, 10, 11, 12] rfl
  have hFc := fr_all hDc hS hA
  refine va_calli (va_runV (As := [.int (xs (i + 1)), .int (xs (i + 2)), .int (xs (i + 3))]) (rest := []) ⟨hx, hb, hml, hown, hts⟩ (g_rindex l D H.size (md := md) (mc := mc) e2) (cw_v 3 hts kw_1895 kw_1892 kw_1893 kw_1894 kw_11 rfl rfl (by decide +kernel) ⟨Nat.le_of_ble_eq_true rfl, Nat.le_of_ble_eq_true rfl⟩) ⟨g_blind, va_recv hKc hPc (ci := 12) (q0 := 0) rfl rfl, fun U hU hW => g_pre hU hW hPc hKc hDc⟩ rfl rfl hl.1 rfl (lv_room (Nat.le_of_ble_eq_true rfl)) d_law_1923 ⟨by show cells + c1 + 0 ≤ 601024; omega, by show slots + z1 + 0 ≤ 7293034; omega⟩) hS (fun q _ h => hFc q h) hFc (fun rb u t H1 locs ht hvm hw hB hz1 hk1 hS => ?_)
  obtain ⟨hP1, -, hD1⟩ := hB
  rw [ht] at hP1
  obtain ⟨hP, hD⟩ := join_r hP hD hk1 hFc hP1 hD1
  refine w_i (y := bb) hw ?_
  generalize H1 = H at hP hS ⊢
  refine W.cs (cells' := cells + c1) (slots' := slots + z1) rfl rfl ?_
  refine lv_istore (lv' := [(6, .int bb), (5, .int kk), (4, .int (nI i)), (3, .ref o), (2, .ref (md 100)), (1, .ref (ad1 11 0)), (0, .ref b)]) hx hb d_law_1926 hl (by decide) rfl (fun ls hl => ?_)
  refine lv_aload_n hx hb d_law_1928 rfl (lv_at hl 4 rfl) ?_
  have hPc := p_r hP
  have hDc := d_r hD
  have hKc := hK.sub (tys' := mty mc) [8, 9, 10, 11, 12] rfl
  have hFc := fr_all hDc hS hA
  refine va_calli (va_runV (As := []) (rest := []) ⟨hx, hb, hml, hown, hts⟩ (g_rthrown l D H.size (md := md) (mc := mc) (show m_rthrown S1 = some (S1, S1.i 0) from rfl)) (cw_v 0 hts kw_1618 kw_1615 kw_1616 kw_1617 kw_11 rfl rfl (by decide +kernel) ⟨Nat.le_of_ble_eq_true rfl, Nat.le_of_ble_eq_true rfl⟩) ⟨g_blind, va_recv hKc hPc (ci := 12) (q0 := 0) rfl rfl, fun U hU hW => g_pre hU hW hPc hKc hDc⟩ rfl rfl hl.1 rfl (lv_room (Nat.le_of_ble_eq_true rfl)) d_law_1929 ⟨by show cells + c1 + 0 ≤ 601024; omega, by show slots + z1 + 0 ≤ 7293034; omega⟩) hS (fun q _ h => hFc q h) hFc (fun rt u t H1 locs ht hvm hw hB hz1 hk1 hS => ?_)
  obtain ⟨hP1, -, hD1⟩ := hB
  rw [ht] at hP1
  obtain ⟨hP, hD⟩ := join_r hP hD hk1 hFc hP1 hD1
  refine w_i (y := kk) (hw.trans e3) ?_
  generalize H1 = H at hP hS ⊢
  refine W.cs (cells' := cells + c1) (slots' := slots + z1) rfl rfl ?_
  refine lv_iload hx hb d_law_1932 (lv_at hl 1 rfl) ?_
  refine lv_icmp_eq (tgt := 1939) hx hb d_law_1934 (by decide) (fun _ => ?_) (fun h => absurd rfl h)
  refine lv_iload hx hb d_law_1939 (lv_at hl 1 rfl) ?_
  refine lv_if_ne (tgt := 1956) hx hb d_law_1941 (by decide) (fun ck => ?_) (fun ck => ?_)
  · refine lv_goto (tgt := 2391) hx hb d_law_1956 (by decide) ?_
    exact hk ad1 ov1 N1 C1 S1 A1 rd1 c1 z1 H _ ls ⟨⟨hx, hb, hr, hml, hown, hts, hX, hbl, hlocks, hL⟩, ⟨hev, hE, hN, hH⟩, ⟨hP, hK, hD, hS, lv_sub hl [2, 3, 4, 5, 6] rfl⟩, hI1⟩ e5 e6 e7 e8 e9
  · refine lv_aload_n hx hb d_law_1944 rfl (lv_at hl 3 rfl) ?_
    refine lv_iconst (v := 0) hx hb d_law_1945 (by decide) ?_
    refine va_lald hx hb hK hP (cw ad1 cc N1 C1).length 7 at_mid rfl (i := 0) (vp_in_nI (n := 0) (N := 1) (by decide) (by decide)) d_law_1946 ?_
    refine w_l (y := ov1 0) rfl ?_
    refine lv_iload hx hb d_law_1947 (lv_at hl 0 rfl) ?_
    refine lv_i2l hx hb d_law_1949 rfl ?_
    refine w_l (y := ov1 0) (e4 ck).symm ?_
    refine W.lcmp hx hb d_law_1950 ?_
    refine w_i (y := 0) (by simp [lg_cmp]) ?_
    refine lv_if_eq (tgt := 1956) hx hb d_law_1951 (by decide) (fun _ => ?_) (fun h => absurd rfl h)
    refine lv_goto (tgt := 2391) hx hb d_law_1956 (by decide) ?_
    exact hk ad1 ov1 N1 C1 S1 A1 rd1 c1 z1 H _ ls ⟨⟨hx, hb, hr, hml, hown, hts, hX, hbl, hlocks, hL⟩, ⟨hev, hE, hN, hH⟩, ⟨hP, hK, hD, hS, lv_sub hl [2, 3, 4, 5, 6] rfl⟩, hI1⟩ e5 e6 e7 e8 e9
