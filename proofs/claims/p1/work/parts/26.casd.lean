theorem d_law_1719 : decode code 1719 = .ok (.aload_n 1, 1) := by decide +kernel
theorem d_law_1720 : decode code 1720 = .ok (.aload_n 0, 1) := by decide +kernel
theorem d_law_1721 : decode code 1721 = .ok (.iload 4, 2) := by decide +kernel
theorem d_law_1723 : decode code 1723 = .ok (.iconst 1, 1) := by decide +kernel
theorem d_law_1724 : decode code 1724 = .ok (.iadd, 1) := by decide +kernel
theorem d_law_1725 : decode code 1725 = .ok (.iaload, 1) := by decide +kernel
theorem d_law_1726 : decode code 1726 = .ok (.aload_n 0, 1) := by decide +kernel
theorem d_law_1727 : decode code 1727 = .ok (.iload 4, 2) := by decide +kernel
theorem d_law_1729 : decode code 1729 = .ok (.iconst 2, 1) := by decide +kernel
theorem d_law_1730 : decode code 1730 = .ok (.iadd, 1) := by decide +kernel
theorem d_law_1731 : decode code 1731 = .ok (.iaload, 1) := by decide +kernel
theorem d_law_1732 : decode code 1732 = .ok (.aload_n 0, 1) := by decide +kernel
theorem d_law_1733 : decode code 1733 = .ok (.iload 4, 2) := by decide +kernel
theorem d_law_1735 : decode code 1735 = .ok (.iconst 3, 1) := by decide +kernel
theorem d_law_1736 : decode code 1736 = .ok (.iadd, 1) := by decide +kernel
theorem d_law_1737 : decode code 1737 = .ok (.iaload, 1) := by decide +kernel
theorem d_law_1738 : decode code 1738 = .ok (.aload_n 3, 1) := by decide +kernel
theorem d_law_1739 : decode code 1739 = .ok (.invokestatic 180, 3) := by decide +kernel
theorem d_law_1742 : decode code 1742 = .ok (.istore 5, 2) := by decide +kernel
theorem d_law_1744 : decode code 1744 = .ok (.aload_n 2, 1) := by decide +kernel
theorem d_law_1745 : decode code 1745 = .ok (.aload_n 0, 1) := by decide +kernel
theorem d_law_1746 : decode code 1746 = .ok (.iload 4, 2) := by decide +kernel
theorem d_law_1748 : decode code 1748 = .ok (.iconst 1, 1) := by decide +kernel
theorem d_law_1749 : decode code 1749 = .ok (.iadd, 1) := by decide +kernel
theorem d_law_1750 : decode code 1750 = .ok (.iaload, 1) := by decide +kernel
theorem d_law_1751 : decode code 1751 = .ok (.aload_n 0, 1) := by decide +kernel
theorem d_law_1752 : decode code 1752 = .ok (.iload 4, 2) := by decide +kernel
theorem d_law_1754 : decode code 1754 = .ok (.iconst 2, 1) := by decide +kernel
theorem d_law_1755 : decode code 1755 = .ok (.iadd, 1) := by decide +kernel
theorem d_law_1756 : decode code 1756 = .ok (.iaload, 1) := by decide +kernel
theorem d_law_1757 : decode code 1757 = .ok (.aload_n 0, 1) := by decide +kernel
theorem d_law_1758 : decode code 1758 = .ok (.iload 4, 2) := by decide +kernel
theorem d_law_1760 : decode code 1760 = .ok (.iconst 3, 1) := by decide +kernel
theorem d_law_1761 : decode code 1761 = .ok (.iadd, 1) := by decide +kernel
theorem d_law_1762 : decode code 1762 = .ok (.iaload, 1) := by decide +kernel
theorem d_law_1763 : decode code 1763 = .ok (.invokevirtual 182, 3) := by decide +kernel
theorem d_law_1766 : decode code 1766 = .ok (.istore 6, 2) := by decide +kernel
theorem d_law_1768 : decode code 1768 = .ok (.aload_n 2, 1) := by decide +kernel
theorem d_law_1769 : decode code 1769 = .ok (.invokevirtual 120, 3) := by decide +kernel
theorem d_law_1772 : decode code 1772 = .ok (.iload 5, 2) := by decide +kernel
theorem d_law_1774 : decode code 1774 = .ok (.if_icmp .eq 5, 3) := by decide +kernel
theorem d_law_1779 : decode code 1779 = .ok (.iload 5, 2) := by decide +kernel
theorem d_law_1781 : decode code 1781 = .ok (.ifCond .ne 15, 3) := by decide +kernel
theorem d_law_1796 : decode code 1796 = .ok (.goto 595, 3) := by decide +kernel
theorem d_law_1784 : decode code 1784 = .ok (.aload_n 3, 1) := by decide +kernel
theorem d_law_1785 : decode code 1785 = .ok (.iconst 0, 1) := by decide +kernel
theorem d_law_1786 : decode code 1786 = .ok (.laload, 1) := by decide +kernel
theorem d_law_1787 : decode code 1787 = .ok (.iload 6, 2) := by decide +kernel
theorem d_law_1789 : decode code 1789 = .ok (.i2l, 1) := by decide +kernel
theorem d_law_1790 : decode code 1790 = .ok (.lcmp, 1) := by decide +kernel
theorem d_law_1791 : decode code 1791 = .ok (.ifCond .eq 5, 3) := by decide +kernel
set_option maxHeartbeats 4000000 in
set_option maxRecDepth 100000 in
theorem law_c17 {p : Program} {e : Env} {s : State} {m : MethodId} {below : List Frame} {meth : Method} {c : Code} (l : Launch) (hfl : l.flags = flags0) {b : Nat} {xs : Nat → Int32} {D : va_G} {ad : Nat → Nat} {ac : Nat → ClassId} {md : Nat → Nat} {mc : Nat → ClassId} {o : Nat} {H : Heap} {locs : List Loc} {ls : Array Slot} (h : LwS p s m meth c b 7 xs D ad ac md mc o H locs ls) : W p l e room_1 s m #[Value.ref b] below meth c H locs 636 1394874 (lw_Z below #[Value.ref b] s) (F0 m 1719 ls []) := by
  obtain ⟨hx, hb, hr, hml, hown, hts, hX, hbl, hlocks, hev, hP, hK, hD, hS, hl⟩ := h
  have hNS : tx_NS (lA s) s := fun q cell hq hc => absurd (Array.getElem?_eq_some_iff.mp hc).1 (Nat.not_lt.mpr hq)
  have hA : ∀ q : Nat, s.heap.size ≤ q → lA s q := fun _ h => h
  have hT : ∀ q : Nat, lA s q → s.heap.size ≤ q := fun _ h => h
  have hbA : ¬ lA s b := Nat.not_le.mpr hbl
  generalize lA s = A at hev hD hS hNS hA hT hbA
  refine lv_aload_n hx hb d_law_1719 rfl (lv_at hl 3 rfl) ?_
  refine lv_aload_n hx hb d_law_1720 rfl (lv_at hl 4 rfl) ?_
  refine lv_iload hx hb d_law_1721 (lv_at hl 0 rfl) ?_
  refine lv_iconst (v := 1) hx hb d_law_1723 (by decide) ?_
  refine lv_iadd hx hb d_law_1724 ?_
  refine w_i (y := 1) (by decide) ?_
  refine va_sld hx hb hX hbl hbA hS (i := 1) (vp_in_nI (n := 1) (N := 7) (by decide) (by decide)) d_law_1725 ?_
  refine w_i (y := xs 1) rfl ?_
  refine lv_aload_n hx hb d_law_1726 rfl (lv_at hl 4 rfl) ?_
  refine lv_iload hx hb d_law_1727 (lv_at hl 0 rfl) ?_
  refine lv_iconst (v := 2) hx hb d_law_1729 (by decide) ?_
  refine lv_iadd hx hb d_law_1730 ?_
  refine w_i (y := 2) (by decide) ?_
  refine va_sld hx hb hX hbl hbA hS (i := 2) (vp_in_nI (n := 2) (N := 7) (by decide) (by decide)) d_law_1731 ?_
  refine w_i (y := xs 2) rfl ?_
  refine lv_aload_n hx hb d_law_1732 rfl (lv_at hl 4 rfl) ?_
  refine lv_iload hx hb d_law_1733 (lv_at hl 0 rfl) ?_
  refine lv_iconst (v := 3) hx hb d_law_1735 (by decide) ?_
  refine lv_iadd hx hb d_law_1736 ?_
  refine w_i (y := 3) (by decide) ?_
  refine va_sld hx hb hX hbl hbA hS (i := 3) (vp_in_nI (n := 3) (N := 7) (by decide) (by decide)) d_law_1737 ?_
  refine w_i (y := xs 3) rfl ?_
  refine lv_aload_n hx hb d_law_1738 rfl (lv_at hl 1 rfl) ?_
  have hPh := p_l hP
  have hDh := d_l hD
  have hKh := hK.sub (tys' := fxT ac) [0, 1, 2, 3, 4, 5, 6, 7] rfl
  have hFc := fr_all hDh hS hA
  refine va_calli (tx_runSW (As := [.ref (ad 0), .int (xs 1), .int (xs 2), .int (xs 3), .ref o]) (rest := []) ⟨hx, hb, hml, hown, hts⟩ (h_letter l hfl D ad ac (fun _ => 0) o (fun _ => 0) H.size (xs 1) (xs 2) (xs 3)) (cw_w 5 hts kw_1154 kw_1152 kw_1153 kw_0 rfl rfl (by decide +kernel) ⟨Nat.le_of_ble_eq_true rfl, Nat.le_of_ble_eq_true rfl⟩) ⟨h_blind, fun U hU hW => h_pre hU hW hPh hKh hDh hev hNS hS hFc⟩ rfl rfl hl.1 rfl (lv_room (Nat.le_of_ble_eq_true rfl)) d_law_1739 ⟨Nat.le_of_ble_eq_true rfl, Nat.le_of_ble_eq_true rfl⟩) hS (fun q _ h => hFc q h) hFc (fun rz u t H1 locs ht hvm hw hB hz1 hk1 hS => ?_)
  obtain ⟨hP1, -, -⟩ := hB
  rw [ht] at hP1
  obtain ⟨hw1, hw2⟩ := hw
  subst hw1
  have hP := hP1.app (p_keep hP hD hk1)
  have hD := d_oc hD (e' := .inl (ac 7, 1, .inr (.inl u)))
  generalize H1 = H at hP hS ⊢
  have hP : va_P D cls [(o, .inl (ac 7, 1, .inr (.inl u))), (md 100, .inr (12, [.int 0, .ref (md 1), .ref (md 2), .ref (md 3), .int 0, .int 0, .int 0, .int 0, .ref (md 8), .ref (md 9), .ref (md 10), .ref (md 11), .ref (md 12), .ref (md 13), .ref (md 14), .ref (md 15), .ref (md 16), .ref (md 17), .ref (md 18), .ref (md 19), .ref (md 20), .ref (md 21), .ref (md 22), .int 0, .ref (md 24), .int 0, .ref (md 26), .int 0, .ref (md 28), .ref (md 29), .ref (md 30), .ref (md 31), .ref (md 32), .ref (md 33), .int 0, .int 0, .ref (md 36), .ref (md 37), .ref (md 38), .ref (md 39), .ref (md 40), .int 0, .int (-1), .int 0, .ref (md 44), .ref (md 45), .ref (md 46), .int 0, .ref (md 48), .ref (md 49), .int 0, .ref (md 51), .int 0, .ref (md 53), .ref (md 54), .ref (md 55), .ref (md 56), .ref (md 57), .ref (md 58), .ref (md 59), .ref (md 60), .ref (md 61), .ref (md 62), .ref (md 63), .int 0, .int 0, .int 0, .int 0, .int 0, .int 0, .ref (md 70), .int 0, .ref (md 72), .int 0, .int 400000, .int 0, .int 0])), (md 39, .inl (mc 0, 8, .inl (fun _ => -1))), (md 1, .inl (mc 1, 8300, .inl (fun _ => 0))), (md 40, .inl (mc 1, 800000, .inl (fun _ => 0))), (md 72, .inl (mc 0, 12010, .inl (fun _ => 0)))] H := hP
  have hD : va_D A [(o, .inl (ac 7, 1, .inr (.inl u))), (md 100, .inr (12, [.int 0, .ref (md 1), .ref (md 2), .ref (md 3), .int 0, .int 0, .int 0, .int 0, .ref (md 8), .ref (md 9), .ref (md 10), .ref (md 11), .ref (md 12), .ref (md 13), .ref (md 14), .ref (md 15), .ref (md 16), .ref (md 17), .ref (md 18), .ref (md 19), .ref (md 20), .ref (md 21), .ref (md 22), .int 0, .ref (md 24), .int 0, .ref (md 26), .int 0, .ref (md 28), .ref (md 29), .ref (md 30), .ref (md 31), .ref (md 32), .ref (md 33), .int 0, .int 0, .ref (md 36), .ref (md 37), .ref (md 38), .ref (md 39), .ref (md 40), .int 0, .int (-1), .int 0, .ref (md 44), .ref (md 45), .ref (md 46), .int 0, .ref (md 48), .ref (md 49), .int 0, .ref (md 51), .int 0, .ref (md 53), .ref (md 54), .ref (md 55), .ref (md 56), .ref (md 57), .ref (md 58), .ref (md 59), .ref (md 60), .ref (md 61), .ref (md 62), .ref (md 63), .int 0, .int 0, .int 0, .int 0, .int 0, .int 0, .ref (md 70), .int 0, .ref (md 72), .int 0, .int 400000, .int 0, .int 0])), (md 39, .inl (mc 0, 8, .inl (fun _ => -1))), (md 1, .inl (mc 1, 8300, .inl (fun _ => 0))), (md 40, .inl (mc 1, 800000, .inl (fun _ => 0))), (md 72, .inl (mc 0, 12010, .inl (fun _ => 0)))] := hD
  refine W.cs (cells' := 637) (slots' := 1394880) rfl rfl ?_
  refine lv_istore (lv' := [(5, .int (k_key (xs 1))), (4, .int 0), (3, .ref o), (2, .ref (md 100)), (1, .ref (ad 0)), (0, .ref b)]) hx hb d_law_1742 hl (by decide) rfl (fun ls hl => ?_)
  refine lv_aload_n hx hb d_law_1744 rfl (lv_at hl 3 rfl) ?_
  refine lv_aload_n hx hb d_law_1745 rfl (lv_at hl 5 rfl) ?_
  refine lv_iload hx hb d_law_1746 (lv_at hl 1 rfl) ?_
  refine lv_iconst (v := 1) hx hb d_law_1748 (by decide) ?_
  refine lv_iadd hx hb d_law_1749 ?_
  refine w_i (y := 1) (by decide) ?_
  refine va_sld hx hb hX hbl hbA hS (i := 1) (vp_in_nI (n := 1) (N := 7) (by decide) (by decide)) d_law_1750 ?_
  refine w_i (y := xs 1) rfl ?_
  refine lv_aload_n hx hb d_law_1751 rfl (lv_at hl 5 rfl) ?_
  refine lv_iload hx hb d_law_1752 (lv_at hl 1 rfl) ?_
  refine lv_iconst (v := 2) hx hb d_law_1754 (by decide) ?_
  refine lv_iadd hx hb d_law_1755 ?_
  refine w_i (y := 2) (by decide) ?_
  refine va_sld hx hb hX hbl hbA hS (i := 2) (vp_in_nI (n := 2) (N := 7) (by decide) (by decide)) d_law_1756 ?_
  refine w_i (y := xs 2) rfl ?_
  refine lv_aload_n hx hb d_law_1757 rfl (lv_at hl 5 rfl) ?_
  refine lv_iload hx hb d_law_1758 (lv_at hl 1 rfl) ?_
  refine lv_iconst (v := 3) hx hb d_law_1760 (by decide) ?_
  refine lv_iadd hx hb d_law_1761 ?_
  refine w_i (y := 3) (by decide) ?_
  refine va_sld hx hb hX hbl hbA hS (i := 3) (vp_in_nI (n := 3) (N := 7) (by decide) (by decide)) d_law_1762 ?_
  refine w_i (y := xs 3) rfl ?_
  have hPc := hP.sub (ws' := [(md 100, .inr (12, [.int 0, .ref (md 1), .ref (md 2), .ref (md 3), .int 0, .int 0, .int 0, .int 0, .ref (md 8), .ref (md 9), .ref (md 10), .ref (md 11), .ref (md 12), .ref (md 13), .ref (md 14), .ref (md 15), .ref (md 16), .ref (md 17), .ref (md 18), .ref (md 19), .ref (md 20), .ref (md 21), .ref (md 22), .int 0, .ref (md 24), .int 0, .ref (md 26), .int 0, .ref (md 28), .ref (md 29), .ref (md 30), .ref (md 31), .ref (md 32), .ref (md 33), .int 0, .int 0, .ref (md 36), .ref (md 37), .ref (md 38), .ref (md 39), .ref (md 40), .int 0, .int (-1), .int 0, .ref (md 44), .ref (md 45), .ref (md 46), .int 0, .ref (md 48), .ref (md 49), .int 0, .ref (md 51), .int 0, .ref (md 53), .ref (md 54), .ref (md 55), .ref (md 56), .ref (md 57), .ref (md 58), .ref (md 59), .ref (md 60), .ref (md 61), .ref (md 62), .ref (md 63), .int 0, .int 0, .int 0, .int 0, .int 0, .int 0, .ref (md 70), .int 0, .ref (md 72), .int 0, .int 400000, .int 0, .int 0]))]) [1] rfl
  have hDc := hD.sub (ws' := [(md 100, .inr (12, [.int 0, .ref (md 1), .ref (md 2), .ref (md 3), .int 0, .int 0, .int 0, .int 0, .ref (md 8), .ref (md 9), .ref (md 10), .ref (md 11), .ref (md 12), .ref (md 13), .ref (md 14), .ref (md 15), .ref (md 16), .ref (md 17), .ref (md 18), .ref (md 19), .ref (md 20), .ref (md 21), .ref (md 22), .int 0, .ref (md 24), .int 0, .ref (md 26), .int 0, .ref (md 28), .ref (md 29), .ref (md 30), .ref (md 31), .ref (md 32), .ref (md 33), .int 0, .int 0, .ref (md 36), .ref (md 37), .ref (md 38), .ref (md 39), .ref (md 40), .int 0, .int (-1), .int 0, .ref (md 44), .ref (md 45), .ref (md 46), .int 0, .ref (md 48), .ref (md 49), .int 0, .ref (md 51), .int 0, .ref (md 53), .ref (md 54), .ref (md 55), .ref (md 56), .ref (md 57), .ref (md 58), .ref (md 59), .ref (md 60), .ref (md 61), .ref (md 62), .ref (md 63), .int 0, .int 0, .int 0, .int 0, .int 0, .int 0, .ref (md 70), .int 0, .ref (md 72), .int 0, .int 400000, .int 0, .int 0]))]) [1] (by decide) rfl
  have hKc := hK.sub (tys' := []) [] rfl
  have hFc := va_free (wc := [(md 100, .inr (12, [.int 0, .ref (md 1), .ref (md 2), .ref (md 3), .int 0, .int 0, .int 0, .int 0, .ref (md 8), .ref (md 9), .ref (md 10), .ref (md 11), .ref (md 12), .ref (md 13), .ref (md 14), .ref (md 15), .ref (md 16), .ref (md 17), .ref (md 18), .ref (md 19), .ref (md 20), .ref (md 21), .ref (md 22), .int 0, .ref (md 24), .int 0, .ref (md 26), .int 0, .ref (md 28), .ref (md 29), .ref (md 30), .ref (md 31), .ref (md 32), .ref (md 33), .int 0, .int 0, .ref (md 36), .ref (md 37), .ref (md 38), .ref (md 39), .ref (md 40), .int 0, .int (-1), .int 0, .ref (md 44), .ref (md 45), .ref (md 46), .int 0, .ref (md 48), .ref (md 49), .int 0, .ref (md 51), .int 0, .ref (md 53), .ref (md 54), .ref (md 55), .ref (md 56), .ref (md 57), .ref (md 58), .ref (md 59), .ref (md 60), .ref (md 61), .ref (md 62), .ref (md 63), .int 0, .int 0, .int 0, .int 0, .int 0, .int 0, .ref (md 70), .int 0, .ref (md 72), .int 0, .int 400000, .int 0, .int 0]))]) hD hS hA [1] rfl
  refine va_calli (va_runV (As := [.int (xs 1), .int (xs 2), .int (xs 3)]) (rest := []) ⟨hx, hb, hml, hown, hts⟩ (g_p_letter l D H.size md mc (xs 1) (xs 2) (xs 3)) (cw_v 3 hts kw_1883 kw_1880 kw_1881 kw_1882 kw_11 rfl rfl (by decide +kernel) ⟨Nat.le_of_ble_eq_true rfl, Nat.le_of_ble_eq_true rfl⟩) ⟨g_blind, va_recv hKc hPc (ci := 12) (q0 := 0) rfl rfl, fun U hU hW => g_pre hU hW hPc hKc hDc⟩ rfl rfl hl.1 rfl (lv_room (Nat.le_of_ble_eq_true rfl)) d_law_1763 ⟨Nat.le_of_ble_eq_true rfl, Nat.le_of_ble_eq_true rfl⟩) hS (fun q _ h => hFc q h) hFc (fun r_1 u_2 t H1 locs ht hvm hw hB hz1 hk1 hS => ?_)
  obtain ⟨hP1, hK1, hD1⟩ := hB
  rw [ht] at hP1
  have hK1 := va_K.moved hvm.symm hK1
  obtain ⟨hP, hD⟩ := va_join (wr := [(o, .inl (ac 7, 1, .inr (.inl u))), (md 39, .inl (mc 0, 8, .inl (fun _ => -1))), (md 1, .inl (mc 1, 8300, .inl (fun _ => 0))), (md 40, .inl (mc 1, 800000, .inl (fun _ => 0))), (md 72, .inl (mc 0, 12010, .inl (fun _ => 0)))]) (w1 := [(md 100, .inr (12, .int (k_key (xs 1)) :: u_2))]) hP hD [1] [0, 2, 3, 4, 5] rfl rfl (by decide) (by decide) hk1 hFc hP1 hD1
  generalize H1 = H at hP hS ⊢
  have hP : va_P D cls [(o, .inl (ac 7, 1, .inr (.inl u))), (md 39, .inl (mc 0, 8, .inl (fun _ => -1))), (md 1, .inl (mc 1, 8300, .inl (fun _ => 0))), (md 40, .inl (mc 1, 800000, .inl (fun _ => 0))), (md 72, .inl (mc 0, 12010, .inl (fun _ => 0))), (md 100, .inr (12, .int (k_key (xs 1)) :: u_2))] H := hP
  have hD : va_D A [(o, .inl (ac 7, 1, .inr (.inl u))), (md 39, .inl (mc 0, 8, .inl (fun _ => -1))), (md 1, .inl (mc 1, 8300, .inl (fun _ => 0))), (md 40, .inl (mc 1, 800000, .inl (fun _ => 0))), (md 72, .inl (mc 0, 12010, .inl (fun _ => 0))), (md 100, .inr (12, .int (k_key (xs 1)) :: u_2))] := hD
  refine W.cs (cells' := 637) (slots' := 1394880) rfl rfl ?_
  have hwm := hw
  refine lv_istore (lv' := [(6, .int r_1), (5, .int (k_key (xs 1))), (4, .int 0), (3, .ref o), (2, .ref (md 100)), (1, .ref (ad 0)), (0, .ref b)]) hx hb d_law_1766 hl (by decide) rfl (fun ls hl => ?_)
  refine lv_aload_n hx hb d_law_1768 rfl (lv_at hl 4 rfl) ?_
  have hPc := hP.sub (ws' := [(md 100, .inr (12, .int (k_key (xs 1)) :: u_2))]) [5] rfl
  have hDc := hD.sub (ws' := [(md 100, .inr (12, .int (k_key (xs 1)) :: u_2))]) [5] (by decide) rfl
  have hKc := hK.sub (tys' := []) [] rfl
  have hFc := va_free (wc := [(md 100, .inr (12, .int (k_key (xs 1)) :: u_2))]) hD hS hA [5] rfl
  refine va_calli (va_runV (As := []) (rest := []) ⟨hx, hb, hml, hown, hts⟩ (g_thr l D H.size md mc (k_key (xs 1)) u_2) (cw_v 0 hts kw_1618 kw_1615 kw_1616 kw_1617 kw_11 rfl rfl (by decide +kernel) ⟨Nat.le_of_ble_eq_true rfl, Nat.le_of_ble_eq_true rfl⟩) ⟨g_blind, va_recv hKc hPc (ci := 12) (q0 := 0) rfl rfl, fun U hU hW => g_pre hU hW hPc hKc hDc⟩ rfl rfl hl.1 rfl (lv_room (Nat.le_of_ble_eq_true rfl)) d_law_1769 ⟨Nat.le_of_ble_eq_true rfl, Nat.le_of_ble_eq_true rfl⟩) hS (fun q _ h => hFc q h) hFc (fun r_3 u_4 t H1 locs ht hvm hw hB hz1 hk1 hS => ?_)
  obtain ⟨⟩ := u_4
  obtain ⟨hP1, hK1, hD1⟩ := hB
  rw [ht] at hP1
  have hK1 := va_K.moved hvm.symm hK1
  obtain ⟨hP, hD⟩ := va_join (wr := [(o, .inl (ac 7, 1, .inr (.inl u))), (md 39, .inl (mc 0, 8, .inl (fun _ => -1))), (md 1, .inl (mc 1, 8300, .inl (fun _ => 0))), (md 40, .inl (mc 1, 800000, .inl (fun _ => 0))), (md 72, .inl (mc 0, 12010, .inl (fun _ => 0)))]) (w1 := [(md 100, .inr (12, .int (k_key (xs 1)) :: u_2))]) hP hD [5] [0, 1, 2, 3, 4] rfl rfl (by decide) (by decide) hk1 hFc hP1 hD1
  generalize H1 = H at hP hS ⊢
  have hP : va_P D cls [(o, .inl (ac 7, 1, .inr (.inl u))), (md 39, .inl (mc 0, 8, .inl (fun _ => -1))), (md 1, .inl (mc 1, 8300, .inl (fun _ => 0))), (md 40, .inl (mc 1, 800000, .inl (fun _ => 0))), (md 72, .inl (mc 0, 12010, .inl (fun _ => 0))), (md 100, .inr (12, .int (k_key (xs 1)) :: u_2))] H := hP
  have hD : va_D A [(o, .inl (ac 7, 1, .inr (.inl u))), (md 39, .inl (mc 0, 8, .inl (fun _ => -1))), (md 1, .inl (mc 1, 8300, .inl (fun _ => 0))), (md 40, .inl (mc 1, 800000, .inl (fun _ => 0))), (md 72, .inl (mc 0, 12010, .inl (fun _ => 0))), (md 100, .inr (12, .int (k_key (xs 1)) :: u_2))] := hD
  refine W.cs (cells' := 637) (slots' := 1394880) rfl rfl ?_
  subst hw
  refine lv_iload hx hb d_law_1772 (lv_at hl 1 rfl) ?_
  refine lv_icmp_eq (tgt := 1779) hx hb d_law_1774 (by decide) (fun _ => ?_) (fun h => absurd rfl h)
  refine lv_iload hx hb d_law_1779 (lv_at hl 1 rfl) ?_
  refine lv_if_ne (tgt := 1796) hx hb d_law_1781 (by decide) (fun c_5 => ?_) (fun c_5 => ?_)
  · refine lv_goto (tgt := 2391) hx hb d_law_1796 (by decide) ?_
    exact law_tail l hx hb hr hlocks hX hbl hbA hT hS (lv_sub hl [2, 6] rfl) (by decide) (by decide)
  · refine lv_aload_n hx hb d_law_1784 rfl (lv_at hl 3 rfl) ?_
    refine lv_iconst (v := 0) hx hb d_law_1785 (by decide) ?_
    refine va_lald hx hb hK hP 0 7 rfl rfl (i := 0) (vp_in_nI (n := 0) (N := 1) (by decide) (by decide)) d_law_1786 ?_
    refine w_l (y := 0) (hw2 c_5) ?_
    refine lv_iload hx hb d_law_1787 (lv_at hl 0 rfl) ?_
    refine lv_i2l hx hb d_law_1789 rfl ?_
    refine w_l (y := 0) (by first | (rw [hwm c_5]; done) | (rw [hwm c_5]; rfl) | (rw [hwm c_5]; decide)) ?_
    refine W.lcmp hx hb d_law_1790 ?_
    refine w_i (y := 0) (by simp [lg_cmp]) ?_
    refine lv_if_eq (tgt := 1796) hx hb d_law_1791 (by decide) (fun _ => ?_) (fun h => absurd h (by decide))
    refine lv_goto (tgt := 2391) hx hb d_law_1796 (by decide) ?_
    exact law_tail l hx hb hr hlocks hX hbl hbA hT hS (lv_sub hl [2, 6] rfl) (by decide) (by decide)
theorem d_law_1799 : decode code 1799 = .ok (.aload_n 1, 1) := by decide +kernel
theorem d_law_1800 : decode code 1800 = .ok (.aload_n 0, 1) := by decide +kernel
theorem d_law_1801 : decode code 1801 = .ok (.iload 4, 2) := by decide +kernel
theorem d_law_1803 : decode code 1803 = .ok (.iconst 1, 1) := by decide +kernel
theorem d_law_1804 : decode code 1804 = .ok (.iadd, 1) := by decide +kernel
theorem d_law_1805 : decode code 1805 = .ok (.iaload, 1) := by decide +kernel
theorem d_law_1806 : decode code 1806 = .ok (.aload_n 0, 1) := by decide +kernel
theorem d_law_1807 : decode code 1807 = .ok (.iload 4, 2) := by decide +kernel
theorem d_law_1809 : decode code 1809 = .ok (.iconst 2, 1) := by decide +kernel
theorem d_law_1810 : decode code 1810 = .ok (.iadd, 1) := by decide +kernel
theorem d_law_1811 : decode code 1811 = .ok (.iaload, 1) := by decide +kernel
theorem d_law_1812 : decode code 1812 = .ok (.aload_n 0, 1) := by decide +kernel
theorem d_law_1813 : decode code 1813 = .ok (.iload 4, 2) := by decide +kernel
theorem d_law_1815 : decode code 1815 = .ok (.iconst 3, 1) := by decide +kernel
theorem d_law_1816 : decode code 1816 = .ok (.iadd, 1) := by decide +kernel
theorem d_law_1817 : decode code 1817 = .ok (.iaload, 1) := by decide +kernel
theorem d_law_1818 : decode code 1818 = .ok (.aload_n 3, 1) := by decide +kernel
theorem d_law_1819 : decode code 1819 = .ok (.invokestatic 183, 3) := by decide +kernel
theorem d_law_1822 : decode code 1822 = .ok (.istore 5, 2) := by decide +kernel
theorem d_law_1824 : decode code 1824 = .ok (.aload_n 2, 1) := by decide +kernel
theorem d_law_1825 : decode code 1825 = .ok (.aload_n 0, 1) := by decide +kernel
theorem d_law_1826 : decode code 1826 = .ok (.iload 4, 2) := by decide +kernel
theorem d_law_1828 : decode code 1828 = .ok (.iconst 1, 1) := by decide +kernel
theorem d_law_1829 : decode code 1829 = .ok (.iadd, 1) := by decide +kernel
theorem d_law_1830 : decode code 1830 = .ok (.iaload, 1) := by decide +kernel
theorem d_law_1831 : decode code 1831 = .ok (.aload_n 0, 1) := by decide +kernel
theorem d_law_1832 : decode code 1832 = .ok (.iload 4, 2) := by decide +kernel
theorem d_law_1834 : decode code 1834 = .ok (.iconst 2, 1) := by decide +kernel
theorem d_law_1835 : decode code 1835 = .ok (.iadd, 1) := by decide +kernel
theorem d_law_1836 : decode code 1836 = .ok (.iaload, 1) := by decide +kernel
theorem d_law_1837 : decode code 1837 = .ok (.aload_n 0, 1) := by decide +kernel
theorem d_law_1838 : decode code 1838 = .ok (.iload 4, 2) := by decide +kernel
theorem d_law_1840 : decode code 1840 = .ok (.iconst 3, 1) := by decide +kernel
theorem d_law_1841 : decode code 1841 = .ok (.iadd, 1) := by decide +kernel
theorem d_law_1842 : decode code 1842 = .ok (.iaload, 1) := by decide +kernel
theorem d_law_1843 : decode code 1843 = .ok (.invokevirtual 185, 3) := by decide +kernel
theorem d_law_1846 : decode code 1846 = .ok (.istore 6, 2) := by decide +kernel
theorem d_law_1848 : decode code 1848 = .ok (.aload_n 2, 1) := by decide +kernel
theorem d_law_1849 : decode code 1849 = .ok (.invokevirtual 120, 3) := by decide +kernel
theorem d_law_1852 : decode code 1852 = .ok (.iload 5, 2) := by decide +kernel
theorem d_law_1854 : decode code 1854 = .ok (.if_icmp .eq 5, 3) := by decide +kernel
theorem d_law_1859 : decode code 1859 = .ok (.iload 5, 2) := by decide +kernel
theorem d_law_1861 : decode code 1861 = .ok (.ifCond .ne 15, 3) := by decide +kernel
theorem d_law_1876 : decode code 1876 = .ok (.goto 515, 3) := by decide +kernel
theorem d_law_1864 : decode code 1864 = .ok (.aload_n 3, 1) := by decide +kernel
theorem d_law_1865 : decode code 1865 = .ok (.iconst 0, 1) := by decide +kernel
theorem d_law_1866 : decode code 1866 = .ok (.laload, 1) := by decide +kernel
theorem d_law_1867 : decode code 1867 = .ok (.iload 6, 2) := by decide +kernel
theorem d_law_1869 : decode code 1869 = .ok (.i2l, 1) := by decide +kernel
theorem d_law_1870 : decode code 1870 = .ok (.lcmp, 1) := by decide +kernel
theorem d_law_1871 : decode code 1871 = .ok (.ifCond .eq 5, 3) := by decide +kernel
set_option maxHeartbeats 4000000 in
set_option maxRecDepth 100000 in
theorem law_c18 {p : Program} {e : Env} {s : State} {m : MethodId} {below : List Frame} {meth : Method} {c : Code} (l : Launch) (hfl : l.flags = flags0) {b : Nat} {xs : Nat → Int32} {D : va_G} {ad : Nat → Nat} {ac : Nat → ClassId} {md : Nat → Nat} {mc : Nat → ClassId} {o : Nat} {H : Heap} {locs : List Loc} {ls : Array Slot} (h : LwS p s m meth c b 7 xs D ad ac md mc o H locs ls) : W p l e room_1 s m #[Value.ref b] below meth c H locs 636 1394874 (lw_Z below #[Value.ref b] s) (F0 m 1799 ls []) := by
  obtain ⟨hx, hb, hr, hml, hown, hts, hX, hbl, hlocks, hev, hP, hK, hD, hS, hl⟩ := h
  have hNS : tx_NS (lA s) s := fun q cell hq hc => absurd (Array.getElem?_eq_some_iff.mp hc).1 (Nat.not_lt.mpr hq)
  have hA : ∀ q : Nat, s.heap.size ≤ q → lA s q := fun _ h => h
  have hT : ∀ q : Nat, lA s q → s.heap.size ≤ q := fun _ h => h
  have hbA : ¬ lA s b := Nat.not_le.mpr hbl
  generalize lA s = A at hev hD hS hNS hA hT hbA
  refine lv_aload_n hx hb d_law_1799 rfl (lv_at hl 3 rfl) ?_
  refine lv_aload_n hx hb d_law_1800 rfl (lv_at hl 4 rfl) ?_
  refine lv_iload hx hb d_law_1801 (lv_at hl 0 rfl) ?_
  refine lv_iconst (v := 1) hx hb d_law_1803 (by decide) ?_
  refine lv_iadd hx hb d_law_1804 ?_
  refine w_i (y := 1) (by decide) ?_
  refine va_sld hx hb hX hbl hbA hS (i := 1) (vp_in_nI (n := 1) (N := 7) (by decide) (by decide)) d_law_1805 ?_
  refine w_i (y := xs 1) rfl ?_
  refine lv_aload_n hx hb d_law_1806 rfl (lv_at hl 4 rfl) ?_
  refine lv_iload hx hb d_law_1807 (lv_at hl 0 rfl) ?_
  refine lv_iconst (v := 2) hx hb d_law_1809 (by decide) ?_
  refine lv_iadd hx hb d_law_1810 ?_
  refine w_i (y := 2) (by decide) ?_
  refine va_sld hx hb hX hbl hbA hS (i := 2) (vp_in_nI (n := 2) (N := 7) (by decide) (by decide)) d_law_1811 ?_
  refine w_i (y := xs 2) rfl ?_
  refine lv_aload_n hx hb d_law_1812 rfl (lv_at hl 4 rfl) ?_
  refine lv_iload hx hb d_law_1813 (lv_at hl 0 rfl) ?_
  refine lv_iconst (v := 3) hx hb d_law_1815 (by decide) ?_
  refine lv_iadd hx hb d_law_1816 ?_
  refine w_i (y := 3) (by decide) ?_
  refine va_sld hx hb hX hbl hbA hS (i := 3) (vp_in_nI (n := 3) (N := 7) (by decide) (by decide)) d_law_1817 ?_
  refine w_i (y := xs 3) rfl ?_
  refine lv_aload_n hx hb d_law_1818 rfl (lv_at hl 1 rfl) ?_
  have hPh := p_l hP
  have hDh := d_l hD
  have hKh := hK.sub (tys' := fxT ac) [0, 1, 2, 3, 4, 5, 6, 7] rfl
  have hFc := fr_all hDh hS hA
  refine va_calli (tx_runSW (As := [.ref (ad 0), .int (xs 1), .int (xs 2), .int (xs 3), .ref o]) (rest := []) ⟨hx, hb, hml, hown, hts⟩ (h_element l hfl D ad ac (fun _ => 0) o (fun _ => 0) H.size (xs 1) (xs 2) (xs 3)) (cw_w 5 hts kw_1161 kw_1159 kw_1160 kw_0 rfl rfl (by decide +kernel) ⟨Nat.le_of_ble_eq_true rfl, Nat.le_of_ble_eq_true rfl⟩) ⟨h_blind, fun U hU hW => h_pre hU hW hPh hKh hDh hev hNS hS hFc⟩ rfl rfl hl.1 rfl (lv_room (Nat.le_of_ble_eq_true rfl)) d_law_1819 ⟨Nat.le_of_ble_eq_true rfl, Nat.le_of_ble_eq_true rfl⟩) hS (fun q _ h => hFc q h) hFc (fun rz u t H1 locs ht hvm hw hB hz1 hk1 hS => ?_)
  obtain ⟨hP1, -, -⟩ := hB
  rw [ht] at hP1
  obtain ⟨hw1, hw2⟩ := hw
  subst hw1
  have hP := hP1.app (p_keep hP hD hk1)
  have hD := d_oc hD (e' := .inl (ac 7, 1, .inr (.inl u)))
  generalize H1 = H at hP hS ⊢
  have hP : va_P D cls [(o, .inl (ac 7, 1, .inr (.inl u))), (md 100, .inr (12, [.int 0, .ref (md 1), .ref (md 2), .ref (md 3), .int 0, .int 0, .int 0, .int 0, .ref (md 8), .ref (md 9), .ref (md 10), .ref (md 11), .ref (md 12), .ref (md 13), .ref (md 14), .ref (md 15), .ref (md 16), .ref (md 17), .ref (md 18), .ref (md 19), .ref (md 20), .ref (md 21), .ref (md 22), .int 0, .ref (md 24), .int 0, .ref (md 26), .int 0, .ref (md 28), .ref (md 29), .ref (md 30), .ref (md 31), .ref (md 32), .ref (md 33), .int 0, .int 0, .ref (md 36), .ref (md 37), .ref (md 38), .ref (md 39), .ref (md 40), .int 0, .int (-1), .int 0, .ref (md 44), .ref (md 45), .ref (md 46), .int 0, .ref (md 48), .ref (md 49), .int 0, .ref (md 51), .int 0, .ref (md 53), .ref (md 54), .ref (md 55), .ref (md 56), .ref (md 57), .ref (md 58), .ref (md 59), .ref (md 60), .ref (md 61), .ref (md 62), .ref (md 63), .int 0, .int 0, .int 0, .int 0, .int 0, .int 0, .ref (md 70), .int 0, .ref (md 72), .int 0, .int 400000, .int 0, .int 0])), (md 39, .inl (mc 0, 8, .inl (fun _ => -1))), (md 1, .inl (mc 1, 8300, .inl (fun _ => 0))), (md 40, .inl (mc 1, 800000, .inl (fun _ => 0))), (md 72, .inl (mc 0, 12010, .inl (fun _ => 0)))] H := hP
  have hD : va_D A [(o, .inl (ac 7, 1, .inr (.inl u))), (md 100, .inr (12, [.int 0, .ref (md 1), .ref (md 2), .ref (md 3), .int 0, .int 0, .int 0, .int 0, .ref (md 8), .ref (md 9), .ref (md 10), .ref (md 11), .ref (md 12), .ref (md 13), .ref (md 14), .ref (md 15), .ref (md 16), .ref (md 17), .ref (md 18), .ref (md 19), .ref (md 20), .ref (md 21), .ref (md 22), .int 0, .ref (md 24), .int 0, .ref (md 26), .int 0, .ref (md 28), .ref (md 29), .ref (md 30), .ref (md 31), .ref (md 32), .ref (md 33), .int 0, .int 0, .ref (md 36), .ref (md 37), .ref (md 38), .ref (md 39), .ref (md 40), .int 0, .int (-1), .int 0, .ref (md 44), .ref (md 45), .ref (md 46), .int 0, .ref (md 48), .ref (md 49), .int 0, .ref (md 51), .int 0, .ref (md 53), .ref (md 54), .ref (md 55), .ref (md 56), .ref (md 57), .ref (md 58), .ref (md 59), .ref (md 60), .ref (md 61), .ref (md 62), .ref (md 63), .int 0, .int 0, .int 0, .int 0, .int 0, .int 0, .ref (md 70), .int 0, .ref (md 72), .int 0, .int 400000, .int 0, .int 0])), (md 39, .inl (mc 0, 8, .inl (fun _ => -1))), (md 1, .inl (mc 1, 8300, .inl (fun _ => 0))), (md 40, .inl (mc 1, 800000, .inl (fun _ => 0))), (md 72, .inl (mc 0, 12010, .inl (fun _ => 0)))] := hD
  refine W.cs (cells' := 637) (slots' := 1394880) rfl rfl ?_
  refine lv_istore (lv' := [(5, .int (k_ele (xs 1) (xs 2))), (4, .int 0), (3, .ref o), (2, .ref (md 100)), (1, .ref (ad 0)), (0, .ref b)]) hx hb d_law_1822 hl (by decide) rfl (fun ls hl => ?_)
  refine lv_aload_n hx hb d_law_1824 rfl (lv_at hl 3 rfl) ?_
  refine lv_aload_n hx hb d_law_1825 rfl (lv_at hl 5 rfl) ?_
  refine lv_iload hx hb d_law_1826 (lv_at hl 1 rfl) ?_
  refine lv_iconst (v := 1) hx hb d_law_1828 (by decide) ?_
  refine lv_iadd hx hb d_law_1829 ?_
  refine w_i (y := 1) (by decide) ?_
  refine va_sld hx hb hX hbl hbA hS (i := 1) (vp_in_nI (n := 1) (N := 7) (by decide) (by decide)) d_law_1830 ?_
  refine w_i (y := xs 1) rfl ?_
  refine lv_aload_n hx hb d_law_1831 rfl (lv_at hl 5 rfl) ?_
  refine lv_iload hx hb d_law_1832 (lv_at hl 1 rfl) ?_
  refine lv_iconst (v := 2) hx hb d_law_1834 (by decide) ?_
  refine lv_iadd hx hb d_law_1835 ?_
  refine w_i (y := 2) (by decide) ?_
  refine va_sld hx hb hX hbl hbA hS (i := 2) (vp_in_nI (n := 2) (N := 7) (by decide) (by decide)) d_law_1836 ?_
  refine w_i (y := xs 2) rfl ?_
  refine lv_aload_n hx hb d_law_1837 rfl (lv_at hl 5 rfl) ?_
  refine lv_iload hx hb d_law_1838 (lv_at hl 1 rfl) ?_
  refine lv_iconst (v := 3) hx hb d_law_1840 (by decide) ?_
  refine lv_iadd hx hb d_law_1841 ?_
  refine w_i (y := 3) (by decide) ?_
  refine va_sld hx hb hX hbl hbA hS (i := 3) (vp_in_nI (n := 3) (N := 7) (by decide) (by decide)) d_law_1842 ?_
  refine w_i (y := xs 3) rfl ?_
  have hPc := hP.sub (ws' := [(md 100, .inr (12, [.int 0, .ref (md 1), .ref (md 2), .ref (md 3), .int 0, .int 0, .int 0, .int 0, .ref (md 8), .ref (md 9), .ref (md 10), .ref (md 11), .ref (md 12), .ref (md 13), .ref (md 14), .ref (md 15), .ref (md 16), .ref (md 17), .ref (md 18), .ref (md 19), .ref (md 20), .ref (md 21), .ref (md 22), .int 0, .ref (md 24), .int 0, .ref (md 26), .int 0, .ref (md 28), .ref (md 29), .ref (md 30), .ref (md 31), .ref (md 32), .ref (md 33), .int 0, .int 0, .ref (md 36), .ref (md 37), .ref (md 38), .ref (md 39), .ref (md 40), .int 0, .int (-1), .int 0, .ref (md 44), .ref (md 45), .ref (md 46), .int 0, .ref (md 48), .ref (md 49), .int 0, .ref (md 51), .int 0, .ref (md 53), .ref (md 54), .ref (md 55), .ref (md 56), .ref (md 57), .ref (md 58), .ref (md 59), .ref (md 60), .ref (md 61), .ref (md 62), .ref (md 63), .int 0, .int 0, .int 0, .int 0, .int 0, .int 0, .ref (md 70), .int 0, .ref (md 72), .int 0, .int 400000, .int 0, .int 0]))]) [1] rfl
  have hDc := hD.sub (ws' := [(md 100, .inr (12, [.int 0, .ref (md 1), .ref (md 2), .ref (md 3), .int 0, .int 0, .int 0, .int 0, .ref (md 8), .ref (md 9), .ref (md 10), .ref (md 11), .ref (md 12), .ref (md 13), .ref (md 14), .ref (md 15), .ref (md 16), .ref (md 17), .ref (md 18), .ref (md 19), .ref (md 20), .ref (md 21), .ref (md 22), .int 0, .ref (md 24), .int 0, .ref (md 26), .int 0, .ref (md 28), .ref (md 29), .ref (md 30), .ref (md 31), .ref (md 32), .ref (md 33), .int 0, .int 0, .ref (md 36), .ref (md 37), .ref (md 38), .ref (md 39), .ref (md 40), .int 0, .int (-1), .int 0, .ref (md 44), .ref (md 45), .ref (md 46), .int 0, .ref (md 48), .ref (md 49), .int 0, .ref (md 51), .int 0, .ref (md 53), .ref (md 54), .ref (md 55), .ref (md 56), .ref (md 57), .ref (md 58), .ref (md 59), .ref (md 60), .ref (md 61), .ref (md 62), .ref (md 63), .int 0, .int 0, .int 0, .int 0, .int 0, .int 0, .ref (md 70), .int 0, .ref (md 72), .int 0, .int 400000, .int 0, .int 0]))]) [1] (by decide) rfl
  have hKc := hK.sub (tys' := []) [] rfl
  have hFc := va_free (wc := [(md 100, .inr (12, [.int 0, .ref (md 1), .ref (md 2), .ref (md 3), .int 0, .int 0, .int 0, .int 0, .ref (md 8), .ref (md 9), .ref (md 10), .ref (md 11), .ref (md 12), .ref (md 13), .ref (md 14), .ref (md 15), .ref (md 16), .ref (md 17), .ref (md 18), .ref (md 19), .ref (md 20), .ref (md 21), .ref (md 22), .int 0, .ref (md 24), .int 0, .ref (md 26), .int 0, .ref (md 28), .ref (md 29), .ref (md 30), .ref (md 31), .ref (md 32), .ref (md 33), .int 0, .int 0, .ref (md 36), .ref (md 37), .ref (md 38), .ref (md 39), .ref (md 40), .int 0, .int (-1), .int 0, .ref (md 44), .ref (md 45), .ref (md 46), .int 0, .ref (md 48), .ref (md 49), .int 0, .ref (md 51), .int 0, .ref (md 53), .ref (md 54), .ref (md 55), .ref (md 56), .ref (md 57), .ref (md 58), .ref (md 59), .ref (md 60), .ref (md 61), .ref (md 62), .ref (md 63), .int 0, .int 0, .int 0, .int 0, .int 0, .int 0, .ref (md 70), .int 0, .ref (md 72), .int 0, .int 400000, .int 0, .int 0]))]) hD hS hA [1] rfl
  refine va_calli (va_runV (As := [.int (xs 1), .int (xs 2), .int (xs 3)]) (rest := []) ⟨hx, hb, hml, hown, hts⟩ (g_p_element l D H.size md mc (xs 1) (xs 2) (xs 3)) (cw_v 3 hts kw_1887 kw_1884 kw_1885 kw_1886 kw_11 rfl rfl (by decide +kernel) ⟨Nat.le_of_ble_eq_true rfl, Nat.le_of_ble_eq_true rfl⟩) ⟨g_blind, va_recv hKc hPc (ci := 12) (q0 := 0) rfl rfl, fun U hU hW => g_pre hU hW hPc hKc hDc⟩ rfl rfl hl.1 rfl (lv_room (Nat.le_of_ble_eq_true rfl)) d_law_1843 ⟨Nat.le_of_ble_eq_true rfl, Nat.le_of_ble_eq_true rfl⟩) hS (fun q _ h => hFc q h) hFc (fun r_1 u_2 t H1 locs ht hvm hw hB hz1 hk1 hS => ?_)
  obtain ⟨hP1, hK1, hD1⟩ := hB
  rw [ht] at hP1
  have hK1 := va_K.moved hvm.symm hK1
  obtain ⟨hP, hD⟩ := va_join (wr := [(o, .inl (ac 7, 1, .inr (.inl u))), (md 39, .inl (mc 0, 8, .inl (fun _ => -1))), (md 1, .inl (mc 1, 8300, .inl (fun _ => 0))), (md 40, .inl (mc 1, 800000, .inl (fun _ => 0))), (md 72, .inl (mc 0, 12010, .inl (fun _ => 0)))]) (w1 := [(md 100, .inr (12, .int (k_ele (xs 1) (xs 2)) :: u_2))]) hP hD [1] [0, 2, 3, 4, 5] rfl rfl (by decide) (by decide) hk1 hFc hP1 hD1
  generalize H1 = H at hP hS ⊢
  have hP : va_P D cls [(o, .inl (ac 7, 1, .inr (.inl u))), (md 39, .inl (mc 0, 8, .inl (fun _ => -1))), (md 1, .inl (mc 1, 8300, .inl (fun _ => 0))), (md 40, .inl (mc 1, 800000, .inl (fun _ => 0))), (md 72, .inl (mc 0, 12010, .inl (fun _ => 0))), (md 100, .inr (12, .int (k_ele (xs 1) (xs 2)) :: u_2))] H := hP
  have hD : va_D A [(o, .inl (ac 7, 1, .inr (.inl u))), (md 39, .inl (mc 0, 8, .inl (fun _ => -1))), (md 1, .inl (mc 1, 8300, .inl (fun _ => 0))), (md 40, .inl (mc 1, 800000, .inl (fun _ => 0))), (md 72, .inl (mc 0, 12010, .inl (fun _ => 0))), (md 100, .inr (12, .int (k_ele (xs 1) (xs 2)) :: u_2))] := hD
  refine W.cs (cells' := 637) (slots' := 1394880) rfl rfl ?_
  have hwm := hw
  refine lv_istore (lv' := [(6, .int r_1), (5, .int (k_ele (xs 1) (xs 2))), (4, .int 0), (3, .ref o), (2, .ref (md 100)), (1, .ref (ad 0)), (0, .ref b)]) hx hb d_law_1846 hl (by decide) rfl (fun ls hl => ?_)
  refine lv_aload_n hx hb d_law_1848 rfl (lv_at hl 4 rfl) ?_
  have hPc := hP.sub (ws' := [(md 100, .inr (12, .int (k_ele (xs 1) (xs 2)) :: u_2))]) [5] rfl
  have hDc := hD.sub (ws' := [(md 100, .inr (12, .int (k_ele (xs 1) (xs 2)) :: u_2))]) [5] (by decide) rfl
  have hKc := hK.sub (tys' := []) [] rfl
  have hFc := va_free (wc := [(md 100, .inr (12, .int (k_ele (xs 1) (xs 2)) :: u_2))]) hD hS hA [5] rfl
  refine va_calli (va_runV (As := []) (rest := []) ⟨hx, hb, hml, hown, hts⟩ (g_thr l D H.size md mc (k_ele (xs 1) (xs 2)) u_2) (cw_v 0 hts kw_1618 kw_1615 kw_1616 kw_1617 kw_11 rfl rfl (by decide +kernel) ⟨Nat.le_of_ble_eq_true rfl, Nat.le_of_ble_eq_true rfl⟩) ⟨g_blind, va_recv hKc hPc (ci := 12) (q0 := 0) rfl rfl, fun U hU hW => g_pre hU hW hPc hKc hDc⟩ rfl rfl hl.1 rfl (lv_room (Nat.le_of_ble_eq_true rfl)) d_law_1849 ⟨Nat.le_of_ble_eq_true rfl, Nat.le_of_ble_eq_true rfl⟩) hS (fun q _ h => hFc q h) hFc (fun r_3 u_4 t H1 locs ht hvm hw hB hz1 hk1 hS => ?_)
  obtain ⟨⟩ := u_4
  obtain ⟨hP1, hK1, hD1⟩ := hB
  rw [ht] at hP1
  have hK1 := va_K.moved hvm.symm hK1
  obtain ⟨hP, hD⟩ := va_join (wr := [(o, .inl (ac 7, 1, .inr (.inl u))), (md 39, .inl (mc 0, 8, .inl (fun _ => -1))), (md 1, .inl (mc 1, 8300, .inl (fun _ => 0))), (md 40, .inl (mc 1, 800000, .inl (fun _ => 0))), (md 72, .inl (mc 0, 12010, .inl (fun _ => 0)))]) (w1 := [(md 100, .inr (12, .int (k_ele (xs 1) (xs 2)) :: u_2))]) hP hD [5] [0, 1, 2, 3, 4] rfl rfl (by decide) (by decide) hk1 hFc hP1 hD1
  generalize H1 = H at hP hS ⊢
  have hP : va_P D cls [(o, .inl (ac 7, 1, .inr (.inl u))), (md 39, .inl (mc 0, 8, .inl (fun _ => -1))), (md 1, .inl (mc 1, 8300, .inl (fun _ => 0))), (md 40, .inl (mc 1, 800000, .inl (fun _ => 0))), (md 72, .inl (mc 0, 12010, .inl (fun _ => 0))), (md 100, .inr (12, .int (k_ele (xs 1) (xs 2)) :: u_2))] H := hP
  have hD : va_D A [(o, .inl (ac 7, 1, .inr (.inl u))), (md 39, .inl (mc 0, 8, .inl (fun _ => -1))), (md 1, .inl (mc 1, 8300, .inl (fun _ => 0))), (md 40, .inl (mc 1, 800000, .inl (fun _ => 0))), (md 72, .inl (mc 0, 12010, .inl (fun _ => 0))), (md 100, .inr (12, .int (k_ele (xs 1) (xs 2)) :: u_2))] := hD
  refine W.cs (cells' := 637) (slots' := 1394880) rfl rfl ?_
  subst hw
  refine lv_iload hx hb d_law_1852 (lv_at hl 1 rfl) ?_
  refine lv_icmp_eq (tgt := 1859) hx hb d_law_1854 (by decide) (fun _ => ?_) (fun h => absurd rfl h)
  refine lv_iload hx hb d_law_1859 (lv_at hl 1 rfl) ?_
  refine lv_if_ne (tgt := 1876) hx hb d_law_1861 (by decide) (fun c_5 => ?_) (fun c_5 => ?_)
  · refine lv_goto (tgt := 2391) hx hb d_law_1876 (by decide) ?_
    exact law_tail l hx hb hr hlocks hX hbl hbA hT hS (lv_sub hl [2, 6] rfl) (by decide) (by decide)
  · refine lv_aload_n hx hb d_law_1864 rfl (lv_at hl 3 rfl) ?_
    refine lv_iconst (v := 0) hx hb d_law_1865 (by decide) ?_
    refine va_lald hx hb hK hP 0 7 rfl rfl (i := 0) (vp_in_nI (n := 0) (N := 1) (by decide) (by decide)) d_law_1866 ?_
    refine w_l (y := 0) (hw2 c_5) ?_
    refine lv_iload hx hb d_law_1867 (lv_at hl 0 rfl) ?_
    refine lv_i2l hx hb d_law_1869 rfl ?_
    refine w_l (y := 0) (by first | (rw [hwm c_5]; done) | (rw [hwm c_5]; rfl) | (rw [hwm c_5]; decide)) ?_
    refine W.lcmp hx hb d_law_1870 ?_
    refine w_i (y := 0) (by simp [lg_cmp]) ?_
    refine lv_if_eq (tgt := 1876) hx hb d_law_1871 (by decide) (fun _ => ?_) (fun h => absurd h (by decide))
    refine lv_goto (tgt := 2391) hx hb d_law_1876 (by decide) ?_
    exact law_tail l hx hb hr hlocks hX hbl hbA hT hS (lv_sub hl [2, 6] rfl) (by decide) (by decide)
theorem d_law_1879 : decode code 1879 = .ok (.aload_n 1, 1) := by decide +kernel
theorem d_law_1880 : decode code 1880 = .ok (.aload_n 0, 1) := by decide +kernel
theorem d_law_1881 : decode code 1881 = .ok (.iload 4, 2) := by decide +kernel
theorem d_law_1883 : decode code 1883 = .ok (.iconst 1, 1) := by decide +kernel
theorem d_law_1884 : decode code 1884 = .ok (.iadd, 1) := by decide +kernel
theorem d_law_1885 : decode code 1885 = .ok (.iaload, 1) := by decide +kernel
theorem d_law_1886 : decode code 1886 = .ok (.aload_n 0, 1) := by decide +kernel
theorem d_law_1887 : decode code 1887 = .ok (.iload 4, 2) := by decide +kernel
theorem d_law_1889 : decode code 1889 = .ok (.iconst 2, 1) := by decide +kernel
theorem d_law_1890 : decode code 1890 = .ok (.iadd, 1) := by decide +kernel
theorem d_law_1891 : decode code 1891 = .ok (.iaload, 1) := by decide +kernel
theorem d_law_1892 : decode code 1892 = .ok (.aload_n 0, 1) := by decide +kernel
theorem d_law_1893 : decode code 1893 = .ok (.iload 4, 2) := by decide +kernel
theorem d_law_1895 : decode code 1895 = .ok (.iconst 3, 1) := by decide +kernel
theorem d_law_1896 : decode code 1896 = .ok (.iadd, 1) := by decide +kernel
theorem d_law_1897 : decode code 1897 = .ok (.iaload, 1) := by decide +kernel
theorem d_law_1898 : decode code 1898 = .ok (.aload_n 3, 1) := by decide +kernel
theorem d_law_1899 : decode code 1899 = .ok (.invokestatic 186, 3) := by decide +kernel
theorem d_law_1902 : decode code 1902 = .ok (.istore 5, 2) := by decide +kernel
theorem d_law_1904 : decode code 1904 = .ok (.aload_n 2, 1) := by decide +kernel
theorem d_law_1905 : decode code 1905 = .ok (.aload_n 0, 1) := by decide +kernel
theorem d_law_1906 : decode code 1906 = .ok (.iload 4, 2) := by decide +kernel
theorem d_law_1908 : decode code 1908 = .ok (.iconst 1, 1) := by decide +kernel
theorem d_law_1909 : decode code 1909 = .ok (.iadd, 1) := by decide +kernel
theorem d_law_1910 : decode code 1910 = .ok (.iaload, 1) := by decide +kernel
theorem d_law_1911 : decode code 1911 = .ok (.aload_n 0, 1) := by decide +kernel
theorem d_law_1912 : decode code 1912 = .ok (.iload 4, 2) := by decide +kernel
theorem d_law_1914 : decode code 1914 = .ok (.iconst 2, 1) := by decide +kernel
theorem d_law_1915 : decode code 1915 = .ok (.iadd, 1) := by decide +kernel
theorem d_law_1916 : decode code 1916 = .ok (.iaload, 1) := by decide +kernel
theorem d_law_1917 : decode code 1917 = .ok (.aload_n 0, 1) := by decide +kernel
theorem d_law_1918 : decode code 1918 = .ok (.iload 4, 2) := by decide +kernel
theorem d_law_1920 : decode code 1920 = .ok (.iconst 3, 1) := by decide +kernel
theorem d_law_1921 : decode code 1921 = .ok (.iadd, 1) := by decide +kernel
theorem d_law_1922 : decode code 1922 = .ok (.iaload, 1) := by decide +kernel
theorem d_law_1923 : decode code 1923 = .ok (.invokevirtual 188, 3) := by decide +kernel
theorem d_law_1926 : decode code 1926 = .ok (.istore 6, 2) := by decide +kernel
theorem d_law_1928 : decode code 1928 = .ok (.aload_n 2, 1) := by decide +kernel
theorem d_law_1929 : decode code 1929 = .ok (.invokevirtual 120, 3) := by decide +kernel
theorem d_law_1932 : decode code 1932 = .ok (.iload 5, 2) := by decide +kernel
theorem d_law_1934 : decode code 1934 = .ok (.if_icmp .eq 5, 3) := by decide +kernel
theorem d_law_1939 : decode code 1939 = .ok (.iload 5, 2) := by decide +kernel
theorem d_law_1941 : decode code 1941 = .ok (.ifCond .ne 15, 3) := by decide +kernel
theorem d_law_1956 : decode code 1956 = .ok (.goto 435, 3) := by decide +kernel
theorem d_law_1944 : decode code 1944 = .ok (.aload_n 3, 1) := by decide +kernel
theorem d_law_1945 : decode code 1945 = .ok (.iconst 0, 1) := by decide +kernel
theorem d_law_1946 : decode code 1946 = .ok (.laload, 1) := by decide +kernel
theorem d_law_1947 : decode code 1947 = .ok (.iload 6, 2) := by decide +kernel
theorem d_law_1949 : decode code 1949 = .ok (.i2l, 1) := by decide +kernel
theorem d_law_1950 : decode code 1950 = .ok (.lcmp, 1) := by decide +kernel
theorem d_law_1951 : decode code 1951 = .ok (.ifCond .eq 5, 3) := by decide +kernel
set_option maxHeartbeats 4000000 in
set_option maxRecDepth 100000 in
theorem law_c19 {p : Program} {e : Env} {s : State} {m : MethodId} {below : List Frame} {meth : Method} {c : Code} (l : Launch) (hfl : l.flags = flags0) {b : Nat} {xs : Nat → Int32} {D : va_G} {ad : Nat → Nat} {ac : Nat → ClassId} {md : Nat → Nat} {mc : Nat → ClassId} {o : Nat} {H : Heap} {locs : List Loc} {ls : Array Slot} (h : LwS p s m meth c b 7 xs D ad ac md mc o H locs ls) : W p l e room_1 s m #[Value.ref b] below meth c H locs 636 1394874 (lw_Z below #[Value.ref b] s) (F0 m 1879 ls []) := by
  obtain ⟨hx, hb, hr, hml, hown, hts, hX, hbl, hlocks, hev, hP, hK, hD, hS, hl⟩ := h
  have hNS : tx_NS (lA s) s := fun q cell hq hc => absurd (Array.getElem?_eq_some_iff.mp hc).1 (Nat.not_lt.mpr hq)
  have hA : ∀ q : Nat, s.heap.size ≤ q → lA s q := fun _ h => h
  have hT : ∀ q : Nat, lA s q → s.heap.size ≤ q := fun _ h => h
  have hbA : ¬ lA s b := Nat.not_le.mpr hbl
  generalize lA s = A at hev hD hS hNS hA hT hbA
  refine lv_aload_n hx hb d_law_1879 rfl (lv_at hl 3 rfl) ?_
  refine lv_aload_n hx hb d_law_1880 rfl (lv_at hl 4 rfl) ?_
  refine lv_iload hx hb d_law_1881 (lv_at hl 0 rfl) ?_
  refine lv_iconst (v := 1) hx hb d_law_1883 (by decide) ?_
  refine lv_iadd hx hb d_law_1884 ?_
  refine w_i (y := 1) (by decide) ?_
  refine va_sld hx hb hX hbl hbA hS (i := 1) (vp_in_nI (n := 1) (N := 7) (by decide) (by decide)) d_law_1885 ?_
  refine w_i (y := xs 1) rfl ?_
  refine lv_aload_n hx hb d_law_1886 rfl (lv_at hl 4 rfl) ?_
  refine lv_iload hx hb d_law_1887 (lv_at hl 0 rfl) ?_
  refine lv_iconst (v := 2) hx hb d_law_1889 (by decide) ?_
  refine lv_iadd hx hb d_law_1890 ?_
  refine w_i (y := 2) (by decide) ?_
  refine va_sld hx hb hX hbl hbA hS (i := 2) (vp_in_nI (n := 2) (N := 7) (by decide) (by decide)) d_law_1891 ?_
  refine w_i (y := xs 2) rfl ?_
  refine lv_aload_n hx hb d_law_1892 rfl (lv_at hl 4 rfl) ?_
  refine lv_iload hx hb d_law_1893 (lv_at hl 0 rfl) ?_
  refine lv_iconst (v := 3) hx hb d_law_1895 (by decide) ?_
  refine lv_iadd hx hb d_law_1896 ?_
  refine w_i (y := 3) (by decide) ?_
  refine va_sld hx hb hX hbl hbA hS (i := 3) (vp_in_nI (n := 3) (N := 7) (by decide) (by decide)) d_law_1897 ?_
  refine w_i (y := xs 3) rfl ?_
  refine lv_aload_n hx hb d_law_1898 rfl (lv_at hl 1 rfl) ?_
  have hPh := p_l hP
  have hDh := d_l hD
  have hKh := hK.sub (tys' := fxT ac) [0, 1, 2, 3, 4, 5, 6, 7] rfl
  have hFc := fr_all hDh hS hA
  refine va_calli (tx_runSW (As := [.ref (ad 0), .int (xs 1), .int (xs 2), .int (xs 3), .ref o]) (rest := []) ⟨hx, hb, hml, hown, hts⟩ (h_index l hfl D ad ac (fun _ => 0) o (fun _ => 0) H.size (xs 1) (xs 2) (xs 3)) (cw_w 5 hts kw_1168 kw_1166 kw_1167 kw_0 rfl rfl (by decide +kernel) ⟨Nat.le_of_ble_eq_true rfl, Nat.le_of_ble_eq_true rfl⟩) ⟨h_blind, fun U hU hW => h_pre hU hW hPh hKh hDh hev hNS hS hFc⟩ rfl rfl hl.1 rfl (lv_room (Nat.le_of_ble_eq_true rfl)) d_law_1899 ⟨Nat.le_of_ble_eq_true rfl, Nat.le_of_ble_eq_true rfl⟩) hS (fun q _ h => hFc q h) hFc (fun rz u t H1 locs ht hvm hw hB hz1 hk1 hS => ?_)
  obtain ⟨hP1, -, -⟩ := hB
  rw [ht] at hP1
  obtain ⟨hw1, hw2⟩ := hw
  subst hw1
  have hP := hP1.app (p_keep hP hD hk1)
  have hD := d_oc hD (e' := .inl (ac 7, 1, .inr (.inl u)))
  generalize H1 = H at hP hS ⊢
  have hP : va_P D cls [(o, .inl (ac 7, 1, .inr (.inl u))), (md 100, .inr (12, [.int 0, .ref (md 1), .ref (md 2), .ref (md 3), .int 0, .int 0, .int 0, .int 0, .ref (md 8), .ref (md 9), .ref (md 10), .ref (md 11), .ref (md 12), .ref (md 13), .ref (md 14), .ref (md 15), .ref (md 16), .ref (md 17), .ref (md 18), .ref (md 19), .ref (md 20), .ref (md 21), .ref (md 22), .int 0, .ref (md 24), .int 0, .ref (md 26), .int 0, .ref (md 28), .ref (md 29), .ref (md 30), .ref (md 31), .ref (md 32), .ref (md 33), .int 0, .int 0, .ref (md 36), .ref (md 37), .ref (md 38), .ref (md 39), .ref (md 40), .int 0, .int (-1), .int 0, .ref (md 44), .ref (md 45), .ref (md 46), .int 0, .ref (md 48), .ref (md 49), .int 0, .ref (md 51), .int 0, .ref (md 53), .ref (md 54), .ref (md 55), .ref (md 56), .ref (md 57), .ref (md 58), .ref (md 59), .ref (md 60), .ref (md 61), .ref (md 62), .ref (md 63), .int 0, .int 0, .int 0, .int 0, .int 0, .int 0, .ref (md 70), .int 0, .ref (md 72), .int 0, .int 400000, .int 0, .int 0])), (md 39, .inl (mc 0, 8, .inl (fun _ => -1))), (md 1, .inl (mc 1, 8300, .inl (fun _ => 0))), (md 40, .inl (mc 1, 800000, .inl (fun _ => 0))), (md 72, .inl (mc 0, 12010, .inl (fun _ => 0)))] H := hP
  have hD : va_D A [(o, .inl (ac 7, 1, .inr (.inl u))), (md 100, .inr (12, [.int 0, .ref (md 1), .ref (md 2), .ref (md 3), .int 0, .int 0, .int 0, .int 0, .ref (md 8), .ref (md 9), .ref (md 10), .ref (md 11), .ref (md 12), .ref (md 13), .ref (md 14), .ref (md 15), .ref (md 16), .ref (md 17), .ref (md 18), .ref (md 19), .ref (md 20), .ref (md 21), .ref (md 22), .int 0, .ref (md 24), .int 0, .ref (md 26), .int 0, .ref (md 28), .ref (md 29), .ref (md 30), .ref (md 31), .ref (md 32), .ref (md 33), .int 0, .int 0, .ref (md 36), .ref (md 37), .ref (md 38), .ref (md 39), .ref (md 40), .int 0, .int (-1), .int 0, .ref (md 44), .ref (md 45), .ref (md 46), .int 0, .ref (md 48), .ref (md 49), .int 0, .ref (md 51), .int 0, .ref (md 53), .ref (md 54), .ref (md 55), .ref (md 56), .ref (md 57), .ref (md 58), .ref (md 59), .ref (md 60), .ref (md 61), .ref (md 62), .ref (md 63), .int 0, .int 0, .int 0, .int 0, .int 0, .int 0, .ref (md 70), .int 0, .ref (md 72), .int 0, .int 400000, .int 0, .int 0])), (md 39, .inl (mc 0, 8, .inl (fun _ => -1))), (md 1, .inl (mc 1, 8300, .inl (fun _ => 0))), (md 40, .inl (mc 1, 800000, .inl (fun _ => 0))), (md 72, .inl (mc 0, 12010, .inl (fun _ => 0)))] := hD
  refine W.cs (cells' := 637) (slots' := 1394880) rfl rfl ?_
  refine lv_istore (lv' := [(5, .int (k_ele (xs 1) (xs 2))), (4, .int 0), (3, .ref o), (2, .ref (md 100)), (1, .ref (ad 0)), (0, .ref b)]) hx hb d_law_1902 hl (by decide) rfl (fun ls hl => ?_)
  refine lv_aload_n hx hb d_law_1904 rfl (lv_at hl 3 rfl) ?_
  refine lv_aload_n hx hb d_law_1905 rfl (lv_at hl 5 rfl) ?_
  refine lv_iload hx hb d_law_1906 (lv_at hl 1 rfl) ?_
  refine lv_iconst (v := 1) hx hb d_law_1908 (by decide) ?_
  refine lv_iadd hx hb d_law_1909 ?_
  refine w_i (y := 1) (by decide) ?_
  refine va_sld hx hb hX hbl hbA hS (i := 1) (vp_in_nI (n := 1) (N := 7) (by decide) (by decide)) d_law_1910 ?_
  refine w_i (y := xs 1) rfl ?_
  refine lv_aload_n hx hb d_law_1911 rfl (lv_at hl 5 rfl) ?_
  refine lv_iload hx hb d_law_1912 (lv_at hl 1 rfl) ?_
  refine lv_iconst (v := 2) hx hb d_law_1914 (by decide) ?_
  refine lv_iadd hx hb d_law_1915 ?_
  refine w_i (y := 2) (by decide) ?_
  refine va_sld hx hb hX hbl hbA hS (i := 2) (vp_in_nI (n := 2) (N := 7) (by decide) (by decide)) d_law_1916 ?_
  refine w_i (y := xs 2) rfl ?_
  refine lv_aload_n hx hb d_law_1917 rfl (lv_at hl 5 rfl) ?_
  refine lv_iload hx hb d_law_1918 (lv_at hl 1 rfl) ?_
  refine lv_iconst (v := 3) hx hb d_law_1920 (by decide) ?_
  refine lv_iadd hx hb d_law_1921 ?_
  refine w_i (y := 3) (by decide) ?_
  refine va_sld hx hb hX hbl hbA hS (i := 3) (vp_in_nI (n := 3) (N := 7) (by decide) (by decide)) d_law_1922 ?_
  refine w_i (y := xs 3) rfl ?_
  have hPc := hP.sub (ws' := [(md 100, .inr (12, [.int 0, .ref (md 1), .ref (md 2), .ref (md 3), .int 0, .int 0, .int 0, .int 0, .ref (md 8), .ref (md 9), .ref (md 10), .ref (md 11), .ref (md 12), .ref (md 13), .ref (md 14), .ref (md 15), .ref (md 16), .ref (md 17), .ref (md 18), .ref (md 19), .ref (md 20), .ref (md 21), .ref (md 22), .int 0, .ref (md 24), .int 0, .ref (md 26), .int 0, .ref (md 28), .ref (md 29), .ref (md 30), .ref (md 31), .ref (md 32), .ref (md 33), .int 0, .int 0, .ref (md 36), .ref (md 37), .ref (md 38), .ref (md 39), .ref (md 40), .int 0, .int (-1), .int 0, .ref (md 44), .ref (md 45), .ref (md 46), .int 0, .ref (md 48), .ref (md 49), .int 0, .ref (md 51), .int 0, .ref (md 53), .ref (md 54), .ref (md 55), .ref (md 56), .ref (md 57), .ref (md 58), .ref (md 59), .ref (md 60), .ref (md 61), .ref (md 62), .ref (md 63), .int 0, .int 0, .int 0, .int 0, .int 0, .int 0, .ref (md 70), .int 0, .ref (md 72), .int 0, .int 400000, .int 0, .int 0]))]) [1] rfl
  have hDc := hD.sub (ws' := [(md 100, .inr (12, [.int 0, .ref (md 1), .ref (md 2), .ref (md 3), .int 0, .int 0, .int 0, .int 0, .ref (md 8), .ref (md 9), .ref (md 10), .ref (md 11), .ref (md 12), .ref (md 13), .ref (md 14), .ref (md 15), .ref (md 16), .ref (md 17), .ref (md 18), .ref (md 19), .ref (md 20), .ref (md 21), .ref (md 22), .int 0, .ref (md 24), .int 0, .ref (md 26), .int 0, .ref (md 28), .ref (md 29), .ref (md 30), .ref (md 31), .ref (md 32), .ref (md 33), .int 0, .int 0, .ref (md 36), .ref (md 37), .ref (md 38), .ref (md 39), .ref (md 40), .int 0, .int (-1), .int 0, .ref (md 44), .ref (md 45), .ref (md 46), .int 0, .ref (md 48), .ref (md 49), .int 0, .ref (md 51), .int 0, .ref (md 53), .ref (md 54), .ref (md 55), .ref (md 56), .ref (md 57), .ref (md 58), .ref (md 59), .ref (md 60), .ref (md 61), .ref (md 62), .ref (md 63), .int 0, .int 0, .int 0, .int 0, .int 0, .int 0, .ref (md 70), .int 0, .ref (md 72), .int 0, .int 400000, .int 0, .int 0]))]) [1] (by decide) rfl
  have hKc := hK.sub (tys' := []) [] rfl
  have hFc := va_free (wc := [(md 100, .inr (12, [.int 0, .ref (md 1), .ref (md 2), .ref (md 3), .int 0, .int 0, .int 0, .int 0, .ref (md 8), .ref (md 9), .ref (md 10), .ref (md 11), .ref (md 12), .ref (md 13), .ref (md 14), .ref (md 15), .ref (md 16), .ref (md 17), .ref (md 18), .ref (md 19), .ref (md 20), .ref (md 21), .ref (md 22), .int 0, .ref (md 24), .int 0, .ref (md 26), .int 0, .ref (md 28), .ref (md 29), .ref (md 30), .ref (md 31), .ref (md 32), .ref (md 33), .int 0, .int 0, .ref (md 36), .ref (md 37), .ref (md 38), .ref (md 39), .ref (md 40), .int 0, .int (-1), .int 0, .ref (md 44), .ref (md 45), .ref (md 46), .int 0, .ref (md 48), .ref (md 49), .int 0, .ref (md 51), .int 0, .ref (md 53), .ref (md 54), .ref (md 55), .ref (md 56), .ref (md 57), .ref (md 58), .ref (md 59), .ref (md 60), .ref (md 61), .ref (md 62), .ref (md 63), .int 0, .int 0, .int 0, .int 0, .int 0, .int 0, .ref (md 70), .int 0, .ref (md 72), .int 0, .int 400000, .int 0, .int 0]))]) hD hS hA [1] rfl
  refine va_calli (va_runV (As := [.int (xs 1), .int (xs 2), .int (xs 3)]) (rest := []) ⟨hx, hb, hml, hown, hts⟩ (g_p_index l D H.size md mc (xs 1) (xs 2) (xs 3)) (cw_v 3 hts kw_1895 kw_1892 kw_1893 kw_1894 kw_11 rfl rfl (by decide +kernel) ⟨Nat.le_of_ble_eq_true rfl, Nat.le_of_ble_eq_true rfl⟩) ⟨g_blind, va_recv hKc hPc (ci := 12) (q0 := 0) rfl rfl, fun U hU hW => g_pre hU hW hPc hKc hDc⟩ rfl rfl hl.1 rfl (lv_room (Nat.le_of_ble_eq_true rfl)) d_law_1923 ⟨Nat.le_of_ble_eq_true rfl, Nat.le_of_ble_eq_true rfl⟩) hS (fun q _ h => hFc q h) hFc (fun r_1 u_2 t H1 locs ht hvm hw hB hz1 hk1 hS => ?_)
  obtain ⟨hP1, hK1, hD1⟩ := hB
  rw [ht] at hP1
  have hK1 := va_K.moved hvm.symm hK1
  obtain ⟨hP, hD⟩ := va_join (wr := [(o, .inl (ac 7, 1, .inr (.inl u))), (md 39, .inl (mc 0, 8, .inl (fun _ => -1))), (md 1, .inl (mc 1, 8300, .inl (fun _ => 0))), (md 40, .inl (mc 1, 800000, .inl (fun _ => 0))), (md 72, .inl (mc 0, 12010, .inl (fun _ => 0)))]) (w1 := [(md 100, .inr (12, .int (k_ele (xs 1) (xs 2)) :: u_2))]) hP hD [1] [0, 2, 3, 4, 5] rfl rfl (by decide) (by decide) hk1 hFc hP1 hD1
  generalize H1 = H at hP hS ⊢
  have hP : va_P D cls [(o, .inl (ac 7, 1, .inr (.inl u))), (md 39, .inl (mc 0, 8, .inl (fun _ => -1))), (md 1, .inl (mc 1, 8300, .inl (fun _ => 0))), (md 40, .inl (mc 1, 800000, .inl (fun _ => 0))), (md 72, .inl (mc 0, 12010, .inl (fun _ => 0))), (md 100, .inr (12, .int (k_ele (xs 1) (xs 2)) :: u_2))] H := hP
  have hD : va_D A [(o, .inl (ac 7, 1, .inr (.inl u))), (md 39, .inl (mc 0, 8, .inl (fun _ => -1))), (md 1, .inl (mc 1, 8300, .inl (fun _ => 0))), (md 40, .inl (mc 1, 800000, .inl (fun _ => 0))), (md 72, .inl (mc 0, 12010, .inl (fun _ => 0))), (md 100, .inr (12, .int (k_ele (xs 1) (xs 2)) :: u_2))] := hD
  refine W.cs (cells' := 637) (slots' := 1394880) rfl rfl ?_
  have hwm := hw
  refine lv_istore (lv' := [(6, .int r_1), (5, .int (k_ele (xs 1) (xs 2))), (4, .int 0), (3, .ref o), (2, .ref (md 100)), (1, .ref (ad 0)), (0, .ref b)]) hx hb d_law_1926 hl (by decide) rfl (fun ls hl => ?_)
  refine lv_aload_n hx hb d_law_1928 rfl (lv_at hl 4 rfl) ?_
  have hPc := hP.sub (ws' := [(md 100, .inr (12, .int (k_ele (xs 1) (xs 2)) :: u_2))]) [5] rfl
  have hDc := hD.sub (ws' := [(md 100, .inr (12, .int (k_ele (xs 1) (xs 2)) :: u_2))]) [5] (by decide) rfl
  have hKc := hK.sub (tys' := []) [] rfl
  have hFc := va_free (wc := [(md 100, .inr (12, .int (k_ele (xs 1) (xs 2)) :: u_2))]) hD hS hA [5] rfl
  refine va_calli (va_runV (As := []) (rest := []) ⟨hx, hb, hml, hown, hts⟩ (g_thr l D H.size md mc (k_ele (xs 1) (xs 2)) u_2) (cw_v 0 hts kw_1618 kw_1615 kw_1616 kw_1617 kw_11 rfl rfl (by decide +kernel) ⟨Nat.le_of_ble_eq_true rfl, Nat.le_of_ble_eq_true rfl⟩) ⟨g_blind, va_recv hKc hPc (ci := 12) (q0 := 0) rfl rfl, fun U hU hW => g_pre hU hW hPc hKc hDc⟩ rfl rfl hl.1 rfl (lv_room (Nat.le_of_ble_eq_true rfl)) d_law_1929 ⟨Nat.le_of_ble_eq_true rfl, Nat.le_of_ble_eq_true rfl⟩) hS (fun q _ h => hFc q h) hFc (fun r_3 u_4 t H1 locs ht hvm hw hB hz1 hk1 hS => ?_)
  obtain ⟨⟩ := u_4
  obtain ⟨hP1, hK1, hD1⟩ := hB
  rw [ht] at hP1
  have hK1 := va_K.moved hvm.symm hK1
  obtain ⟨hP, hD⟩ := va_join (wr := [(o, .inl (ac 7, 1, .inr (.inl u))), (md 39, .inl (mc 0, 8, .inl (fun _ => -1))), (md 1, .inl (mc 1, 8300, .inl (fun _ => 0))), (md 40, .inl (mc 1, 800000, .inl (fun _ => 0))), (md 72, .inl (mc 0, 12010, .inl (fun _ => 0)))]) (w1 := [(md 100, .inr (12, .int (k_ele (xs 1) (xs 2)) :: u_2))]) hP hD [5] [0, 1, 2, 3, 4] rfl rfl (by decide) (by decide) hk1 hFc hP1 hD1
  generalize H1 = H at hP hS ⊢
  have hP : va_P D cls [(o, .inl (ac 7, 1, .inr (.inl u))), (md 39, .inl (mc 0, 8, .inl (fun _ => -1))), (md 1, .inl (mc 1, 8300, .inl (fun _ => 0))), (md 40, .inl (mc 1, 800000, .inl (fun _ => 0))), (md 72, .inl (mc 0, 12010, .inl (fun _ => 0))), (md 100, .inr (12, .int (k_ele (xs 1) (xs 2)) :: u_2))] H := hP
  have hD : va_D A [(o, .inl (ac 7, 1, .inr (.inl u))), (md 39, .inl (mc 0, 8, .inl (fun _ => -1))), (md 1, .inl (mc 1, 8300, .inl (fun _ => 0))), (md 40, .inl (mc 1, 800000, .inl (fun _ => 0))), (md 72, .inl (mc 0, 12010, .inl (fun _ => 0))), (md 100, .inr (12, .int (k_ele (xs 1) (xs 2)) :: u_2))] := hD
  refine W.cs (cells' := 637) (slots' := 1394880) rfl rfl ?_
  subst hw
  refine lv_iload hx hb d_law_1932 (lv_at hl 1 rfl) ?_
  refine lv_icmp_eq (tgt := 1939) hx hb d_law_1934 (by decide) (fun _ => ?_) (fun h => absurd rfl h)
  refine lv_iload hx hb d_law_1939 (lv_at hl 1 rfl) ?_
  refine lv_if_ne (tgt := 1956) hx hb d_law_1941 (by decide) (fun c_5 => ?_) (fun c_5 => ?_)
  · refine lv_goto (tgt := 2391) hx hb d_law_1956 (by decide) ?_
    exact law_tail l hx hb hr hlocks hX hbl hbA hT hS (lv_sub hl [2, 6] rfl) (by decide) (by decide)
  · refine lv_aload_n hx hb d_law_1944 rfl (lv_at hl 3 rfl) ?_
    refine lv_iconst (v := 0) hx hb d_law_1945 (by decide) ?_
    refine va_lald hx hb hK hP 0 7 rfl rfl (i := 0) (vp_in_nI (n := 0) (N := 1) (by decide) (by decide)) d_law_1946 ?_
    refine w_l (y := 0) (hw2 c_5) ?_
    refine lv_iload hx hb d_law_1947 (lv_at hl 0 rfl) ?_
    refine lv_i2l hx hb d_law_1949 rfl ?_
    refine w_l (y := 0) (by first | (rw [hwm c_5]; done) | (rw [hwm c_5]; rfl) | (rw [hwm c_5]; decide)) ?_
    refine W.lcmp hx hb d_law_1950 ?_
    refine w_i (y := 0) (by simp [lg_cmp]) ?_
    refine lv_if_eq (tgt := 1956) hx hb d_law_1951 (by decide) (fun _ => ?_) (fun h => absurd h (by decide))
    refine lv_goto (tgt := 2391) hx hb d_law_1956 (by decide) ?_
    exact law_tail l hx hb hr hlocks hX hbl hbA hT hS (lv_sub hl [2, 6] rfl) (by decide) (by decide)
theorem d_law_1959 : decode code 1959 = .ok (.aload_n 1, 1) := by decide +kernel
theorem d_law_1960 : decode code 1960 = .ok (.aload_n 0, 1) := by decide +kernel
theorem d_law_1961 : decode code 1961 = .ok (.iload 4, 2) := by decide +kernel
theorem d_law_1963 : decode code 1963 = .ok (.iconst 1, 1) := by decide +kernel
theorem d_law_1964 : decode code 1964 = .ok (.iadd, 1) := by decide +kernel
theorem d_law_1965 : decode code 1965 = .ok (.iaload, 1) := by decide +kernel
theorem d_law_1966 : decode code 1966 = .ok (.aload_n 3, 1) := by decide +kernel
theorem d_law_1967 : decode code 1967 = .ok (.invokestatic 189, 3) := by decide +kernel
theorem d_law_1970 : decode code 1970 = .ok (.istore 5, 2) := by decide +kernel
theorem d_law_1972 : decode code 1972 = .ok (.aload_n 2, 1) := by decide +kernel
theorem d_law_1973 : decode code 1973 = .ok (.aload_n 0, 1) := by decide +kernel
theorem d_law_1974 : decode code 1974 = .ok (.iload 4, 2) := by decide +kernel
theorem d_law_1976 : decode code 1976 = .ok (.iconst 1, 1) := by decide +kernel
theorem d_law_1977 : decode code 1977 = .ok (.iadd, 1) := by decide +kernel
theorem d_law_1978 : decode code 1978 = .ok (.iaload, 1) := by decide +kernel
theorem d_law_1979 : decode code 1979 = .ok (.invokevirtual 191, 3) := by decide +kernel
theorem d_law_1982 : decode code 1982 = .ok (.istore 6, 2) := by decide +kernel
theorem d_law_1984 : decode code 1984 = .ok (.aload_n 2, 1) := by decide +kernel
theorem d_law_1985 : decode code 1985 = .ok (.invokevirtual 120, 3) := by decide +kernel
theorem d_law_1988 : decode code 1988 = .ok (.iload 5, 2) := by decide +kernel
theorem d_law_1990 : decode code 1990 = .ok (.if_icmp .eq 5, 3) := by decide +kernel
theorem d_law_1995 : decode code 1995 = .ok (.iload 5, 2) := by decide +kernel
theorem d_law_1997 : decode code 1997 = .ok (.ifCond .ne 15, 3) := by decide +kernel
theorem d_law_2012 : decode code 2012 = .ok (.goto 379, 3) := by decide +kernel
set_option maxHeartbeats 4000000 in
set_option maxRecDepth 100000 in
theorem law_c20 {p : Program} {e : Env} {s : State} {m : MethodId} {below : List Frame} {meth : Method} {c : Code} (l : Launch) (hfl : l.flags = flags0) {b : Nat} {xs : Nat → Int32} {D : va_G} {ad : Nat → Nat} {ac : Nat → ClassId} {md : Nat → Nat} {mc : Nat → ClassId} {o : Nat} {H : Heap} {locs : List Loc} {ls : Array Slot} (h : LwS p s m meth c b 7 xs D ad ac md mc o H locs ls) : W p l e room_1 s m #[Value.ref b] below meth c H locs 636 1394874 (lw_Z below #[Value.ref b] s) (F0 m 1959 ls []) := by
  obtain ⟨hx, hb, hr, hml, hown, hts, hX, hbl, hlocks, hev, hP, hK, hD, hS, hl⟩ := h
  have hNS : tx_NS (lA s) s := fun q cell hq hc => absurd (Array.getElem?_eq_some_iff.mp hc).1 (Nat.not_lt.mpr hq)
  have hA : ∀ q : Nat, s.heap.size ≤ q → lA s q := fun _ h => h
  have hT : ∀ q : Nat, lA s q → s.heap.size ≤ q := fun _ h => h
  have hbA : ¬ lA s b := Nat.not_le.mpr hbl
  generalize lA s = A at hev hD hS hNS hA hT hbA
  refine lv_aload_n hx hb d_law_1959 rfl (lv_at hl 3 rfl) ?_
  refine lv_aload_n hx hb d_law_1960 rfl (lv_at hl 4 rfl) ?_
  refine lv_iload hx hb d_law_1961 (lv_at hl 0 rfl) ?_
  refine lv_iconst (v := 1) hx hb d_law_1963 (by decide) ?_
  refine lv_iadd hx hb d_law_1964 ?_
  refine w_i (y := 1) (by decide) ?_
  refine va_sld hx hb hX hbl hbA hS (i := 1) (vp_in_nI (n := 1) (N := 7) (by decide) (by decide)) d_law_1965 ?_
  refine w_i (y := xs 1) rfl ?_
  refine lv_aload_n hx hb d_law_1966 rfl (lv_at hl 1 rfl) ?_
  have hPh := p_l hP
  have hDh := d_l hD
  have hKh := hK.sub (tys' := fxT ac) [0, 1, 2, 3, 4, 5, 6, 7] rfl
  have hFc := fr_all hDh hS hA
  refine va_calli (tx_runSW (As := [.ref (ad 0), .int (xs 1), .ref o]) (rest := []) ⟨hx, hb, hml, hown, hts⟩ (h_find l hfl D ad ac (fun _ => 0) o (fun _ => 0) H.size (xs 1)) (cw_w 3 hts kw_1176 kw_1174 kw_1175 kw_0 rfl rfl (by decide +kernel) ⟨Nat.le_of_ble_eq_true rfl, Nat.le_of_ble_eq_true rfl⟩) ⟨h_blind, fun U hU hW => h_pre hU hW hPh hKh hDh hev hNS hS hFc⟩ rfl rfl hl.1 rfl (lv_room (Nat.le_of_ble_eq_true rfl)) d_law_1967 ⟨Nat.le_of_ble_eq_true rfl, Nat.le_of_ble_eq_true rfl⟩) hS (fun q _ h => hFc q h) hFc (fun rz u t H1 locs ht hvm hw hB hz1 hk1 hS => ?_)
  obtain ⟨hP1, -, -⟩ := hB
  rw [ht] at hP1
  obtain ⟨hw1, hw2⟩ := hw
  subst hw1
  have hP := hP1.app (p_keep hP hD hk1)
  have hD := d_oc hD (e' := .inl (ac 7, 1, .inr (.inl u)))
  generalize H1 = H at hP hS ⊢
  have hP : va_P D cls [(o, .inl (ac 7, 1, .inr (.inl u))), (md 100, .inr (12, [.int 0, .ref (md 1), .ref (md 2), .ref (md 3), .int 0, .int 0, .int 0, .int 0, .ref (md 8), .ref (md 9), .ref (md 10), .ref (md 11), .ref (md 12), .ref (md 13), .ref (md 14), .ref (md 15), .ref (md 16), .ref (md 17), .ref (md 18), .ref (md 19), .ref (md 20), .ref (md 21), .ref (md 22), .int 0, .ref (md 24), .int 0, .ref (md 26), .int 0, .ref (md 28), .ref (md 29), .ref (md 30), .ref (md 31), .ref (md 32), .ref (md 33), .int 0, .int 0, .ref (md 36), .ref (md 37), .ref (md 38), .ref (md 39), .ref (md 40), .int 0, .int (-1), .int 0, .ref (md 44), .ref (md 45), .ref (md 46), .int 0, .ref (md 48), .ref (md 49), .int 0, .ref (md 51), .int 0, .ref (md 53), .ref (md 54), .ref (md 55), .ref (md 56), .ref (md 57), .ref (md 58), .ref (md 59), .ref (md 60), .ref (md 61), .ref (md 62), .ref (md 63), .int 0, .int 0, .int 0, .int 0, .int 0, .int 0, .ref (md 70), .int 0, .ref (md 72), .int 0, .int 400000, .int 0, .int 0])), (md 39, .inl (mc 0, 8, .inl (fun _ => -1))), (md 1, .inl (mc 1, 8300, .inl (fun _ => 0))), (md 40, .inl (mc 1, 800000, .inl (fun _ => 0))), (md 72, .inl (mc 0, 12010, .inl (fun _ => 0)))] H := hP
  have hD : va_D A [(o, .inl (ac 7, 1, .inr (.inl u))), (md 100, .inr (12, [.int 0, .ref (md 1), .ref (md 2), .ref (md 3), .int 0, .int 0, .int 0, .int 0, .ref (md 8), .ref (md 9), .ref (md 10), .ref (md 11), .ref (md 12), .ref (md 13), .ref (md 14), .ref (md 15), .ref (md 16), .ref (md 17), .ref (md 18), .ref (md 19), .ref (md 20), .ref (md 21), .ref (md 22), .int 0, .ref (md 24), .int 0, .ref (md 26), .int 0, .ref (md 28), .ref (md 29), .ref (md 30), .ref (md 31), .ref (md 32), .ref (md 33), .int 0, .int 0, .ref (md 36), .ref (md 37), .ref (md 38), .ref (md 39), .ref (md 40), .int 0, .int (-1), .int 0, .ref (md 44), .ref (md 45), .ref (md 46), .int 0, .ref (md 48), .ref (md 49), .int 0, .ref (md 51), .int 0, .ref (md 53), .ref (md 54), .ref (md 55), .ref (md 56), .ref (md 57), .ref (md 58), .ref (md 59), .ref (md 60), .ref (md 61), .ref (md 62), .ref (md 63), .int 0, .int 0, .int 0, .int 0, .int 0, .int 0, .ref (md 70), .int 0, .ref (md 72), .int 0, .int 400000, .int 0, .int 0])), (md 39, .inl (mc 0, 8, .inl (fun _ => -1))), (md 1, .inl (mc 1, 8300, .inl (fun _ => 0))), (md 40, .inl (mc 1, 800000, .inl (fun _ => 0))), (md 72, .inl (mc 0, 12010, .inl (fun _ => 0)))] := hD
  refine W.cs (cells' := 637) (slots' := 1394880) rfl rfl ?_
  refine lv_istore (lv' := [(5, .int 1), (4, .int 0), (3, .ref o), (2, .ref (md 100)), (1, .ref (ad 0)), (0, .ref b)]) hx hb d_law_1970 hl (by decide) rfl (fun ls hl => ?_)
  refine lv_aload_n hx hb d_law_1972 rfl (lv_at hl 3 rfl) ?_
  refine lv_aload_n hx hb d_law_1973 rfl (lv_at hl 5 rfl) ?_
  refine lv_iload hx hb d_law_1974 (lv_at hl 1 rfl) ?_
  refine lv_iconst (v := 1) hx hb d_law_1976 (by decide) ?_
  refine lv_iadd hx hb d_law_1977 ?_
  refine w_i (y := 1) (by decide) ?_
  refine va_sld hx hb hX hbl hbA hS (i := 1) (vp_in_nI (n := 1) (N := 7) (by decide) (by decide)) d_law_1978 ?_
  refine w_i (y := xs 1) rfl ?_
  have hPc := hP.sub (ws' := [(md 100, .inr (12, [.int 0, .ref (md 1), .ref (md 2), .ref (md 3), .int 0, .int 0, .int 0, .int 0, .ref (md 8), .ref (md 9), .ref (md 10), .ref (md 11), .ref (md 12), .ref (md 13), .ref (md 14), .ref (md 15), .ref (md 16), .ref (md 17), .ref (md 18), .ref (md 19), .ref (md 20), .ref (md 21), .ref (md 22), .int 0, .ref (md 24), .int 0, .ref (md 26), .int 0, .ref (md 28), .ref (md 29), .ref (md 30), .ref (md 31), .ref (md 32), .ref (md 33), .int 0, .int 0, .ref (md 36), .ref (md 37), .ref (md 38), .ref (md 39), .ref (md 40), .int 0, .int (-1), .int 0, .ref (md 44), .ref (md 45), .ref (md 46), .int 0, .ref (md 48), .ref (md 49), .int 0, .ref (md 51), .int 0, .ref (md 53), .ref (md 54), .ref (md 55), .ref (md 56), .ref (md 57), .ref (md 58), .ref (md 59), .ref (md 60), .ref (md 61), .ref (md 62), .ref (md 63), .int 0, .int 0, .int 0, .int 0, .int 0, .int 0, .ref (md 70), .int 0, .ref (md 72), .int 0, .int 400000, .int 0, .int 0]))]) [1] rfl
  have hDc := hD.sub (ws' := [(md 100, .inr (12, [.int 0, .ref (md 1), .ref (md 2), .ref (md 3), .int 0, .int 0, .int 0, .int 0, .ref (md 8), .ref (md 9), .ref (md 10), .ref (md 11), .ref (md 12), .ref (md 13), .ref (md 14), .ref (md 15), .ref (md 16), .ref (md 17), .ref (md 18), .ref (md 19), .ref (md 20), .ref (md 21), .ref (md 22), .int 0, .ref (md 24), .int 0, .ref (md 26), .int 0, .ref (md 28), .ref (md 29), .ref (md 30), .ref (md 31), .ref (md 32), .ref (md 33), .int 0, .int 0, .ref (md 36), .ref (md 37), .ref (md 38), .ref (md 39), .ref (md 40), .int 0, .int (-1), .int 0, .ref (md 44), .ref (md 45), .ref (md 46), .int 0, .ref (md 48), .ref (md 49), .int 0, .ref (md 51), .int 0, .ref (md 53), .ref (md 54), .ref (md 55), .ref (md 56), .ref (md 57), .ref (md 58), .ref (md 59), .ref (md 60), .ref (md 61), .ref (md 62), .ref (md 63), .int 0, .int 0, .int 0, .int 0, .int 0, .int 0, .ref (md 70), .int 0, .ref (md 72), .int 0, .int 400000, .int 0, .int 0]))]) [1] (by decide) rfl
  have hKc := hK.sub (tys' := []) [] rfl
  have hFc := va_free (wc := [(md 100, .inr (12, [.int 0, .ref (md 1), .ref (md 2), .ref (md 3), .int 0, .int 0, .int 0, .int 0, .ref (md 8), .ref (md 9), .ref (md 10), .ref (md 11), .ref (md 12), .ref (md 13), .ref (md 14), .ref (md 15), .ref (md 16), .ref (md 17), .ref (md 18), .ref (md 19), .ref (md 20), .ref (md 21), .ref (md 22), .int 0, .ref (md 24), .int 0, .ref (md 26), .int 0, .ref (md 28), .ref (md 29), .ref (md 30), .ref (md 31), .ref (md 32), .ref (md 33), .int 0, .int 0, .ref (md 36), .ref (md 37), .ref (md 38), .ref (md 39), .ref (md 40), .int 0, .int (-1), .int 0, .ref (md 44), .ref (md 45), .ref (md 46), .int 0, .ref (md 48), .ref (md 49), .int 0, .ref (md 51), .int 0, .ref (md 53), .ref (md 54), .ref (md 55), .ref (md 56), .ref (md 57), .ref (md 58), .ref (md 59), .ref (md 60), .ref (md 61), .ref (md 62), .ref (md 63), .int 0, .int 0, .int 0, .int 0, .int 0, .int 0, .ref (md 70), .int 0, .ref (md 72), .int 0, .int 400000, .int 0, .int 0]))]) hD hS hA [1] rfl
  refine va_calli (va_runV (As := [.int (xs 1)]) (rest := []) ⟨hx, hb, hml, hown, hts⟩ (g_p_find l D H.size md mc (xs 1)) (cw_v 1 hts kw_1899 kw_1896 kw_1897 kw_1898 kw_11 rfl rfl (by decide +kernel) ⟨Nat.le_of_ble_eq_true rfl, Nat.le_of_ble_eq_true rfl⟩) ⟨g_blind, va_recv hKc hPc (ci := 12) (q0 := 0) rfl rfl, fun U hU hW => g_pre hU hW hPc hKc hDc⟩ rfl rfl hl.1 rfl (lv_room (Nat.le_of_ble_eq_true rfl)) d_law_1979 ⟨Nat.le_of_ble_eq_true rfl, Nat.le_of_ble_eq_true rfl⟩) hS (fun q _ h => hFc q h) hFc (fun r_1 u_2 t H1 locs ht hvm hw hB hz1 hk1 hS => ?_)
  obtain ⟨hP1, hK1, hD1⟩ := hB
  rw [ht] at hP1
  have hK1 := va_K.moved hvm.symm hK1
  obtain ⟨hP, hD⟩ := va_join (wr := [(o, .inl (ac 7, 1, .inr (.inl u))), (md 39, .inl (mc 0, 8, .inl (fun _ => -1))), (md 1, .inl (mc 1, 8300, .inl (fun _ => 0))), (md 40, .inl (mc 1, 800000, .inl (fun _ => 0))), (md 72, .inl (mc 0, 12010, .inl (fun _ => 0)))]) (w1 := [(md 100, .inr (12, .int 1 :: u_2))]) hP hD [1] [0, 2, 3, 4, 5] rfl rfl (by decide) (by decide) hk1 hFc hP1 hD1
  generalize H1 = H at hP hS ⊢
  have hP : va_P D cls [(o, .inl (ac 7, 1, .inr (.inl u))), (md 39, .inl (mc 0, 8, .inl (fun _ => -1))), (md 1, .inl (mc 1, 8300, .inl (fun _ => 0))), (md 40, .inl (mc 1, 800000, .inl (fun _ => 0))), (md 72, .inl (mc 0, 12010, .inl (fun _ => 0))), (md 100, .inr (12, .int 1 :: u_2))] H := hP
  have hD : va_D A [(o, .inl (ac 7, 1, .inr (.inl u))), (md 39, .inl (mc 0, 8, .inl (fun _ => -1))), (md 1, .inl (mc 1, 8300, .inl (fun _ => 0))), (md 40, .inl (mc 1, 800000, .inl (fun _ => 0))), (md 72, .inl (mc 0, 12010, .inl (fun _ => 0))), (md 100, .inr (12, .int 1 :: u_2))] := hD
  refine W.cs (cells' := 637) (slots' := 1394880) rfl rfl ?_
  have hwm := hw
  refine lv_istore (lv' := [(6, .int r_1), (5, .int 1), (4, .int 0), (3, .ref o), (2, .ref (md 100)), (1, .ref (ad 0)), (0, .ref b)]) hx hb d_law_1982 hl (by decide) rfl (fun ls hl => ?_)
  refine lv_aload_n hx hb d_law_1984 rfl (lv_at hl 4 rfl) ?_
  have hPc := hP.sub (ws' := [(md 100, .inr (12, .int 1 :: u_2))]) [5] rfl
  have hDc := hD.sub (ws' := [(md 100, .inr (12, .int 1 :: u_2))]) [5] (by decide) rfl
  have hKc := hK.sub (tys' := []) [] rfl
  have hFc := va_free (wc := [(md 100, .inr (12, .int 1 :: u_2))]) hD hS hA [5] rfl
  refine va_calli (va_runV (As := []) (rest := []) ⟨hx, hb, hml, hown, hts⟩ (g_thr l D H.size md mc 1 u_2) (cw_v 0 hts kw_1618 kw_1615 kw_1616 kw_1617 kw_11 rfl rfl (by decide +kernel) ⟨Nat.le_of_ble_eq_true rfl, Nat.le_of_ble_eq_true rfl⟩) ⟨g_blind, va_recv hKc hPc (ci := 12) (q0 := 0) rfl rfl, fun U hU hW => g_pre hU hW hPc hKc hDc⟩ rfl rfl hl.1 rfl (lv_room (Nat.le_of_ble_eq_true rfl)) d_law_1985 ⟨Nat.le_of_ble_eq_true rfl, Nat.le_of_ble_eq_true rfl⟩) hS (fun q _ h => hFc q h) hFc (fun r_3 u_4 t H1 locs ht hvm hw hB hz1 hk1 hS => ?_)
  obtain ⟨⟩ := u_4
  obtain ⟨hP1, hK1, hD1⟩ := hB
  rw [ht] at hP1
  have hK1 := va_K.moved hvm.symm hK1
  obtain ⟨hP, hD⟩ := va_join (wr := [(o, .inl (ac 7, 1, .inr (.inl u))), (md 39, .inl (mc 0, 8, .inl (fun _ => -1))), (md 1, .inl (mc 1, 8300, .inl (fun _ => 0))), (md 40, .inl (mc 1, 800000, .inl (fun _ => 0))), (md 72, .inl (mc 0, 12010, .inl (fun _ => 0)))]) (w1 := [(md 100, .inr (12, .int 1 :: u_2))]) hP hD [5] [0, 1, 2, 3, 4] rfl rfl (by decide) (by decide) hk1 hFc hP1 hD1
  generalize H1 = H at hP hS ⊢
  have hP : va_P D cls [(o, .inl (ac 7, 1, .inr (.inl u))), (md 39, .inl (mc 0, 8, .inl (fun _ => -1))), (md 1, .inl (mc 1, 8300, .inl (fun _ => 0))), (md 40, .inl (mc 1, 800000, .inl (fun _ => 0))), (md 72, .inl (mc 0, 12010, .inl (fun _ => 0))), (md 100, .inr (12, .int 1 :: u_2))] H := hP
  have hD : va_D A [(o, .inl (ac 7, 1, .inr (.inl u))), (md 39, .inl (mc 0, 8, .inl (fun _ => -1))), (md 1, .inl (mc 1, 8300, .inl (fun _ => 0))), (md 40, .inl (mc 1, 800000, .inl (fun _ => 0))), (md 72, .inl (mc 0, 12010, .inl (fun _ => 0))), (md 100, .inr (12, .int 1 :: u_2))] := hD
  refine W.cs (cells' := 637) (slots' := 1394880) rfl rfl ?_
  subst hw
  refine lv_iload hx hb d_law_1988 (lv_at hl 1 rfl) ?_
  refine lv_icmp_eq (tgt := 1995) hx hb d_law_1990 (by decide) (fun _ => ?_) (fun h => absurd rfl h)
  refine lv_iload hx hb d_law_1995 (lv_at hl 1 rfl) ?_
  refine lv_if_ne (tgt := 2012) hx hb d_law_1997 (by decide) (fun _ => ?_) (fun h => absurd h (by decide))
  refine lv_goto (tgt := 2391) hx hb d_law_2012 (by decide) ?_
  exact law_tail l hx hb hr hlocks hX hbl hbA hT hS (lv_sub hl [2, 6] rfl) (by decide) (by decide)
theorem d_law_2015 : decode code 2015 = .ok (.aload_n 1, 1) := by decide +kernel
theorem d_law_2016 : decode code 2016 = .ok (.aload_n 0, 1) := by decide +kernel
theorem d_law_2017 : decode code 2017 = .ok (.iload 4, 2) := by decide +kernel
theorem d_law_2019 : decode code 2019 = .ok (.iconst 1, 1) := by decide +kernel
theorem d_law_2020 : decode code 2020 = .ok (.iadd, 1) := by decide +kernel
theorem d_law_2021 : decode code 2021 = .ok (.iaload, 1) := by decide +kernel
theorem d_law_2022 : decode code 2022 = .ok (.aload_n 0, 1) := by decide +kernel
theorem d_law_2023 : decode code 2023 = .ok (.iload 4, 2) := by decide +kernel
theorem d_law_2025 : decode code 2025 = .ok (.iconst 2, 1) := by decide +kernel
theorem d_law_2026 : decode code 2026 = .ok (.iadd, 1) := by decide +kernel
theorem d_law_2027 : decode code 2027 = .ok (.iaload, 1) := by decide +kernel
theorem d_law_2028 : decode code 2028 = .ok (.aload_n 3, 1) := by decide +kernel
theorem d_law_2029 : decode code 2029 = .ok (.invokestatic 192, 3) := by decide +kernel
theorem d_law_2032 : decode code 2032 = .ok (.istore 5, 2) := by decide +kernel
theorem d_law_2034 : decode code 2034 = .ok (.aload_n 2, 1) := by decide +kernel
theorem d_law_2035 : decode code 2035 = .ok (.aload_n 0, 1) := by decide +kernel
theorem d_law_2036 : decode code 2036 = .ok (.iload 4, 2) := by decide +kernel
theorem d_law_2038 : decode code 2038 = .ok (.iconst 1, 1) := by decide +kernel
theorem d_law_2039 : decode code 2039 = .ok (.iadd, 1) := by decide +kernel
theorem d_law_2040 : decode code 2040 = .ok (.iaload, 1) := by decide +kernel
theorem d_law_2041 : decode code 2041 = .ok (.aload_n 0, 1) := by decide +kernel
theorem d_law_2042 : decode code 2042 = .ok (.iload 4, 2) := by decide +kernel
theorem d_law_2044 : decode code 2044 = .ok (.iconst 2, 1) := by decide +kernel
theorem d_law_2045 : decode code 2045 = .ok (.iadd, 1) := by decide +kernel
theorem d_law_2046 : decode code 2046 = .ok (.iaload, 1) := by decide +kernel
theorem d_law_2047 : decode code 2047 = .ok (.invokevirtual 194, 3) := by decide +kernel
theorem d_law_2050 : decode code 2050 = .ok (.istore 6, 2) := by decide +kernel
theorem d_law_2052 : decode code 2052 = .ok (.aload_n 2, 1) := by decide +kernel
theorem d_law_2053 : decode code 2053 = .ok (.invokevirtual 120, 3) := by decide +kernel
theorem d_law_2056 : decode code 2056 = .ok (.iload 5, 2) := by decide +kernel
theorem d_law_2058 : decode code 2058 = .ok (.if_icmp .eq 5, 3) := by decide +kernel
theorem d_law_2063 : decode code 2063 = .ok (.iload 5, 2) := by decide +kernel
theorem d_law_2065 : decode code 2065 = .ok (.ifCond .ne 15, 3) := by decide +kernel
theorem d_law_2080 : decode code 2080 = .ok (.goto 311, 3) := by decide +kernel
theorem d_law_2068 : decode code 2068 = .ok (.aload_n 3, 1) := by decide +kernel
theorem d_law_2069 : decode code 2069 = .ok (.iconst 0, 1) := by decide +kernel
theorem d_law_2070 : decode code 2070 = .ok (.laload, 1) := by decide +kernel
theorem d_law_2071 : decode code 2071 = .ok (.iload 6, 2) := by decide +kernel
theorem d_law_2073 : decode code 2073 = .ok (.i2l, 1) := by decide +kernel
theorem d_law_2074 : decode code 2074 = .ok (.lcmp, 1) := by decide +kernel
theorem d_law_2075 : decode code 2075 = .ok (.ifCond .eq 5, 3) := by decide +kernel
set_option maxHeartbeats 4000000 in
set_option maxRecDepth 100000 in
theorem law_c21 {p : Program} {e : Env} {s : State} {m : MethodId} {below : List Frame} {meth : Method} {c : Code} (l : Launch) (hfl : l.flags = flags0) {b : Nat} {xs : Nat → Int32} {D : va_G} {ad : Nat → Nat} {ac : Nat → ClassId} {md : Nat → Nat} {mc : Nat → ClassId} {o : Nat} {H : Heap} {locs : List Loc} {ls : Array Slot} (h : LwS p s m meth c b 7 xs D ad ac md mc o H locs ls) : W p l e room_1 s m #[Value.ref b] below meth c H locs 636 1394874 (lw_Z below #[Value.ref b] s) (F0 m 2015 ls []) := by
  obtain ⟨hx, hb, hr, hml, hown, hts, hX, hbl, hlocks, hev, hP, hK, hD, hS, hl⟩ := h
  have hNS : tx_NS (lA s) s := fun q cell hq hc => absurd (Array.getElem?_eq_some_iff.mp hc).1 (Nat.not_lt.mpr hq)
  have hA : ∀ q : Nat, s.heap.size ≤ q → lA s q := fun _ h => h
  have hT : ∀ q : Nat, lA s q → s.heap.size ≤ q := fun _ h => h
  have hbA : ¬ lA s b := Nat.not_le.mpr hbl
  generalize lA s = A at hev hD hS hNS hA hT hbA
  refine lv_aload_n hx hb d_law_2015 rfl (lv_at hl 3 rfl) ?_
  refine lv_aload_n hx hb d_law_2016 rfl (lv_at hl 4 rfl) ?_
  refine lv_iload hx hb d_law_2017 (lv_at hl 0 rfl) ?_
  refine lv_iconst (v := 1) hx hb d_law_2019 (by decide) ?_
  refine lv_iadd hx hb d_law_2020 ?_
  refine w_i (y := 1) (by decide) ?_
  refine va_sld hx hb hX hbl hbA hS (i := 1) (vp_in_nI (n := 1) (N := 7) (by decide) (by decide)) d_law_2021 ?_
  refine w_i (y := xs 1) rfl ?_
  refine lv_aload_n hx hb d_law_2022 rfl (lv_at hl 4 rfl) ?_
  refine lv_iload hx hb d_law_2023 (lv_at hl 0 rfl) ?_
  refine lv_iconst (v := 2) hx hb d_law_2025 (by decide) ?_
  refine lv_iadd hx hb d_law_2026 ?_
  refine w_i (y := 2) (by decide) ?_
  refine va_sld hx hb hX hbl hbA hS (i := 2) (vp_in_nI (n := 2) (N := 7) (by decide) (by decide)) d_law_2027 ?_
  refine w_i (y := xs 2) rfl ?_
  refine lv_aload_n hx hb d_law_2028 rfl (lv_at hl 1 rfl) ?_
  have hPh := p_l hP
  have hDh := d_l hD
  have hKh := hK.sub (tys' := fxT ac) [0, 1, 2, 3, 4, 5, 6, 7] rfl
  have hFc := fr_all hDh hS hA
  refine va_calli (tx_runSW (As := [.ref (ad 0), .int (xs 1), .int (xs 2), .ref o]) (rest := []) ⟨hx, hb, hml, hown, hts⟩ (h_text l hfl D ad ac (fun _ => 0) o (fun _ => 0) H.size (xs 1) (xs 2)) (cw_w 4 hts kw_1211 kw_1209 kw_1210 kw_0 rfl rfl (by decide +kernel) ⟨Nat.le_of_ble_eq_true rfl, Nat.le_of_ble_eq_true rfl⟩) ⟨h_blind, fun U hU hW => h_pre hU hW hPh hKh hDh hev hNS hS hFc⟩ rfl rfl hl.1 rfl (lv_room (Nat.le_of_ble_eq_true rfl)) d_law_2029 ⟨Nat.le_of_ble_eq_true rfl, Nat.le_of_ble_eq_true rfl⟩) hS (fun q _ h => hFc q h) hFc (fun rz u t H1 locs ht hvm hw hB hz1 hk1 hS => ?_)
  obtain ⟨hP1, -, -⟩ := hB
  rw [ht] at hP1
  obtain ⟨hw1, hw2⟩ := hw
  subst hw1
  have hP := hP1.app (p_keep hP hD hk1)
  have hD := d_oc hD (e' := .inl (ac 7, 1, .inr (.inl u)))
  generalize H1 = H at hP hS ⊢
  have hP : va_P D cls [(o, .inl (ac 7, 1, .inr (.inl u))), (md 100, .inr (12, [.int 0, .ref (md 1), .ref (md 2), .ref (md 3), .int 0, .int 0, .int 0, .int 0, .ref (md 8), .ref (md 9), .ref (md 10), .ref (md 11), .ref (md 12), .ref (md 13), .ref (md 14), .ref (md 15), .ref (md 16), .ref (md 17), .ref (md 18), .ref (md 19), .ref (md 20), .ref (md 21), .ref (md 22), .int 0, .ref (md 24), .int 0, .ref (md 26), .int 0, .ref (md 28), .ref (md 29), .ref (md 30), .ref (md 31), .ref (md 32), .ref (md 33), .int 0, .int 0, .ref (md 36), .ref (md 37), .ref (md 38), .ref (md 39), .ref (md 40), .int 0, .int (-1), .int 0, .ref (md 44), .ref (md 45), .ref (md 46), .int 0, .ref (md 48), .ref (md 49), .int 0, .ref (md 51), .int 0, .ref (md 53), .ref (md 54), .ref (md 55), .ref (md 56), .ref (md 57), .ref (md 58), .ref (md 59), .ref (md 60), .ref (md 61), .ref (md 62), .ref (md 63), .int 0, .int 0, .int 0, .int 0, .int 0, .int 0, .ref (md 70), .int 0, .ref (md 72), .int 0, .int 400000, .int 0, .int 0])), (md 39, .inl (mc 0, 8, .inl (fun _ => -1))), (md 1, .inl (mc 1, 8300, .inl (fun _ => 0))), (md 40, .inl (mc 1, 800000, .inl (fun _ => 0))), (md 72, .inl (mc 0, 12010, .inl (fun _ => 0)))] H := hP
  have hD : va_D A [(o, .inl (ac 7, 1, .inr (.inl u))), (md 100, .inr (12, [.int 0, .ref (md 1), .ref (md 2), .ref (md 3), .int 0, .int 0, .int 0, .int 0, .ref (md 8), .ref (md 9), .ref (md 10), .ref (md 11), .ref (md 12), .ref (md 13), .ref (md 14), .ref (md 15), .ref (md 16), .ref (md 17), .ref (md 18), .ref (md 19), .ref (md 20), .ref (md 21), .ref (md 22), .int 0, .ref (md 24), .int 0, .ref (md 26), .int 0, .ref (md 28), .ref (md 29), .ref (md 30), .ref (md 31), .ref (md 32), .ref (md 33), .int 0, .int 0, .ref (md 36), .ref (md 37), .ref (md 38), .ref (md 39), .ref (md 40), .int 0, .int (-1), .int 0, .ref (md 44), .ref (md 45), .ref (md 46), .int 0, .ref (md 48), .ref (md 49), .int 0, .ref (md 51), .int 0, .ref (md 53), .ref (md 54), .ref (md 55), .ref (md 56), .ref (md 57), .ref (md 58), .ref (md 59), .ref (md 60), .ref (md 61), .ref (md 62), .ref (md 63), .int 0, .int 0, .int 0, .int 0, .int 0, .int 0, .ref (md 70), .int 0, .ref (md 72), .int 0, .int 400000, .int 0, .int 0])), (md 39, .inl (mc 0, 8, .inl (fun _ => -1))), (md 1, .inl (mc 1, 8300, .inl (fun _ => 0))), (md 40, .inl (mc 1, 800000, .inl (fun _ => 0))), (md 72, .inl (mc 0, 12010, .inl (fun _ => 0)))] := hD
  refine W.cs (cells' := 637) (slots' := 1394880) rfl rfl ?_
  refine lv_istore (lv' := [(5, .int (k_tex (xs 1) (xs 2))), (4, .int 0), (3, .ref o), (2, .ref (md 100)), (1, .ref (ad 0)), (0, .ref b)]) hx hb d_law_2032 hl (by decide) rfl (fun ls hl => ?_)
  refine lv_aload_n hx hb d_law_2034 rfl (lv_at hl 3 rfl) ?_
  refine lv_aload_n hx hb d_law_2035 rfl (lv_at hl 5 rfl) ?_
  refine lv_iload hx hb d_law_2036 (lv_at hl 1 rfl) ?_
  refine lv_iconst (v := 1) hx hb d_law_2038 (by decide) ?_
  refine lv_iadd hx hb d_law_2039 ?_
  refine w_i (y := 1) (by decide) ?_
  refine va_sld hx hb hX hbl hbA hS (i := 1) (vp_in_nI (n := 1) (N := 7) (by decide) (by decide)) d_law_2040 ?_
  refine w_i (y := xs 1) rfl ?_
  refine lv_aload_n hx hb d_law_2041 rfl (lv_at hl 5 rfl) ?_
  refine lv_iload hx hb d_law_2042 (lv_at hl 1 rfl) ?_
  refine lv_iconst (v := 2) hx hb d_law_2044 (by decide) ?_
  refine lv_iadd hx hb d_law_2045 ?_
  refine w_i (y := 2) (by decide) ?_
  refine va_sld hx hb hX hbl hbA hS (i := 2) (vp_in_nI (n := 2) (N := 7) (by decide) (by decide)) d_law_2046 ?_
  refine w_i (y := xs 2) rfl ?_
  have hPc := hP.sub (ws' := [(md 100, .inr (12, [.int 0, .ref (md 1), .ref (md 2), .ref (md 3), .int 0, .int 0, .int 0, .int 0, .ref (md 8), .ref (md 9), .ref (md 10), .ref (md 11), .ref (md 12), .ref (md 13), .ref (md 14), .ref (md 15), .ref (md 16), .ref (md 17), .ref (md 18), .ref (md 19), .ref (md 20), .ref (md 21), .ref (md 22), .int 0, .ref (md 24), .int 0, .ref (md 26), .int 0, .ref (md 28), .ref (md 29), .ref (md 30), .ref (md 31), .ref (md 32), .ref (md 33), .int 0, .int 0, .ref (md 36), .ref (md 37), .ref (md 38), .ref (md 39), .ref (md 40), .int 0, .int (-1), .int 0, .ref (md 44), .ref (md 45), .ref (md 46), .int 0, .ref (md 48), .ref (md 49), .int 0, .ref (md 51), .int 0, .ref (md 53), .ref (md 54), .ref (md 55), .ref (md 56), .ref (md 57), .ref (md 58), .ref (md 59), .ref (md 60), .ref (md 61), .ref (md 62), .ref (md 63), .int 0, .int 0, .int 0, .int 0, .int 0, .int 0, .ref (md 70), .int 0, .ref (md 72), .int 0, .int 400000, .int 0, .int 0])), (md 40, .inl (mc 1, 800000, .inl (fun _ => 0))), (md 72, .inl (mc 0, 12010, .inl (fun _ => 0)))]) [1, 4, 5] rfl
  have hDc := hD.sub (ws' := [(md 100, .inr (12, [.int 0, .ref (md 1), .ref (md 2), .ref (md 3), .int 0, .int 0, .int 0, .int 0, .ref (md 8), .ref (md 9), .ref (md 10), .ref (md 11), .ref (md 12), .ref (md 13), .ref (md 14), .ref (md 15), .ref (md 16), .ref (md 17), .ref (md 18), .ref (md 19), .ref (md 20), .ref (md 21), .ref (md 22), .int 0, .ref (md 24), .int 0, .ref (md 26), .int 0, .ref (md 28), .ref (md 29), .ref (md 30), .ref (md 31), .ref (md 32), .ref (md 33), .int 0, .int 0, .ref (md 36), .ref (md 37), .ref (md 38), .ref (md 39), .ref (md 40), .int 0, .int (-1), .int 0, .ref (md 44), .ref (md 45), .ref (md 46), .int 0, .ref (md 48), .ref (md 49), .int 0, .ref (md 51), .int 0, .ref (md 53), .ref (md 54), .ref (md 55), .ref (md 56), .ref (md 57), .ref (md 58), .ref (md 59), .ref (md 60), .ref (md 61), .ref (md 62), .ref (md 63), .int 0, .int 0, .int 0, .int 0, .int 0, .int 0, .ref (md 70), .int 0, .ref (md 72), .int 0, .int 400000, .int 0, .int 0])), (md 40, .inl (mc 1, 800000, .inl (fun _ => 0))), (md 72, .inl (mc 0, 12010, .inl (fun _ => 0)))]) [1, 4, 5] (by decide) rfl
  have hKc := hK.sub (tys' := [(mc 0, .int), (mc 1, .byte)]) [8, 9] rfl
  have hFc := va_free (wc := [(md 100, .inr (12, [.int 0, .ref (md 1), .ref (md 2), .ref (md 3), .int 0, .int 0, .int 0, .int 0, .ref (md 8), .ref (md 9), .ref (md 10), .ref (md 11), .ref (md 12), .ref (md 13), .ref (md 14), .ref (md 15), .ref (md 16), .ref (md 17), .ref (md 18), .ref (md 19), .ref (md 20), .ref (md 21), .ref (md 22), .int 0, .ref (md 24), .int 0, .ref (md 26), .int 0, .ref (md 28), .ref (md 29), .ref (md 30), .ref (md 31), .ref (md 32), .ref (md 33), .int 0, .int 0, .ref (md 36), .ref (md 37), .ref (md 38), .ref (md 39), .ref (md 40), .int 0, .int (-1), .int 0, .ref (md 44), .ref (md 45), .ref (md 46), .int 0, .ref (md 48), .ref (md 49), .int 0, .ref (md 51), .int 0, .ref (md 53), .ref (md 54), .ref (md 55), .ref (md 56), .ref (md 57), .ref (md 58), .ref (md 59), .ref (md 60), .ref (md 61), .ref (md 62), .ref (md 63), .int 0, .int 0, .int 0, .int 0, .int 0, .int 0, .ref (md 70), .int 0, .ref (md 72), .int 0, .int 400000, .int 0, .int 0])), (md 40, .inl (mc 1, 800000, .inl (fun _ => 0))), (md 72, .inl (mc 0, 12010, .inl (fun _ => 0)))]) hD hS hA [1, 4, 5] rfl
  refine va_calli (va_runV (As := [.int (xs 1), .int (xs 2)]) (rest := []) ⟨hx, hb, hml, hown, hts⟩ (g_p_text l D H.size md mc (xs 1) (xs 2)) (cw_v 2 hts kw_1910 kw_1907 kw_1908 kw_1909 kw_11 rfl rfl (by decide +kernel) ⟨Nat.le_of_ble_eq_true rfl, Nat.le_of_ble_eq_true rfl⟩) ⟨g_blind, va_recv hKc hPc (ci := 12) (q0 := 0) rfl rfl, fun U hU hW => g_pre hU hW hPc hKc hDc⟩ rfl rfl hl.1 rfl (lv_room (Nat.le_of_ble_eq_true rfl)) d_law_2047 ⟨Nat.le_of_ble_eq_true rfl, Nat.le_of_ble_eq_true rfl⟩) hS (fun q _ h => hFc q h) hFc (fun r_1 u_2 t H1 locs ht hvm hw hB hz1 hk1 hS => ?_)
  obtain ⟨hP1, hK1, hD1⟩ := hB
  rw [ht] at hP1
  have hK1 := va_K.moved hvm.symm hK1
  obtain ⟨hP, hD⟩ := va_join (wr := [(o, .inl (ac 7, 1, .inr (.inl u))), (md 39, .inl (mc 0, 8, .inl (fun _ => -1))), (md 1, .inl (mc 1, 8300, .inl (fun _ => 0)))]) (w1 := [(md 100, .inr (12, .int (k_tex (xs 1) (xs 2)) :: u_2))]) hP hD [1, 4, 5] [0, 2, 3] rfl rfl (by decide) (by decide) hk1 hFc hP1 hD1
  generalize H1 = H at hP hS ⊢
  have hP : va_P D cls [(o, .inl (ac 7, 1, .inr (.inl u))), (md 39, .inl (mc 0, 8, .inl (fun _ => -1))), (md 1, .inl (mc 1, 8300, .inl (fun _ => 0))), (md 100, .inr (12, .int (k_tex (xs 1) (xs 2)) :: u_2))] H := hP
  have hD : va_D A [(o, .inl (ac 7, 1, .inr (.inl u))), (md 39, .inl (mc 0, 8, .inl (fun _ => -1))), (md 1, .inl (mc 1, 8300, .inl (fun _ => 0))), (md 100, .inr (12, .int (k_tex (xs 1) (xs 2)) :: u_2))] := hD
  refine W.cs (cells' := 637) (slots' := 1394880) rfl rfl ?_
  have hwm := hw
  refine lv_istore (lv' := [(6, .int r_1), (5, .int (k_tex (xs 1) (xs 2))), (4, .int 0), (3, .ref o), (2, .ref (md 100)), (1, .ref (ad 0)), (0, .ref b)]) hx hb d_law_2050 hl (by decide) rfl (fun ls hl => ?_)
  refine lv_aload_n hx hb d_law_2052 rfl (lv_at hl 4 rfl) ?_
  have hPc := hP.sub (ws' := [(md 100, .inr (12, .int (k_tex (xs 1) (xs 2)) :: u_2))]) [3] rfl
  have hDc := hD.sub (ws' := [(md 100, .inr (12, .int (k_tex (xs 1) (xs 2)) :: u_2))]) [3] (by decide) rfl
  have hKc := hK.sub (tys' := []) [] rfl
  have hFc := va_free (wc := [(md 100, .inr (12, .int (k_tex (xs 1) (xs 2)) :: u_2))]) hD hS hA [3] rfl
  refine va_calli (va_runV (As := []) (rest := []) ⟨hx, hb, hml, hown, hts⟩ (g_thr l D H.size md mc (k_tex (xs 1) (xs 2)) u_2) (cw_v 0 hts kw_1618 kw_1615 kw_1616 kw_1617 kw_11 rfl rfl (by decide +kernel) ⟨Nat.le_of_ble_eq_true rfl, Nat.le_of_ble_eq_true rfl⟩) ⟨g_blind, va_recv hKc hPc (ci := 12) (q0 := 0) rfl rfl, fun U hU hW => g_pre hU hW hPc hKc hDc⟩ rfl rfl hl.1 rfl (lv_room (Nat.le_of_ble_eq_true rfl)) d_law_2053 ⟨Nat.le_of_ble_eq_true rfl, Nat.le_of_ble_eq_true rfl⟩) hS (fun q _ h => hFc q h) hFc (fun r_3 u_4 t H1 locs ht hvm hw hB hz1 hk1 hS => ?_)
  obtain ⟨⟩ := u_4
  obtain ⟨hP1, hK1, hD1⟩ := hB
  rw [ht] at hP1
  have hK1 := va_K.moved hvm.symm hK1
  obtain ⟨hP, hD⟩ := va_join (wr := [(o, .inl (ac 7, 1, .inr (.inl u))), (md 39, .inl (mc 0, 8, .inl (fun _ => -1))), (md 1, .inl (mc 1, 8300, .inl (fun _ => 0)))]) (w1 := [(md 100, .inr (12, .int (k_tex (xs 1) (xs 2)) :: u_2))]) hP hD [3] [0, 1, 2] rfl rfl (by decide) (by decide) hk1 hFc hP1 hD1
  generalize H1 = H at hP hS ⊢
  have hP : va_P D cls [(o, .inl (ac 7, 1, .inr (.inl u))), (md 39, .inl (mc 0, 8, .inl (fun _ => -1))), (md 1, .inl (mc 1, 8300, .inl (fun _ => 0))), (md 100, .inr (12, .int (k_tex (xs 1) (xs 2)) :: u_2))] H := hP
  have hD : va_D A [(o, .inl (ac 7, 1, .inr (.inl u))), (md 39, .inl (mc 0, 8, .inl (fun _ => -1))), (md 1, .inl (mc 1, 8300, .inl (fun _ => 0))), (md 100, .inr (12, .int (k_tex (xs 1) (xs 2)) :: u_2))] := hD
  refine W.cs (cells' := 637) (slots' := 1394880) rfl rfl ?_
  subst hw
  refine lv_iload hx hb d_law_2056 (lv_at hl 1 rfl) ?_
  refine lv_icmp_eq (tgt := 2063) hx hb d_law_2058 (by decide) (fun _ => ?_) (fun h => absurd rfl h)
  refine lv_iload hx hb d_law_2063 (lv_at hl 1 rfl) ?_
  refine lv_if_ne (tgt := 2080) hx hb d_law_2065 (by decide) (fun c_5 => ?_) (fun c_5 => ?_)
  · refine lv_goto (tgt := 2391) hx hb d_law_2080 (by decide) ?_
    exact law_tail l hx hb hr hlocks hX hbl hbA hT hS (lv_sub hl [2, 6] rfl) (by decide) (by decide)
  · refine lv_aload_n hx hb d_law_2068 rfl (lv_at hl 3 rfl) ?_
    refine lv_iconst (v := 0) hx hb d_law_2069 (by decide) ?_
    refine va_lald hx hb hK hP 0 7 rfl rfl (i := 0) (vp_in_nI (n := 0) (N := 1) (by decide) (by decide)) d_law_2070 ?_
    refine w_l (y := 2) (hw2 c_5) ?_
    refine lv_iload hx hb d_law_2071 (lv_at hl 0 rfl) ?_
    refine lv_i2l hx hb d_law_2073 rfl ?_
    refine w_l (y := 2) (by first | (rw [hwm c_5]; done) | (rw [hwm c_5]; rfl) | (rw [hwm c_5]; decide)) ?_
    refine W.lcmp hx hb d_law_2074 ?_
    refine w_i (y := 0) (by simp [lg_cmp]) ?_
    refine lv_if_eq (tgt := 2080) hx hb d_law_2075 (by decide) (fun _ => ?_) (fun h => absurd h (by decide))
    refine lv_goto (tgt := 2391) hx hb d_law_2080 (by decide) ?_
    exact law_tail l hx hb hr hlocks hX hbl hbA hT hS (lv_sub hl [2, 6] rfl) (by decide) (by decide)
theorem d_law_2083 : decode code 2083 = .ok (.aload_n 1, 1) := by decide +kernel
theorem d_law_2084 : decode code 2084 = .ok (.aload_n 0, 1) := by decide +kernel
theorem d_law_2085 : decode code 2085 = .ok (.iload 4, 2) := by decide +kernel
theorem d_law_2087 : decode code 2087 = .ok (.iconst 1, 1) := by decide +kernel
theorem d_law_2088 : decode code 2088 = .ok (.iadd, 1) := by decide +kernel
theorem d_law_2089 : decode code 2089 = .ok (.iaload, 1) := by decide +kernel
theorem d_law_2090 : decode code 2090 = .ok (.aload_n 3, 1) := by decide +kernel
theorem d_law_2091 : decode code 2091 = .ok (.invokestatic 195, 3) := by decide +kernel
theorem d_law_2094 : decode code 2094 = .ok (.istore 5, 2) := by decide +kernel
theorem d_law_2096 : decode code 2096 = .ok (.aload_n 2, 1) := by decide +kernel
theorem d_law_2097 : decode code 2097 = .ok (.aload_n 0, 1) := by decide +kernel
theorem d_law_2098 : decode code 2098 = .ok (.iload 4, 2) := by decide +kernel
theorem d_law_2100 : decode code 2100 = .ok (.iconst 1, 1) := by decide +kernel
theorem d_law_2101 : decode code 2101 = .ok (.iadd, 1) := by decide +kernel
theorem d_law_2102 : decode code 2102 = .ok (.iaload, 1) := by decide +kernel
theorem d_law_2103 : decode code 2103 = .ok (.invokevirtual 197, 3) := by decide +kernel
theorem d_law_2106 : decode code 2106 = .ok (.istore 6, 2) := by decide +kernel
theorem d_law_2108 : decode code 2108 = .ok (.aload_n 2, 1) := by decide +kernel
theorem d_law_2109 : decode code 2109 = .ok (.invokevirtual 120, 3) := by decide +kernel
theorem d_law_2112 : decode code 2112 = .ok (.iload 5, 2) := by decide +kernel
theorem d_law_2114 : decode code 2114 = .ok (.if_icmp .eq 5, 3) := by decide +kernel
theorem d_law_2119 : decode code 2119 = .ok (.iload 5, 2) := by decide +kernel
theorem d_law_2121 : decode code 2121 = .ok (.ifCond .ne 15, 3) := by decide +kernel
theorem d_law_2136 : decode code 2136 = .ok (.goto 255, 3) := by decide +kernel
theorem d_law_2124 : decode code 2124 = .ok (.aload_n 3, 1) := by decide +kernel
theorem d_law_2125 : decode code 2125 = .ok (.iconst 0, 1) := by decide +kernel
theorem d_law_2126 : decode code 2126 = .ok (.laload, 1) := by decide +kernel
theorem d_law_2127 : decode code 2127 = .ok (.iload 6, 2) := by decide +kernel
theorem d_law_2129 : decode code 2129 = .ok (.i2l, 1) := by decide +kernel
theorem d_law_2130 : decode code 2130 = .ok (.lcmp, 1) := by decide +kernel
theorem d_law_2131 : decode code 2131 = .ok (.ifCond .eq 5, 3) := by decide +kernel
set_option maxHeartbeats 4000000 in
set_option maxRecDepth 100000 in
theorem law_c22 {p : Program} {e : Env} {s : State} {m : MethodId} {below : List Frame} {meth : Method} {c : Code} (l : Launch) (hfl : l.flags = flags0) {b : Nat} {xs : Nat → Int32} {D : va_G} {ad : Nat → Nat} {ac : Nat → ClassId} {md : Nat → Nat} {mc : Nat → ClassId} {o : Nat} {H : Heap} {locs : List Loc} {ls : Array Slot} (h : LwS p s m meth c b 7 xs D ad ac md mc o H locs ls) : W p l e room_1 s m #[Value.ref b] below meth c H locs 636 1394874 (lw_Z below #[Value.ref b] s) (F0 m 2083 ls []) := by
  obtain ⟨hx, hb, hr, hml, hown, hts, hX, hbl, hlocks, hev, hP, hK, hD, hS, hl⟩ := h
  have hNS : tx_NS (lA s) s := fun q cell hq hc => absurd (Array.getElem?_eq_some_iff.mp hc).1 (Nat.not_lt.mpr hq)
  have hA : ∀ q : Nat, s.heap.size ≤ q → lA s q := fun _ h => h
  have hT : ∀ q : Nat, lA s q → s.heap.size ≤ q := fun _ h => h
  have hbA : ¬ lA s b := Nat.not_le.mpr hbl
  generalize lA s = A at hev hD hS hNS hA hT hbA
  refine lv_aload_n hx hb d_law_2083 rfl (lv_at hl 3 rfl) ?_
  refine lv_aload_n hx hb d_law_2084 rfl (lv_at hl 4 rfl) ?_
  refine lv_iload hx hb d_law_2085 (lv_at hl 0 rfl) ?_
  refine lv_iconst (v := 1) hx hb d_law_2087 (by decide) ?_
  refine lv_iadd hx hb d_law_2088 ?_
  refine w_i (y := 1) (by decide) ?_
  refine va_sld hx hb hX hbl hbA hS (i := 1) (vp_in_nI (n := 1) (N := 7) (by decide) (by decide)) d_law_2089 ?_
  refine w_i (y := xs 1) rfl ?_
  refine lv_aload_n hx hb d_law_2090 rfl (lv_at hl 1 rfl) ?_
  have hPh := p_l hP
  have hDh := d_l hD
  have hKh := hK.sub (tys' := fxT ac) [0, 1, 2, 3, 4, 5, 6, 7] rfl
  have hFc := fr_all hDh hS hA
  refine va_calli (tx_runSW (As := [.ref (ad 0), .int (xs 1), .ref o]) (rest := []) ⟨hx, hb, hml, hown, hts⟩ (h_save l hfl D ad ac (fun _ => 0) o (fun _ => 0) H.size (xs 1)) (cw_w 3 hts kw_1270 kw_1268 kw_1269 kw_0 rfl rfl (by decide +kernel) ⟨Nat.le_of_ble_eq_true rfl, Nat.le_of_ble_eq_true rfl⟩) ⟨h_blind, fun U hU hW => h_pre hU hW hPh hKh hDh hev hNS hS hFc⟩ rfl rfl hl.1 rfl (lv_room (Nat.le_of_ble_eq_true rfl)) d_law_2091 ⟨Nat.le_of_ble_eq_true rfl, Nat.le_of_ble_eq_true rfl⟩) hS (fun q _ h => hFc q h) hFc (fun rz u t H1 locs ht hvm hw hB hz1 hk1 hS => ?_)
  obtain ⟨hP1, -, -⟩ := hB
  rw [ht] at hP1
  obtain ⟨hw1, hw2⟩ := hw
  subst hw1
  have hP := hP1.app (p_keep hP hD hk1)
  have hD := d_oc hD (e' := .inl (ac 7, 1, .inr (.inl u)))
  generalize H1 = H at hP hS ⊢
  have hP : va_P D cls [(o, .inl (ac 7, 1, .inr (.inl u))), (md 100, .inr (12, [.int 0, .ref (md 1), .ref (md 2), .ref (md 3), .int 0, .int 0, .int 0, .int 0, .ref (md 8), .ref (md 9), .ref (md 10), .ref (md 11), .ref (md 12), .ref (md 13), .ref (md 14), .ref (md 15), .ref (md 16), .ref (md 17), .ref (md 18), .ref (md 19), .ref (md 20), .ref (md 21), .ref (md 22), .int 0, .ref (md 24), .int 0, .ref (md 26), .int 0, .ref (md 28), .ref (md 29), .ref (md 30), .ref (md 31), .ref (md 32), .ref (md 33), .int 0, .int 0, .ref (md 36), .ref (md 37), .ref (md 38), .ref (md 39), .ref (md 40), .int 0, .int (-1), .int 0, .ref (md 44), .ref (md 45), .ref (md 46), .int 0, .ref (md 48), .ref (md 49), .int 0, .ref (md 51), .int 0, .ref (md 53), .ref (md 54), .ref (md 55), .ref (md 56), .ref (md 57), .ref (md 58), .ref (md 59), .ref (md 60), .ref (md 61), .ref (md 62), .ref (md 63), .int 0, .int 0, .int 0, .int 0, .int 0, .int 0, .ref (md 70), .int 0, .ref (md 72), .int 0, .int 400000, .int 0, .int 0])), (md 39, .inl (mc 0, 8, .inl (fun _ => -1))), (md 1, .inl (mc 1, 8300, .inl (fun _ => 0))), (md 40, .inl (mc 1, 800000, .inl (fun _ => 0))), (md 72, .inl (mc 0, 12010, .inl (fun _ => 0)))] H := hP
  have hD : va_D A [(o, .inl (ac 7, 1, .inr (.inl u))), (md 100, .inr (12, [.int 0, .ref (md 1), .ref (md 2), .ref (md 3), .int 0, .int 0, .int 0, .int 0, .ref (md 8), .ref (md 9), .ref (md 10), .ref (md 11), .ref (md 12), .ref (md 13), .ref (md 14), .ref (md 15), .ref (md 16), .ref (md 17), .ref (md 18), .ref (md 19), .ref (md 20), .ref (md 21), .ref (md 22), .int 0, .ref (md 24), .int 0, .ref (md 26), .int 0, .ref (md 28), .ref (md 29), .ref (md 30), .ref (md 31), .ref (md 32), .ref (md 33), .int 0, .int 0, .ref (md 36), .ref (md 37), .ref (md 38), .ref (md 39), .ref (md 40), .int 0, .int (-1), .int 0, .ref (md 44), .ref (md 45), .ref (md 46), .int 0, .ref (md 48), .ref (md 49), .int 0, .ref (md 51), .int 0, .ref (md 53), .ref (md 54), .ref (md 55), .ref (md 56), .ref (md 57), .ref (md 58), .ref (md 59), .ref (md 60), .ref (md 61), .ref (md 62), .ref (md 63), .int 0, .int 0, .int 0, .int 0, .int 0, .int 0, .ref (md 70), .int 0, .ref (md 72), .int 0, .int 400000, .int 0, .int 0])), (md 39, .inl (mc 0, 8, .inl (fun _ => -1))), (md 1, .inl (mc 1, 8300, .inl (fun _ => 0))), (md 40, .inl (mc 1, 800000, .inl (fun _ => 0))), (md 72, .inl (mc 0, 12010, .inl (fun _ => 0)))] := hD
  refine W.cs (cells' := 637) (slots' := 1394880) rfl rfl ?_
  refine lv_istore (lv' := [(5, .int (k_dro (xs 1))), (4, .int 0), (3, .ref o), (2, .ref (md 100)), (1, .ref (ad 0)), (0, .ref b)]) hx hb d_law_2094 hl (by decide) rfl (fun ls hl => ?_)
  refine lv_aload_n hx hb d_law_2096 rfl (lv_at hl 3 rfl) ?_
  refine lv_aload_n hx hb d_law_2097 rfl (lv_at hl 5 rfl) ?_
  refine lv_iload hx hb d_law_2098 (lv_at hl 1 rfl) ?_
  refine lv_iconst (v := 1) hx hb d_law_2100 (by decide) ?_
  refine lv_iadd hx hb d_law_2101 ?_
  refine w_i (y := 1) (by decide) ?_
  refine va_sld hx hb hX hbl hbA hS (i := 1) (vp_in_nI (n := 1) (N := 7) (by decide) (by decide)) d_law_2102 ?_
  refine w_i (y := xs 1) rfl ?_
  have hPc := hP.sub (ws' := [(md 100, .inr (12, [.int 0, .ref (md 1), .ref (md 2), .ref (md 3), .int 0, .int 0, .int 0, .int 0, .ref (md 8), .ref (md 9), .ref (md 10), .ref (md 11), .ref (md 12), .ref (md 13), .ref (md 14), .ref (md 15), .ref (md 16), .ref (md 17), .ref (md 18), .ref (md 19), .ref (md 20), .ref (md 21), .ref (md 22), .int 0, .ref (md 24), .int 0, .ref (md 26), .int 0, .ref (md 28), .ref (md 29), .ref (md 30), .ref (md 31), .ref (md 32), .ref (md 33), .int 0, .int 0, .ref (md 36), .ref (md 37), .ref (md 38), .ref (md 39), .ref (md 40), .int 0, .int (-1), .int 0, .ref (md 44), .ref (md 45), .ref (md 46), .int 0, .ref (md 48), .ref (md 49), .int 0, .ref (md 51), .int 0, .ref (md 53), .ref (md 54), .ref (md 55), .ref (md 56), .ref (md 57), .ref (md 58), .ref (md 59), .ref (md 60), .ref (md 61), .ref (md 62), .ref (md 63), .int 0, .int 0, .int 0, .int 0, .int 0, .int 0, .ref (md 70), .int 0, .ref (md 72), .int 0, .int 400000, .int 0, .int 0])), (md 40, .inl (mc 1, 800000, .inl (fun _ => 0)))]) [1, 4] rfl
  have hDc := hD.sub (ws' := [(md 100, .inr (12, [.int 0, .ref (md 1), .ref (md 2), .ref (md 3), .int 0, .int 0, .int 0, .int 0, .ref (md 8), .ref (md 9), .ref (md 10), .ref (md 11), .ref (md 12), .ref (md 13), .ref (md 14), .ref (md 15), .ref (md 16), .ref (md 17), .ref (md 18), .ref (md 19), .ref (md 20), .ref (md 21), .ref (md 22), .int 0, .ref (md 24), .int 0, .ref (md 26), .int 0, .ref (md 28), .ref (md 29), .ref (md 30), .ref (md 31), .ref (md 32), .ref (md 33), .int 0, .int 0, .ref (md 36), .ref (md 37), .ref (md 38), .ref (md 39), .ref (md 40), .int 0, .int (-1), .int 0, .ref (md 44), .ref (md 45), .ref (md 46), .int 0, .ref (md 48), .ref (md 49), .int 0, .ref (md 51), .int 0, .ref (md 53), .ref (md 54), .ref (md 55), .ref (md 56), .ref (md 57), .ref (md 58), .ref (md 59), .ref (md 60), .ref (md 61), .ref (md 62), .ref (md 63), .int 0, .int 0, .int 0, .int 0, .int 0, .int 0, .ref (md 70), .int 0, .ref (md 72), .int 0, .int 400000, .int 0, .int 0])), (md 40, .inl (mc 1, 800000, .inl (fun _ => 0)))]) [1, 4] (by decide) rfl
  have hKc := hK.sub (tys' := [(mc 1, .byte)]) [9] rfl
  have hFc := va_free (wc := [(md 100, .inr (12, [.int 0, .ref (md 1), .ref (md 2), .ref (md 3), .int 0, .int 0, .int 0, .int 0, .ref (md 8), .ref (md 9), .ref (md 10), .ref (md 11), .ref (md 12), .ref (md 13), .ref (md 14), .ref (md 15), .ref (md 16), .ref (md 17), .ref (md 18), .ref (md 19), .ref (md 20), .ref (md 21), .ref (md 22), .int 0, .ref (md 24), .int 0, .ref (md 26), .int 0, .ref (md 28), .ref (md 29), .ref (md 30), .ref (md 31), .ref (md 32), .ref (md 33), .int 0, .int 0, .ref (md 36), .ref (md 37), .ref (md 38), .ref (md 39), .ref (md 40), .int 0, .int (-1), .int 0, .ref (md 44), .ref (md 45), .ref (md 46), .int 0, .ref (md 48), .ref (md 49), .int 0, .ref (md 51), .int 0, .ref (md 53), .ref (md 54), .ref (md 55), .ref (md 56), .ref (md 57), .ref (md 58), .ref (md 59), .ref (md 60), .ref (md 61), .ref (md 62), .ref (md 63), .int 0, .int 0, .int 0, .int 0, .int 0, .int 0, .ref (md 70), .int 0, .ref (md 72), .int 0, .int 400000, .int 0, .int 0])), (md 40, .inl (mc 1, 800000, .inl (fun _ => 0)))]) hD hS hA [1, 4] rfl
  refine va_calli (va_runV (As := [.int (xs 1)]) (rest := []) ⟨hx, hb, hml, hown, hts⟩ (g_p_save l D H.size md mc (xs 1)) (cw_v 1 hts kw_1946 kw_1943 kw_1944 kw_1945 kw_11 rfl rfl (by decide +kernel) ⟨Nat.le_of_ble_eq_true rfl, Nat.le_of_ble_eq_true rfl⟩) ⟨g_blind, va_recv hKc hPc (ci := 12) (q0 := 0) rfl rfl, fun U hU hW => g_pre hU hW hPc hKc hDc⟩ rfl rfl hl.1 rfl (lv_room (Nat.le_of_ble_eq_true rfl)) d_law_2103 ⟨Nat.le_of_ble_eq_true rfl, Nat.le_of_ble_eq_true rfl⟩) hS (fun q _ h => hFc q h) hFc (fun r_1 u_2 t H1 locs ht hvm hw hB hz1 hk1 hS => ?_)
  obtain ⟨hP1, hK1, hD1⟩ := hB
  rw [ht] at hP1
  have hK1 := va_K.moved hvm.symm hK1
  obtain ⟨hP, hD⟩ := va_join (wr := [(o, .inl (ac 7, 1, .inr (.inl u))), (md 39, .inl (mc 0, 8, .inl (fun _ => -1))), (md 1, .inl (mc 1, 8300, .inl (fun _ => 0))), (md 72, .inl (mc 0, 12010, .inl (fun _ => 0)))]) (w1 := [(md 100, .inr (12, .int (k_dro (xs 1)) :: u_2))]) hP hD [1, 4] [0, 2, 3, 5] rfl rfl (by decide) (by decide) hk1 hFc hP1 hD1
  generalize H1 = H at hP hS ⊢
  have hP : va_P D cls [(o, .inl (ac 7, 1, .inr (.inl u))), (md 39, .inl (mc 0, 8, .inl (fun _ => -1))), (md 1, .inl (mc 1, 8300, .inl (fun _ => 0))), (md 72, .inl (mc 0, 12010, .inl (fun _ => 0))), (md 100, .inr (12, .int (k_dro (xs 1)) :: u_2))] H := hP
  have hD : va_D A [(o, .inl (ac 7, 1, .inr (.inl u))), (md 39, .inl (mc 0, 8, .inl (fun _ => -1))), (md 1, .inl (mc 1, 8300, .inl (fun _ => 0))), (md 72, .inl (mc 0, 12010, .inl (fun _ => 0))), (md 100, .inr (12, .int (k_dro (xs 1)) :: u_2))] := hD
  refine W.cs (cells' := 637) (slots' := 1394880) rfl rfl ?_
  have hwm := hw
  refine lv_istore (lv' := [(6, .int r_1), (5, .int (k_dro (xs 1))), (4, .int 0), (3, .ref o), (2, .ref (md 100)), (1, .ref (ad 0)), (0, .ref b)]) hx hb d_law_2106 hl (by decide) rfl (fun ls hl => ?_)
  refine lv_aload_n hx hb d_law_2108 rfl (lv_at hl 4 rfl) ?_
  have hPc := hP.sub (ws' := [(md 100, .inr (12, .int (k_dro (xs 1)) :: u_2))]) [4] rfl
  have hDc := hD.sub (ws' := [(md 100, .inr (12, .int (k_dro (xs 1)) :: u_2))]) [4] (by decide) rfl
  have hKc := hK.sub (tys' := []) [] rfl
  have hFc := va_free (wc := [(md 100, .inr (12, .int (k_dro (xs 1)) :: u_2))]) hD hS hA [4] rfl
  refine va_calli (va_runV (As := []) (rest := []) ⟨hx, hb, hml, hown, hts⟩ (g_thr l D H.size md mc (k_dro (xs 1)) u_2) (cw_v 0 hts kw_1618 kw_1615 kw_1616 kw_1617 kw_11 rfl rfl (by decide +kernel) ⟨Nat.le_of_ble_eq_true rfl, Nat.le_of_ble_eq_true rfl⟩) ⟨g_blind, va_recv hKc hPc (ci := 12) (q0 := 0) rfl rfl, fun U hU hW => g_pre hU hW hPc hKc hDc⟩ rfl rfl hl.1 rfl (lv_room (Nat.le_of_ble_eq_true rfl)) d_law_2109 ⟨Nat.le_of_ble_eq_true rfl, Nat.le_of_ble_eq_true rfl⟩) hS (fun q _ h => hFc q h) hFc (fun r_3 u_4 t H1 locs ht hvm hw hB hz1 hk1 hS => ?_)
  obtain ⟨⟩ := u_4
  obtain ⟨hP1, hK1, hD1⟩ := hB
  rw [ht] at hP1
  have hK1 := va_K.moved hvm.symm hK1
  obtain ⟨hP, hD⟩ := va_join (wr := [(o, .inl (ac 7, 1, .inr (.inl u))), (md 39, .inl (mc 0, 8, .inl (fun _ => -1))), (md 1, .inl (mc 1, 8300, .inl (fun _ => 0))), (md 72, .inl (mc 0, 12010, .inl (fun _ => 0)))]) (w1 := [(md 100, .inr (12, .int (k_dro (xs 1)) :: u_2))]) hP hD [4] [0, 1, 2, 3] rfl rfl (by decide) (by decide) hk1 hFc hP1 hD1
  generalize H1 = H at hP hS ⊢
  have hP : va_P D cls [(o, .inl (ac 7, 1, .inr (.inl u))), (md 39, .inl (mc 0, 8, .inl (fun _ => -1))), (md 1, .inl (mc 1, 8300, .inl (fun _ => 0))), (md 72, .inl (mc 0, 12010, .inl (fun _ => 0))), (md 100, .inr (12, .int (k_dro (xs 1)) :: u_2))] H := hP
  have hD : va_D A [(o, .inl (ac 7, 1, .inr (.inl u))), (md 39, .inl (mc 0, 8, .inl (fun _ => -1))), (md 1, .inl (mc 1, 8300, .inl (fun _ => 0))), (md 72, .inl (mc 0, 12010, .inl (fun _ => 0))), (md 100, .inr (12, .int (k_dro (xs 1)) :: u_2))] := hD
  refine W.cs (cells' := 637) (slots' := 1394880) rfl rfl ?_
  subst hw
  refine lv_iload hx hb d_law_2112 (lv_at hl 1 rfl) ?_
  refine lv_icmp_eq (tgt := 2119) hx hb d_law_2114 (by decide) (fun _ => ?_) (fun h => absurd rfl h)
  refine lv_iload hx hb d_law_2119 (lv_at hl 1 rfl) ?_
  refine lv_if_ne (tgt := 2136) hx hb d_law_2121 (by decide) (fun c_5 => ?_) (fun c_5 => ?_)
  · refine lv_goto (tgt := 2391) hx hb d_law_2136 (by decide) ?_
    exact law_tail l hx hb hr hlocks hX hbl hbA hT hS (lv_sub hl [2, 6] rfl) (by decide) (by decide)
  · refine lv_aload_n hx hb d_law_2124 rfl (lv_at hl 3 rfl) ?_
    refine lv_iconst (v := 0) hx hb d_law_2125 (by decide) ?_
    refine va_lald hx hb hK hP 0 7 rfl rfl (i := 0) (vp_in_nI (n := 0) (N := 1) (by decide) (by decide)) d_law_2126 ?_
    refine w_l (y := 5) (hw2 c_5) ?_
    refine lv_iload hx hb d_law_2127 (lv_at hl 0 rfl) ?_
    refine lv_i2l hx hb d_law_2129 rfl ?_
    refine w_l (y := 5) (by first | (rw [hwm c_5]; done) | (rw [hwm c_5]; rfl) | (rw [hwm c_5]; decide)) ?_
    refine W.lcmp hx hb d_law_2130 ?_
    refine w_i (y := 0) (by simp [lg_cmp]) ?_
    refine lv_if_eq (tgt := 2136) hx hb d_law_2131 (by decide) (fun _ => ?_) (fun h => absurd h (by decide))
    refine lv_goto (tgt := 2391) hx hb d_law_2136 (by decide) ?_
    exact law_tail l hx hb hr hlocks hX hbl hbA hT hS (lv_sub hl [2, 6] rfl) (by decide) (by decide)
theorem d_law_2139 : decode code 2139 = .ok (.aload_n 1, 1) := by decide +kernel
theorem d_law_2140 : decode code 2140 = .ok (.aload_n 0, 1) := by decide +kernel
theorem d_law_2141 : decode code 2141 = .ok (.iload 4, 2) := by decide +kernel
theorem d_law_2143 : decode code 2143 = .ok (.iconst 1, 1) := by decide +kernel
theorem d_law_2144 : decode code 2144 = .ok (.iadd, 1) := by decide +kernel
theorem d_law_2145 : decode code 2145 = .ok (.iaload, 1) := by decide +kernel
theorem d_law_2146 : decode code 2146 = .ok (.aload_n 3, 1) := by decide +kernel
theorem d_law_2147 : decode code 2147 = .ok (.invokestatic 198, 3) := by decide +kernel
theorem d_law_2150 : decode code 2150 = .ok (.istore 5, 2) := by decide +kernel
theorem d_law_2152 : decode code 2152 = .ok (.aload_n 2, 1) := by decide +kernel
theorem d_law_2153 : decode code 2153 = .ok (.aload_n 0, 1) := by decide +kernel
theorem d_law_2154 : decode code 2154 = .ok (.iload 4, 2) := by decide +kernel
theorem d_law_2156 : decode code 2156 = .ok (.iconst 1, 1) := by decide +kernel
theorem d_law_2157 : decode code 2157 = .ok (.iadd, 1) := by decide +kernel
theorem d_law_2158 : decode code 2158 = .ok (.iaload, 1) := by decide +kernel
theorem d_law_2159 : decode code 2159 = .ok (.invokevirtual 200, 3) := by decide +kernel
theorem d_law_2162 : decode code 2162 = .ok (.istore 6, 2) := by decide +kernel
theorem d_law_2164 : decode code 2164 = .ok (.aload_n 2, 1) := by decide +kernel
theorem d_law_2165 : decode code 2165 = .ok (.invokevirtual 120, 3) := by decide +kernel
theorem d_law_2168 : decode code 2168 = .ok (.iload 5, 2) := by decide +kernel
theorem d_law_2170 : decode code 2170 = .ok (.if_icmp .eq 5, 3) := by decide +kernel
theorem d_law_2175 : decode code 2175 = .ok (.iload 5, 2) := by decide +kernel
theorem d_law_2177 : decode code 2177 = .ok (.ifCond .ne 15, 3) := by decide +kernel
theorem d_law_2192 : decode code 2192 = .ok (.goto 199, 3) := by decide +kernel
theorem d_law_2180 : decode code 2180 = .ok (.aload_n 3, 1) := by decide +kernel
theorem d_law_2181 : decode code 2181 = .ok (.iconst 0, 1) := by decide +kernel
theorem d_law_2182 : decode code 2182 = .ok (.laload, 1) := by decide +kernel
theorem d_law_2183 : decode code 2183 = .ok (.iload 6, 2) := by decide +kernel
theorem d_law_2185 : decode code 2185 = .ok (.i2l, 1) := by decide +kernel
theorem d_law_2186 : decode code 2186 = .ok (.lcmp, 1) := by decide +kernel
theorem d_law_2187 : decode code 2187 = .ok (.ifCond .eq 5, 3) := by decide +kernel
set_option maxHeartbeats 4000000 in
set_option maxRecDepth 100000 in
theorem law_c23 {p : Program} {e : Env} {s : State} {m : MethodId} {below : List Frame} {meth : Method} {c : Code} (l : Launch) (hfl : l.flags = flags0) {b : Nat} {xs : Nat → Int32} {D : va_G} {ad : Nat → Nat} {ac : Nat → ClassId} {md : Nat → Nat} {mc : Nat → ClassId} {o : Nat} {H : Heap} {locs : List Loc} {ls : Array Slot} (h : LwS p s m meth c b 7 xs D ad ac md mc o H locs ls) : W p l e room_1 s m #[Value.ref b] below meth c H locs 636 1394874 (lw_Z below #[Value.ref b] s) (F0 m 2139 ls []) := by
  obtain ⟨hx, hb, hr, hml, hown, hts, hX, hbl, hlocks, hev, hP, hK, hD, hS, hl⟩ := h
  have hNS : tx_NS (lA s) s := fun q cell hq hc => absurd (Array.getElem?_eq_some_iff.mp hc).1 (Nat.not_lt.mpr hq)
  have hA : ∀ q : Nat, s.heap.size ≤ q → lA s q := fun _ h => h
  have hT : ∀ q : Nat, lA s q → s.heap.size ≤ q := fun _ h => h
  have hbA : ¬ lA s b := Nat.not_le.mpr hbl
  generalize lA s = A at hev hD hS hNS hA hT hbA
  refine lv_aload_n hx hb d_law_2139 rfl (lv_at hl 3 rfl) ?_
  refine lv_aload_n hx hb d_law_2140 rfl (lv_at hl 4 rfl) ?_
  refine lv_iload hx hb d_law_2141 (lv_at hl 0 rfl) ?_
  refine lv_iconst (v := 1) hx hb d_law_2143 (by decide) ?_
  refine lv_iadd hx hb d_law_2144 ?_
  refine w_i (y := 1) (by decide) ?_
  refine va_sld hx hb hX hbl hbA hS (i := 1) (vp_in_nI (n := 1) (N := 7) (by decide) (by decide)) d_law_2145 ?_
  refine w_i (y := xs 1) rfl ?_
  refine lv_aload_n hx hb d_law_2146 rfl (lv_at hl 1 rfl) ?_
  have hPh := p_l hP
  have hDh := d_l hD
  have hKh := hK.sub (tys' := fxT ac) [0, 1, 2, 3, 4, 5, 6, 7] rfl
  have hFc := fr_all hDh hS hA
  refine va_calli (tx_runSW (As := [.ref (ad 0), .int (xs 1), .ref o]) (rest := []) ⟨hx, hb, hml, hown, hts⟩ (h_load l hfl D ad ac (fun _ => 0) o (fun _ => 0) H.size (xs 1)) (cw_w 3 hts kw_1318 kw_1316 kw_1317 kw_0 rfl rfl (by decide +kernel) ⟨Nat.le_of_ble_eq_true rfl, Nat.le_of_ble_eq_true rfl⟩) ⟨h_blind, fun U hU hW => h_pre hU hW hPh hKh hDh hev hNS hS hFc⟩ rfl rfl hl.1 rfl (lv_room (Nat.le_of_ble_eq_true rfl)) d_law_2147 ⟨Nat.le_of_ble_eq_true rfl, Nat.le_of_ble_eq_true rfl⟩) hS (fun q _ h => hFc q h) hFc (fun rz u t H1 locs ht hvm hw hB hz1 hk1 hS => ?_)
  obtain ⟨hP1, -, -⟩ := hB
  rw [ht] at hP1
  obtain ⟨hw1, hw2⟩ := hw
  subst hw1
  have hP := hP1.app (p_keep hP hD hk1)
  have hD := d_oc hD (e' := .inl (ac 7, 1, .inr (.inl u)))
  generalize H1 = H at hP hS ⊢
  have hP : va_P D cls [(o, .inl (ac 7, 1, .inr (.inl u))), (md 100, .inr (12, [.int 0, .ref (md 1), .ref (md 2), .ref (md 3), .int 0, .int 0, .int 0, .int 0, .ref (md 8), .ref (md 9), .ref (md 10), .ref (md 11), .ref (md 12), .ref (md 13), .ref (md 14), .ref (md 15), .ref (md 16), .ref (md 17), .ref (md 18), .ref (md 19), .ref (md 20), .ref (md 21), .ref (md 22), .int 0, .ref (md 24), .int 0, .ref (md 26), .int 0, .ref (md 28), .ref (md 29), .ref (md 30), .ref (md 31), .ref (md 32), .ref (md 33), .int 0, .int 0, .ref (md 36), .ref (md 37), .ref (md 38), .ref (md 39), .ref (md 40), .int 0, .int (-1), .int 0, .ref (md 44), .ref (md 45), .ref (md 46), .int 0, .ref (md 48), .ref (md 49), .int 0, .ref (md 51), .int 0, .ref (md 53), .ref (md 54), .ref (md 55), .ref (md 56), .ref (md 57), .ref (md 58), .ref (md 59), .ref (md 60), .ref (md 61), .ref (md 62), .ref (md 63), .int 0, .int 0, .int 0, .int 0, .int 0, .int 0, .ref (md 70), .int 0, .ref (md 72), .int 0, .int 400000, .int 0, .int 0])), (md 39, .inl (mc 0, 8, .inl (fun _ => -1))), (md 1, .inl (mc 1, 8300, .inl (fun _ => 0))), (md 40, .inl (mc 1, 800000, .inl (fun _ => 0))), (md 72, .inl (mc 0, 12010, .inl (fun _ => 0)))] H := hP
  have hD : va_D A [(o, .inl (ac 7, 1, .inr (.inl u))), (md 100, .inr (12, [.int 0, .ref (md 1), .ref (md 2), .ref (md 3), .int 0, .int 0, .int 0, .int 0, .ref (md 8), .ref (md 9), .ref (md 10), .ref (md 11), .ref (md 12), .ref (md 13), .ref (md 14), .ref (md 15), .ref (md 16), .ref (md 17), .ref (md 18), .ref (md 19), .ref (md 20), .ref (md 21), .ref (md 22), .int 0, .ref (md 24), .int 0, .ref (md 26), .int 0, .ref (md 28), .ref (md 29), .ref (md 30), .ref (md 31), .ref (md 32), .ref (md 33), .int 0, .int 0, .ref (md 36), .ref (md 37), .ref (md 38), .ref (md 39), .ref (md 40), .int 0, .int (-1), .int 0, .ref (md 44), .ref (md 45), .ref (md 46), .int 0, .ref (md 48), .ref (md 49), .int 0, .ref (md 51), .int 0, .ref (md 53), .ref (md 54), .ref (md 55), .ref (md 56), .ref (md 57), .ref (md 58), .ref (md 59), .ref (md 60), .ref (md 61), .ref (md 62), .ref (md 63), .int 0, .int 0, .int 0, .int 0, .int 0, .int 0, .ref (md 70), .int 0, .ref (md 72), .int 0, .int 400000, .int 0, .int 0])), (md 39, .inl (mc 0, 8, .inl (fun _ => -1))), (md 1, .inl (mc 1, 8300, .inl (fun _ => 0))), (md 40, .inl (mc 1, 800000, .inl (fun _ => 0))), (md 72, .inl (mc 0, 12010, .inl (fun _ => 0)))] := hD
  refine W.cs (cells' := 637) (slots' := 1394880) rfl rfl ?_
  refine lv_istore (lv' := [(5, .int (k_com (xs 1))), (4, .int 0), (3, .ref o), (2, .ref (md 100)), (1, .ref (ad 0)), (0, .ref b)]) hx hb d_law_2150 hl (by decide) rfl (fun ls hl => ?_)
  refine lv_aload_n hx hb d_law_2152 rfl (lv_at hl 3 rfl) ?_
  refine lv_aload_n hx hb d_law_2153 rfl (lv_at hl 5 rfl) ?_
  refine lv_iload hx hb d_law_2154 (lv_at hl 1 rfl) ?_
  refine lv_iconst (v := 1) hx hb d_law_2156 (by decide) ?_
  refine lv_iadd hx hb d_law_2157 ?_
  refine w_i (y := 1) (by decide) ?_
  refine va_sld hx hb hX hbl hbA hS (i := 1) (vp_in_nI (n := 1) (N := 7) (by decide) (by decide)) d_law_2158 ?_
  refine w_i (y := xs 1) rfl ?_
  have hPc := hP.sub (ws' := [(md 100, .inr (12, [.int 0, .ref (md 1), .ref (md 2), .ref (md 3), .int 0, .int 0, .int 0, .int 0, .ref (md 8), .ref (md 9), .ref (md 10), .ref (md 11), .ref (md 12), .ref (md 13), .ref (md 14), .ref (md 15), .ref (md 16), .ref (md 17), .ref (md 18), .ref (md 19), .ref (md 20), .ref (md 21), .ref (md 22), .int 0, .ref (md 24), .int 0, .ref (md 26), .int 0, .ref (md 28), .ref (md 29), .ref (md 30), .ref (md 31), .ref (md 32), .ref (md 33), .int 0, .int 0, .ref (md 36), .ref (md 37), .ref (md 38), .ref (md 39), .ref (md 40), .int 0, .int (-1), .int 0, .ref (md 44), .ref (md 45), .ref (md 46), .int 0, .ref (md 48), .ref (md 49), .int 0, .ref (md 51), .int 0, .ref (md 53), .ref (md 54), .ref (md 55), .ref (md 56), .ref (md 57), .ref (md 58), .ref (md 59), .ref (md 60), .ref (md 61), .ref (md 62), .ref (md 63), .int 0, .int 0, .int 0, .int 0, .int 0, .int 0, .ref (md 70), .int 0, .ref (md 72), .int 0, .int 400000, .int 0, .int 0]))]) [1] rfl
  have hDc := hD.sub (ws' := [(md 100, .inr (12, [.int 0, .ref (md 1), .ref (md 2), .ref (md 3), .int 0, .int 0, .int 0, .int 0, .ref (md 8), .ref (md 9), .ref (md 10), .ref (md 11), .ref (md 12), .ref (md 13), .ref (md 14), .ref (md 15), .ref (md 16), .ref (md 17), .ref (md 18), .ref (md 19), .ref (md 20), .ref (md 21), .ref (md 22), .int 0, .ref (md 24), .int 0, .ref (md 26), .int 0, .ref (md 28), .ref (md 29), .ref (md 30), .ref (md 31), .ref (md 32), .ref (md 33), .int 0, .int 0, .ref (md 36), .ref (md 37), .ref (md 38), .ref (md 39), .ref (md 40), .int 0, .int (-1), .int 0, .ref (md 44), .ref (md 45), .ref (md 46), .int 0, .ref (md 48), .ref (md 49), .int 0, .ref (md 51), .int 0, .ref (md 53), .ref (md 54), .ref (md 55), .ref (md 56), .ref (md 57), .ref (md 58), .ref (md 59), .ref (md 60), .ref (md 61), .ref (md 62), .ref (md 63), .int 0, .int 0, .int 0, .int 0, .int 0, .int 0, .ref (md 70), .int 0, .ref (md 72), .int 0, .int 400000, .int 0, .int 0]))]) [1] (by decide) rfl
  have hKc := hK.sub (tys' := []) [] rfl
  have hFc := va_free (wc := [(md 100, .inr (12, [.int 0, .ref (md 1), .ref (md 2), .ref (md 3), .int 0, .int 0, .int 0, .int 0, .ref (md 8), .ref (md 9), .ref (md 10), .ref (md 11), .ref (md 12), .ref (md 13), .ref (md 14), .ref (md 15), .ref (md 16), .ref (md 17), .ref (md 18), .ref (md 19), .ref (md 20), .ref (md 21), .ref (md 22), .int 0, .ref (md 24), .int 0, .ref (md 26), .int 0, .ref (md 28), .ref (md 29), .ref (md 30), .ref (md 31), .ref (md 32), .ref (md 33), .int 0, .int 0, .ref (md 36), .ref (md 37), .ref (md 38), .ref (md 39), .ref (md 40), .int 0, .int (-1), .int 0, .ref (md 44), .ref (md 45), .ref (md 46), .int 0, .ref (md 48), .ref (md 49), .int 0, .ref (md 51), .int 0, .ref (md 53), .ref (md 54), .ref (md 55), .ref (md 56), .ref (md 57), .ref (md 58), .ref (md 59), .ref (md 60), .ref (md 61), .ref (md 62), .ref (md 63), .int 0, .int 0, .int 0, .int 0, .int 0, .int 0, .ref (md 70), .int 0, .ref (md 72), .int 0, .int 400000, .int 0, .int 0]))]) hD hS hA [1] rfl
  refine va_calli (va_runV (As := [.int (xs 1)]) (rest := []) ⟨hx, hb, hml, hown, hts⟩ (g_p_load l D H.size md mc (xs 1)) (cw_v 1 hts kw_1978 kw_1975 kw_1976 kw_1977 kw_11 rfl rfl (by decide +kernel) ⟨Nat.le_of_ble_eq_true rfl, Nat.le_of_ble_eq_true rfl⟩) ⟨g_blind, va_recv hKc hPc (ci := 12) (q0 := 0) rfl rfl, fun U hU hW => g_pre hU hW hPc hKc hDc⟩ rfl rfl hl.1 rfl (lv_room (Nat.le_of_ble_eq_true rfl)) d_law_2159 ⟨Nat.le_of_ble_eq_true rfl, Nat.le_of_ble_eq_true rfl⟩) hS (fun q _ h => hFc q h) hFc (fun r_1 u_2 t H1 locs ht hvm hw hB hz1 hk1 hS => ?_)
  obtain ⟨hP1, hK1, hD1⟩ := hB
  rw [ht] at hP1
  have hK1 := va_K.moved hvm.symm hK1
  obtain ⟨hP, hD⟩ := va_join (wr := [(o, .inl (ac 7, 1, .inr (.inl u))), (md 39, .inl (mc 0, 8, .inl (fun _ => -1))), (md 1, .inl (mc 1, 8300, .inl (fun _ => 0))), (md 40, .inl (mc 1, 800000, .inl (fun _ => 0))), (md 72, .inl (mc 0, 12010, .inl (fun _ => 0)))]) (w1 := [(md 100, .inr (12, .int (k_com (xs 1)) :: u_2))]) hP hD [1] [0, 2, 3, 4, 5] rfl rfl (by decide) (by decide) hk1 hFc hP1 hD1
  generalize H1 = H at hP hS ⊢
  have hP : va_P D cls [(o, .inl (ac 7, 1, .inr (.inl u))), (md 39, .inl (mc 0, 8, .inl (fun _ => -1))), (md 1, .inl (mc 1, 8300, .inl (fun _ => 0))), (md 40, .inl (mc 1, 800000, .inl (fun _ => 0))), (md 72, .inl (mc 0, 12010, .inl (fun _ => 0))), (md 100, .inr (12, .int (k_com (xs 1)) :: u_2))] H := hP
  have hD : va_D A [(o, .inl (ac 7, 1, .inr (.inl u))), (md 39, .inl (mc 0, 8, .inl (fun _ => -1))), (md 1, .inl (mc 1, 8300, .inl (fun _ => 0))), (md 40, .inl (mc 1, 800000, .inl (fun _ => 0))), (md 72, .inl (mc 0, 12010, .inl (fun _ => 0))), (md 100, .inr (12, .int (k_com (xs 1)) :: u_2))] := hD
  refine W.cs (cells' := 637) (slots' := 1394880) rfl rfl ?_
  have hwm := hw
  refine lv_istore (lv' := [(6, .int r_1), (5, .int (k_com (xs 1))), (4, .int 0), (3, .ref o), (2, .ref (md 100)), (1, .ref (ad 0)), (0, .ref b)]) hx hb d_law_2162 hl (by decide) rfl (fun ls hl => ?_)
  refine lv_aload_n hx hb d_law_2164 rfl (lv_at hl 4 rfl) ?_
  have hPc := hP.sub (ws' := [(md 100, .inr (12, .int (k_com (xs 1)) :: u_2))]) [5] rfl
  have hDc := hD.sub (ws' := [(md 100, .inr (12, .int (k_com (xs 1)) :: u_2))]) [5] (by decide) rfl
  have hKc := hK.sub (tys' := []) [] rfl
  have hFc := va_free (wc := [(md 100, .inr (12, .int (k_com (xs 1)) :: u_2))]) hD hS hA [5] rfl
  refine va_calli (va_runV (As := []) (rest := []) ⟨hx, hb, hml, hown, hts⟩ (g_thr l D H.size md mc (k_com (xs 1)) u_2) (cw_v 0 hts kw_1618 kw_1615 kw_1616 kw_1617 kw_11 rfl rfl (by decide +kernel) ⟨Nat.le_of_ble_eq_true rfl, Nat.le_of_ble_eq_true rfl⟩) ⟨g_blind, va_recv hKc hPc (ci := 12) (q0 := 0) rfl rfl, fun U hU hW => g_pre hU hW hPc hKc hDc⟩ rfl rfl hl.1 rfl (lv_room (Nat.le_of_ble_eq_true rfl)) d_law_2165 ⟨Nat.le_of_ble_eq_true rfl, Nat.le_of_ble_eq_true rfl⟩) hS (fun q _ h => hFc q h) hFc (fun r_3 u_4 t H1 locs ht hvm hw hB hz1 hk1 hS => ?_)
  obtain ⟨⟩ := u_4
  obtain ⟨hP1, hK1, hD1⟩ := hB
  rw [ht] at hP1
  have hK1 := va_K.moved hvm.symm hK1
  obtain ⟨hP, hD⟩ := va_join (wr := [(o, .inl (ac 7, 1, .inr (.inl u))), (md 39, .inl (mc 0, 8, .inl (fun _ => -1))), (md 1, .inl (mc 1, 8300, .inl (fun _ => 0))), (md 40, .inl (mc 1, 800000, .inl (fun _ => 0))), (md 72, .inl (mc 0, 12010, .inl (fun _ => 0)))]) (w1 := [(md 100, .inr (12, .int (k_com (xs 1)) :: u_2))]) hP hD [5] [0, 1, 2, 3, 4] rfl rfl (by decide) (by decide) hk1 hFc hP1 hD1
  generalize H1 = H at hP hS ⊢
  have hP : va_P D cls [(o, .inl (ac 7, 1, .inr (.inl u))), (md 39, .inl (mc 0, 8, .inl (fun _ => -1))), (md 1, .inl (mc 1, 8300, .inl (fun _ => 0))), (md 40, .inl (mc 1, 800000, .inl (fun _ => 0))), (md 72, .inl (mc 0, 12010, .inl (fun _ => 0))), (md 100, .inr (12, .int (k_com (xs 1)) :: u_2))] H := hP
  have hD : va_D A [(o, .inl (ac 7, 1, .inr (.inl u))), (md 39, .inl (mc 0, 8, .inl (fun _ => -1))), (md 1, .inl (mc 1, 8300, .inl (fun _ => 0))), (md 40, .inl (mc 1, 800000, .inl (fun _ => 0))), (md 72, .inl (mc 0, 12010, .inl (fun _ => 0))), (md 100, .inr (12, .int (k_com (xs 1)) :: u_2))] := hD
  refine W.cs (cells' := 637) (slots' := 1394880) rfl rfl ?_
  subst hw
  refine lv_iload hx hb d_law_2168 (lv_at hl 1 rfl) ?_
  refine lv_icmp_eq (tgt := 2175) hx hb d_law_2170 (by decide) (fun _ => ?_) (fun h => absurd rfl h)
  refine lv_iload hx hb d_law_2175 (lv_at hl 1 rfl) ?_
  refine lv_if_ne (tgt := 2192) hx hb d_law_2177 (by decide) (fun c_5 => ?_) (fun c_5 => ?_)
  · refine lv_goto (tgt := 2391) hx hb d_law_2192 (by decide) ?_
    exact law_tail l hx hb hr hlocks hX hbl hbA hT hS (lv_sub hl [2, 6] rfl) (by decide) (by decide)
  · refine lv_aload_n hx hb d_law_2180 rfl (lv_at hl 3 rfl) ?_
    refine lv_iconst (v := 0) hx hb d_law_2181 (by decide) ?_
    refine va_lald hx hb hK hP 0 7 rfl rfl (i := 0) (vp_in_nI (n := 0) (N := 1) (by decide) (by decide)) d_law_2182 ?_
    refine w_l (y := 0) (hw2 c_5) ?_
    refine lv_iload hx hb d_law_2183 (lv_at hl 0 rfl) ?_
    refine lv_i2l hx hb d_law_2185 rfl ?_
    refine w_l (y := 0) (by first | (rw [hwm c_5]; done) | (rw [hwm c_5]; rfl) | (rw [hwm c_5]; decide)) ?_
    refine W.lcmp hx hb d_law_2186 ?_
    refine w_i (y := 0) (by simp [lg_cmp]) ?_
    refine lv_if_eq (tgt := 2192) hx hb d_law_2187 (by decide) (fun _ => ?_) (fun h => absurd h (by decide))
    refine lv_goto (tgt := 2391) hx hb d_law_2192 (by decide) ?_
    exact law_tail l hx hb hr hlocks hX hbl hbA hT hS (lv_sub hl [2, 6] rfl) (by decide) (by decide)
