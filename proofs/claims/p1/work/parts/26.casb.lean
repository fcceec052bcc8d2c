theorem d_law_728 : decode code 728 = .ok (.aload_n 1, 1) := by decide +kernel
theorem d_law_729 : decode code 729 = .ok (.aload_n 0, 1) := by decide +kernel
theorem d_law_730 : decode code 730 = .ok (.iload 4, 2) := by decide +kernel
theorem d_law_732 : decode code 732 = .ok (.iconst 1, 1) := by decide +kernel
theorem d_law_733 : decode code 733 = .ok (.iadd, 1) := by decide +kernel
theorem d_law_734 : decode code 734 = .ok (.iaload, 1) := by decide +kernel
theorem d_law_735 : decode code 735 = .ok (.aload_n 0, 1) := by decide +kernel
theorem d_law_736 : decode code 736 = .ok (.iload 4, 2) := by decide +kernel
theorem d_law_738 : decode code 738 = .ok (.iconst 2, 1) := by decide +kernel
theorem d_law_739 : decode code 739 = .ok (.iadd, 1) := by decide +kernel
theorem d_law_740 : decode code 740 = .ok (.iaload, 1) := by decide +kernel
theorem d_law_741 : decode code 741 = .ok (.aload_n 0, 1) := by decide +kernel
theorem d_law_742 : decode code 742 = .ok (.iload 4, 2) := by decide +kernel
theorem d_law_744 : decode code 744 = .ok (.iconst 3, 1) := by decide +kernel
theorem d_law_745 : decode code 745 = .ok (.iadd, 1) := by decide +kernel
theorem d_law_746 : decode code 746 = .ok (.iaload, 1) := by decide +kernel
theorem d_law_747 : decode code 747 = .ok (.aload_n 0, 1) := by decide +kernel
theorem d_law_748 : decode code 748 = .ok (.iload 4, 2) := by decide +kernel
theorem d_law_750 : decode code 750 = .ok (.iconst 4, 1) := by decide +kernel
theorem d_law_751 : decode code 751 = .ok (.iadd, 1) := by decide +kernel
theorem d_law_752 : decode code 752 = .ok (.iaload, 1) := by decide +kernel
theorem d_law_753 : decode code 753 = .ok (.aload_n 3, 1) := by decide +kernel
theorem d_law_754 : decode code 754 = .ok (.invokestatic 141, 3) := by decide +kernel
theorem d_law_757 : decode code 757 = .ok (.istore 5, 2) := by decide +kernel
theorem d_law_759 : decode code 759 = .ok (.aload_n 2, 1) := by decide +kernel
theorem d_law_760 : decode code 760 = .ok (.aload_n 0, 1) := by decide +kernel
theorem d_law_761 : decode code 761 = .ok (.iload 4, 2) := by decide +kernel
theorem d_law_763 : decode code 763 = .ok (.iconst 1, 1) := by decide +kernel
theorem d_law_764 : decode code 764 = .ok (.iadd, 1) := by decide +kernel
theorem d_law_765 : decode code 765 = .ok (.iaload, 1) := by decide +kernel
theorem d_law_766 : decode code 766 = .ok (.aload_n 0, 1) := by decide +kernel
theorem d_law_767 : decode code 767 = .ok (.iload 4, 2) := by decide +kernel
theorem d_law_769 : decode code 769 = .ok (.iconst 2, 1) := by decide +kernel
theorem d_law_770 : decode code 770 = .ok (.iadd, 1) := by decide +kernel
theorem d_law_771 : decode code 771 = .ok (.iaload, 1) := by decide +kernel
theorem d_law_772 : decode code 772 = .ok (.aload_n 0, 1) := by decide +kernel
theorem d_law_773 : decode code 773 = .ok (.iload 4, 2) := by decide +kernel
theorem d_law_775 : decode code 775 = .ok (.iconst 3, 1) := by decide +kernel
theorem d_law_776 : decode code 776 = .ok (.iadd, 1) := by decide +kernel
theorem d_law_777 : decode code 777 = .ok (.iaload, 1) := by decide +kernel
theorem d_law_778 : decode code 778 = .ok (.aload_n 0, 1) := by decide +kernel
theorem d_law_779 : decode code 779 = .ok (.iload 4, 2) := by decide +kernel
theorem d_law_781 : decode code 781 = .ok (.iconst 4, 1) := by decide +kernel
theorem d_law_782 : decode code 782 = .ok (.iadd, 1) := by decide +kernel
theorem d_law_783 : decode code 783 = .ok (.iaload, 1) := by decide +kernel
theorem d_law_784 : decode code 784 = .ok (.invokevirtual 144, 3) := by decide +kernel
theorem d_law_787 : decode code 787 = .ok (.istore 6, 2) := by decide +kernel
theorem d_law_789 : decode code 789 = .ok (.aload_n 2, 1) := by decide +kernel
theorem d_law_790 : decode code 790 = .ok (.invokevirtual 120, 3) := by decide +kernel
theorem d_law_793 : decode code 793 = .ok (.iload 5, 2) := by decide +kernel
theorem d_law_795 : decode code 795 = .ok (.if_icmp .eq 5, 3) := by decide +kernel
theorem d_law_800 : decode code 800 = .ok (.iload 5, 2) := by decide +kernel
theorem d_law_802 : decode code 802 = .ok (.ifCond .ne 15, 3) := by decide +kernel
theorem d_law_817 : decode code 817 = .ok (.goto 1574, 3) := by decide +kernel
set_option maxHeartbeats 4000000 in
set_option maxRecDepth 100000 in
theorem law_c5 {p : Program} {e : Env} {s : State} {m : MethodId} {below : List Frame} {meth : Method} {c : Code} (l : Launch) (hfl : l.flags = flags0) {b : Nat} {xs : Nat → Int32} {D : va_G} {ad : Nat → Nat} {ac : Nat → ClassId} {md : Nat → Nat} {mc : Nat → ClassId} {o : Nat} {H : Heap} {locs : List Loc} {ls : Array Slot} (h : LwS p s m meth c b 7 xs D ad ac md mc o H locs ls) : W p l e room_1 s m #[Value.ref b] below meth c H locs 636 1394874 (lw_Z below #[Value.ref b] s) (F0 m 728 ls []) := by
  obtain ⟨hx, hb, hr, hml, hown, hts, hX, hbl, hlocks, hev, hP, hK, hD, hS, hl⟩ := h
  have hNS : tx_NS (lA s) s := fun q cell hq hc => absurd (Array.getElem?_eq_some_iff.mp hc).1 (Nat.not_lt.mpr hq)
  have hA : ∀ q : Nat, s.heap.size ≤ q → lA s q := fun _ h => h
  have hT : ∀ q : Nat, lA s q → s.heap.size ≤ q := fun _ h => h
  have hbA : ¬ lA s b := Nat.not_le.mpr hbl
  generalize lA s = A at hev hD hS hNS hA hT hbA
  refine lv_aload_n hx hb d_law_728 rfl (lv_at hl 3 rfl) ?_
  refine lv_aload_n hx hb d_law_729 rfl (lv_at hl 4 rfl) ?_
  refine lv_iload hx hb d_law_730 (lv_at hl 0 rfl) ?_
  refine lv_iconst (v := 1) hx hb d_law_732 (by decide) ?_
  refine lv_iadd hx hb d_law_733 ?_
  refine w_i (y := 1) (by decide) ?_
  refine va_sld hx hb hX hbl hbA hS (i := 1) (vp_in_nI (n := 1) (N := 7) (by decide) (by decide)) d_law_734 ?_
  refine w_i (y := xs 1) rfl ?_
  refine lv_aload_n hx hb d_law_735 rfl (lv_at hl 4 rfl) ?_
  refine lv_iload hx hb d_law_736 (lv_at hl 0 rfl) ?_
  refine lv_iconst (v := 2) hx hb d_law_738 (by decide) ?_
  refine lv_iadd hx hb d_law_739 ?_
  refine w_i (y := 2) (by decide) ?_
  refine va_sld hx hb hX hbl hbA hS (i := 2) (vp_in_nI (n := 2) (N := 7) (by decide) (by decide)) d_law_740 ?_
  refine w_i (y := xs 2) rfl ?_
  refine lv_aload_n hx hb d_law_741 rfl (lv_at hl 4 rfl) ?_
  refine lv_iload hx hb d_law_742 (lv_at hl 0 rfl) ?_
  refine lv_iconst (v := 3) hx hb d_law_744 (by decide) ?_
  refine lv_iadd hx hb d_law_745 ?_
  refine w_i (y := 3) (by decide) ?_
  refine va_sld hx hb hX hbl hbA hS (i := 3) (vp_in_nI (n := 3) (N := 7) (by decide) (by decide)) d_law_746 ?_
  refine w_i (y := xs 3) rfl ?_
  refine lv_aload_n hx hb d_law_747 rfl (lv_at hl 4 rfl) ?_
  refine lv_iload hx hb d_law_748 (lv_at hl 0 rfl) ?_
  refine lv_iconst (v := 4) hx hb d_law_750 (by decide) ?_
  refine lv_iadd hx hb d_law_751 ?_
  refine w_i (y := 4) (by decide) ?_
  refine va_sld hx hb hX hbl hbA hS (i := 4) (vp_in_nI (n := 4) (N := 7) (by decide) (by decide)) d_law_752 ?_
  refine w_i (y := xs 4) rfl ?_
  refine lv_aload_n hx hb d_law_753 rfl (lv_at hl 1 rfl) ?_
  have hPh := p_l hP
  have hDh := d_l hD
  have hKh := hK.sub (tys' := fxT ac) [0, 1, 2, 3, 4, 5, 6, 7] rfl
  have hFc := fr_all hDh hS hA
  refine va_calli (tx_runSW (As := [.ref (ad 0), .int (xs 1), .int (xs 2), .int (xs 3), .int (xs 4), .ref o]) (rest := []) ⟨hx, hb, hml, hown, hts⟩ (h_splice l hfl D ad ac (fun _ => 0) o (fun _ => 0) H.size (xs 1) (xs 2) (xs 3) (xs 4)) (cw_w 6 hts kw_811 kw_809 kw_810 kw_0 rfl rfl (by decide +kernel) ⟨Nat.le_of_ble_eq_true rfl, Nat.le_of_ble_eq_true rfl⟩) ⟨h_blind, fun U hU hW => h_pre hU hW hPh hKh hDh hev hNS hS hFc⟩ rfl rfl hl.1 rfl (lv_room (Nat.le_of_ble_eq_true rfl)) d_law_754 ⟨Nat.le_of_ble_eq_true rfl, Nat.le_of_ble_eq_true rfl⟩) hS (fun q _ h => hFc q h) hFc (fun rz u t H1 locs ht hvm hw hB hz1 hk1 hS => ?_)
  obtain ⟨hP1, -, -⟩ := hB
  rw [ht] at hP1
  obtain ⟨hw1, hw2⟩ := hw
  subst hw1
  have hP := hP1.app (p_keep hP hD hk1)
  have hD := d_oc hD (e' := .inl (ac 7, 1, .inr (.inl u)))
  generalize H1 = H at hP hS ⊢
  have hP : va_P D cls [(o, .inl (ac 7, 1, .inr (.inl u))), (md 100, .inr (12, [.int 0, .ref (md 1), .ref (md 2), .ref (md 3), .int 0, .int 0, .int 0, .int 0, .ref (md 8), .ref (md 9), .ref (md 10), .ref (md 11), .ref (md 12), .ref (md 13), .ref (md 14), .ref (md 15), .ref (md 16), .ref (md 17), .ref (md 18), .ref (md 19), .ref (md 20), .ref (md 21), .ref (md 22), .int 0, .ref (md 24), .int 0, .ref (md 26), .int 0, .ref (md 28), .ref (md 29), .ref (md 30), .ref (md 31), .ref (md 32), .ref (md 33), .int 0, .int 0, .ref (md 36), .ref (md 37), .ref (md 38), .ref (md 39), .ref (md 40), .int 0, .int (-1), .int 0, .ref (md 44), .ref (md 45), .ref (md 46), .int 0, .ref (md 48), .ref (md 49), .int 0, .ref (md 51), .int 0, .ref (md 53), .ref (md 54), .ref (md 55), .ref (md 56), .ref (md 57), .ref (md 58), .ref (md 59), .ref (md 60), .ref (md 61), .ref (md 62), .ref (md 63), .int 0, .int 0, .int 0, .int 0, .int 0, .int 0, .ref (md 70), .int 0, .ref (md 72), .int 0, .int 400000, .int 0, .int 0])), (md 39, .inl (mc 0, 8, .inl (fun _ => -1))), (md 1, .inl (mc 1, 8300, .inl (fun _ => 0))), (md 40, .inl (mc 1, 800000, .inl (fun _ => 0))), (md 72, .inl (mc 0, 12010, .inl (fun _ => 0)))] H := hP
  have hD : va_D A [(o, .inl (ac 7, 1, .inr (.inl u))), (md 100, .inr (12, [.int 0, .ref (md 1), .ref (md 2), .ref (md 3), .int 0, .int 0, .int 0, .int 0, .ref (md 8), .ref (md 9), .ref (md 10), .ref (md 11), .ref (md 12), .ref (md 13), .ref (md 14), .ref (md 15), .ref (md 16), .ref (md 17), .ref (md 18), .ref (md 19), .ref (md 20), .ref (md 21), .ref (md 22), .int 0, .ref (md 24), .int 0, .ref (md 26), .int 0, .ref (md 28), .ref (md 29), .ref (md 30), .ref (md 31), .ref (md 32), .ref (md 33), .int 0, .int 0, .ref (md 36), .ref (md 37), .ref (md 38), .ref (md 39), .ref (md 40), .int 0, .int (-1), .int 0, .ref (md 44), .ref (md 45), .ref (md 46), .int 0, .ref (md 48), .ref (md 49), .int 0, .ref (md 51), .int 0, .ref (md 53), .ref (md 54), .ref (md 55), .ref (md 56), .ref (md 57), .ref (md 58), .ref (md 59), .ref (md 60), .ref (md 61), .ref (md 62), .ref (md 63), .int 0, .int 0, .int 0, .int 0, .int 0, .int 0, .ref (md 70), .int 0, .ref (md 72), .int 0, .int 400000, .int 0, .int 0])), (md 39, .inl (mc 0, 8, .inl (fun _ => -1))), (md 1, .inl (mc 1, 8300, .inl (fun _ => 0))), (md 40, .inl (mc 1, 800000, .inl (fun _ => 0))), (md 72, .inl (mc 0, 12010, .inl (fun _ => 0)))] := hD
  refine W.cs (cells' := 637) (slots' := 1394880) rfl rfl ?_
  refine lv_istore (lv' := [(5, .int 1), (4, .int 0), (3, .ref o), (2, .ref (md 100)), (1, .ref (ad 0)), (0, .ref b)]) hx hb d_law_757 hl (by decide) rfl (fun ls hl => ?_)
  refine lv_aload_n hx hb d_law_759 rfl (lv_at hl 3 rfl) ?_
  refine lv_aload_n hx hb d_law_760 rfl (lv_at hl 5 rfl) ?_
  refine lv_iload hx hb d_law_761 (lv_at hl 1 rfl) ?_
  refine lv_iconst (v := 1) hx hb d_law_763 (by decide) ?_
  refine lv_iadd hx hb d_law_764 ?_
  refine w_i (y := 1) (by decide) ?_
  refine va_sld hx hb hX hbl hbA hS (i := 1) (vp_in_nI (n := 1) (N := 7) (by decide) (by decide)) d_law_765 ?_
  refine w_i (y := xs 1) rfl ?_
  refine lv_aload_n hx hb d_law_766 rfl (lv_at hl 5 rfl) ?_
  refine lv_iload hx hb d_law_767 (lv_at hl 1 rfl) ?_
  refine lv_iconst (v := 2) hx hb d_law_769 (by decide) ?_
  refine lv_iadd hx hb d_law_770 ?_
  refine w_i (y := 2) (by decide) ?_
  refine va_sld hx hb hX hbl hbA hS (i := 2) (vp_in_nI (n := 2) (N := 7) (by decide) (by decide)) d_law_771 ?_
  refine w_i (y := xs 2) rfl ?_
  refine lv_aload_n hx hb d_law_772 rfl (lv_at hl 5 rfl) ?_
  refine lv_iload hx hb d_law_773 (lv_at hl 1 rfl) ?_
  refine lv_iconst (v := 3) hx hb d_law_775 (by decide) ?_
  refine lv_iadd hx hb d_law_776 ?_
  refine w_i (y := 3) (by decide) ?_
  refine va_sld hx hb hX hbl hbA hS (i := 3) (vp_in_nI (n := 3) (N := 7) (by decide) (by decide)) d_law_777 ?_
  refine w_i (y := xs 3) rfl ?_
  refine lv_aload_n hx hb d_law_778 rfl (lv_at hl 5 rfl) ?_
  refine lv_iload hx hb d_law_779 (lv_at hl 1 rfl) ?_
  refine lv_iconst (v := 4) hx hb d_law_781 (by decide) ?_
  refine lv_iadd hx hb d_law_782 ?_
  refine w_i (y := 4) (by decide) ?_
  refine va_sld hx hb hX hbl hbA hS (i := 4) (vp_in_nI (n := 4) (N := 7) (by decide) (by decide)) d_law_783 ?_
  refine w_i (y := xs 4) rfl ?_
  have hPc := hP.sub (ws' := [(md 100, .inr (12, [.int 0, .ref (md 1), .ref (md 2), .ref (md 3), .int 0, .int 0, .int 0, .int 0, .ref (md 8), .ref (md 9), .ref (md 10), .ref (md 11), .ref (md 12), .ref (md 13), .ref (md 14), .ref (md 15), .ref (md 16), .ref (md 17), .ref (md 18), .ref (md 19), .ref (md 20), .ref (md 21), .ref (md 22), .int 0, .ref (md 24), .int 0, .ref (md 26), .int 0, .ref (md 28), .ref (md 29), .ref (md 30), .ref (md 31), .ref (md 32), .ref (md 33), .int 0, .int 0, .ref (md 36), .ref (md 37), .ref (md 38), .ref (md 39), .ref (md 40), .int 0, .int (-1), .int 0, .ref (md 44), .ref (md 45), .ref (md 46), .int 0, .ref (md 48), .ref (md 49), .int 0, .ref (md 51), .int 0, .ref (md 53), .ref (md 54), .ref (md 55), .ref (md 56), .ref (md 57), .ref (md 58), .ref (md 59), .ref (md 60), .ref (md 61), .ref (md 62), .ref (md 63), .int 0, .int 0, .int 0, .int 0, .int 0, .int 0, .ref (md 70), .int 0, .ref (md 72), .int 0, .int 400000, .int 0, .int 0]))]) [1] rfl
  have hDc := hD.sub (ws' := [(md 100, .inr (12, [.int 0, .ref (md 1), .ref (md 2), .ref (md 3), .int 0, .int 0, .int 0, .int 0, .ref (md 8), .ref (md 9), .ref (md 10), .ref (md 11), .ref (md 12), .ref (md 13), .ref (md 14), .ref (md 15), .ref (md 16), .ref (md 17), .ref (md 18), .ref (md 19), .ref (md 20), .ref (md 21), .ref (md 22), .int 0, .ref (md 24), .int 0, .ref (md 26), .int 0, .ref (md 28), .ref (md 29), .ref (md 30), .ref (md 31), .ref (md 32), .ref (md 33), .int 0, .int 0, .ref (md 36), .ref (md 37), .ref (md 38), .ref (md 39), .ref (md 40), .int 0, .int (-1), .int 0, .ref (md 44), .ref (md 45), .ref (md 46), .int 0, .ref (md 48), .ref (md 49), .int 0, .ref (md 51), .int 0, .ref (md 53), .ref (md 54), .ref (md 55), .ref (md 56), .ref (md 57), .ref (md 58), .ref (md 59), .ref (md 60), .ref (md 61), .ref (md 62), .ref (md 63), .int 0, .int 0, .int 0, .int 0, .int 0, .int 0, .ref (md 70), .int 0, .ref (md 72), .int 0, .int 400000, .int 0, .int 0]))]) [1] (by decide) rfl
  have hKc := hK.sub (tys' := []) [] rfl
  have hFc := va_free (wc := [(md 100, .inr (12, [.int 0, .ref (md 1), .ref (md 2), .ref (md 3), .int 0, .int 0, .int 0, .int 0, .ref (md 8), .ref (md 9), .ref (md 10), .ref (md 11), .ref (md 12), .ref (md 13), .ref (md 14), .ref (md 15), .ref (md 16), .ref (md 17), .ref (md 18), .ref (md 19), .ref (md 20), .ref (md 21), .ref (md 22), .int 0, .ref (md 24), .int 0, .ref (md 26), .int 0, .ref (md 28), .ref (md 29), .ref (md 30), .ref (md 31), .ref (md 32), .ref (md 33), .int 0, .int 0, .ref (md 36), .ref (md 37), .ref (md 38), .ref (md 39), .ref (md 40), .int 0, .int (-1), .int 0, .ref (md 44), .ref (md 45), .ref (md 46), .int 0, .ref (md 48), .ref (md 49), .int 0, .ref (md 51), .int 0, .ref (md 53), .ref (md 54), .ref (md 55), .ref (md 56), .ref (md 57), .ref (md 58), .ref (md 59), .ref (md 60), .ref (md 61), .ref (md 62), .ref (md 63), .int 0, .int 0, .int 0, .int 0, .int 0, .int 0, .ref (md 70), .int 0, .ref (md 72), .int 0, .int 400000, .int 0, .int 0]))]) hD hS hA [1] rfl
  refine va_calli (va_runV (As := [.int (xs 1), .int (xs 2), .int (xs 3), .int (xs 4)]) (rest := []) ⟨hx, hb, hml, hown, hts⟩ (g_p_splice l D H.size md mc (xs 1) (xs 2) (xs 3) (xs 4)) (cw_v 4 hts kw_1741 kw_1738 kw_1739 kw_1740 kw_11 rfl rfl (by decide +kernel) ⟨Nat.le_of_ble_eq_true rfl, Nat.le_of_ble_eq_true rfl⟩) ⟨g_blind, va_recv hKc hPc (ci := 12) (q0 := 0) rfl rfl, fun U hU hW => g_pre hU hW hPc hKc hDc⟩ rfl rfl hl.1 rfl (lv_room (Nat.le_of_ble_eq_true rfl)) d_law_784 ⟨Nat.le_of_ble_eq_true rfl, Nat.le_of_ble_eq_true rfl⟩) hS (fun q _ h => hFc q h) hFc (fun r_1 u_2 t H1 locs ht hvm hw hB hz1 hk1 hS => ?_)
  obtain ⟨hP1, hK1, hD1⟩ := hB
  rw [ht] at hP1
  have hK1 := va_K.moved hvm.symm hK1
  obtain ⟨hP, hD⟩ := va_join (wr := [(o, .inl (ac 7, 1, .inr (.inl u))), (md 39, .inl (mc 0, 8, .inl (fun _ => -1))), (md 1, .inl (mc 1, 8300, .inl (fun _ => 0))), (md 40, .inl (mc 1, 800000, .inl (fun _ => 0))), (md 72, .inl (mc 0, 12010, .inl (fun _ => 0)))]) (w1 := [(md 100, .inr (12, .int 1 :: u_2))]) hP hD [1] [0, 2, 3, 4, 5] rfl rfl (by decide) (by decide) hk1 hFc hP1 hD1
  generalize H1 = H at hP hS ⊢
  have hP : va_P D cls [(o, .inl (ac 7, 1, .inr (.inl u))), (md 39, .inl (mc 0, 8, .inl (fun _ => -1))), (md 1, .inl (mc 1, 8300, .inl (fun _ => 0))), (md 40, .inl (mc 1, 800000, .inl (fun _ => 0))), (md 72, .inl (mc 0, 12010, .inl (fun _ => 0))), (md 100, .inr (12, .int 1 :: u_2))] H := hP
  have hD : va_D A [(o, .inl (ac 7, 1, .inr (.inl u))), (md 39, .inl (mc 0, 8, .inl (fun _ => -1))), (md 1, .inl (mc 1, 8300, .inl (fun _ => 0))), (md 40, .inl (mc 1, 800000, .inl (fun _ => 0))), (md 72, .inl (mc 0, 12010, .inl (fun _ => 0))), (md 100, .inr (12, .int 1 :: u_2))] := hD
  refine W.cs (cells' := 637) (slots' := 1394880) rfl rfl ?_
  have hwm := hw
  refine lv_istore (lv' := [(6, .int r_1), (5, .int 1), (4, .int 0), (3, .ref o), (2, .ref (md 100)), (1, .ref (ad 0)), (0, .ref b)]) hx hb d_law_787 hl (by decide) rfl (fun ls hl => ?_)
  refine lv_aload_n hx hb d_law_789 rfl (lv_at hl 4 rfl) ?_
  have hPc := hP.sub (ws' := [(md 100, .inr (12, .int 1 :: u_2))]) [5] rfl
  have hDc := hD.sub (ws' := [(md 100, .inr (12, .int 1 :: u_2))]) [5] (by decide) rfl
  have hKc := hK.sub (tys' := []) [] rfl
  have hFc := va_free (wc := [(md 100, .inr (12, .int 1 :: u_2))]) hD hS hA [5] rfl
  refine va_calli (va_runV (As := []) (rest := []) ⟨hx, hb, hml, hown, hts⟩ (g_thr l D H.size md mc 1 u_2) (cw_v 0 hts kw_1618 kw_1615 kw_1616 kw_1617 kw_11 rfl rfl (by decide +kernel) ⟨Nat.le_of_ble_eq_true rfl, Nat.le_of_ble_eq_true rfl⟩) ⟨g_blind, va_recv hKc hPc (ci := 12) (q0 := 0) rfl rfl, fun U hU hW => g_pre hU hW hPc hKc hDc⟩ rfl rfl hl.1 rfl (lv_room (Nat.le_of_ble_eq_true rfl)) d_law_790 ⟨Nat.le_of_ble_eq_true rfl, Nat.le_of_ble_eq_true rfl⟩) hS (fun q _ h => hFc q h) hFc (fun r_3 u_4 t H1 locs ht hvm hw hB hz1 hk1 hS => ?_)
  obtain ⟨⟩ := u_4
  obtain ⟨hP1, hK1, hD1⟩ := hB
  rw [ht] at hP1
  have hK1 := va_K.moved hvm.symm hK1
  obtain ⟨hP, hD⟩ := va_join (wr := [(o, .inl (ac 7, 1, .inr (.inl u))), (md 39, .inl (mc 0, 8, .inl (fun _ => -1))), (md 1, .inl (mc 1, 8300, .inl (fun _ => 0))), (md 40, .inl (mc 1, 800000, .inl (fun _ => 0))), (md 72, .inl (mc 0, 12010, .inl (fun _ => 0)))]) (w1 := [(md 100, .inr (12, .int 1 :: u_2))]) hP hD [5] [0, 1, 2, 3, 4] rfl rfl (by decide) (by decide) hk1 hFc hP1 hD1
  generalize H1 = H at hP hS ⊢
  have hP : va_P D cls [(o, .inl (ac 7, 1, .inr (.inl u))), (md 39, .inl (mc 0, 8, .inl (fun _ => -1))), (md 1, .inl (mc 1, 8300, .inl (fun _ => 0))), (md 40, .inl (mc 1, 800000, .inl (fun _ => 0))), (md 72, .inl (mc 0, 12010, .inl (fun _ => 0))), (md 100, .inr (12, .int 1 :: u_2))] H := hP
  have hD : va_D A [(o, .inl (ac 7, 1, .inr (.inl u))), (md 39, .inl (mc 0, 8, .inl (fun _ => -1))), (md 1, .inl (mc 1, 8300, .inl (fun _ => 0))), (md 40, .inl (mc 1, 800000, .inl (fun _ => 0))), (md 72, .inl (mc 0, 12010, .inl (fun _ => 0))), (md 100, .inr (12, .int 1 :: u_2))] := hD
  refine W.cs (cells' := 637) (slots' := 1394880) rfl rfl ?_
  subst hw
  refine lv_iload hx hb d_law_793 (lv_at hl 1 rfl) ?_
  refine lv_icmp_eq (tgt := 800) hx hb d_law_795 (by decide) (fun _ => ?_) (fun h => absurd rfl h)
  refine lv_iload hx hb d_law_800 (lv_at hl 1 rfl) ?_
  refine lv_if_ne (tgt := 817) hx hb d_law_802 (by decide) (fun _ => ?_) (fun h => absurd h (by decide))
  refine lv_goto (tgt := 2391) hx hb d_law_817 (by decide) ?_
  exact law_tail l hx hb hr hlocks hX hbl hbA hT hS (lv_sub hl [2, 6] rfl) (by decide) (by decide)
theorem d_law_820 : decode code 820 = .ok (.aload_n 1, 1) := by decide +kernel
theorem d_law_821 : decode code 821 = .ok (.aload_n 0, 1) := by decide +kernel
theorem d_law_822 : decode code 822 = .ok (.iload 4, 2) := by decide +kernel
theorem d_law_824 : decode code 824 = .ok (.iconst 1, 1) := by decide +kernel
theorem d_law_825 : decode code 825 = .ok (.iadd, 1) := by decide +kernel
theorem d_law_826 : decode code 826 = .ok (.iaload, 1) := by decide +kernel
theorem d_law_827 : decode code 827 = .ok (.aload_n 0, 1) := by decide +kernel
theorem d_law_828 : decode code 828 = .ok (.iload 4, 2) := by decide +kernel
theorem d_law_830 : decode code 830 = .ok (.iconst 2, 1) := by decide +kernel
theorem d_law_831 : decode code 831 = .ok (.iadd, 1) := by decide +kernel
theorem d_law_832 : decode code 832 = .ok (.iaload, 1) := by decide +kernel
theorem d_law_833 : decode code 833 = .ok (.aload_n 0, 1) := by decide +kernel
theorem d_law_834 : decode code 834 = .ok (.iload 4, 2) := by decide +kernel
theorem d_law_836 : decode code 836 = .ok (.iconst 3, 1) := by decide +kernel
theorem d_law_837 : decode code 837 = .ok (.iadd, 1) := by decide +kernel
theorem d_law_838 : decode code 838 = .ok (.iaload, 1) := by decide +kernel
theorem d_law_839 : decode code 839 = .ok (.aload_n 3, 1) := by decide +kernel
theorem d_law_840 : decode code 840 = .ok (.invokestatic 145, 3) := by decide +kernel
theorem d_law_843 : decode code 843 = .ok (.istore 5, 2) := by decide +kernel
theorem d_law_845 : decode code 845 = .ok (.aload_n 2, 1) := by decide +kernel
theorem d_law_846 : decode code 846 = .ok (.aload_n 0, 1) := by decide +kernel
theorem d_law_847 : decode code 847 = .ok (.iload 4, 2) := by decide +kernel
theorem d_law_849 : decode code 849 = .ok (.iconst 1, 1) := by decide +kernel
theorem d_law_850 : decode code 850 = .ok (.iadd, 1) := by decide +kernel
theorem d_law_851 : decode code 851 = .ok (.iaload, 1) := by decide +kernel
theorem d_law_852 : decode code 852 = .ok (.aload_n 0, 1) := by decide +kernel
theorem d_law_853 : decode code 853 = .ok (.iload 4, 2) := by decide +kernel
theorem d_law_855 : decode code 855 = .ok (.iconst 2, 1) := by decide +kernel
theorem d_law_856 : decode code 856 = .ok (.iadd, 1) := by decide +kernel
theorem d_law_857 : decode code 857 = .ok (.iaload, 1) := by decide +kernel
theorem d_law_858 : decode code 858 = .ok (.aload_n 0, 1) := by decide +kernel
theorem d_law_859 : decode code 859 = .ok (.iload 4, 2) := by decide +kernel
theorem d_law_861 : decode code 861 = .ok (.iconst 3, 1) := by decide +kernel
theorem d_law_862 : decode code 862 = .ok (.iadd, 1) := by decide +kernel
theorem d_law_863 : decode code 863 = .ok (.iaload, 1) := by decide +kernel
theorem d_law_864 : decode code 864 = .ok (.invokevirtual 148, 3) := by decide +kernel
theorem d_law_867 : decode code 867 = .ok (.istore 6, 2) := by decide +kernel
theorem d_law_869 : decode code 869 = .ok (.aload_n 2, 1) := by decide +kernel
theorem d_law_870 : decode code 870 = .ok (.invokevirtual 120, 3) := by decide +kernel
theorem d_law_873 : decode code 873 = .ok (.iload 5, 2) := by decide +kernel
theorem d_law_875 : decode code 875 = .ok (.if_icmp .eq 5, 3) := by decide +kernel
theorem d_law_880 : decode code 880 = .ok (.iload 5, 2) := by decide +kernel
theorem d_law_882 : decode code 882 = .ok (.ifCond .ne 15, 3) := by decide +kernel
theorem d_law_897 : decode code 897 = .ok (.goto 1494, 3) := by decide +kernel
theorem d_law_885 : decode code 885 = .ok (.aload_n 3, 1) := by decide +kernel
theorem d_law_886 : decode code 886 = .ok (.iconst 0, 1) := by decide +kernel
theorem d_law_887 : decode code 887 = .ok (.laload, 1) := by decide +kernel
theorem d_law_888 : decode code 888 = .ok (.iload 6, 2) := by decide +kernel
theorem d_law_890 : decode code 890 = .ok (.i2l, 1) := by decide +kernel
theorem d_law_891 : decode code 891 = .ok (.lcmp, 1) := by decide +kernel
theorem d_law_892 : decode code 892 = .ok (.ifCond .eq 5, 3) := by decide +kernel
set_option maxHeartbeats 4000000 in
set_option maxRecDepth 100000 in
theorem law_c6 {p : Program} {e : Env} {s : State} {m : MethodId} {below : List Frame} {meth : Method} {c : Code} (l : Launch) (hfl : l.flags = flags0) {b : Nat} {xs : Nat → Int32} {D : va_G} {ad : Nat → Nat} {ac : Nat → ClassId} {md : Nat → Nat} {mc : Nat → ClassId} {o : Nat} {H : Heap} {locs : List Loc} {ls : Array Slot} (h : LwS p s m meth c b 7 xs D ad ac md mc o H locs ls) : W p l e room_1 s m #[Value.ref b] below meth c H locs 636 1394874 (lw_Z below #[Value.ref b] s) (F0 m 820 ls []) := by
  obtain ⟨hx, hb, hr, hml, hown, hts, hX, hbl, hlocks, hev, hP, hK, hD, hS, hl⟩ := h
  have hNS : tx_NS (lA s) s := fun q cell hq hc => absurd (Array.getElem?_eq_some_iff.mp hc).1 (Nat.not_lt.mpr hq)
  have hA : ∀ q : Nat, s.heap.size ≤ q → lA s q := fun _ h => h
  have hT : ∀ q : Nat, lA s q → s.heap.size ≤ q := fun _ h => h
  have hbA : ¬ lA s b := Nat.not_le.mpr hbl
  generalize lA s = A at hev hD hS hNS hA hT hbA
  refine lv_aload_n hx hb d_law_820 rfl (lv_at hl 3 rfl) ?_
  refine lv_aload_n hx hb d_law_821 rfl (lv_at hl 4 rfl) ?_
  refine lv_iload hx hb d_law_822 (lv_at hl 0 rfl) ?_
  refine lv_iconst (v := 1) hx hb d_law_824 (by decide) ?_
  refine lv_iadd hx hb d_law_825 ?_
  refine w_i (y := 1) (by decide) ?_
  refine va_sld hx hb hX hbl hbA hS (i := 1) (vp_in_nI (n := 1) (N := 7) (by decide) (by decide)) d_law_826 ?_
  refine w_i (y := xs 1) rfl ?_
  refine lv_aload_n hx hb d_law_827 rfl (lv_at hl 4 rfl) ?_
  refine lv_iload hx hb d_law_828 (lv_at hl 0 rfl) ?_
  refine lv_iconst (v := 2) hx hb d_law_830 (by decide) ?_
  refine lv_iadd hx hb d_law_831 ?_
  refine w_i (y := 2) (by decide) ?_
  refine va_sld hx hb hX hbl hbA hS (i := 2) (vp_in_nI (n := 2) (N := 7) (by decide) (by decide)) d_law_832 ?_
  refine w_i (y := xs 2) rfl ?_
  refine lv_aload_n hx hb d_law_833 rfl (lv_at hl 4 rfl) ?_
  refine lv_iload hx hb d_law_834 (lv_at hl 0 rfl) ?_
  refine lv_iconst (v := 3) hx hb d_law_836 (by decide) ?_
  refine lv_iadd hx hb d_law_837 ?_
  refine w_i (y := 3) (by decide) ?_
  refine va_sld hx hb hX hbl hbA hS (i := 3) (vp_in_nI (n := 3) (N := 7) (by decide) (by decide)) d_law_838 ?_
  refine w_i (y := xs 3) rfl ?_
  refine lv_aload_n hx hb d_law_839 rfl (lv_at hl 1 rfl) ?_
  have hPh := p_l hP
  have hDh := d_l hD
  have hKh := hK.sub (tys' := fxT ac) [0, 1, 2, 3, 4, 5, 6, 7] rfl
  have hFc := fr_all hDh hS hA
  refine va_calli (tx_runSW (As := [.ref (ad 0), .int (xs 1), .int (xs 2), .int (xs 3), .ref o]) (rest := []) ⟨hx, hb, hml, hown, hts⟩ (h_erase l hfl D ad ac (fun _ => 0) o (fun _ => 0) H.size (xs 1) (xs 2) (xs 3)) (cw_w 5 hts kw_835 kw_833 kw_834 kw_0 rfl rfl (by decide +kernel) ⟨Nat.le_of_ble_eq_true rfl, Nat.le_of_ble_eq_true rfl⟩) ⟨h_blind, fun U hU hW => h_pre hU hW hPh hKh hDh hev hNS hS hFc⟩ rfl rfl hl.1 rfl (lv_room (Nat.le_of_ble_eq_true rfl)) d_law_840 ⟨Nat.le_of_ble_eq_true rfl, Nat.le_of_ble_eq_true rfl⟩) hS (fun q _ h => hFc q h) hFc (fun rz u t H1 locs ht hvm hw hB hz1 hk1 hS => ?_)
  obtain ⟨hP1, -, -⟩ := hB
  rw [ht] at hP1
  obtain ⟨hw1, hw2⟩ := hw
  subst hw1
  have hP := hP1.app (p_keep hP hD hk1)
  have hD := d_oc hD (e' := .inl (ac 7, 1, .inr (.inl u)))
  generalize H1 = H at hP hS ⊢
  have hP : va_P D cls [(o, .inl (ac 7, 1, .inr (.inl u))), (md 100, .inr (12, [.int 0, .ref (md 1), .ref (md 2), .ref (md 3), .int 0, .int 0, .int 0, .int 0, .ref (md 8), .ref (md 9), .ref (md 10), .ref (md 11), .ref (md 12), .ref (md 13), .ref (md 14), .ref (md 15), .ref (md 16), .ref (md 17), .ref (md 18), .ref (md 19), .ref (md 20), .ref (md 21), .ref (md 22), .int 0, .ref (md 24), .int 0, .ref (md 26), .int 0, .ref (md 28), .ref (md 29), .ref (md 30), .ref (md 31), .ref (md 32), .ref (md 33), .int 0, .int 0, .ref (md 36), .ref (md 37), .ref (md 38), .ref (md 39), .ref (md 40), .int 0, .int (-1), .int 0, .ref (md 44), .ref (md 45), .ref (md 46), .int 0, .ref (md 48), .ref (md 49), .int 0, .ref (md 51), .int 0, .ref (md 53), .ref (md 54), .ref (md 55), .ref (md 56), .ref (md 57), .ref (md 58), .ref (md 59), .ref (md 60), .ref (md 61), .ref (md 62), .ref (md 63), .int 0, .int 0, .int 0, .int 0, .int 0, .int 0, .ref (md 70), .int 0, .ref (md 72), .int 0, .int 400000, .int 0, .int 0])), (md 39, .inl (mc 0, 8, .inl (fun _ => -1))), (md 1, .inl (mc 1, 8300, .inl (fun _ => 0))), (md 40, .inl (mc 1, 800000, .inl (fun _ => 0))), (md 72, .inl (mc 0, 12010, .inl (fun _ => 0)))] H := hP
  have hD : va_D A [(o, .inl (ac 7, 1, .inr (.inl u))), (md 100, .inr (12, [.int 0, .ref (md 1), .ref (md 2), .ref (md 3), .int 0, .int 0, .int 0, .int 0, .ref (md 8), .ref (md 9), .ref (md 10), .ref (md 11), .ref (md 12), .ref (md 13), .ref (md 14), .ref (md 15), .ref (md 16), .ref (md 17), .ref (md 18), .ref (md 19), .ref (md 20), .ref (md 21), .ref (md 22), .int 0, .ref (md 24), .int 0, .ref (md 26), .int 0, .ref (md 28), .ref (md 29), .ref (md 30), .ref (md 31), .ref (md 32), .ref (md 33), .int 0, .int 0, .ref (md 36), .ref (md 37), .ref (md 38), .ref (md 39), .ref (md 40), .int 0, .int (-1), .int 0, .ref (md 44), .ref (md 45), .ref (md 46), .int 0, .ref (md 48), .ref (md 49), .int 0, .ref (md 51), .int 0, .ref (md 53), .ref (md 54), .ref (md 55), .ref (md 56), .ref (md 57), .ref (md 58), .ref (md 59), .ref (md 60), .ref (md 61), .ref (md 62), .ref (md 63), .int 0, .int 0, .int 0, .int 0, .int 0, .int 0, .ref (md 70), .int 0, .ref (md 72), .int 0, .int 400000, .int 0, .int 0])), (md 39, .inl (mc 0, 8, .inl (fun _ => -1))), (md 1, .inl (mc 1, 8300, .inl (fun _ => 0))), (md 40, .inl (mc 1, 800000, .inl (fun _ => 0))), (md 72, .inl (mc 0, 12010, .inl (fun _ => 0)))] := hD
  refine W.cs (cells' := 637) (slots' := 1394880) rfl rfl ?_
  refine lv_istore (lv' := [(5, .int (k_era (xs 1) (xs 2) (xs 3))), (4, .int 0), (3, .ref o), (2, .ref (md 100)), (1, .ref (ad 0)), (0, .ref b)]) hx hb d_law_843 hl (by decide) rfl (fun ls hl => ?_)
  refine lv_aload_n hx hb d_law_845 rfl (lv_at hl 3 rfl) ?_
  refine lv_aload_n hx hb d_law_846 rfl (lv_at hl 5 rfl) ?_
  refine lv_iload hx hb d_law_847 (lv_at hl 1 rfl) ?_
  refine lv_iconst (v := 1) hx hb d_law_849 (by decide) ?_
  refine lv_iadd hx hb d_law_850 ?_
  refine w_i (y := 1) (by decide) ?_
  refine va_sld hx hb hX hbl hbA hS (i := 1) (vp_in_nI (n := 1) (N := 7) (by decide) (by decide)) d_law_851 ?_
  refine w_i (y := xs 1) rfl ?_
  refine lv_aload_n hx hb d_law_852 rfl (lv_at hl 5 rfl) ?_
  refine lv_iload hx hb d_law_853 (lv_at hl 1 rfl) ?_
  refine lv_iconst (v := 2) hx hb d_law_855 (by decide) ?_
  refine lv_iadd hx hb d_law_856 ?_
  refine w_i (y := 2) (by decide) ?_
  refine va_sld hx hb hX hbl hbA hS (i := 2) (vp_in_nI (n := 2) (N := 7) (by decide) (by decide)) d_law_857 ?_
  refine w_i (y := xs 2) rfl ?_
  refine lv_aload_n hx hb d_law_858 rfl (lv_at hl 5 rfl) ?_
  refine lv_iload hx hb d_law_859 (lv_at hl 1 rfl) ?_
  refine lv_iconst (v := 3) hx hb d_law_861 (by decide) ?_
  refine lv_iadd hx hb d_law_862 ?_
  refine w_i (y := 3) (by decide) ?_
  refine va_sld hx hb hX hbl hbA hS (i := 3) (vp_in_nI (n := 3) (N := 7) (by decide) (by decide)) d_law_863 ?_
  refine w_i (y := xs 3) rfl ?_
  have hPc := hP.sub (ws' := [(md 100, .inr (12, [.int 0, .ref (md 1), .ref (md 2), .ref (md 3), .int 0, .int 0, .int 0, .int 0, .ref (md 8), .ref (md 9), .ref (md 10), .ref (md 11), .ref (md 12), .ref (md 13), .ref (md 14), .ref (md 15), .ref (md 16), .ref (md 17), .ref (md 18), .ref (md 19), .ref (md 20), .ref (md 21), .ref (md 22), .int 0, .ref (md 24), .int 0, .ref (md 26), .int 0, .ref (md 28), .ref (md 29), .ref (md 30), .ref (md 31), .ref (md 32), .ref (md 33), .int 0, .int 0, .ref (md 36), .ref (md 37), .ref (md 38), .ref (md 39), .ref (md 40), .int 0, .int (-1), .int 0, .ref (md 44), .ref (md 45), .ref (md 46), .int 0, .ref (md 48), .ref (md 49), .int 0, .ref (md 51), .int 0, .ref (md 53), .ref (md 54), .ref (md 55), .ref (md 56), .ref (md 57), .ref (md 58), .ref (md 59), .ref (md 60), .ref (md 61), .ref (md 62), .ref (md 63), .int 0, .int 0, .int 0, .int 0, .int 0, .int 0, .ref (md 70), .int 0, .ref (md 72), .int 0, .int 400000, .int 0, .int 0]))]) [1] rfl
  have hDc := hD.sub (ws' := [(md 100, .inr (12, [.int 0, .ref (md 1), .ref (md 2), .ref (md 3), .int 0, .int 0, .int 0, .int 0, .ref (md 8), .ref (md 9), .ref (md 10), .ref (md 11), .ref (md 12), .ref (md 13), .ref (md 14), .ref (md 15), .ref (md 16), .ref (md 17), .ref (md 18), .ref (md 19), .ref (md 20), .ref (md 21), .ref (md 22), .int 0, .ref (md 24), .int 0, .ref (md 26), .int 0, .ref (md 28), .ref (md 29), .ref (md 30), .ref (md 31), .ref (md 32), .ref (md 33), .int 0, .int 0, .ref (md 36), .ref (md 37), .ref (md 38), .ref (md 39), .ref (md 40), .int 0, .int (-1), .int 0, .ref (md 44), .ref (md 45), .ref (md 46), .int 0, .ref (md 48), .ref (md 49), .int 0, .ref (md 51), .int 0, .ref (md 53), .ref (md 54), .ref (md 55), .ref (md 56), .ref (md 57), .ref (md 58), .ref (md 59), .ref (md 60), .ref (md 61), .ref (md 62), .ref (md 63), .int 0, .int 0, .int 0, .int 0, .int 0, .int 0, .ref (md 70), .int 0, .ref (md 72), .int 0, .int 400000, .int 0, .int 0]))]) [1] (by decide) rfl
  have hKc := hK.sub (tys' := []) [] rfl
  have hFc := va_free (wc := [(md 100, .inr (12, [.int 0, .ref (md 1), .ref (md 2), .ref (md 3), .int 0, .int 0, .int 0, .int 0, .ref (md 8), .ref (md 9), .ref (md 10), .ref (md 11), .ref (md 12), .ref (md 13), .ref (md 14), .ref (md 15), .ref (md 16), .ref (md 17), .ref (md 18), .ref (md 19), .ref (md 20), .ref (md 21), .ref (md 22), .int 0, .ref (md 24), .int 0, .ref (md 26), .int 0, .ref (md 28), .ref (md 29), .ref (md 30), .ref (md 31), .ref (md 32), .ref (md 33), .int 0, .int 0, .ref (md 36), .ref (md 37), .ref (md 38), .ref (md 39), .ref (md 40), .int 0, .int (-1), .int 0, .ref (md 44), .ref (md 45), .ref (md 46), .int 0, .ref (md 48), .ref (md 49), .int 0, .ref (md 51), .int 0, .ref (md 53), .ref (md 54), .ref (md 55), .ref (md 56), .ref (md 57), .ref (md 58), .ref (md 59), .ref (md 60), .ref (md 61), .ref (md 62), .ref (md 63), .int 0, .int 0, .int 0, .int 0, .int 0, .int 0, .ref (md 70), .int 0, .ref (md 72), .int 0, .int 400000, .int 0, .int 0]))]) hD hS hA [1] rfl
  refine va_calli (va_runV (As := [.int (xs 1), .int (xs 2), .int (xs 3)]) (rest := []) ⟨hx, hb, hml, hown, hts⟩ (g_p_erase l D H.size md mc (xs 1) (xs 2) (xs 3)) (cw_v 3 hts kw_1745 kw_1742 kw_1743 kw_1744 kw_11 rfl rfl (by decide +kernel) ⟨Nat.le_of_ble_eq_true rfl, Nat.le_of_ble_eq_true rfl⟩) ⟨g_blind, va_recv hKc hPc (ci := 12) (q0 := 0) rfl rfl, fun U hU hW => g_pre hU hW hPc hKc hDc⟩ rfl rfl hl.1 rfl (lv_room (Nat.le_of_ble_eq_true rfl)) d_law_864 ⟨Nat.le_of_ble_eq_true rfl, Nat.le_of_ble_eq_true rfl⟩) hS (fun q _ h => hFc q h) hFc (fun r_1 u_2 t H1 locs ht hvm hw hB hz1 hk1 hS => ?_)
  obtain ⟨hP1, hK1, hD1⟩ := hB
  rw [ht] at hP1
  have hK1 := va_K.moved hvm.symm hK1
  obtain ⟨hP, hD⟩ := va_join (wr := [(o, .inl (ac 7, 1, .inr (.inl u))), (md 39, .inl (mc 0, 8, .inl (fun _ => -1))), (md 1, .inl (mc 1, 8300, .inl (fun _ => 0))), (md 40, .inl (mc 1, 800000, .inl (fun _ => 0))), (md 72, .inl (mc 0, 12010, .inl (fun _ => 0)))]) (w1 := [(md 100, .inr (12, .int (k_era (xs 1) (xs 2) (xs 3)) :: u_2))]) hP hD [1] [0, 2, 3, 4, 5] rfl rfl (by decide) (by decide) hk1 hFc hP1 hD1
  generalize H1 = H at hP hS ⊢
  have hP : va_P D cls [(o, .inl (ac 7, 1, .inr (.inl u))), (md 39, .inl (mc 0, 8, .inl (fun _ => -1))), (md 1, .inl (mc 1, 8300, .inl (fun _ => 0))), (md 40, .inl (mc 1, 800000, .inl (fun _ => 0))), (md 72, .inl (mc 0, 12010, .inl (fun _ => 0))), (md 100, .inr (12, .int (k_era (xs 1) (xs 2) (xs 3)) :: u_2))] H := hP
  have hD : va_D A [(o, .inl (ac 7, 1, .inr (.inl u))), (md 39, .inl (mc 0, 8, .inl (fun _ => -1))), (md 1, .inl (mc 1, 8300, .inl (fun _ => 0))), (md 40, .inl (mc 1, 800000, .inl (fun _ => 0))), (md 72, .inl (mc 0, 12010, .inl (fun _ => 0))), (md 100, .inr (12, .int (k_era (xs 1) (xs 2) (xs 3)) :: u_2))] := hD
  refine W.cs (cells' := 637) (slots' := 1394880) rfl rfl ?_
  have hwm := hw
  refine lv_istore (lv' := [(6, .int r_1), (5, .int (k_era (xs 1) (xs 2) (xs 3))), (4, .int 0), (3, .ref o), (2, .ref (md 100)), (1, .ref (ad 0)), (0, .ref b)]) hx hb d_law_867 hl (by decide) rfl (fun ls hl => ?_)
  refine lv_aload_n hx hb d_law_869 rfl (lv_at hl 4 rfl) ?_
  have hPc := hP.sub (ws' := [(md 100, .inr (12, .int (k_era (xs 1) (xs 2) (xs 3)) :: u_2))]) [5] rfl
  have hDc := hD.sub (ws' := [(md 100, .inr (12, .int (k_era (xs 1) (xs 2) (xs 3)) :: u_2))]) [5] (by decide) rfl
  have hKc := hK.sub (tys' := []) [] rfl
  have hFc := va_free (wc := [(md 100, .inr (12, .int (k_era (xs 1) (xs 2) (xs 3)) :: u_2))]) hD hS hA [5] rfl
  refine va_calli (va_runV (As := []) (rest := []) ⟨hx, hb, hml, hown, hts⟩ (g_thr l D H.size md mc (k_era (xs 1) (xs 2) (xs 3)) u_2) (cw_v 0 hts kw_1618 kw_1615 kw_1616 kw_1617 kw_11 rfl rfl (by decide +kernel) ⟨Nat.le_of_ble_eq_true rfl, Nat.le_of_ble_eq_true rfl⟩) ⟨g_blind, va_recv hKc hPc (ci := 12) (q0 := 0) rfl rfl, fun U hU hW => g_pre hU hW hPc hKc hDc⟩ rfl rfl hl.1 rfl (lv_room (Nat.le_of_ble_eq_true rfl)) d_law_870 ⟨Nat.le_of_ble_eq_true rfl, Nat.le_of_ble_eq_true rfl⟩) hS (fun q _ h => hFc q h) hFc (fun r_3 u_4 t H1 locs ht hvm hw hB hz1 hk1 hS => ?_)
  obtain ⟨⟩ := u_4
  obtain ⟨hP1, hK1, hD1⟩ := hB
  rw [ht] at hP1
  have hK1 := va_K.moved hvm.symm hK1
  obtain ⟨hP, hD⟩ := va_join (wr := [(o, .inl (ac 7, 1, .inr (.inl u))), (md 39, .inl (mc 0, 8, .inl (fun _ => -1))), (md 1, .inl (mc 1, 8300, .inl (fun _ => 0))), (md 40, .inl (mc 1, 800000, .inl (fun _ => 0))), (md 72, .inl (mc 0, 12010, .inl (fun _ => 0)))]) (w1 := [(md 100, .inr (12, .int (k_era (xs 1) (xs 2) (xs 3)) :: u_2))]) hP hD [5] [0, 1, 2, 3, 4] rfl rfl (by decide) (by decide) hk1 hFc hP1 hD1
  generalize H1 = H at hP hS ⊢
  have hP : va_P D cls [(o, .inl (ac 7, 1, .inr (.inl u))), (md 39, .inl (mc 0, 8, .inl (fun _ => -1))), (md 1, .inl (mc 1, 8300, .inl (fun _ => 0))), (md 40, .inl (mc 1, 800000, .inl (fun _ => 0))), (md 72, .inl (mc 0, 12010, .inl (fun _ => 0))), (md 100, .inr (12, .int (k_era (xs 1) (xs 2) (xs 3)) :: u_2))] H := hP
  have hD : va_D A [(o, .inl (ac 7, 1, .inr (.inl u))), (md 39, .inl (mc 0, 8, .inl (fun _ => -1))), (md 1, .inl (mc 1, 8300, .inl (fun _ => 0))), (md 40, .inl (mc 1, 800000, .inl (fun _ => 0))), (md 72, .inl (mc 0, 12010, .inl (fun _ => 0))), (md 100, .inr (12, .int (k_era (xs 1) (xs 2) (xs 3)) :: u_2))] := hD
  refine W.cs (cells' := 637) (slots' := 1394880) rfl rfl ?_
  subst hw
  refine lv_iload hx hb d_law_873 (lv_at hl 1 rfl) ?_
  refine lv_icmp_eq (tgt := 880) hx hb d_law_875 (by decide) (fun _ => ?_) (fun h => absurd rfl h)
  refine lv_iload hx hb d_law_880 (lv_at hl 1 rfl) ?_
  refine lv_if_ne (tgt := 897) hx hb d_law_882 (by decide) (fun c_5 => ?_) (fun c_5 => ?_)
  · refine lv_goto (tgt := 2391) hx hb d_law_897 (by decide) ?_
    exact law_tail l hx hb hr hlocks hX hbl hbA hT hS (lv_sub hl [2, 6] rfl) (by decide) (by decide)
  · refine lv_aload_n hx hb d_law_885 rfl (lv_at hl 3 rfl) ?_
    refine lv_iconst (v := 0) hx hb d_law_886 (by decide) ?_
    refine va_lald hx hb hK hP 0 7 rfl rfl (i := 0) (vp_in_nI (n := 0) (N := 1) (by decide) (by decide)) d_law_887 ?_
    refine w_l (y := 0) (hw2 c_5) ?_
    refine lv_iload hx hb d_law_888 (lv_at hl 0 rfl) ?_
    refine lv_i2l hx hb d_law_890 rfl ?_
    refine w_l (y := 0) (by first | (rw [hwm c_5]; done) | (rw [hwm c_5]; rfl) | (rw [hwm c_5]; decide)) ?_
    refine W.lcmp hx hb d_law_891 ?_
    refine w_i (y := 0) (by simp [lg_cmp]) ?_
    refine lv_if_eq (tgt := 897) hx hb d_law_892 (by decide) (fun _ => ?_) (fun h => absurd h (by decide))
    refine lv_goto (tgt := 2391) hx hb d_law_897 (by decide) ?_
    exact law_tail l hx hb hr hlocks hX hbl hbA hT hS (lv_sub hl [2, 6] rfl) (by decide) (by decide)
theorem d_law_900 : decode code 900 = .ok (.aload_n 1, 1) := by decide +kernel
theorem d_law_901 : decode code 901 = .ok (.aload_n 0, 1) := by decide +kernel
theorem d_law_902 : decode code 902 = .ok (.iload 4, 2) := by decide +kernel
theorem d_law_904 : decode code 904 = .ok (.iconst 1, 1) := by decide +kernel
theorem d_law_905 : decode code 905 = .ok (.iadd, 1) := by decide +kernel
theorem d_law_906 : decode code 906 = .ok (.iaload, 1) := by decide +kernel
theorem d_law_907 : decode code 907 = .ok (.aload_n 0, 1) := by decide +kernel
theorem d_law_908 : decode code 908 = .ok (.iload 4, 2) := by decide +kernel
theorem d_law_910 : decode code 910 = .ok (.iconst 2, 1) := by decide +kernel
theorem d_law_911 : decode code 911 = .ok (.iadd, 1) := by decide +kernel
theorem d_law_912 : decode code 912 = .ok (.iaload, 1) := by decide +kernel
theorem d_law_913 : decode code 913 = .ok (.aload_n 0, 1) := by decide +kernel
theorem d_law_914 : decode code 914 = .ok (.iload 4, 2) := by decide +kernel
theorem d_law_916 : decode code 916 = .ok (.iconst 3, 1) := by decide +kernel
theorem d_law_917 : decode code 917 = .ok (.iadd, 1) := by decide +kernel
theorem d_law_918 : decode code 918 = .ok (.iaload, 1) := by decide +kernel
theorem d_law_919 : decode code 919 = .ok (.aload_n 0, 1) := by decide +kernel
theorem d_law_920 : decode code 920 = .ok (.iload 4, 2) := by decide +kernel
theorem d_law_922 : decode code 922 = .ok (.iconst 4, 1) := by decide +kernel
theorem d_law_923 : decode code 923 = .ok (.iadd, 1) := by decide +kernel
theorem d_law_924 : decode code 924 = .ok (.iaload, 1) := by decide +kernel
theorem d_law_925 : decode code 925 = .ok (.i2l, 1) := by decide +kernel
theorem d_law_926 : decode code 926 = .ok (.bipush 32, 2) := by decide +kernel
theorem d_law_928 : decode code 928 = .ok (.lshl, 1) := by decide +kernel
theorem d_law_929 : decode code 929 = .ok (.aload_n 0, 1) := by decide +kernel
theorem d_law_930 : decode code 930 = .ok (.iload 4, 2) := by decide +kernel
theorem d_law_932 : decode code 932 = .ok (.iconst 5, 1) := by decide +kernel
theorem d_law_933 : decode code 933 = .ok (.iadd, 1) := by decide +kernel
theorem d_law_934 : decode code 934 = .ok (.iaload, 1) := by decide +kernel
theorem d_law_935 : decode code 935 = .ok (.i2l, 1) := by decide +kernel
theorem d_law_936 : decode code 936 = .ok (.ldc2_w 128, 3) := by decide +kernel
theorem d_law_939 : decode code 939 = .ok (.land, 1) := by decide +kernel
theorem d_law_940 : decode code 940 = .ok (.lor, 1) := by decide +kernel
theorem d_law_941 : decode code 941 = .ok (.aload_n 3, 1) := by decide +kernel
theorem d_law_942 : decode code 942 = .ok (.invokestatic 149, 3) := by decide +kernel
theorem d_law_945 : decode code 945 = .ok (.istore 5, 2) := by decide +kernel
theorem d_law_947 : decode code 947 = .ok (.aload_n 2, 1) := by decide +kernel
theorem d_law_948 : decode code 948 = .ok (.aload_n 0, 1) := by decide +kernel
theorem d_law_949 : decode code 949 = .ok (.iload 4, 2) := by decide +kernel
theorem d_law_951 : decode code 951 = .ok (.iconst 1, 1) := by decide +kernel
theorem d_law_952 : decode code 952 = .ok (.iadd, 1) := by decide +kernel
theorem d_law_953 : decode code 953 = .ok (.iaload, 1) := by decide +kernel
theorem d_law_954 : decode code 954 = .ok (.aload_n 0, 1) := by decide +kernel
theorem d_law_955 : decode code 955 = .ok (.iload 4, 2) := by decide +kernel
theorem d_law_957 : decode code 957 = .ok (.iconst 2, 1) := by decide +kernel
theorem d_law_958 : decode code 958 = .ok (.iadd, 1) := by decide +kernel
theorem d_law_959 : decode code 959 = .ok (.iaload, 1) := by decide +kernel
theorem d_law_960 : decode code 960 = .ok (.aload_n 0, 1) := by decide +kernel
theorem d_law_961 : decode code 961 = .ok (.iload 4, 2) := by decide +kernel
theorem d_law_963 : decode code 963 = .ok (.iconst 3, 1) := by decide +kernel
theorem d_law_964 : decode code 964 = .ok (.iadd, 1) := by decide +kernel
theorem d_law_965 : decode code 965 = .ok (.iaload, 1) := by decide +kernel
theorem d_law_966 : decode code 966 = .ok (.aload_n 0, 1) := by decide +kernel
theorem d_law_967 : decode code 967 = .ok (.iload 4, 2) := by decide +kernel
theorem d_law_969 : decode code 969 = .ok (.iconst 4, 1) := by decide +kernel
theorem d_law_970 : decode code 970 = .ok (.iadd, 1) := by decide +kernel
theorem d_law_971 : decode code 971 = .ok (.iaload, 1) := by decide +kernel
theorem d_law_972 : decode code 972 = .ok (.i2l, 1) := by decide +kernel
theorem d_law_973 : decode code 973 = .ok (.bipush 32, 2) := by decide +kernel
theorem d_law_975 : decode code 975 = .ok (.lshl, 1) := by decide +kernel
theorem d_law_976 : decode code 976 = .ok (.aload_n 0, 1) := by decide +kernel
theorem d_law_977 : decode code 977 = .ok (.iload 4, 2) := by decide +kernel
theorem d_law_979 : decode code 979 = .ok (.iconst 5, 1) := by decide +kernel
theorem d_law_980 : decode code 980 = .ok (.iadd, 1) := by decide +kernel
theorem d_law_981 : decode code 981 = .ok (.iaload, 1) := by decide +kernel
theorem d_law_982 : decode code 982 = .ok (.i2l, 1) := by decide +kernel
theorem d_law_983 : decode code 983 = .ok (.ldc2_w 128, 3) := by decide +kernel
theorem d_law_986 : decode code 986 = .ok (.land, 1) := by decide +kernel
theorem d_law_987 : decode code 987 = .ok (.lor, 1) := by decide +kernel
theorem d_law_988 : decode code 988 = .ok (.invokevirtual 151, 3) := by decide +kernel
theorem d_law_991 : decode code 991 = .ok (.istore 6, 2) := by decide +kernel
theorem d_law_993 : decode code 993 = .ok (.aload_n 2, 1) := by decide +kernel
theorem d_law_994 : decode code 994 = .ok (.invokevirtual 120, 3) := by decide +kernel
theorem d_law_997 : decode code 997 = .ok (.iload 5, 2) := by decide +kernel
theorem d_law_999 : decode code 999 = .ok (.if_icmp .eq 5, 3) := by decide +kernel
theorem d_law_1004 : decode code 1004 = .ok (.iload 5, 2) := by decide +kernel
theorem d_law_1006 : decode code 1006 = .ok (.ifCond .ne 15, 3) := by decide +kernel
theorem d_law_1021 : decode code 1021 = .ok (.goto 1370, 3) := by decide +kernel
theorem d_law_1009 : decode code 1009 = .ok (.aload_n 3, 1) := by decide +kernel
theorem d_law_1010 : decode code 1010 = .ok (.iconst 0, 1) := by decide +kernel
theorem d_law_1011 : decode code 1011 = .ok (.laload, 1) := by decide +kernel
theorem d_law_1012 : decode code 1012 = .ok (.iload 6, 2) := by decide +kernel
theorem d_law_1014 : decode code 1014 = .ok (.i2l, 1) := by decide +kernel
theorem d_law_1015 : decode code 1015 = .ok (.lcmp, 1) := by decide +kernel
theorem d_law_1016 : decode code 1016 = .ok (.ifCond .eq 5, 3) := by decide +kernel
set_option maxHeartbeats 4000000 in
set_option maxRecDepth 100000 in
theorem law_c7 {p : Program} {e : Env} {s : State} {m : MethodId} {below : List Frame} {meth : Method} {c : Code} (l : Launch) (hfl : l.flags = flags0) {b : Nat} {xs : Nat → Int32} {D : va_G} {ad : Nat → Nat} {ac : Nat → ClassId} {md : Nat → Nat} {mc : Nat → ClassId} {o : Nat} {H : Heap} {locs : List Loc} {ls : Array Slot} (h : LwS p s m meth c b 7 xs D ad ac md mc o H locs ls) : W p l e room_1 s m #[Value.ref b] below meth c H locs 636 1394874 (lw_Z below #[Value.ref b] s) (F0 m 900 ls []) := by
  obtain ⟨hx, hb, hr, hml, hown, hts, hX, hbl, hlocks, hev, hP, hK, hD, hS, hl⟩ := h
  have hNS : tx_NS (lA s) s := fun q cell hq hc => absurd (Array.getElem?_eq_some_iff.mp hc).1 (Nat.not_lt.mpr hq)
  have hA : ∀ q : Nat, s.heap.size ≤ q → lA s q := fun _ h => h
  have hT : ∀ q : Nat, lA s q → s.heap.size ≤ q := fun _ h => h
  have hbA : ¬ lA s b := Nat.not_le.mpr hbl
  generalize lA s = A at hev hD hS hNS hA hT hbA
  refine lv_aload_n hx hb d_law_900 rfl (lv_at hl 3 rfl) ?_
  refine lv_aload_n hx hb d_law_901 rfl (lv_at hl 4 rfl) ?_
  refine lv_iload hx hb d_law_902 (lv_at hl 0 rfl) ?_
  refine lv_iconst (v := 1) hx hb d_law_904 (by decide) ?_
  refine lv_iadd hx hb d_law_905 ?_
  refine w_i (y := 1) (by decide) ?_
  refine va_sld hx hb hX hbl hbA hS (i := 1) (vp_in_nI (n := 1) (N := 7) (by decide) (by decide)) d_law_906 ?_
  refine w_i (y := xs 1) rfl ?_
  refine lv_aload_n hx hb d_law_907 rfl (lv_at hl 4 rfl) ?_
  refine lv_iload hx hb d_law_908 (lv_at hl 0 rfl) ?_
  refine lv_iconst (v := 2) hx hb d_law_910 (by decide) ?_
  refine lv_iadd hx hb d_law_911 ?_
  refine w_i (y := 2) (by decide) ?_
  refine va_sld hx hb hX hbl hbA hS (i := 2) (vp_in_nI (n := 2) (N := 7) (by decide) (by decide)) d_law_912 ?_
  refine w_i (y := xs 2) rfl ?_
  refine lv_aload_n hx hb d_law_913 rfl (lv_at hl 4 rfl) ?_
  refine lv_iload hx hb d_law_914 (lv_at hl 0 rfl) ?_
  refine lv_iconst (v := 3) hx hb d_law_916 (by decide) ?_
  refine lv_iadd hx hb d_law_917 ?_
  refine w_i (y := 3) (by decide) ?_
  refine va_sld hx hb hX hbl hbA hS (i := 3) (vp_in_nI (n := 3) (N := 7) (by decide) (by decide)) d_law_918 ?_
  refine w_i (y := xs 3) rfl ?_
  refine lv_aload_n hx hb d_law_919 rfl (lv_at hl 4 rfl) ?_
  refine lv_iload hx hb d_law_920 (lv_at hl 0 rfl) ?_
  refine lv_iconst (v := 4) hx hb d_law_922 (by decide) ?_
  refine lv_iadd hx hb d_law_923 ?_
  refine w_i (y := 4) (by decide) ?_
  refine va_sld hx hb hX hbl hbA hS (i := 4) (vp_in_nI (n := 4) (N := 7) (by decide) (by decide)) d_law_924 ?_
  refine w_i (y := xs 4) rfl ?_
  refine lv_i2l hx hb d_law_925 rfl ?_
  refine lv_topl (fun x_1 ex_1 => ?_)
  refine lv_bipush (v := 32) hx hb d_law_926 (by decide) ?_
  refine lv_lshl hx hb d_law_928 rfl ?_
  refine lv_topl (fun x_2 ex_2 => ?_)
  refine lv_aload_n hx hb d_law_929 rfl (lv_at hl 4 rfl) ?_
  refine lv_iload hx hb d_law_930 (lv_at hl 0 rfl) ?_
  refine lv_iconst (v := 5) hx hb d_law_932 (by decide) ?_
  refine lv_iadd hx hb d_law_933 ?_
  refine w_i (y := 5) (by decide) ?_
  refine va_sld hx hb hX hbl hbA hS (i := 5) (vp_in_nI (n := 5) (N := 7) (by decide) (by decide)) d_law_934 ?_
  refine w_i (y := xs 5) rfl ?_
  refine lv_i2l hx hb d_law_935 rfl ?_
  refine lv_topl (fun x_3 ex_3 => ?_)
  refine lv_ldc2 (v := 4294967295) hx hb hown (hts _ kw_2007) d_law_936 ?_
  refine lv_land hx hb d_law_939 ?_
  refine lv_topl (fun x_4 ex_4 => ?_)
  refine lv_lor hx hb d_law_940 ?_
  refine lv_topl (fun x_5 ex_5 => ?_)
  refine lv_aload_n hx hb d_law_941 rfl (lv_at hl 1 rfl) ?_
  have hPh := p_l hP
  have hDh := d_l hD
  have hKh := hK.sub (tys' := fxT ac) [0, 1, 2, 3, 4, 5, 6, 7] rfl
  have hFc := fr_all hDh hS hA
  refine va_calli (tx_runSW (As := [.ref (ad 0), .int (xs 1), .int (xs 2), .int (xs 3), .long x_5, .ref o]) (rest := []) ⟨hx, hb, hml, hown, hts⟩ (h_add l hfl D ad ac (fun _ => 0) o (fun _ => 0) H.size (xs 1) (xs 2) (xs 3) x_5) (cw_w 6 hts kw_850 kw_848 kw_849 kw_0 rfl rfl (by decide +kernel) ⟨Nat.le_of_ble_eq_true rfl, Nat.le_of_ble_eq_true rfl⟩) ⟨h_blind, fun U hU hW => h_pre hU hW hPh hKh hDh hev hNS hS hFc⟩ rfl rfl hl.1 rfl (lv_room (Nat.le_of_ble_eq_true rfl)) d_law_942 ⟨Nat.le_of_ble_eq_true rfl, Nat.le_of_ble_eq_true rfl⟩) hS (fun q _ h => hFc q h) hFc (fun rz u t H1 locs ht hvm hw hB hz1 hk1 hS => ?_)
  obtain ⟨hP1, -, -⟩ := hB
  rw [ht] at hP1
  obtain ⟨hw1, hw2⟩ := hw
  subst hw1
  have hP := hP1.app (p_keep hP hD hk1)
  have hD := d_oc hD (e' := .inl (ac 7, 1, .inr (.inl u)))
  generalize H1 = H at hP hS ⊢
  have hP : va_P D cls [(o, .inl (ac 7, 1, .inr (.inl u))), (md 100, .inr (12, [.int 0, .ref (md 1), .ref (md 2), .ref (md 3), .int 0, .int 0, .int 0, .int 0, .ref (md 8), .ref (md 9), .ref (md 10), .ref (md 11), .ref (md 12), .ref (md 13), .ref (md 14), .ref (md 15), .ref (md 16), .ref (md 17), .ref (md 18), .ref (md 19), .ref (md 20), .ref (md 21), .ref (md 22), .int 0, .ref (md 24), .int 0, .ref (md 26), .int 0, .ref (md 28), .ref (md 29), .ref (md 30), .ref (md 31), .ref (md 32), .ref (md 33), .int 0, .int 0, .ref (md 36), .ref (md 37), .ref (md 38), .ref (md 39), .ref (md 40), .int 0, .int (-1), .int 0, .ref (md 44), .ref (md 45), .ref (md 46), .int 0, .ref (md 48), .ref (md 49), .int 0, .ref (md 51), .int 0, .ref (md 53), .ref (md 54), .ref (md 55), .ref (md 56), .ref (md 57), .ref (md 58), .ref (md 59), .ref (md 60), .ref (md 61), .ref (md 62), .ref (md 63), .int 0, .int 0, .int 0, .int 0, .int 0, .int 0, .ref (md 70), .int 0, .ref (md 72), .int 0, .int 400000, .int 0, .int 0])), (md 39, .inl (mc 0, 8, .inl (fun _ => -1))), (md 1, .inl (mc 1, 8300, .inl (fun _ => 0))), (md 40, .inl (mc 1, 800000, .inl (fun _ => 0))), (md 72, .inl (mc 0, 12010, .inl (fun _ => 0)))] H := hP
  have hD : va_D A [(o, .inl (ac 7, 1, .inr (.inl u))), (md 100, .inr (12, [.int 0, .ref (md 1), .ref (md 2), .ref (md 3), .int 0, .int 0, .int 0, .int 0, .ref (md 8), .ref (md 9), .ref (md 10), .ref (md 11), .ref (md 12), .ref (md 13), .ref (md 14), .ref (md 15), .ref (md 16), .ref (md 17), .ref (md 18), .ref (md 19), .ref (md 20), .ref (md 21), .ref (md 22), .int 0, .ref (md 24), .int 0, .ref (md 26), .int 0, .ref (md 28), .ref (md 29), .ref (md 30), .ref (md 31), .ref (md 32), .ref (md 33), .int 0, .int 0, .ref (md 36), .ref (md 37), .ref (md 38), .ref (md 39), .ref (md 40), .int 0, .int (-1), .int 0, .ref (md 44), .ref (md 45), .ref (md 46), .int 0, .ref (md 48), .ref (md 49), .int 0, .ref (md 51), .int 0, .ref (md 53), .ref (md 54), .ref (md 55), .ref (md 56), .ref (md 57), .ref (md 58), .ref (md 59), .ref (md 60), .ref (md 61), .ref (md 62), .ref (md 63), .int 0, .int 0, .int 0, .int 0, .int 0, .int 0, .ref (md 70), .int 0, .ref (md 72), .int 0, .int 400000, .int 0, .int 0])), (md 39, .inl (mc 0, 8, .inl (fun _ => -1))), (md 1, .inl (mc 1, 8300, .inl (fun _ => 0))), (md 40, .inl (mc 1, 800000, .inl (fun _ => 0))), (md 72, .inl (mc 0, 12010, .inl (fun _ => 0)))] := hD
  refine W.cs (cells' := 637) (slots' := 1394880) rfl rfl ?_
  refine lv_istore (lv' := [(5, .int (k_era (xs 1) (xs 2) (xs 3))), (4, .int 0), (3, .ref o), (2, .ref (md 100)), (1, .ref (ad 0)), (0, .ref b)]) hx hb d_law_945 hl (by decide) rfl (fun ls hl => ?_)
  refine lv_aload_n hx hb d_law_947 rfl (lv_at hl 3 rfl) ?_
  refine lv_aload_n hx hb d_law_948 rfl (lv_at hl 5 rfl) ?_
  refine lv_iload hx hb d_law_949 (lv_at hl 1 rfl) ?_
  refine lv_iconst (v := 1) hx hb d_law_951 (by decide) ?_
  refine lv_iadd hx hb d_law_952 ?_
  refine w_i (y := 1) (by decide) ?_
  refine va_sld hx hb hX hbl hbA hS (i := 1) (vp_in_nI (n := 1) (N := 7) (by decide) (by decide)) d_law_953 ?_
  refine w_i (y := xs 1) rfl ?_
  refine lv_aload_n hx hb d_law_954 rfl (lv_at hl 5 rfl) ?_
  refine lv_iload hx hb d_law_955 (lv_at hl 1 rfl) ?_
  refine lv_iconst (v := 2) hx hb d_law_957 (by decide) ?_
  refine lv_iadd hx hb d_law_958 ?_
  refine w_i (y := 2) (by decide) ?_
  refine va_sld hx hb hX hbl hbA hS (i := 2) (vp_in_nI (n := 2) (N := 7) (by decide) (by decide)) d_law_959 ?_
  refine w_i (y := xs 2) rfl ?_
  refine lv_aload_n hx hb d_law_960 rfl (lv_at hl 5 rfl) ?_
  refine lv_iload hx hb d_law_961 (lv_at hl 1 rfl) ?_
  refine lv_iconst (v := 3) hx hb d_law_963 (by decide) ?_
  refine lv_iadd hx hb d_law_964 ?_
  refine w_i (y := 3) (by decide) ?_
  refine va_sld hx hb hX hbl hbA hS (i := 3) (vp_in_nI (n := 3) (N := 7) (by decide) (by decide)) d_law_965 ?_
  refine w_i (y := xs 3) rfl ?_
  refine lv_aload_n hx hb d_law_966 rfl (lv_at hl 5 rfl) ?_
  refine lv_iload hx hb d_law_967 (lv_at hl 1 rfl) ?_
  refine lv_iconst (v := 4) hx hb d_law_969 (by decide) ?_
  refine lv_iadd hx hb d_law_970 ?_
  refine w_i (y := 4) (by decide) ?_
  refine va_sld hx hb hX hbl hbA hS (i := 4) (vp_in_nI (n := 4) (N := 7) (by decide) (by decide)) d_law_971 ?_
  refine w_i (y := xs 4) rfl ?_
  refine lv_i2l hx hb d_law_972 rfl ?_
  refine lv_topl (fun x_6 ex_6 => ?_)
  refine lv_bipush (v := 32) hx hb d_law_973 (by decide) ?_
  refine lv_lshl hx hb d_law_975 rfl ?_
  refine lv_topl (fun x_7 ex_7 => ?_)
  refine lv_aload_n hx hb d_law_976 rfl (lv_at hl 5 rfl) ?_
  refine lv_iload hx hb d_law_977 (lv_at hl 1 rfl) ?_
  refine lv_iconst (v := 5) hx hb d_law_979 (by decide) ?_
  refine lv_iadd hx hb d_law_980 ?_
  refine w_i (y := 5) (by decide) ?_
  refine va_sld hx hb hX hbl hbA hS (i := 5) (vp_in_nI (n := 5) (N := 7) (by decide) (by decide)) d_law_981 ?_
  refine w_i (y := xs 5) rfl ?_
  refine lv_i2l hx hb d_law_982 rfl ?_
  refine lv_topl (fun x_8 ex_8 => ?_)
  refine lv_ldc2 (v := 4294967295) hx hb hown (hts _ kw_2007) d_law_983 ?_
  refine lv_land hx hb d_law_986 ?_
  refine lv_topl (fun x_9 ex_9 => ?_)
  refine lv_lor hx hb d_law_987 ?_
  refine lv_topl (fun x_10 ex_10 => ?_)
  have hPc := hP.sub (ws' := [(md 100, .inr (12, [.int 0, .ref (md 1), .ref (md 2), .ref (md 3), .int 0, .int 0, .int 0, .int 0, .ref (md 8), .ref (md 9), .ref (md 10), .ref (md 11), .ref (md 12), .ref (md 13), .ref (md 14), .ref (md 15), .ref (md 16), .ref (md 17), .ref (md 18), .ref (md 19), .ref (md 20), .ref (md 21), .ref (md 22), .int 0, .ref (md 24), .int 0, .ref (md 26), .int 0, .ref (md 28), .ref (md 29), .ref (md 30), .ref (md 31), .ref (md 32), .ref (md 33), .int 0, .int 0, .ref (md 36), .ref (md 37), .ref (md 38), .ref (md 39), .ref (md 40), .int 0, .int (-1), .int 0, .ref (md 44), .ref (md 45), .ref (md 46), .int 0, .ref (md 48), .ref (md 49), .int 0, .ref (md 51), .int 0, .ref (md 53), .ref (md 54), .ref (md 55), .ref (md 56), .ref (md 57), .ref (md 58), .ref (md 59), .ref (md 60), .ref (md 61), .ref (md 62), .ref (md 63), .int 0, .int 0, .int 0, .int 0, .int 0, .int 0, .ref (md 70), .int 0, .ref (md 72), .int 0, .int 400000, .int 0, .int 0]))]) [1] rfl
  have hDc := hD.sub (ws' := [(md 100, .inr (12, [.int 0, .ref (md 1), .ref (md 2), .ref (md 3), .int 0, .int 0, .int 0, .int 0, .ref (md 8), .ref (md 9), .ref (md 10), .ref (md 11), .ref (md 12), .ref (md 13), .ref (md 14), .ref (md 15), .ref (md 16), .ref (md 17), .ref (md 18), .ref (md 19), .ref (md 20), .ref (md 21), .ref (md 22), .int 0, .ref (md 24), .int 0, .ref (md 26), .int 0, .ref (md 28), .ref (md 29), .ref (md 30), .ref (md 31), .ref (md 32), .ref (md 33), .int 0, .int 0, .ref (md 36), .ref (md 37), .ref (md 38), .ref (md 39), .ref (md 40), .int 0, .int (-1), .int 0, .ref (md 44), .ref (md 45), .ref (md 46), .int 0, .ref (md 48), .ref (md 49), .int 0, .ref (md 51), .int 0, .ref (md 53), .ref (md 54), .ref (md 55), .ref (md 56), .ref (md 57), .ref (md 58), .ref (md 59), .ref (md 60), .ref (md 61), .ref (md 62), .ref (md 63), .int 0, .int 0, .int 0, .int 0, .int 0, .int 0, .ref (md 70), .int 0, .ref (md 72), .int 0, .int 400000, .int 0, .int 0]))]) [1] (by decide) rfl
  have hKc := hK.sub (tys' := []) [] rfl
  have hFc := va_free (wc := [(md 100, .inr (12, [.int 0, .ref (md 1), .ref (md 2), .ref (md 3), .int 0, .int 0, .int 0, .int 0, .ref (md 8), .ref (md 9), .ref (md 10), .ref (md 11), .ref (md 12), .ref (md 13), .ref (md 14), .ref (md 15), .ref (md 16), .ref (md 17), .ref (md 18), .ref (md 19), .ref (md 20), .ref (md 21), .ref (md 22), .int 0, .ref (md 24), .int 0, .ref (md 26), .int 0, .ref (md 28), .ref (md 29), .ref (md 30), .ref (md 31), .ref (md 32), .ref (md 33), .int 0, .int 0, .ref (md 36), .ref (md 37), .ref (md 38), .ref (md 39), .ref (md 40), .int 0, .int (-1), .int 0, .ref (md 44), .ref (md 45), .ref (md 46), .int 0, .ref (md 48), .ref (md 49), .int 0, .ref (md 51), .int 0, .ref (md 53), .ref (md 54), .ref (md 55), .ref (md 56), .ref (md 57), .ref (md 58), .ref (md 59), .ref (md 60), .ref (md 61), .ref (md 62), .ref (md 63), .int 0, .int 0, .int 0, .int 0, .int 0, .int 0, .ref (md 70), .int 0, .ref (md 72), .int 0, .int 400000, .int 0, .int 0]))]) hD hS hA [1] rfl
  refine va_calli (va_runV (As := [.int (xs 1), .int (xs 2), .int (xs 3), .long x_10]) (rest := []) ⟨hx, hb, hml, hown, hts⟩ (g_p_add l D H.size md mc (xs 1) (xs 2) (xs 3) x_10) (cw_v 4 hts kw_1757 kw_1754 kw_1755 kw_1756 kw_11 rfl rfl (by decide +kernel) ⟨Nat.le_of_ble_eq_true rfl, Nat.le_of_ble_eq_true rfl⟩) ⟨g_blind, va_recv hKc hPc (ci := 12) (q0 := 0) rfl rfl, fun U hU hW => g_pre hU hW hPc hKc hDc⟩ rfl rfl hl.1 rfl (lv_room (Nat.le_of_ble_eq_true rfl)) d_law_988 ⟨Nat.le_of_ble_eq_true rfl, Nat.le_of_ble_eq_true rfl⟩) hS (fun q _ h => hFc q h) hFc (fun r_11 u_12 t H1 locs ht hvm hw hB hz1 hk1 hS => ?_)
  obtain ⟨hP1, hK1, hD1⟩ := hB
  rw [ht] at hP1
  have hK1 := va_K.moved hvm.symm hK1
  obtain ⟨hP, hD⟩ := va_join (wr := [(o, .inl (ac 7, 1, .inr (.inl u))), (md 39, .inl (mc 0, 8, .inl (fun _ => -1))), (md 1, .inl (mc 1, 8300, .inl (fun _ => 0))), (md 40, .inl (mc 1, 800000, .inl (fun _ => 0))), (md 72, .inl (mc 0, 12010, .inl (fun _ => 0)))]) (w1 := [(md 100, .inr (12, .int (k_era (xs 1) (xs 2) (xs 3)) :: u_12))]) hP hD [1] [0, 2, 3, 4, 5] rfl rfl (by decide) (by decide) hk1 hFc hP1 hD1
  generalize H1 = H at hP hS ⊢
  have hP : va_P D cls [(o, .inl (ac 7, 1, .inr (.inl u))), (md 39, .inl (mc 0, 8, .inl (fun _ => -1))), (md 1, .inl (mc 1, 8300, .inl (fun _ => 0))), (md 40, .inl (mc 1, 800000, .inl (fun _ => 0))), (md 72, .inl (mc 0, 12010, .inl (fun _ => 0))), (md 100, .inr (12, .int (k_era (xs 1) (xs 2) (xs 3)) :: u_12))] H := hP
  have hD : va_D A [(o, .inl (ac 7, 1, .inr (.inl u))), (md 39, .inl (mc 0, 8, .inl (fun _ => -1))), (md 1, .inl (mc 1, 8300, .inl (fun _ => 0))), (md 40, .inl (mc 1, 800000, .inl (fun _ => 0))), (md 72, .inl (mc 0, 12010, .inl (fun _ => 0))), (md 100, .inr (12, .int (k_era (xs 1) (xs 2) (xs 3)) :: u_12))] := hD
  refine W.cs (cells' := 637) (slots' := 1394880) rfl rfl ?_
  have hwm := hw
  refine lv_istore (lv' := [(6, .int r_11), (5, .int (k_era (xs 1) (xs 2) (xs 3))), (4, .int 0), (3, .ref o), (2, .ref (md 100)), (1, .ref (ad 0)), (0, .ref b)]) hx hb d_law_991 hl (by decide) rfl (fun ls hl => ?_)
  refine lv_aload_n hx hb d_law_993 rfl (lv_at hl 4 rfl) ?_
  have hPc := hP.sub (ws' := [(md 100, .inr (12, .int (k_era (xs 1) (xs 2) (xs 3)) :: u_12))]) [5] rfl
  have hDc := hD.sub (ws' := [(md 100, .inr (12, .int (k_era (xs 1) (xs 2) (xs 3)) :: u_12))]) [5] (by decide) rfl
  have hKc := hK.sub (tys' := []) [] rfl
  have hFc := va_free (wc := [(md 100, .inr (12, .int (k_era (xs 1) (xs 2) (xs 3)) :: u_12))]) hD hS hA [5] rfl
  refine va_calli (va_runV (As := []) (rest := []) ⟨hx, hb, hml, hown, hts⟩ (g_thr l D H.size md mc (k_era (xs 1) (xs 2) (xs 3)) u_12) (cw_v 0 hts kw_1618 kw_1615 kw_1616 kw_1617 kw_11 rfl rfl (by decide +kernel) ⟨Nat.le_of_ble_eq_true rfl, Nat.le_of_ble_eq_true rfl⟩) ⟨g_blind, va_recv hKc hPc (ci := 12) (q0 := 0) rfl rfl, fun U hU hW => g_pre hU hW hPc hKc hDc⟩ rfl rfl hl.1 rfl (lv_room (Nat.le_of_ble_eq_true rfl)) d_law_994 ⟨Nat.le_of_ble_eq_true rfl, Nat.le_of_ble_eq_true rfl⟩) hS (fun q _ h => hFc q h) hFc (fun r_13 u_14 t H1 locs ht hvm hw hB hz1 hk1 hS => ?_)
  obtain ⟨⟩ := u_14
  obtain ⟨hP1, hK1, hD1⟩ := hB
  rw [ht] at hP1
  have hK1 := va_K.moved hvm.symm hK1
  obtain ⟨hP, hD⟩ := va_join (wr := [(o, .inl (ac 7, 1, .inr (.inl u))), (md 39, .inl (mc 0, 8, .inl (fun _ => -1))), (md 1, .inl (mc 1, 8300, .inl (fun _ => 0))), (md 40, .inl (mc 1, 800000, .inl (fun _ => 0))), (md 72, .inl (mc 0, 12010, .inl (fun _ => 0)))]) (w1 := [(md 100, .inr (12, .int (k_era (xs 1) (xs 2) (xs 3)) :: u_12))]) hP hD [5] [0, 1, 2, 3, 4] rfl rfl (by decide) (by decide) hk1 hFc hP1 hD1
  generalize H1 = H at hP hS ⊢
  have hP : va_P D cls [(o, .inl (ac 7, 1, .inr (.inl u))), (md 39, .inl (mc 0, 8, .inl (fun _ => -1))), (md 1, .inl (mc 1, 8300, .inl (fun _ => 0))), (md 40, .inl (mc 1, 800000, .inl (fun _ => 0))), (md 72, .inl (mc 0, 12010, .inl (fun _ => 0))), (md 100, .inr (12, .int (k_era (xs 1) (xs 2) (xs 3)) :: u_12))] H := hP
  have hD : va_D A [(o, .inl (ac 7, 1, .inr (.inl u))), (md 39, .inl (mc 0, 8, .inl (fun _ => -1))), (md 1, .inl (mc 1, 8300, .inl (fun _ => 0))), (md 40, .inl (mc 1, 800000, .inl (fun _ => 0))), (md 72, .inl (mc 0, 12010, .inl (fun _ => 0))), (md 100, .inr (12, .int (k_era (xs 1) (xs 2) (xs 3)) :: u_12))] := hD
  refine W.cs (cells' := 637) (slots' := 1394880) rfl rfl ?_
  subst hw
  refine lv_iload hx hb d_law_997 (lv_at hl 1 rfl) ?_
  refine lv_icmp_eq (tgt := 1004) hx hb d_law_999 (by decide) (fun _ => ?_) (fun h => absurd rfl h)
  refine lv_iload hx hb d_law_1004 (lv_at hl 1 rfl) ?_
  refine lv_if_ne (tgt := 1021) hx hb d_law_1006 (by decide) (fun c_15 => ?_) (fun c_15 => ?_)
  · refine lv_goto (tgt := 2391) hx hb d_law_1021 (by decide) ?_
    exact law_tail l hx hb hr hlocks hX hbl hbA hT hS (lv_sub hl [2, 6] rfl) (by decide) (by decide)
  · refine lv_aload_n hx hb d_law_1009 rfl (lv_at hl 3 rfl) ?_
    refine lv_iconst (v := 0) hx hb d_law_1010 (by decide) ?_
    refine va_lald hx hb hK hP 0 7 rfl rfl (i := 0) (vp_in_nI (n := 0) (N := 1) (by decide) (by decide)) d_law_1011 ?_
    refine w_l (y := 0) (hw2 c_15) ?_
    refine lv_iload hx hb d_law_1012 (lv_at hl 0 rfl) ?_
    refine lv_i2l hx hb d_law_1014 rfl ?_
    refine w_l (y := 0) (by first | (rw [hwm c_15]; done) | (rw [hwm c_15]; rfl) | (rw [hwm c_15]; decide)) ?_
    refine W.lcmp hx hb d_law_1015 ?_
    refine w_i (y := 0) (by simp [lg_cmp]) ?_
    refine lv_if_eq (tgt := 1021) hx hb d_law_1016 (by decide) (fun _ => ?_) (fun h => absurd h (by decide))
    refine lv_goto (tgt := 2391) hx hb d_law_1021 (by decide) ?_
    exact law_tail l hx hb hr hlocks hX hbl hbA hT hS (lv_sub hl [2, 6] rfl) (by decide) (by decide)
theorem d_law_1024 : decode code 1024 = .ok (.aload_n 1, 1) := by decide +kernel
theorem d_law_1025 : decode code 1025 = .ok (.aload_n 0, 1) := by decide +kernel
theorem d_law_1026 : decode code 1026 = .ok (.iload 4, 2) := by decide +kernel
theorem d_law_1028 : decode code 1028 = .ok (.iconst 1, 1) := by decide +kernel
theorem d_law_1029 : decode code 1029 = .ok (.iadd, 1) := by decide +kernel
theorem d_law_1030 : decode code 1030 = .ok (.iaload, 1) := by decide +kernel
theorem d_law_1031 : decode code 1031 = .ok (.aload_n 0, 1) := by decide +kernel
theorem d_law_1032 : decode code 1032 = .ok (.iload 4, 2) := by decide +kernel
theorem d_law_1034 : decode code 1034 = .ok (.iconst 2, 1) := by decide +kernel
theorem d_law_1035 : decode code 1035 = .ok (.iadd, 1) := by decide +kernel
theorem d_law_1036 : decode code 1036 = .ok (.iaload, 1) := by decide +kernel
theorem d_law_1037 : decode code 1037 = .ok (.aload_n 3, 1) := by decide +kernel
theorem d_law_1038 : decode code 1038 = .ok (.invokestatic 152, 3) := by decide +kernel
theorem d_law_1041 : decode code 1041 = .ok (.istore 5, 2) := by decide +kernel
theorem d_law_1043 : decode code 1043 = .ok (.aload_n 2, 1) := by decide +kernel
theorem d_law_1044 : decode code 1044 = .ok (.aload_n 0, 1) := by decide +kernel
theorem d_law_1045 : decode code 1045 = .ok (.iload 4, 2) := by decide +kernel
theorem d_law_1047 : decode code 1047 = .ok (.iconst 1, 1) := by decide +kernel
theorem d_law_1048 : decode code 1048 = .ok (.iadd, 1) := by decide +kernel
theorem d_law_1049 : decode code 1049 = .ok (.iaload, 1) := by decide +kernel
theorem d_law_1050 : decode code 1050 = .ok (.aload_n 0, 1) := by decide +kernel
theorem d_law_1051 : decode code 1051 = .ok (.iload 4, 2) := by decide +kernel
theorem d_law_1053 : decode code 1053 = .ok (.iconst 2, 1) := by decide +kernel
theorem d_law_1054 : decode code 1054 = .ok (.iadd, 1) := by decide +kernel
theorem d_law_1055 : decode code 1055 = .ok (.iaload, 1) := by decide +kernel
theorem d_law_1056 : decode code 1056 = .ok (.invokevirtual 155, 3) := by decide +kernel
theorem d_law_1059 : decode code 1059 = .ok (.istore 6, 2) := by decide +kernel
theorem d_law_1061 : decode code 1061 = .ok (.aload_n 2, 1) := by decide +kernel
theorem d_law_1062 : decode code 1062 = .ok (.invokevirtual 120, 3) := by decide +kernel
theorem d_law_1065 : decode code 1065 = .ok (.iload 5, 2) := by decide +kernel
theorem d_law_1067 : decode code 1067 = .ok (.if_icmp .eq 5, 3) := by decide +kernel
theorem d_law_1072 : decode code 1072 = .ok (.iload 5, 2) := by decide +kernel
theorem d_law_1074 : decode code 1074 = .ok (.ifCond .ne 15, 3) := by decide +kernel
theorem d_law_1089 : decode code 1089 = .ok (.goto 1302, 3) := by decide +kernel
set_option maxHeartbeats 4000000 in
set_option maxRecDepth 100000 in
theorem law_c8 {p : Program} {e : Env} {s : State} {m : MethodId} {below : List Frame} {meth : Method} {c : Code} (l : Launch) (hfl : l.flags = flags0) {b : Nat} {xs : Nat → Int32} {D : va_G} {ad : Nat → Nat} {ac : Nat → ClassId} {md : Nat → Nat} {mc : Nat → ClassId} {o : Nat} {H : Heap} {locs : List Loc} {ls : Array Slot} (h : LwS p s m meth c b 7 xs D ad ac md mc o H locs ls) : W p l e room_1 s m #[Value.ref b] below meth c H locs 636 1394874 (lw_Z below #[Value.ref b] s) (F0 m 1024 ls []) := by
  obtain ⟨hx, hb, hr, hml, hown, hts, hX, hbl, hlocks, hev, hP, hK, hD, hS, hl⟩ := h
  have hNS : tx_NS (lA s) s := fun q cell hq hc => absurd (Array.getElem?_eq_some_iff.mp hc).1 (Nat.not_lt.mpr hq)
  have hA : ∀ q : Nat, s.heap.size ≤ q → lA s q := fun _ h => h
  have hT : ∀ q : Nat, lA s q → s.heap.size ≤ q := fun _ h => h
  have hbA : ¬ lA s b := Nat.not_le.mpr hbl
  generalize lA s = A at hev hD hS hNS hA hT hbA
  refine lv_aload_n hx hb d_law_1024 rfl (lv_at hl 3 rfl) ?_
  refine lv_aload_n hx hb d_law_1025 rfl (lv_at hl 4 rfl) ?_
  refine lv_iload hx hb d_law_1026 (lv_at hl 0 rfl) ?_
  refine lv_iconst (v := 1) hx hb d_law_1028 (by decide) ?_
  refine lv_iadd hx hb d_law_1029 ?_
  refine w_i (y := 1) (by decide) ?_
  refine va_sld hx hb hX hbl hbA hS (i := 1) (vp_in_nI (n := 1) (N := 7) (by decide) (by decide)) d_law_1030 ?_
  refine w_i (y := xs 1) rfl ?_
  refine lv_aload_n hx hb d_law_1031 rfl (lv_at hl 4 rfl) ?_
  refine lv_iload hx hb d_law_1032 (lv_at hl 0 rfl) ?_
  refine lv_iconst (v := 2) hx hb d_law_1034 (by decide) ?_
  refine lv_iadd hx hb d_law_1035 ?_
  refine w_i (y := 2) (by decide) ?_
  refine va_sld hx hb hX hbl hbA hS (i := 2) (vp_in_nI (n := 2) (N := 7) (by decide) (by decide)) d_law_1036 ?_
  refine w_i (y := xs 2) rfl ?_
  refine lv_aload_n hx hb d_law_1037 rfl (lv_at hl 1 rfl) ?_
  have hPh := p_l hP
  have hDh := d_l hD
  have hKh := hK.sub (tys' := fxT ac) [0, 1, 2, 3, 4, 5, 6, 7] rfl
  have hFc := fr_all hDh hS hA
  refine va_calli (tx_runSW (As := [.ref (ad 0), .int (xs 1), .int (xs 2), .ref o]) (rest := []) ⟨hx, hb, hml, hown, hts⟩ (h_read l hfl D ad ac (fun _ => 0) o (fun _ => 0) H.size (xs 1) (xs 2)) (cw_w 4 hts kw_857 kw_855 kw_856 kw_0 rfl rfl (by decide +kernel) ⟨Nat.le_of_ble_eq_true rfl, Nat.le_of_ble_eq_true rfl⟩) ⟨h_blind, fun U hU hW => h_pre hU hW hPh hKh hDh hev hNS hS hFc⟩ rfl rfl hl.1 rfl (lv_room (Nat.le_of_ble_eq_true rfl)) d_law_1038 ⟨Nat.le_of_ble_eq_true rfl, Nat.le_of_ble_eq_true rfl⟩) hS (fun q _ h => hFc q h) hFc (fun rz u t H1 locs ht hvm hw hB hz1 hk1 hS => ?_)
  obtain ⟨hP1, -, -⟩ := hB
  rw [ht] at hP1
  obtain ⟨hw1, hw2⟩ := hw
  subst hw1
  have hP := hP1.app (p_keep hP hD hk1)
  have hD := d_oc hD (e' := .inl (ac 7, 1, .inr (.inl u)))
  generalize H1 = H at hP hS ⊢
  have hP : va_P D cls [(o, .inl (ac 7, 1, .inr (.inl u))), (md 100, .inr (12, [.int 0, .ref (md 1), .ref (md 2), .ref (md 3), .int 0, .int 0, .int 0, .int 0, .ref (md 8), .ref (md 9), .ref (md 10), .ref (md 11), .ref (md 12), .ref (md 13), .ref (md 14), .ref (md 15), .ref (md 16), .ref (md 17), .ref (md 18), .ref (md 19), .ref (md 20), .ref (md 21), .ref (md 22), .int 0, .ref (md 24), .int 0, .ref (md 26), .int 0, .ref (md 28), .ref (md 29), .ref (md 30), .ref (md 31), .ref (md 32), .ref (md 33), .int 0, .int 0, .ref (md 36), .ref (md 37), .ref (md 38), .ref (md 39), .ref (md 40), .int 0, .int (-1), .int 0, .ref (md 44), .ref (md 45), .ref (md 46), .int 0, .ref (md 48), .ref (md 49), .int 0, .ref (md 51), .int 0, .ref (md 53), .ref (md 54), .ref (md 55), .ref (md 56), .ref (md 57), .ref (md 58), .ref (md 59), .ref (md 60), .ref (md 61), .ref (md 62), .ref (md 63), .int 0, .int 0, .int 0, .int 0, .int 0, .int 0, .ref (md 70), .int 0, .ref (md 72), .int 0, .int 400000, .int 0, .int 0])), (md 39, .inl (mc 0, 8, .inl (fun _ => -1))), (md 1, .inl (mc 1, 8300, .inl (fun _ => 0))), (md 40, .inl (mc 1, 800000, .inl (fun _ => 0))), (md 72, .inl (mc 0, 12010, .inl (fun _ => 0)))] H := hP
  have hD : va_D A [(o, .inl (ac 7, 1, .inr (.inl u))), (md 100, .inr (12, [.int 0, .ref (md 1), .ref (md 2), .ref (md 3), .int 0, .int 0, .int 0, .int 0, .ref (md 8), .ref (md 9), .ref (md 10), .ref (md 11), .ref (md 12), .ref (md 13), .ref (md 14), .ref (md 15), .ref (md 16), .ref (md 17), .ref (md 18), .ref (md 19), .ref (md 20), .ref (md 21), .ref (md 22), .int 0, .ref (md 24), .int 0, .ref (md 26), .int 0, .ref (md 28), .ref (md 29), .ref (md 30), .ref (md 31), .ref (md 32), .ref (md 33), .int 0, .int 0, .ref (md 36), .ref (md 37), .ref (md 38), .ref (md 39), .ref (md 40), .int 0, .int (-1), .int 0, .ref (md 44), .ref (md 45), .ref (md 46), .int 0, .ref (md 48), .ref (md 49), .int 0, .ref (md 51), .int 0, .ref (md 53), .ref (md 54), .ref (md 55), .ref (md 56), .ref (md 57), .ref (md 58), .ref (md 59), .ref (md 60), .ref (md 61), .ref (md 62), .ref (md 63), .int 0, .int 0, .int 0, .int 0, .int 0, .int 0, .ref (md 70), .int 0, .ref (md 72), .int 0, .int 400000, .int 0, .int 0])), (md 39, .inl (mc 0, 8, .inl (fun _ => -1))), (md 1, .inl (mc 1, 8300, .inl (fun _ => 0))), (md 40, .inl (mc 1, 800000, .inl (fun _ => 0))), (md 72, .inl (mc 0, 12010, .inl (fun _ => 0)))] := hD
  refine W.cs (cells' := 637) (slots' := 1394880) rfl rfl ?_
  refine lv_istore (lv' := [(5, .int 1), (4, .int 0), (3, .ref o), (2, .ref (md 100)), (1, .ref (ad 0)), (0, .ref b)]) hx hb d_law_1041 hl (by decide) rfl (fun ls hl => ?_)
  refine lv_aload_n hx hb d_law_1043 rfl (lv_at hl 3 rfl) ?_
  refine lv_aload_n hx hb d_law_1044 rfl (lv_at hl 5 rfl) ?_
  refine lv_iload hx hb d_law_1045 (lv_at hl 1 rfl) ?_
  refine lv_iconst (v := 1) hx hb d_law_1047 (by decide) ?_
  refine lv_iadd hx hb d_law_1048 ?_
  refine w_i (y := 1) (by decide) ?_
  refine va_sld hx hb hX hbl hbA hS (i := 1) (vp_in_nI (n := 1) (N := 7) (by decide) (by decide)) d_law_1049 ?_
  refine w_i (y := xs 1) rfl ?_
  refine lv_aload_n hx hb d_law_1050 rfl (lv_at hl 5 rfl) ?_
  refine lv_iload hx hb d_law_1051 (lv_at hl 1 rfl) ?_
  refine lv_iconst (v := 2) hx hb d_law_1053 (by decide) ?_
  refine lv_iadd hx hb d_law_1054 ?_
  refine w_i (y := 2) (by decide) ?_
  refine va_sld hx hb hX hbl hbA hS (i := 2) (vp_in_nI (n := 2) (N := 7) (by decide) (by decide)) d_law_1055 ?_
  refine w_i (y := xs 2) rfl ?_
  have hPc := hP.sub (ws' := [(md 100, .inr (12, [.int 0, .ref (md 1), .ref (md 2), .ref (md 3), .int 0, .int 0, .int 0, .int 0, .ref (md 8), .ref (md 9), .ref (md 10), .ref (md 11), .ref (md 12), .ref (md 13), .ref (md 14), .ref (md 15), .ref (md 16), .ref (md 17), .ref (md 18), .ref (md 19), .ref (md 20), .ref (md 21), .ref (md 22), .int 0, .ref (md 24), .int 0, .ref (md 26), .int 0, .ref (md 28), .ref (md 29), .ref (md 30), .ref (md 31), .ref (md 32), .ref (md 33), .int 0, .int 0, .ref (md 36), .ref (md 37), .ref (md 38), .ref (md 39), .ref (md 40), .int 0, .int (-1), .int 0, .ref (md 44), .ref (md 45), .ref (md 46), .int 0, .ref (md 48), .ref (md 49), .int 0, .ref (md 51), .int 0, .ref (md 53), .ref (md 54), .ref (md 55), .ref (md 56), .ref (md 57), .ref (md 58), .ref (md 59), .ref (md 60), .ref (md 61), .ref (md 62), .ref (md 63), .int 0, .int 0, .int 0, .int 0, .int 0, .int 0, .ref (md 70), .int 0, .ref (md 72), .int 0, .int 400000, .int 0, .int 0]))]) [1] rfl
  have hDc := hD.sub (ws' := [(md 100, .inr (12, [.int 0, .ref (md 1), .ref (md 2), .ref (md 3), .int 0, .int 0, .int 0, .int 0, .ref (md 8), .ref (md 9), .ref (md 10), .ref (md 11), .ref (md 12), .ref (md 13), .ref (md 14), .ref (md 15), .ref (md 16), .ref (md 17), .ref (md 18), .ref (md 19), .ref (md 20), .ref (md 21), .ref (md 22), .int 0, .ref (md 24), .int 0, .ref (md 26), .int 0, .ref (md 28), .ref (md 29), .ref (md 30), .ref (md 31), .ref (md 32), .ref (md 33), .int 0, .int 0, .ref (md 36), .ref (md 37), .ref (md 38), .ref (md 39), .ref (md 40), .int 0, .int (-1), .int 0, .ref (md 44), .ref (md 45), .ref (md 46), .int 0, .ref (md 48), .ref (md 49), .int 0, .ref (md 51), .int 0, .ref (md 53), .ref (md 54), .ref (md 55), .ref (md 56), .ref (md 57), .ref (md 58), .ref (md 59), .ref (md 60), .ref (md 61), .ref (md 62), .ref (md 63), .int 0, .int 0, .int 0, .int 0, .int 0, .int 0, .ref (md 70), .int 0, .ref (md 72), .int 0, .int 400000, .int 0, .int 0]))]) [1] (by decide) rfl
  have hKc := hK.sub (tys' := []) [] rfl
  have hFc := va_free (wc := [(md 100, .inr (12, [.int 0, .ref (md 1), .ref (md 2), .ref (md 3), .int 0, .int 0, .int 0, .int 0, .ref (md 8), .ref (md 9), .ref (md 10), .ref (md 11), .ref (md 12), .ref (md 13), .ref (md 14), .ref (md 15), .ref (md 16), .ref (md 17), .ref (md 18), .ref (md 19), .ref (md 20), .ref (md 21), .ref (md 22), .int 0, .ref (md 24), .int 0, .ref (md 26), .int 0, .ref (md 28), .ref (md 29), .ref (md 30), .ref (md 31), .ref (md 32), .ref (md 33), .int 0, .int 0, .ref (md 36), .ref (md 37), .ref (md 38), .ref (md 39), .ref (md 40), .int 0, .int (-1), .int 0, .ref (md 44), .ref (md 45), .ref (md 46), .int 0, .ref (md 48), .ref (md 49), .int 0, .ref (md 51), .int 0, .ref (md 53), .ref (md 54), .ref (md 55), .ref (md 56), .ref (md 57), .ref (md 58), .ref (md 59), .ref (md 60), .ref (md 61), .ref (md 62), .ref (md 63), .int 0, .int 0, .int 0, .int 0, .int 0, .int 0, .ref (md 70), .int 0, .ref (md 72), .int 0, .int 400000, .int 0, .int 0]))]) hD hS hA [1] rfl
  refine va_calli (va_runV (As := [.int (xs 1), .int (xs 2)]) (rest := []) ⟨hx, hb, hml, hown, hts⟩ (g_p_read l D H.size md mc (xs 1) (xs 2)) (cw_v 2 hts kw_1761 kw_1758 kw_1759 kw_1760 kw_11 rfl rfl (by decide +kernel) ⟨Nat.le_of_ble_eq_true rfl, Nat.le_of_ble_eq_true rfl⟩) ⟨g_blind, va_recv hKc hPc (ci := 12) (q0 := 0) rfl rfl, fun U hU hW => g_pre hU hW hPc hKc hDc⟩ rfl rfl hl.1 rfl (lv_room (Nat.le_of_ble_eq_true rfl)) d_law_1056 ⟨Nat.le_of_ble_eq_true rfl, Nat.le_of_ble_eq_true rfl⟩) hS (fun q _ h => hFc q h) hFc (fun r_1 u_2 t H1 locs ht hvm hw hB hz1 hk1 hS => ?_)
  obtain ⟨hP1, hK1, hD1⟩ := hB
  rw [ht] at hP1
  have hK1 := va_K.moved hvm.symm hK1
  obtain ⟨hP, hD⟩ := va_join (wr := [(o, .inl (ac 7, 1, .inr (.inl u))), (md 39, .inl (mc 0, 8, .inl (fun _ => -1))), (md 1, .inl (mc 1, 8300, .inl (fun _ => 0))), (md 40, .inl (mc 1, 800000, .inl (fun _ => 0))), (md 72, .inl (mc 0, 12010, .inl (fun _ => 0)))]) (w1 := [(md 100, .inr (12, .int 1 :: u_2))]) hP hD [1] [0, 2, 3, 4, 5] rfl rfl (by decide) (by decide) hk1 hFc hP1 hD1
  generalize H1 = H at hP hS ⊢
  have hP : va_P D cls [(o, .inl (ac 7, 1, .inr (.inl u))), (md 39, .inl (mc 0, 8, .inl (fun _ => -1))), (md 1, .inl (mc 1, 8300, .inl (fun _ => 0))), (md 40, .inl (mc 1, 800000, .inl (fun _ => 0))), (md 72, .inl (mc 0, 12010, .inl (fun _ => 0))), (md 100, .inr (12, .int 1 :: u_2))] H := hP
  have hD : va_D A [(o, .inl (ac 7, 1, .inr (.inl u))), (md 39, .inl (mc 0, 8, .inl (fun _ => -1))), (md 1, .inl (mc 1, 8300, .inl (fun _ => 0))), (md 40, .inl (mc 1, 800000, .inl (fun _ => 0))), (md 72, .inl (mc 0, 12010, .inl (fun _ => 0))), (md 100, .inr (12, .int 1 :: u_2))] := hD
  refine W.cs (cells' := 637) (slots' := 1394880) rfl rfl ?_
  have hwm := hw
  refine lv_istore (lv' := [(6, .int r_1), (5, .int 1), (4, .int 0), (3, .ref o), (2, .ref (md 100)), (1, .ref (ad 0)), (0, .ref b)]) hx hb d_law_1059 hl (by decide) rfl (fun ls hl => ?_)
  refine lv_aload_n hx hb d_law_1061 rfl (lv_at hl 4 rfl) ?_
  have hPc := hP.sub (ws' := [(md 100, .inr (12, .int 1 :: u_2))]) [5] rfl
  have hDc := hD.sub (ws' := [(md 100, .inr (12, .int 1 :: u_2))]) [5] (by decide) rfl
  have hKc := hK.sub (tys' := []) [] rfl
  have hFc := va_free (wc := [(md 100, .inr (12, .int 1 :: u_2))]) hD hS hA [5] rfl
  refine va_calli (va_runV (As := []) (rest := []) ⟨hx, hb, hml, hown, hts⟩ (g_thr l D H.size md mc 1 u_2) (cw_v 0 hts kw_1618 kw_1615 kw_1616 kw_1617 kw_11 rfl rfl (by decide +kernel) ⟨Nat.le_of_ble_eq_true rfl, Nat.le_of_ble_eq_true rfl⟩) ⟨g_blind, va_recv hKc hPc (ci := 12) (q0 := 0) rfl rfl, fun U hU hW => g_pre hU hW hPc hKc hDc⟩ rfl rfl hl.1 rfl (lv_room (Nat.le_of_ble_eq_true rfl)) d_law_1062 ⟨Nat.le_of_ble_eq_true rfl, Nat.le_of_ble_eq_true rfl⟩) hS (fun q _ h => hFc q h) hFc (fun r_3 u_4 t H1 locs ht hvm hw hB hz1 hk1 hS => ?_)
  obtain ⟨⟩ := u_4
  obtain ⟨hP1, hK1, hD1⟩ := hB
  rw [ht] at hP1
  have hK1 := va_K.moved hvm.symm hK1
  obtain ⟨hP, hD⟩ := va_join (wr := [(o, .inl (ac 7, 1, .inr (.inl u))), (md 39, .inl (mc 0, 8, .inl (fun _ => -1))), (md 1, .inl (mc 1, 8300, .inl (fun _ => 0))), (md 40, .inl (mc 1, 800000, .inl (fun _ => 0))), (md 72, .inl (mc 0, 12010, .inl (fun _ => 0)))]) (w1 := [(md 100, .inr (12, .int 1 :: u_2))]) hP hD [5] [0, 1, 2, 3, 4] rfl rfl (by decide) (by decide) hk1 hFc hP1 hD1
  generalize H1 = H at hP hS ⊢
  have hP : va_P D cls [(o, .inl (ac 7, 1, .inr (.inl u))), (md 39, .inl (mc 0, 8, .inl (fun _ => -1))), (md 1, .inl (mc 1, 8300, .inl (fun _ => 0))), (md 40, .inl (mc 1, 800000, .inl (fun _ => 0))), (md 72, .inl (mc 0, 12010, .inl (fun _ => 0))), (md 100, .inr (12, .int 1 :: u_2))] H := hP
  have hD : va_D A [(o, .inl (ac 7, 1, .inr (.inl u))), (md 39, .inl (mc 0, 8, .inl (fun _ => -1))), (md 1, .inl (mc 1, 8300, .inl (fun _ => 0))), (md 40, .inl (mc 1, 800000, .inl (fun _ => 0))), (md 72, .inl (mc 0, 12010, .inl (fun _ => 0))), (md 100, .inr (12, .int 1 :: u_2))] := hD
  refine W.cs (cells' := 637) (slots' := 1394880) rfl rfl ?_
  subst hw
  refine lv_iload hx hb d_law_1065 (lv_at hl 1 rfl) ?_
  refine lv_icmp_eq (tgt := 1072) hx hb d_law_1067 (by decide) (fun _ => ?_) (fun h => absurd rfl h)
  refine lv_iload hx hb d_law_1072 (lv_at hl 1 rfl) ?_
  refine lv_if_ne (tgt := 1089) hx hb d_law_1074 (by decide) (fun _ => ?_) (fun h => absurd h (by decide))
  refine lv_goto (tgt := 2391) hx hb d_law_1089 (by decide) ?_
  exact law_tail l hx hb hr hlocks hX hbl hbA hT hS (lv_sub hl [2, 6] rfl) (by decide) (by decide)
theorem d_law_1092 : decode code 1092 = .ok (.aload_n 1, 1) := by decide +kernel
theorem d_law_1093 : decode code 1093 = .ok (.aload_n 0, 1) := by decide +kernel
theorem d_law_1094 : decode code 1094 = .ok (.iload 4, 2) := by decide +kernel
theorem d_law_1096 : decode code 1096 = .ok (.iconst 1, 1) := by decide +kernel
theorem d_law_1097 : decode code 1097 = .ok (.iadd, 1) := by decide +kernel
theorem d_law_1098 : decode code 1098 = .ok (.iaload, 1) := by decide +kernel
theorem d_law_1099 : decode code 1099 = .ok (.aload_n 3, 1) := by decide +kernel
theorem d_law_1100 : decode code 1100 = .ok (.invokestatic 156, 3) := by decide +kernel
theorem d_law_1103 : decode code 1103 = .ok (.istore 5, 2) := by decide +kernel
theorem d_law_1105 : decode code 1105 = .ok (.aload_n 2, 1) := by decide +kernel
theorem d_law_1106 : decode code 1106 = .ok (.aload_n 0, 1) := by decide +kernel
theorem d_law_1107 : decode code 1107 = .ok (.iload 4, 2) := by decide +kernel
theorem d_law_1109 : decode code 1109 = .ok (.iconst 1, 1) := by decide +kernel
theorem d_law_1110 : decode code 1110 = .ok (.iadd, 1) := by decide +kernel
theorem d_law_1111 : decode code 1111 = .ok (.iaload, 1) := by decide +kernel
theorem d_law_1112 : decode code 1112 = .ok (.invokevirtual 158, 3) := by decide +kernel
theorem d_law_1115 : decode code 1115 = .ok (.istore 6, 2) := by decide +kernel
theorem d_law_1117 : decode code 1117 = .ok (.aload_n 2, 1) := by decide +kernel
theorem d_law_1118 : decode code 1118 = .ok (.invokevirtual 120, 3) := by decide +kernel
theorem d_law_1121 : decode code 1121 = .ok (.iload 5, 2) := by decide +kernel
theorem d_law_1123 : decode code 1123 = .ok (.if_icmp .eq 5, 3) := by decide +kernel
theorem d_law_1128 : decode code 1128 = .ok (.iload 5, 2) := by decide +kernel
theorem d_law_1130 : decode code 1130 = .ok (.ifCond .ne 15, 3) := by decide +kernel
theorem d_law_1145 : decode code 1145 = .ok (.goto 1246, 3) := by decide +kernel
theorem d_law_1133 : decode code 1133 = .ok (.aload_n 3, 1) := by decide +kernel
theorem d_law_1134 : decode code 1134 = .ok (.iconst 0, 1) := by decide +kernel
theorem d_law_1135 : decode code 1135 = .ok (.laload, 1) := by decide +kernel
theorem d_law_1136 : decode code 1136 = .ok (.iload 6, 2) := by decide +kernel
theorem d_law_1138 : decode code 1138 = .ok (.i2l, 1) := by decide +kernel
theorem d_law_1139 : decode code 1139 = .ok (.lcmp, 1) := by decide +kernel
theorem d_law_1140 : decode code 1140 = .ok (.ifCond .eq 5, 3) := by decide +kernel
set_option maxHeartbeats 4000000 in
set_option maxRecDepth 100000 in
theorem law_c9 {p : Program} {e : Env} {s : State} {m : MethodId} {below : List Frame} {meth : Method} {c : Code} (l : Launch) (hfl : l.flags = flags0) {b : Nat} {xs : Nat → Int32} {D : va_G} {ad : Nat → Nat} {ac : Nat → ClassId} {md : Nat → Nat} {mc : Nat → ClassId} {o : Nat} {H : Heap} {locs : List Loc} {ls : Array Slot} (h : LwS p s m meth c b 7 xs D ad ac md mc o H locs ls) : W p l e room_1 s m #[Value.ref b] below meth c H locs 636 1394874 (lw_Z below #[Value.ref b] s) (F0 m 1092 ls []) := by
  obtain ⟨hx, hb, hr, hml, hown, hts, hX, hbl, hlocks, hev, hP, hK, hD, hS, hl⟩ := h
  have hNS : tx_NS (lA s) s := fun q cell hq hc => absurd (Array.getElem?_eq_some_iff.mp hc).1 (Nat.not_lt.mpr hq)
  have hA : ∀ q : Nat, s.heap.size ≤ q → lA s q := fun _ h => h
  have hT : ∀ q : Nat, lA s q → s.heap.size ≤ q := fun _ h => h
  have hbA : ¬ lA s b := Nat.not_le.mpr hbl
  generalize lA s = A at hev hD hS hNS hA hT hbA
  refine lv_aload_n hx hb d_law_1092 rfl (lv_at hl 3 rfl) ?_
  refine lv_aload_n hx hb d_law_1093 rfl (lv_at hl 4 rfl) ?_
  refine lv_iload hx hb d_law_1094 (lv_at hl 0 rfl) ?_
  refine lv_iconst (v := 1) hx hb d_law_1096 (by decide) ?_
  refine lv_iadd hx hb d_law_1097 ?_
  refine w_i (y := 1) (by decide) ?_
  refine va_sld hx hb hX hbl hbA hS (i := 1) (vp_in_nI (n := 1) (N := 7) (by decide) (by decide)) d_law_1098 ?_
  refine w_i (y := xs 1) rfl ?_
  refine lv_aload_n hx hb d_law_1099 rfl (lv_at hl 1 rfl) ?_
  have hPh := p_l hP
  have hDh := d_l hD
  have hKh := hK.sub (tys' := fxT ac) [0, 1, 2, 3, 4, 5, 6, 7] rfl
  have hFc := fr_all hDh hS hA
  refine va_calli (tx_runSW (As := [.ref (ad 0), .int (xs 1), .ref o]) (rest := []) ⟨hx, hb, hml, hown, hts⟩ (h_commit l hfl D ad ac (fun _ => 0) o (fun _ => 0) H.size (xs 1)) (cw_w 3 hts kw_986 kw_984 kw_985 kw_0 rfl rfl (by decide +kernel) ⟨Nat.le_of_ble_eq_true rfl, Nat.le_of_ble_eq_true rfl⟩) ⟨h_blind, fun U hU hW => h_pre hU hW hPh hKh hDh hev hNS hS hFc⟩ rfl rfl hl.1 rfl (lv_room (Nat.le_of_ble_eq_true rfl)) d_law_1100 ⟨Nat.le_of_ble_eq_true rfl, Nat.le_of_ble_eq_true rfl⟩) hS (fun q _ h => hFc q h) hFc (fun rz u t H1 locs ht hvm hw hB hz1 hk1 hS => ?_)
  obtain ⟨hP1, -, -⟩ := hB
  rw [ht] at hP1
  obtain ⟨hw1, hw2⟩ := hw
  subst hw1
  have hP := hP1.app (p_keep hP hD hk1)
  have hD := d_oc hD (e' := .inl (ac 7, 1, .inr (.inl u)))
  generalize H1 = H at hP hS ⊢
  have hP : va_P D cls [(o, .inl (ac 7, 1, .inr (.inl u))), (md 100, .inr (12, [.int 0, .ref (md 1), .ref (md 2), .ref (md 3), .int 0, .int 0, .int 0, .int 0, .ref (md 8), .ref (md 9), .ref (md 10), .ref (md 11), .ref (md 12), .ref (md 13), .ref (md 14), .ref (md 15), .ref (md 16), .ref (md 17), .ref (md 18), .ref (md 19), .ref (md 20), .ref (md 21), .ref (md 22), .int 0, .ref (md 24), .int 0, .ref (md 26), .int 0, .ref (md 28), .ref (md 29), .ref (md 30), .ref (md 31), .ref (md 32), .ref (md 33), .int 0, .int 0, .ref (md 36), .ref (md 37), .ref (md 38), .ref (md 39), .ref (md 40), .int 0, .int (-1), .int 0, .ref (md 44), .ref (md 45), .ref (md 46), .int 0, .ref (md 48), .ref (md 49), .int 0, .ref (md 51), .int 0, .ref (md 53), .ref (md 54), .ref (md 55), .ref (md 56), .ref (md 57), .ref (md 58), .ref (md 59), .ref (md 60), .ref (md 61), .ref (md 62), .ref (md 63), .int 0, .int 0, .int 0, .int 0, .int 0, .int 0, .ref (md 70), .int 0, .ref (md 72), .int 0, .int 400000, .int 0, .int 0])), (md 39, .inl (mc 0, 8, .inl (fun _ => -1))), (md 1, .inl (mc 1, 8300, .inl (fun _ => 0))), (md 40, .inl (mc 1, 800000, .inl (fun _ => 0))), (md 72, .inl (mc 0, 12010, .inl (fun _ => 0)))] H := hP
  have hD : va_D A [(o, .inl (ac 7, 1, .inr (.inl u))), (md 100, .inr (12, [.int 0, .ref (md 1), .ref (md 2), .ref (md 3), .int 0, .int 0, .int 0, .int 0, .ref (md 8), .ref (md 9), .ref (md 10), .ref (md 11), .ref (md 12), .ref (md 13), .ref (md 14), .ref (md 15), .ref (md 16), .ref (md 17), .ref (md 18), .ref (md 19), .ref (md 20), .ref (md 21), .ref (md 22), .int 0, .ref (md 24), .int 0, .ref (md 26), .int 0, .ref (md 28), .ref (md 29), .ref (md 30), .ref (md 31), .ref (md 32), .ref (md 33), .int 0, .int 0, .ref (md 36), .ref (md 37), .ref (md 38), .ref (md 39), .ref (md 40), .int 0, .int (-1), .int 0, .ref (md 44), .ref (md 45), .ref (md 46), .int 0, .ref (md 48), .ref (md 49), .int 0, .ref (md 51), .int 0, .ref (md 53), .ref (md 54), .ref (md 55), .ref (md 56), .ref (md 57), .ref (md 58), .ref (md 59), .ref (md 60), .ref (md 61), .ref (md 62), .ref (md 63), .int 0, .int 0, .int 0, .int 0, .int 0, .int 0, .ref (md 70), .int 0, .ref (md 72), .int 0, .int 400000, .int 0, .int 0])), (md 39, .inl (mc 0, 8, .inl (fun _ => -1))), (md 1, .inl (mc 1, 8300, .inl (fun _ => 0))), (md 40, .inl (mc 1, 800000, .inl (fun _ => 0))), (md 72, .inl (mc 0, 12010, .inl (fun _ => 0)))] := hD
  refine W.cs (cells' := 637) (slots' := 1394880) rfl rfl ?_
  refine lv_istore (lv' := [(5, .int (k_com (xs 1))), (4, .int 0), (3, .ref o), (2, .ref (md 100)), (1, .ref (ad 0)), (0, .ref b)]) hx hb d_law_1103 hl (by decide) rfl (fun ls hl => ?_)
  refine lv_aload_n hx hb d_law_1105 rfl (lv_at hl 3 rfl) ?_
  refine lv_aload_n hx hb d_law_1106 rfl (lv_at hl 5 rfl) ?_
  refine lv_iload hx hb d_law_1107 (lv_at hl 1 rfl) ?_
  refine lv_iconst (v := 1) hx hb d_law_1109 (by decide) ?_
  refine lv_iadd hx hb d_law_1110 ?_
  refine w_i (y := 1) (by decide) ?_
  refine va_sld hx hb hX hbl hbA hS (i := 1) (vp_in_nI (n := 1) (N := 7) (by decide) (by decide)) d_law_1111 ?_
  refine w_i (y := xs 1) rfl ?_
  have hPc := hP.sub (ws' := [(md 100, .inr (12, [.int 0, .ref (md 1), .ref (md 2), .ref (md 3), .int 0, .int 0, .int 0, .int 0, .ref (md 8), .ref (md 9), .ref (md 10), .ref (md 11), .ref (md 12), .ref (md 13), .ref (md 14), .ref (md 15), .ref (md 16), .ref (md 17), .ref (md 18), .ref (md 19), .ref (md 20), .ref (md 21), .ref (md 22), .int 0, .ref (md 24), .int 0, .ref (md 26), .int 0, .ref (md 28), .ref (md 29), .ref (md 30), .ref (md 31), .ref (md 32), .ref (md 33), .int 0, .int 0, .ref (md 36), .ref (md 37), .ref (md 38), .ref (md 39), .ref (md 40), .int 0, .int (-1), .int 0, .ref (md 44), .ref (md 45), .ref (md 46), .int 0, .ref (md 48), .ref (md 49), .int 0, .ref (md 51), .int 0, .ref (md 53), .ref (md 54), .ref (md 55), .ref (md 56), .ref (md 57), .ref (md 58), .ref (md 59), .ref (md 60), .ref (md 61), .ref (md 62), .ref (md 63), .int 0, .int 0, .int 0, .int 0, .int 0, .int 0, .ref (md 70), .int 0, .ref (md 72), .int 0, .int 400000, .int 0, .int 0]))]) [1] rfl
  have hDc := hD.sub (ws' := [(md 100, .inr (12, [.int 0, .ref (md 1), .ref (md 2), .ref (md 3), .int 0, .int 0, .int 0, .int 0, .ref (md 8), .ref (md 9), .ref (md 10), .ref (md 11), .ref (md 12), .ref (md 13), .ref (md 14), .ref (md 15), .ref (md 16), .ref (md 17), .ref (md 18), .ref (md 19), .ref (md 20), .ref (md 21), .ref (md 22), .int 0, .ref (md 24), .int 0, .ref (md 26), .int 0, .ref (md 28), .ref (md 29), .ref (md 30), .ref (md 31), .ref (md 32), .ref (md 33), .int 0, .int 0, .ref (md 36), .ref (md 37), .ref (md 38), .ref (md 39), .ref (md 40), .int 0, .int (-1), .int 0, .ref (md 44), .ref (md 45), .ref (md 46), .int 0, .ref (md 48), .ref (md 49), .int 0, .ref (md 51), .int 0, .ref (md 53), .ref (md 54), .ref (md 55), .ref (md 56), .ref (md 57), .ref (md 58), .ref (md 59), .ref (md 60), .ref (md 61), .ref (md 62), .ref (md 63), .int 0, .int 0, .int 0, .int 0, .int 0, .int 0, .ref (md 70), .int 0, .ref (md 72), .int 0, .int 400000, .int 0, .int 0]))]) [1] (by decide) rfl
  have hKc := hK.sub (tys' := []) [] rfl
  have hFc := va_free (wc := [(md 100, .inr (12, [.int 0, .ref (md 1), .ref (md 2), .ref (md 3), .int 0, .int 0, .int 0, .int 0, .ref (md 8), .ref (md 9), .ref (md 10), .ref (md 11), .ref (md 12), .ref (md 13), .ref (md 14), .ref (md 15), .ref (md 16), .ref (md 17), .ref (md 18), .ref (md 19), .ref (md 20), .ref (md 21), .ref (md 22), .int 0, .ref (md 24), .int 0, .ref (md 26), .int 0, .ref (md 28), .ref (md 29), .ref (md 30), .ref (md 31), .ref (md 32), .ref (md 33), .int 0, .int 0, .ref (md 36), .ref (md 37), .ref (md 38), .ref (md 39), .ref (md 40), .int 0, .int (-1), .int 0, .ref (md 44), .ref (md 45), .ref (md 46), .int 0, .ref (md 48), .ref (md 49), .int 0, .ref (md 51), .int 0, .ref (md 53), .ref (md 54), .ref (md 55), .ref (md 56), .ref (md 57), .ref (md 58), .ref (md 59), .ref (md 60), .ref (md 61), .ref (md 62), .ref (md 63), .int 0, .int 0, .int 0, .int 0, .int 0, .int 0, .ref (md 70), .int 0, .ref (md 72), .int 0, .int 400000, .int 0, .int 0]))]) hD hS hA [1] rfl
  refine va_calli (va_runV (As := [.int (xs 1)]) (rest := []) ⟨hx, hb, hml, hown, hts⟩ (g_p_commit l D H.size md mc (xs 1)) (cw_v 1 hts kw_1811 kw_1808 kw_1809 kw_1810 kw_11 rfl rfl (by decide +kernel) ⟨Nat.le_of_ble_eq_true rfl, Nat.le_of_ble_eq_true rfl⟩) ⟨g_blind, va_recv hKc hPc (ci := 12) (q0 := 0) rfl rfl, fun U hU hW => g_pre hU hW hPc hKc hDc⟩ rfl rfl hl.1 rfl (lv_room (Nat.le_of_ble_eq_true rfl)) d_law_1112 ⟨Nat.le_of_ble_eq_true rfl, Nat.le_of_ble_eq_true rfl⟩) hS (fun q _ h => hFc q h) hFc (fun r_1 u_2 t H1 locs ht hvm hw hB hz1 hk1 hS => ?_)
  obtain ⟨hP1, hK1, hD1⟩ := hB
  rw [ht] at hP1
  have hK1 := va_K.moved hvm.symm hK1
  obtain ⟨hP, hD⟩ := va_join (wr := [(o, .inl (ac 7, 1, .inr (.inl u))), (md 39, .inl (mc 0, 8, .inl (fun _ => -1))), (md 1, .inl (mc 1, 8300, .inl (fun _ => 0))), (md 40, .inl (mc 1, 800000, .inl (fun _ => 0))), (md 72, .inl (mc 0, 12010, .inl (fun _ => 0)))]) (w1 := [(md 100, .inr (12, .int (k_com (xs 1)) :: u_2))]) hP hD [1] [0, 2, 3, 4, 5] rfl rfl (by decide) (by decide) hk1 hFc hP1 hD1
  generalize H1 = H at hP hS ⊢
  have hP : va_P D cls [(o, .inl (ac 7, 1, .inr (.inl u))), (md 39, .inl (mc 0, 8, .inl (fun _ => -1))), (md 1, .inl (mc 1, 8300, .inl (fun _ => 0))), (md 40, .inl (mc 1, 800000, .inl (fun _ => 0))), (md 72, .inl (mc 0, 12010, .inl (fun _ => 0))), (md 100, .inr (12, .int (k_com (xs 1)) :: u_2))] H := hP
  have hD : va_D A [(o, .inl (ac 7, 1, .inr (.inl u))), (md 39, .inl (mc 0, 8, .inl (fun _ => -1))), (md 1, .inl (mc 1, 8300, .inl (fun _ => 0))), (md 40, .inl (mc 1, 800000, .inl (fun _ => 0))), (md 72, .inl (mc 0, 12010, .inl (fun _ => 0))), (md 100, .inr (12, .int (k_com (xs 1)) :: u_2))] := hD
  refine W.cs (cells' := 637) (slots' := 1394880) rfl rfl ?_
  have hwm := hw
  refine lv_istore (lv' := [(6, .int r_1), (5, .int (k_com (xs 1))), (4, .int 0), (3, .ref o), (2, .ref (md 100)), (1, .ref (ad 0)), (0, .ref b)]) hx hb d_law_1115 hl (by decide) rfl (fun ls hl => ?_)
  refine lv_aload_n hx hb d_law_1117 rfl (lv_at hl 4 rfl) ?_
  have hPc := hP.sub (ws' := [(md 100, .inr (12, .int (k_com (xs 1)) :: u_2))]) [5] rfl
  have hDc := hD.sub (ws' := [(md 100, .inr (12, .int (k_com (xs 1)) :: u_2))]) [5] (by decide) rfl
  have hKc := hK.sub (tys' := []) [] rfl
  have hFc := va_free (wc := [(md 100, .inr (12, .int (k_com (xs 1)) :: u_2))]) hD hS hA [5] rfl
  refine va_calli (va_runV (As := []) (rest := []) ⟨hx, hb, hml, hown, hts⟩ (g_thr l D H.size md mc (k_com (xs 1)) u_2) (cw_v 0 hts kw_1618 kw_1615 kw_1616 kw_1617 kw_11 rfl rfl (by decide +kernel) ⟨Nat.le_of_ble_eq_true rfl, Nat.le_of_ble_eq_true rfl⟩) ⟨g_blind, va_recv hKc hPc (ci := 12) (q0 := 0) rfl rfl, fun U hU hW => g_pre hU hW hPc hKc hDc⟩ rfl rfl hl.1 rfl (lv_room (Nat.le_of_ble_eq_true rfl)) d_law_1118 ⟨Nat.le_of_ble_eq_true rfl, Nat.le_of_ble_eq_true rfl⟩) hS (fun q _ h => hFc q h) hFc (fun r_3 u_4 t H1 locs ht hvm hw hB hz1 hk1 hS => ?_)
  obtain ⟨⟩ := u_4
  obtain ⟨hP1, hK1, hD1⟩ := hB
  rw [ht] at hP1
  have hK1 := va_K.moved hvm.symm hK1
  obtain ⟨hP, hD⟩ := va_join (wr := [(o, .inl (ac 7, 1, .inr (.inl u))), (md 39, .inl (mc 0, 8, .inl (fun _ => -1))), (md 1, .inl (mc 1, 8300, .inl (fun _ => 0))), (md 40, .inl (mc 1, 800000, .inl (fun _ => 0))), (md 72, .inl (mc 0, 12010, .inl (fun _ => 0)))]) (w1 := [(md 100, .inr (12, .int (k_com (xs 1)) :: u_2))]) hP hD [5] [0, 1, 2, 3, 4] rfl rfl (by decide) (by decide) hk1 hFc hP1 hD1
  generalize H1 = H at hP hS ⊢
  have hP : va_P D cls [(o, .inl (ac 7, 1, .inr (.inl u))), (md 39, .inl (mc 0, 8, .inl (fun _ => -1))), (md 1, .inl (mc 1, 8300, .inl (fun _ => 0))), (md 40, .inl (mc 1, 800000, .inl (fun _ => 0))), (md 72, .inl (mc 0, 12010, .inl (fun _ => 0))), (md 100, .inr (12, .int (k_com (xs 1)) :: u_2))] H := hP
  have hD : va_D A [(o, .inl (ac 7, 1, .inr (.inl u))), (md 39, .inl (mc 0, 8, .inl (fun _ => -1))), (md 1, .inl (mc 1, 8300, .inl (fun _ => 0))), (md 40, .inl (mc 1, 800000, .inl (fun _ => 0))), (md 72, .inl (mc 0, 12010, .inl (fun _ => 0))), (md 100, .inr (12, .int (k_com (xs 1)) :: u_2))] := hD
  refine W.cs (cells' := 637) (slots' := 1394880) rfl rfl ?_
  subst hw
  refine lv_iload hx hb d_law_1121 (lv_at hl 1 rfl) ?_
  refine lv_icmp_eq (tgt := 1128) hx hb d_law_1123 (by decide) (fun _ => ?_) (fun h => absurd rfl h)
  refine lv_iload hx hb d_law_1128 (lv_at hl 1 rfl) ?_
  refine lv_if_ne (tgt := 1145) hx hb d_law_1130 (by decide) (fun c_5 => ?_) (fun c_5 => ?_)
  · refine lv_goto (tgt := 2391) hx hb d_law_1145 (by decide) ?_
    exact law_tail l hx hb hr hlocks hX hbl hbA hT hS (lv_sub hl [2, 6] rfl) (by decide) (by decide)
  · refine lv_aload_n hx hb d_law_1133 rfl (lv_at hl 3 rfl) ?_
    refine lv_iconst (v := 0) hx hb d_law_1134 (by decide) ?_
    refine va_lald hx hb hK hP 0 7 rfl rfl (i := 0) (vp_in_nI (n := 0) (N := 1) (by decide) (by decide)) d_law_1135 ?_
    refine w_l (y := 0) (hw2 c_5) ?_
    refine lv_iload hx hb d_law_1136 (lv_at hl 0 rfl) ?_
    refine lv_i2l hx hb d_law_1138 rfl ?_
    refine w_l (y := 0) (by first | (rw [hwm c_5]; done) | (rw [hwm c_5]; rfl) | (rw [hwm c_5]; decide)) ?_
    refine W.lcmp hx hb d_law_1139 ?_
    refine w_i (y := 0) (by simp [lg_cmp]) ?_
    refine lv_if_eq (tgt := 1145) hx hb d_law_1140 (by decide) (fun _ => ?_) (fun h => absurd h (by decide))
    refine lv_goto (tgt := 2391) hx hb d_law_1145 (by decide) ?_
    exact law_tail l hx hb hr hlocks hX hbl hbA hT hS (lv_sub hl [2, 6] rfl) (by decide) (by decide)
theorem d_law_1148 : decode code 1148 = .ok (.aload_n 1, 1) := by decide +kernel
theorem d_law_1149 : decode code 1149 = .ok (.aload_n 0, 1) := by decide +kernel
theorem d_law_1150 : decode code 1150 = .ok (.iload 4, 2) := by decide +kernel
theorem d_law_1152 : decode code 1152 = .ok (.iconst 1, 1) := by decide +kernel
theorem d_law_1153 : decode code 1153 = .ok (.iadd, 1) := by decide +kernel
theorem d_law_1154 : decode code 1154 = .ok (.iaload, 1) := by decide +kernel
theorem d_law_1155 : decode code 1155 = .ok (.aload_n 3, 1) := by decide +kernel
theorem d_law_1156 : decode code 1156 = .ok (.invokestatic 159, 3) := by decide +kernel
theorem d_law_1159 : decode code 1159 = .ok (.istore 5, 2) := by decide +kernel
theorem d_law_1161 : decode code 1161 = .ok (.aload_n 2, 1) := by decide +kernel
theorem d_law_1162 : decode code 1162 = .ok (.aload_n 0, 1) := by decide +kernel
theorem d_law_1163 : decode code 1163 = .ok (.iload 4, 2) := by decide +kernel
theorem d_law_1165 : decode code 1165 = .ok (.iconst 1, 1) := by decide +kernel
theorem d_law_1166 : decode code 1166 = .ok (.iadd, 1) := by decide +kernel
theorem d_law_1167 : decode code 1167 = .ok (.iaload, 1) := by decide +kernel
theorem d_law_1168 : decode code 1168 = .ok (.invokevirtual 161, 3) := by decide +kernel
theorem d_law_1171 : decode code 1171 = .ok (.istore 6, 2) := by decide +kernel
theorem d_law_1173 : decode code 1173 = .ok (.aload_n 2, 1) := by decide +kernel
theorem d_law_1174 : decode code 1174 = .ok (.invokevirtual 120, 3) := by decide +kernel
theorem d_law_1177 : decode code 1177 = .ok (.iload 5, 2) := by decide +kernel
theorem d_law_1179 : decode code 1179 = .ok (.if_icmp .eq 5, 3) := by decide +kernel
theorem d_law_1184 : decode code 1184 = .ok (.iload 5, 2) := by decide +kernel
theorem d_law_1186 : decode code 1186 = .ok (.ifCond .ne 15, 3) := by decide +kernel
theorem d_law_1201 : decode code 1201 = .ok (.goto 1190, 3) := by decide +kernel
theorem d_law_1189 : decode code 1189 = .ok (.aload_n 3, 1) := by decide +kernel
theorem d_law_1190 : decode code 1190 = .ok (.iconst 0, 1) := by decide +kernel
theorem d_law_1191 : decode code 1191 = .ok (.laload, 1) := by decide +kernel
theorem d_law_1192 : decode code 1192 = .ok (.iload 6, 2) := by decide +kernel
theorem d_law_1194 : decode code 1194 = .ok (.i2l, 1) := by decide +kernel
theorem d_law_1195 : decode code 1195 = .ok (.lcmp, 1) := by decide +kernel
theorem d_law_1196 : decode code 1196 = .ok (.ifCond .eq 5, 3) := by decide +kernel
set_option maxHeartbeats 4000000 in
set_option maxRecDepth 100000 in
theorem law_c10 {p : Program} {e : Env} {s : State} {m : MethodId} {below : List Frame} {meth : Method} {c : Code} (l : Launch) (hfl : l.flags = flags0) {b : Nat} {xs : Nat → Int32} {D : va_G} {ad : Nat → Nat} {ac : Nat → ClassId} {md : Nat → Nat} {mc : Nat → ClassId} {o : Nat} {H : Heap} {locs : List Loc} {ls : Array Slot} (h : LwS p s m meth c b 7 xs D ad ac md mc o H locs ls) : W p l e room_1 s m #[Value.ref b] below meth c H locs 636 1394874 (lw_Z below #[Value.ref b] s) (F0 m 1148 ls []) := by
  obtain ⟨hx, hb, hr, hml, hown, hts, hX, hbl, hlocks, hev, hP, hK, hD, hS, hl⟩ := h
  have hNS : tx_NS (lA s) s := fun q cell hq hc => absurd (Array.getElem?_eq_some_iff.mp hc).1 (Nat.not_lt.mpr hq)
  have hA : ∀ q : Nat, s.heap.size ≤ q → lA s q := fun _ h => h
  have hT : ∀ q : Nat, lA s q → s.heap.size ≤ q := fun _ h => h
  have hbA : ¬ lA s b := Nat.not_le.mpr hbl
  generalize lA s = A at hev hD hS hNS hA hT hbA
  refine lv_aload_n hx hb d_law_1148 rfl (lv_at hl 3 rfl) ?_
  refine lv_aload_n hx hb d_law_1149 rfl (lv_at hl 4 rfl) ?_
  refine lv_iload hx hb d_law_1150 (lv_at hl 0 rfl) ?_
  refine lv_iconst (v := 1) hx hb d_law_1152 (by decide) ?_
  refine lv_iadd hx hb d_law_1153 ?_
  refine w_i (y := 1) (by decide) ?_
  refine va_sld hx hb hX hbl hbA hS (i := 1) (vp_in_nI (n := 1) (N := 7) (by decide) (by decide)) d_law_1154 ?_
  refine w_i (y := xs 1) rfl ?_
  refine lv_aload_n hx hb d_law_1155 rfl (lv_at hl 1 rfl) ?_
  have hPh := p_l hP
  have hDh := d_l hD
  have hKh := hK.sub (tys' := fxT ac) [0, 1, 2, 3, 4, 5, 6, 7] rfl
  have hFc := fr_all hDh hS hA
  refine va_calli (tx_runSW (As := [.ref (ad 0), .int (xs 1), .ref o]) (rest := []) ⟨hx, hb, hml, hown, hts⟩ (h_drop l hfl D ad ac (fun _ => 0) o (fun _ => 0) H.size (xs 1)) (cw_w 3 hts kw_1060 kw_1058 kw_1059 kw_0 rfl rfl (by decide +kernel) ⟨Nat.le_of_ble_eq_true rfl, Nat.le_of_ble_eq_true rfl⟩) ⟨h_blind, fun U hU hW => h_pre hU hW hPh hKh hDh hev hNS hS hFc⟩ rfl rfl hl.1 rfl (lv_room (Nat.le_of_ble_eq_true rfl)) d_law_1156 ⟨Nat.le_of_ble_eq_true rfl, Nat.le_of_ble_eq_true rfl⟩) hS (fun q _ h => hFc q h) hFc (fun rz u t H1 locs ht hvm hw hB hz1 hk1 hS => ?_)
  obtain ⟨hP1, -, -⟩ := hB
  rw [ht] at hP1
  obtain ⟨hw1, hw2⟩ := hw
  subst hw1
  have hP := hP1.app (p_keep hP hD hk1)
  have hD := d_oc hD (e' := .inl (ac 7, 1, .inr (.inl u)))
  generalize H1 = H at hP hS ⊢
  have hP : va_P D cls [(o, .inl (ac 7, 1, .inr (.inl u))), (md 100, .inr (12, [.int 0, .ref (md 1), .ref (md 2), .ref (md 3), .int 0, .int 0, .int 0, .int 0, .ref (md 8), .ref (md 9), .ref (md 10), .ref (md 11), .ref (md 12), .ref (md 13), .ref (md 14), .ref (md 15), .ref (md 16), .ref (md 17), .ref (md 18), .ref (md 19), .ref (md 20), .ref (md 21), .ref (md 22), .int 0, .ref (md 24), .int 0, .ref (md 26), .int 0, .ref (md 28), .ref (md 29), .ref (md 30), .ref (md 31), .ref (md 32), .ref (md 33), .int 0, .int 0, .ref (md 36), .ref (md 37), .ref (md 38), .ref (md 39), .ref (md 40), .int 0, .int (-1), .int 0, .ref (md 44), .ref (md 45), .ref (md 46), .int 0, .ref (md 48), .ref (md 49), .int 0, .ref (md 51), .int 0, .ref (md 53), .ref (md 54), .ref (md 55), .ref (md 56), .ref (md 57), .ref (md 58), .ref (md 59), .ref (md 60), .ref (md 61), .ref (md 62), .ref (md 63), .int 0, .int 0, .int 0, .int 0, .int 0, .int 0, .ref (md 70), .int 0, .ref (md 72), .int 0, .int 400000, .int 0, .int 0])), (md 39, .inl (mc 0, 8, .inl (fun _ => -1))), (md 1, .inl (mc 1, 8300, .inl (fun _ => 0))), (md 40, .inl (mc 1, 800000, .inl (fun _ => 0))), (md 72, .inl (mc 0, 12010, .inl (fun _ => 0)))] H := hP
  have hD : va_D A [(o, .inl (ac 7, 1, .inr (.inl u))), (md 100, .inr (12, [.int 0, .ref (md 1), .ref (md 2), .ref (md 3), .int 0, .int 0, .int 0, .int 0, .ref (md 8), .ref (md 9), .ref (md 10), .ref (md 11), .ref (md 12), .ref (md 13), .ref (md 14), .ref (md 15), .ref (md 16), .ref (md 17), .ref (md 18), .ref (md 19), .ref (md 20), .ref (md 21), .ref (md 22), .int 0, .ref (md 24), .int 0, .ref (md 26), .int 0, .ref (md 28), .ref (md 29), .ref (md 30), .ref (md 31), .ref (md 32), .ref (md 33), .int 0, .int 0, .ref (md 36), .ref (md 37), .ref (md 38), .ref (md 39), .ref (md 40), .int 0, .int (-1), .int 0, .ref (md 44), .ref (md 45), .ref (md 46), .int 0, .ref (md 48), .ref (md 49), .int 0, .ref (md 51), .int 0, .ref (md 53), .ref (md 54), .ref (md 55), .ref (md 56), .ref (md 57), .ref (md 58), .ref (md 59), .ref (md 60), .ref (md 61), .ref (md 62), .ref (md 63), .int 0, .int 0, .int 0, .int 0, .int 0, .int 0, .ref (md 70), .int 0, .ref (md 72), .int 0, .int 400000, .int 0, .int 0])), (md 39, .inl (mc 0, 8, .inl (fun _ => -1))), (md 1, .inl (mc 1, 8300, .inl (fun _ => 0))), (md 40, .inl (mc 1, 800000, .inl (fun _ => 0))), (md 72, .inl (mc 0, 12010, .inl (fun _ => 0)))] := hD
  refine W.cs (cells' := 637) (slots' := 1394880) rfl rfl ?_
  refine lv_istore (lv' := [(5, .int (k_dro (xs 1))), (4, .int 0), (3, .ref o), (2, .ref (md 100)), (1, .ref (ad 0)), (0, .ref b)]) hx hb d_law_1159 hl (by decide) rfl (fun ls hl => ?_)
  refine lv_aload_n hx hb d_law_1161 rfl (lv_at hl 3 rfl) ?_
  refine lv_aload_n hx hb d_law_1162 rfl (lv_at hl 5 rfl) ?_
  refine lv_iload hx hb d_law_1163 (lv_at hl 1 rfl) ?_
  refine lv_iconst (v := 1) hx hb d_law_1165 (by decide) ?_
  refine lv_iadd hx hb d_law_1166 ?_
  refine w_i (y := 1) (by decide) ?_
  refine va_sld hx hb hX hbl hbA hS (i := 1) (vp_in_nI (n := 1) (N := 7) (by decide) (by decide)) d_law_1167 ?_
  refine w_i (y := xs 1) rfl ?_
  have hPc := hP.sub (ws' := [(md 100, .inr (12, [.int 0, .ref (md 1), .ref (md 2), .ref (md 3), .int 0, .int 0, .int 0, .int 0, .ref (md 8), .ref (md 9), .ref (md 10), .ref (md 11), .ref (md 12), .ref (md 13), .ref (md 14), .ref (md 15), .ref (md 16), .ref (md 17), .ref (md 18), .ref (md 19), .ref (md 20), .ref (md 21), .ref (md 22), .int 0, .ref (md 24), .int 0, .ref (md 26), .int 0, .ref (md 28), .ref (md 29), .ref (md 30), .ref (md 31), .ref (md 32), .ref (md 33), .int 0, .int 0, .ref (md 36), .ref (md 37), .ref (md 38), .ref (md 39), .ref (md 40), .int 0, .int (-1), .int 0, .ref (md 44), .ref (md 45), .ref (md 46), .int 0, .ref (md 48), .ref (md 49), .int 0, .ref (md 51), .int 0, .ref (md 53), .ref (md 54), .ref (md 55), .ref (md 56), .ref (md 57), .ref (md 58), .ref (md 59), .ref (md 60), .ref (md 61), .ref (md 62), .ref (md 63), .int 0, .int 0, .int 0, .int 0, .int 0, .int 0, .ref (md 70), .int 0, .ref (md 72), .int 0, .int 400000, .int 0, .int 0]))]) [1] rfl
  have hDc := hD.sub (ws' := [(md 100, .inr (12, [.int 0, .ref (md 1), .ref (md 2), .ref (md 3), .int 0, .int 0, .int 0, .int 0, .ref (md 8), .ref (md 9), .ref (md 10), .ref (md 11), .ref (md 12), .ref (md 13), .ref (md 14), .ref (md 15), .ref (md 16), .ref (md 17), .ref (md 18), .ref (md 19), .ref (md 20), .ref (md 21), .ref (md 22), .int 0, .ref (md 24), .int 0, .ref (md 26), .int 0, .ref (md 28), .ref (md 29), .ref (md 30), .ref (md 31), .ref (md 32), .ref (md 33), .int 0, .int 0, .ref (md 36), .ref (md 37), .ref (md 38), .ref (md 39), .ref (md 40), .int 0, .int (-1), .int 0, .ref (md 44), .ref (md 45), .ref (md 46), .int 0, .ref (md 48), .ref (md 49), .int 0, .ref (md 51), .int 0, .ref (md 53), .ref (md 54), .ref (md 55), .ref (md 56), .ref (md 57), .ref (md 58), .ref (md 59), .ref (md 60), .ref (md 61), .ref (md 62), .ref (md 63), .int 0, .int 0, .int 0, .int 0, .int 0, .int 0, .ref (md 70), .int 0, .ref (md 72), .int 0, .int 400000, .int 0, .int 0]))]) [1] (by decide) rfl
  have hKc := hK.sub (tys' := []) [] rfl
  have hFc := va_free (wc := [(md 100, .inr (12, [.int 0, .ref (md 1), .ref (md 2), .ref (md 3), .int 0, .int 0, .int 0, .int 0, .ref (md 8), .ref (md 9), .ref (md 10), .ref (md 11), .ref (md 12), .ref (md 13), .ref (md 14), .ref (md 15), .ref (md 16), .ref (md 17), .ref (md 18), .ref (md 19), .ref (md 20), .ref (md 21), .ref (md 22), .int 0, .ref (md 24), .int 0, .ref (md 26), .int 0, .ref (md 28), .ref (md 29), .ref (md 30), .ref (md 31), .ref (md 32), .ref (md 33), .int 0, .int 0, .ref (md 36), .ref (md 37), .ref (md 38), .ref (md 39), .ref (md 40), .int 0, .int (-1), .int 0, .ref (md 44), .ref (md 45), .ref (md 46), .int 0, .ref (md 48), .ref (md 49), .int 0, .ref (md 51), .int 0, .ref (md 53), .ref (md 54), .ref (md 55), .ref (md 56), .ref (md 57), .ref (md 58), .ref (md 59), .ref (md 60), .ref (md 61), .ref (md 62), .ref (md 63), .int 0, .int 0, .int 0, .int 0, .int 0, .int 0, .ref (md 70), .int 0, .ref (md 72), .int 0, .int 400000, .int 0, .int 0]))]) hD hS hA [1] rfl
  refine va_calli (va_runV (As := [.int (xs 1)]) (rest := []) ⟨hx, hb, hml, hown, hts⟩ (g_p_drop l D H.size md mc (xs 1)) (cw_v 1 hts kw_1827 kw_1824 kw_1825 kw_1826 kw_11 rfl rfl (by decide +kernel) ⟨Nat.le_of_ble_eq_true rfl, Nat.le_of_ble_eq_true rfl⟩) ⟨g_blind, va_recv hKc hPc (ci := 12) (q0 := 0) rfl rfl, fun U hU hW => g_pre hU hW hPc hKc hDc⟩ rfl rfl hl.1 rfl (lv_room (Nat.le_of_ble_eq_true rfl)) d_law_1168 ⟨Nat.le_of_ble_eq_true rfl, Nat.le_of_ble_eq_true rfl⟩) hS (fun q _ h => hFc q h) hFc (fun r_1 u_2 t H1 locs ht hvm hw hB hz1 hk1 hS => ?_)
  obtain ⟨hP1, hK1, hD1⟩ := hB
  rw [ht] at hP1
  have hK1 := va_K.moved hvm.symm hK1
  obtain ⟨hP, hD⟩ := va_join (wr := [(o, .inl (ac 7, 1, .inr (.inl u))), (md 39, .inl (mc 0, 8, .inl (fun _ => -1))), (md 1, .inl (mc 1, 8300, .inl (fun _ => 0))), (md 40, .inl (mc 1, 800000, .inl (fun _ => 0))), (md 72, .inl (mc 0, 12010, .inl (fun _ => 0)))]) (w1 := [(md 100, .inr (12, .int (k_dro (xs 1)) :: u_2))]) hP hD [1] [0, 2, 3, 4, 5] rfl rfl (by decide) (by decide) hk1 hFc hP1 hD1
  generalize H1 = H at hP hS ⊢
  have hP : va_P D cls [(o, .inl (ac 7, 1, .inr (.inl u))), (md 39, .inl (mc 0, 8, .inl (fun _ => -1))), (md 1, .inl (mc 1, 8300, .inl (fun _ => 0))), (md 40, .inl (mc 1, 800000, .inl (fun _ => 0))), (md 72, .inl (mc 0, 12010, .inl (fun _ => 0))), (md 100, .inr (12, .int (k_dro (xs 1)) :: u_2))] H := hP
  have hD : va_D A [(o, .inl (ac 7, 1, .inr (.inl u))), (md 39, .inl (mc 0, 8, .inl (fun _ => -1))), (md 1, .inl (mc 1, 8300, .inl (fun _ => 0))), (md 40, .inl (mc 1, 800000, .inl (fun _ => 0))), (md 72, .inl (mc 0, 12010, .inl (fun _ => 0))), (md 100, .inr (12, .int (k_dro (xs 1)) :: u_2))] := hD
  refine W.cs (cells' := 637) (slots' := 1394880) rfl rfl ?_
  have hwm := hw
  refine lv_istore (lv' := [(6, .int r_1), (5, .int (k_dro (xs 1))), (4, .int 0), (3, .ref o), (2, .ref (md 100)), (1, .ref (ad 0)), (0, .ref b)]) hx hb d_law_1171 hl (by decide) rfl (fun ls hl => ?_)
  refine lv_aload_n hx hb d_law_1173 rfl (lv_at hl 4 rfl) ?_
  have hPc := hP.sub (ws' := [(md 100, .inr (12, .int (k_dro (xs 1)) :: u_2))]) [5] rfl
  have hDc := hD.sub (ws' := [(md 100, .inr (12, .int (k_dro (xs 1)) :: u_2))]) [5] (by decide) rfl
  have hKc := hK.sub (tys' := []) [] rfl
  have hFc := va_free (wc := [(md 100, .inr (12, .int (k_dro (xs 1)) :: u_2))]) hD hS hA [5] rfl
  refine va_calli (va_runV (As := []) (rest := []) ⟨hx, hb, hml, hown, hts⟩ (g_thr l D H.size md mc (k_dro (xs 1)) u_2) (cw_v 0 hts kw_1618 kw_1615 kw_1616 kw_1617 kw_11 rfl rfl (by decide +kernel) ⟨Nat.le_of_ble_eq_true rfl, Nat.le_of_ble_eq_true rfl⟩) ⟨g_blind, va_recv hKc hPc (ci := 12) (q0 := 0) rfl rfl, fun U hU hW => g_pre hU hW hPc hKc hDc⟩ rfl rfl hl.1 rfl (lv_room (Nat.le_of_ble_eq_true rfl)) d_law_1174 ⟨Nat.le_of_ble_eq_true rfl, Nat.le_of_ble_eq_true rfl⟩) hS (fun q _ h => hFc q h) hFc (fun r_3 u_4 t H1 locs ht hvm hw hB hz1 hk1 hS => ?_)
  obtain ⟨⟩ := u_4
  obtain ⟨hP1, hK1, hD1⟩ := hB
  rw [ht] at hP1
  have hK1 := va_K.moved hvm.symm hK1
  obtain ⟨hP, hD⟩ := va_join (wr := [(o, .inl (ac 7, 1, .inr (.inl u))), (md 39, .inl (mc 0, 8, .inl (fun _ => -1))), (md 1, .inl (mc 1, 8300, .inl (fun _ => 0))), (md 40, .inl (mc 1, 800000, .inl (fun _ => 0))), (md 72, .inl (mc 0, 12010, .inl (fun _ => 0)))]) (w1 := [(md 100, .inr (12, .int (k_dro (xs 1)) :: u_2))]) hP hD [5] [0, 1, 2, 3, 4] rfl rfl (by decide) (by decide) hk1 hFc hP1 hD1
  generalize H1 = H at hP hS ⊢
  have hP : va_P D cls [(o, .inl (ac 7, 1, .inr (.inl u))), (md 39, .inl (mc 0, 8, .inl (fun _ => -1))), (md 1, .inl (mc 1, 8300, .inl (fun _ => 0))), (md 40, .inl (mc 1, 800000, .inl (fun _ => 0))), (md 72, .inl (mc 0, 12010, .inl (fun _ => 0))), (md 100, .inr (12, .int (k_dro (xs 1)) :: u_2))] H := hP
  have hD : va_D A [(o, .inl (ac 7, 1, .inr (.inl u))), (md 39, .inl (mc 0, 8, .inl (fun _ => -1))), (md 1, .inl (mc 1, 8300, .inl (fun _ => 0))), (md 40, .inl (mc 1, 800000, .inl (fun _ => 0))), (md 72, .inl (mc 0, 12010, .inl (fun _ => 0))), (md 100, .inr (12, .int (k_dro (xs 1)) :: u_2))] := hD
  refine W.cs (cells' := 637) (slots' := 1394880) rfl rfl ?_
  subst hw
  refine lv_iload hx hb d_law_1177 (lv_at hl 1 rfl) ?_
  refine lv_icmp_eq (tgt := 1184) hx hb d_law_1179 (by decide) (fun _ => ?_) (fun h => absurd rfl h)
  refine lv_iload hx hb d_law_1184 (lv_at hl 1 rfl) ?_
  refine lv_if_ne (tgt := 1201) hx hb d_law_1186 (by decide) (fun c_5 => ?_) (fun c_5 => ?_)
  · refine lv_goto (tgt := 2391) hx hb d_law_1201 (by decide) ?_
    exact law_tail l hx hb hr hlocks hX hbl hbA hT hS (lv_sub hl [2, 6] rfl) (by decide) (by decide)
  · refine lv_aload_n hx hb d_law_1189 rfl (lv_at hl 3 rfl) ?_
    refine lv_iconst (v := 0) hx hb d_law_1190 (by decide) ?_
    refine va_lald hx hb hK hP 0 7 rfl rfl (i := 0) (vp_in_nI (n := 0) (N := 1) (by decide) (by decide)) d_law_1191 ?_
    refine w_l (y := 0) (hw2 c_5) ?_
    refine lv_iload hx hb d_law_1192 (lv_at hl 0 rfl) ?_
    refine lv_i2l hx hb d_law_1194 rfl ?_
    refine w_l (y := 0) (by first | (rw [hwm c_5]; done) | (rw [hwm c_5]; rfl) | (rw [hwm c_5]; decide)) ?_
    refine W.lcmp hx hb d_law_1195 ?_
    refine w_i (y := 0) (by simp [lg_cmp]) ?_
    refine lv_if_eq (tgt := 1201) hx hb d_law_1196 (by decide) (fun _ => ?_) (fun h => absurd h (by decide))
    refine lv_goto (tgt := 2391) hx hb d_law_1201 (by decide) ?_
    exact law_tail l hx hb hr hlocks hX hbl hbA hT hS (lv_sub hl [2, 6] rfl) (by decide) (by decide)
