theorem d_law_590 : decode code 590 = .ok (.aload_n 1, 1) := by decide +kernel
theorem d_law_591 : decode code 591 = .ok (.aload_n 0, 1) := by decide +kernel
theorem d_law_592 : decode code 592 = .ok (.iload 4, 2) := by decide +kernel
theorem d_law_594 : decode code 594 = .ok (.iconst 1, 1) := by decide +kernel
theorem d_law_595 : decode code 595 = .ok (.iadd, 1) := by decide +kernel
theorem d_law_596 : decode code 596 = .ok (.iaload, 1) := by decide +kernel
theorem d_law_597 : decode code 597 = .ok (.aload_n 0, 1) := by decide +kernel
theorem d_law_598 : decode code 598 = .ok (.iload 4, 2) := by decide +kernel
theorem d_law_600 : decode code 600 = .ok (.iconst 2, 1) := by decide +kernel
theorem d_law_601 : decode code 601 = .ok (.iadd, 1) := by decide +kernel
theorem d_law_602 : decode code 602 = .ok (.iaload, 1) := by decide +kernel
theorem d_law_603 : decode code 603 = .ok (.aload_n 0, 1) := by decide +kernel
theorem d_law_604 : decode code 604 = .ok (.iload 4, 2) := by decide +kernel
theorem d_law_606 : decode code 606 = .ok (.iconst 3, 1) := by decide +kernel
theorem d_law_607 : decode code 607 = .ok (.iadd, 1) := by decide +kernel
theorem d_law_608 : decode code 608 = .ok (.iaload, 1) := by decide +kernel
theorem d_law_609 : decode code 609 = .ok (.aload_n 0, 1) := by decide +kernel
theorem d_law_610 : decode code 610 = .ok (.iload 4, 2) := by decide +kernel
theorem d_law_612 : decode code 612 = .ok (.iconst 4, 1) := by decide +kernel
theorem d_law_613 : decode code 613 = .ok (.iadd, 1) := by decide +kernel
theorem d_law_614 : decode code 614 = .ok (.iaload, 1) := by decide +kernel
theorem d_law_615 : decode code 615 = .ok (.aload_n 0, 1) := by decide +kernel
theorem d_law_616 : decode code 616 = .ok (.iload 4, 2) := by decide +kernel
theorem d_law_618 : decode code 618 = .ok (.iconst 5, 1) := by decide +kernel
theorem d_law_619 : decode code 619 = .ok (.iadd, 1) := by decide +kernel
theorem d_law_620 : decode code 620 = .ok (.iaload, 1) := by decide +kernel
theorem d_law_621 : decode code 621 = .ok (.i2l, 1) := by decide +kernel
theorem d_law_622 : decode code 622 = .ok (.bipush 32, 2) := by decide +kernel
theorem d_law_624 : decode code 624 = .ok (.lshl, 1) := by decide +kernel
theorem d_law_625 : decode code 625 = .ok (.aload_n 0, 1) := by decide +kernel
theorem d_law_626 : decode code 626 = .ok (.iload 4, 2) := by decide +kernel
theorem d_law_628 : decode code 628 = .ok (.bipush 6, 2) := by decide +kernel
theorem d_law_630 : decode code 630 = .ok (.iadd, 1) := by decide +kernel
theorem d_law_631 : decode code 631 = .ok (.iaload, 1) := by decide +kernel
theorem d_law_632 : decode code 632 = .ok (.i2l, 1) := by decide +kernel
theorem d_law_633 : decode code 633 = .ok (.ldc2_w 128, 3) := by decide +kernel
theorem d_law_636 : decode code 636 = .ok (.land, 1) := by decide +kernel
theorem d_law_637 : decode code 637 = .ok (.lor, 1) := by decide +kernel
theorem d_law_638 : decode code 638 = .ok (.aload_n 3, 1) := by decide +kernel
theorem d_law_639 : decode code 639 = .ok (.invokestatic 138, 3) := by decide +kernel
theorem d_law_642 : decode code 642 = .ok (.istore 5, 2) := by decide +kernel
theorem d_law_644 : decode code 644 = .ok (.aload_n 2, 1) := by decide +kernel
theorem d_law_645 : decode code 645 = .ok (.aload_n 0, 1) := by decide +kernel
theorem d_law_646 : decode code 646 = .ok (.iload 4, 2) := by decide +kernel
theorem d_law_648 : decode code 648 = .ok (.iconst 1, 1) := by decide +kernel
theorem d_law_649 : decode code 649 = .ok (.iadd, 1) := by decide +kernel
theorem d_law_650 : decode code 650 = .ok (.iaload, 1) := by decide +kernel
theorem d_law_651 : decode code 651 = .ok (.aload_n 0, 1) := by decide +kernel
theorem d_law_652 : decode code 652 = .ok (.iload 4, 2) := by decide +kernel
theorem d_law_654 : decode code 654 = .ok (.iconst 2, 1) := by decide +kernel
theorem d_law_655 : decode code 655 = .ok (.iadd, 1) := by decide +kernel
theorem d_law_656 : decode code 656 = .ok (.iaload, 1) := by decide +kernel
theorem d_law_657 : decode code 657 = .ok (.aload_n 0, 1) := by decide +kernel
theorem d_law_658 : decode code 658 = .ok (.iload 4, 2) := by decide +kernel
theorem d_law_660 : decode code 660 = .ok (.iconst 3, 1) := by decide +kernel
theorem d_law_661 : decode code 661 = .ok (.iadd, 1) := by decide +kernel
theorem d_law_662 : decode code 662 = .ok (.iaload, 1) := by decide +kernel
theorem d_law_663 : decode code 663 = .ok (.aload_n 0, 1) := by decide +kernel
theorem d_law_664 : decode code 664 = .ok (.iload 4, 2) := by decide +kernel
theorem d_law_666 : decode code 666 = .ok (.iconst 4, 1) := by decide +kernel
theorem d_law_667 : decode code 667 = .ok (.iadd, 1) := by decide +kernel
theorem d_law_668 : decode code 668 = .ok (.iaload, 1) := by decide +kernel
theorem d_law_669 : decode code 669 = .ok (.aload_n 0, 1) := by decide +kernel
theorem d_law_670 : decode code 670 = .ok (.iload 4, 2) := by decide +kernel
theorem d_law_672 : decode code 672 = .ok (.iconst 5, 1) := by decide +kernel
theorem d_law_673 : decode code 673 = .ok (.iadd, 1) := by decide +kernel
theorem d_law_674 : decode code 674 = .ok (.iaload, 1) := by decide +kernel
theorem d_law_675 : decode code 675 = .ok (.i2l, 1) := by decide +kernel
theorem d_law_676 : decode code 676 = .ok (.bipush 32, 2) := by decide +kernel
theorem d_law_678 : decode code 678 = .ok (.lshl, 1) := by decide +kernel
theorem d_law_679 : decode code 679 = .ok (.aload_n 0, 1) := by decide +kernel
theorem d_law_680 : decode code 680 = .ok (.iload 4, 2) := by decide +kernel
theorem d_law_682 : decode code 682 = .ok (.bipush 6, 2) := by decide +kernel
theorem d_law_684 : decode code 684 = .ok (.iadd, 1) := by decide +kernel
theorem d_law_685 : decode code 685 = .ok (.iaload, 1) := by decide +kernel
theorem d_law_686 : decode code 686 = .ok (.i2l, 1) := by decide +kernel
theorem d_law_687 : decode code 687 = .ok (.ldc2_w 128, 3) := by decide +kernel
theorem d_law_690 : decode code 690 = .ok (.land, 1) := by decide +kernel
theorem d_law_691 : decode code 691 = .ok (.lor, 1) := by decide +kernel
theorem d_law_692 : decode code 692 = .ok (.invokevirtual 140, 3) := by decide +kernel
theorem d_law_695 : decode code 695 = .ok (.istore 6, 2) := by decide +kernel
theorem d_law_697 : decode code 697 = .ok (.aload_n 2, 1) := by decide +kernel
theorem d_law_698 : decode code 698 = .ok (.invokevirtual 120, 3) := by decide +kernel
theorem d_law_701 : decode code 701 = .ok (.iload 5, 2) := by decide +kernel
theorem d_law_703 : decode code 703 = .ok (.if_icmp .eq 5, 3) := by decide +kernel
theorem d_law_708 : decode code 708 = .ok (.iload 5, 2) := by decide +kernel
theorem d_law_710 : decode code 710 = .ok (.ifCond .ne 15, 3) := by decide +kernel
theorem d_law_725 : decode code 725 = .ok (.goto 1666, 3) := by decide +kernel
theorem d_law_713 : decode code 713 = .ok (.aload_n 3, 1) := by decide +kernel
theorem d_law_714 : decode code 714 = .ok (.iconst 0, 1) := by decide +kernel
theorem d_law_715 : decode code 715 = .ok (.laload, 1) := by decide +kernel
theorem d_law_716 : decode code 716 = .ok (.iload 6, 2) := by decide +kernel
theorem d_law_718 : decode code 718 = .ok (.i2l, 1) := by decide +kernel
theorem d_law_719 : decode code 719 = .ok (.lcmp, 1) := by decide +kernel
theorem d_law_720 : decode code 720 = .ok (.ifCond .eq 5, 3) := by decide +kernel
set_option maxHeartbeats 8000000 in
set_option maxRecDepth 100000 in
theorem law_k4 {p : Program} {e : Env} {s : State} {m : MethodId} {below : List Frame} {meth : Method} {c : Code} (l : Launch) (hfl : l.flags = flags0) {b L i : Nat} {xs : Nat → Int32} {D : va_G} {cc : Nat → ClassId} {md : Nat → Nat} {mc : Nat → ClassId} {o : Nat} {cL : ClassId} {sad sav : Nat → Nat} {ad : Nat → Nat → Nat} {ov : Nat → Int64} {N : Nat → Nat} {C : CS} {S : MS} {A : AS} {rd cells slots : Nat} {H : Heap} {locs : List Loc} {ls : Array Slot} (h : LwW p s m meth c b L xs D cc md mc o cL sad sav i ad ov N C S A rd H locs ls) (hi7 : i + 7 ≤ L) (hrd : rd + 60000 < 2 ^ 30) (hcb : cells ≤ 500000) (hsb : slots ≤ 6000000) (hk : ∀ (ad1 : Nat → Nat → Nat) (ov1 : Nat → Int64) (N1 : Nat → Nat) (C1 : CS) (S1 : MS) (A1 : AS) (rd1 c1 z1 : Nat) (H1 : Heap) (locs1 : List Loc) (ls1 : Array Slot), LwW p s m meth c b L xs D cc md mc o cL sad sav i ad1 ov1 N1 C1 S1 A1 rd1 H1 locs1 ls1 → A.n ≤ A1.n → A.m ≤ A1.m → rd1 ≤ rd + 50000 → c1 ≤ 2 * (A1.n - A.n) + 3 * (A1.m - A.m) + 1 → z1 ≤ 23 * (A1.n - A.n) + 40 * (A1.m - A.m) + 6 → W p l e room_1 s m #[Value.ref b] below meth c H1 locs1 (cells + c1) (slots + z1) (lw_Z below #[Value.ref b] s) (F0 m 2391 ls1 [])) : W p l e room_1 s m #[Value.ref b] below meth c H locs cells slots (lw_Z below #[Value.ref b] s) (F0 m 590 ls []) := by
  obtain ⟨⟨hx, hb, hr, hml, hown, hts, hX, hbl, hlocks, hL⟩, ⟨hev, hE, hN, hH⟩, ⟨hP, hK, hD, hS, hl⟩, hI⟩ := h
  have hNS : tx_NS (lA s) s := fun q cell hq hc => absurd (Array.getElem?_eq_some_iff.mp hc).1 (Nat.not_lt.mpr hq)
  have hA : ∀ q : Nat, s.heap.size ≤ q → lA s q := fun _ h => h
  have hbA : ¬ lA s b := Nat.not_le.mpr hbl
  have h11 : N 11 = 1 := hI.2.1.nn.2.2.2.2.2.2.2.2.2.2.2.1
  refine lv_aload_n hx hb d_law_590 rfl (lv_at hl 3 rfl) ?_
  refine lv_aload_n hx hb d_law_591 rfl (lv_at hl 4 rfl) ?_
  refine lv_iload hx hb d_law_592 (lv_at hl 0 rfl) ?_
  refine lv_iconst (v := 1) hx hb d_law_594 (by decide) ?_
  refine lv_iadd hx hb d_law_595 ?_
  refine w_i (y := nI (i + 1)) (nI_add i 1) ?_
  refine va_sld hx hb hX hbl hbA hS (i := nI (i + 1)) (vp_in_nI (n := i + 1) (N := L) (by omega) (by omega)) d_law_596 ?_
  refine w_i (y := xs (i + 1)) (by rw [cl_nI (by omega)]) ?_
  refine lv_aload_n hx hb d_law_597 rfl (lv_at hl 4 rfl) ?_
  refine lv_iload hx hb d_law_598 (lv_at hl 0 rfl) ?_
  refine lv_iconst (v := 2) hx hb d_law_600 (by decide) ?_
  refine lv_iadd hx hb d_law_601 ?_
  refine w_i (y := nI (i + 2)) (nI_add i 2) ?_
  refine va_sld hx hb hX hbl hbA hS (i := nI (i + 2)) (vp_in_nI (n := i + 2) (N := L) (by omega) (by omega)) d_law_602 ?_
  refine w_i (y := xs (i + 2)) (by rw [cl_nI (by omega)]) ?_
  refine lv_aload_n hx hb d_law_603 rfl (lv_at hl 4 rfl) ?_
  refine lv_iload hx hb d_law_604 (lv_at hl 0 rfl) ?_
  refine lv_iconst (v := 3) hx hb d_law_606 (by decide) ?_
  refine lv_iadd hx hb d_law_607 ?_
  refine w_i (y := nI (i + 3)) (nI_add i 3) ?_
  refine va_sld hx hb hX hbl hbA hS (i := nI (i + 3)) (vp_in_nI (n := i + 3) (N := L) (by omega) (by omega)) d_law_608 ?_
  refine w_i (y := xs (i + 3)) (by rw [cl_nI (by omega)]) ?_
  refine lv_aload_n hx hb d_law_609 rfl (lv_at hl 4 rfl) ?_
  refine lv_iload hx hb d_law_610 (lv_at hl 0 rfl) ?_
  refine lv_iconst (v := 4) hx hb d_law_612 (by decide) ?_
  refine lv_iadd hx hb d_law_613 ?_
  refine w_i (y := nI (i + 4)) (nI_add i 4) ?_
  refine va_sld hx hb hX hbl hbA hS (i := nI (i + 4)) (vp_in_nI (n := i + 4) (N := L) (by omega) (by omega)) d_law_614 ?_
  refine w_i (y := xs (i + 4)) (by rw [cl_nI (by omega)]) ?_
  refine lv_aload_n hx hb d_law_615 rfl (lv_at hl 4 rfl) ?_
  refine lv_iload hx hb d_law_616 (lv_at hl 0 rfl) ?_
  refine lv_iconst (v := 5) hx hb d_law_618 (by decide) ?_
  refine lv_iadd hx hb d_law_619 ?_
  refine w_i (y := nI (i + 5)) (nI_add i 5) ?_
  refine va_sld hx hb hX hbl hbA hS (i := nI (i + 5)) (vp_in_nI (n := i + 5) (N := L) (by omega) (by omega)) d_law_620 ?_
  refine w_i (y := xs (i + 5)) (by rw [cl_nI (by omega)]) ?_
  refine lv_i2l hx hb d_law_621 rfl ?_
  refine lv_bipush (v := 32) hx hb d_law_622 (by decide) ?_
  refine lv_lshl hx hb d_law_624 rfl ?_
  refine lv_aload_n hx hb d_law_625 rfl (lv_at hl 4 rfl) ?_
  refine lv_iload hx hb d_law_626 (lv_at hl 0 rfl) ?_
  refine lv_bipush (v := 6) hx hb d_law_628 (by decide) ?_
  refine lv_iadd hx hb d_law_630 ?_
  refine w_i (y := nI (i + 6)) (nI_add i 6) ?_
  refine va_sld hx hb hX hbl hbA hS (i := nI (i + 6)) (vp_in_nI (n := i + 6) (N := L) (by omega) (by omega)) d_law_631 ?_
  refine w_i (y := xs (i + 6)) (by rw [cl_nI (by omega)]) ?_
  refine lv_i2l hx hb d_law_632 rfl ?_
  refine lv_ldc2 (v := 4294967295) hx hb hown (hts _ kw_2007) d_law_633 ?_
  refine lv_land hx hb d_law_636 ?_
  refine lv_lor hx hb d_law_637 ?_
  refine lv_topl (fun xl exl => ?_)
  refine lv_aload_n hx hb d_law_638 rfl (lv_at hl 1 rfl) ?_
  obtain ⟨N1, C1, ov1, kk, c1, z1, S1, bb, A1, rd1, e1, e2, e3, e4, hI1, e5, e6, e7, e8, e9⟩ := st_insert (ov := ov) hI hrd (xs (i + 1)) (xs (i + 2)) (xs (i + 3)) (xs (i + 4)) xl
  have hn1 := hI1.2.2.1.1.1
  have hm1 := hI1.2.2.1.1.2.1
  have hPh := p_l hP
  have hDh := d_l hD
  have hKh := hK.sub (tys' := cty cc ++ [(cL, .long)]) [0, 1, 2, 3, 4, 5, 6, 7] rfl
  have hFc := fr_all hDh hS hA
  refine va_calli (tx_runSW (As := [.ref (ad 11 0), .int (xs (i + 1)), .int (xs (i + 2)), .int (xs (i + 3)), .int (xs (i + 4)), .long xl, .ref o]) (rest := []) ⟨hx, hb, hml, hown, hts⟩ (g_h_insert l hfl D H.size (ad := ad) (cc := cc) (sad := sad) (sav := sav) (cL := cL) (a := o) e1) (cw_w 7 hts kw_792 kw_790 kw_791 kw_0 rfl rfl (by decide +kernel) ⟨Nat.le_of_ble_eq_true rfl, Nat.le_of_ble_eq_true rfl⟩) ⟨h_blind, fun U hU hW => h_pre hU hW hPh hKh hDh hev hE hN hH hNS hS hFc⟩ rfl rfl hl.1 rfl (lv_room (Nat.le_of_ble_eq_true rfl)) d_law_639 ⟨by show cells + c1 ≤ 601024; omega, by show slots + z1 ≤ 7293034; omega⟩) hS (fun q _ h => hFc q h) hFc (fun rz ad1 t H1 locs ht hvm hw hB hz1 hk1 hS => ?_)
  obtain ⟨hXt, hP1, -, hD1⟩ := hB
  rw [ht] at hP1
  obtain ⟨hP, hD⟩ := join_w hP hD hk1 hFc hP1 hD1
  refine w_i (y := kk) hw ?_
  have had : ad1 11 0 = ad 11 0 := hXt.2 11 0 (by rw [h11]; decide)
  rw [← had] at hl
  generalize H1 = H at hP hS ⊢
  refine W.cs (cells' := cells + c1) (slots' := slots + z1) rfl rfl ?_
  refine lv_istore (lv' := [(5, .int kk), (4, .int (nI i)), (3, .ref o), (2, .ref (md 100)), (1, .ref (ad1 11 0)), (0, .ref b)]) hx hb d_law_642 hl (by decide) rfl (fun ls hl => ?_)
  refine lv_aload_n hx hb d_law_644 rfl (lv_at hl 3 rfl) ?_
  refine lv_aload_n hx hb d_law_645 rfl (lv_at hl 5 rfl) ?_
  refine lv_iload hx hb d_law_646 (lv_at hl 1 rfl) ?_
  refine lv_iconst (v := 1) hx hb d_law_648 (by decide) ?_
  refine lv_iadd hx hb d_law_649 ?_
  refine w_i (y := nI (i + 1)) (nI_add i 1) ?_
  refine va_sld hx hb hX hbl hbA hS (i := nI (i + 1)) (vp_in_nI (n := i + 1) (N := L) (by omega) (by omega)) d_law_650 ?_
  refine w_i (y := xs (i + 1)) (by rw [cl_nI (by omega)]) ?_
  refine lv_aload_n hx hb d_law_651 rfl (lv_at hl 5 rfl) ?_
  refine lv_iload hx hb d_law_652 (lv_at hl 1 rfl) ?_
  refine lv_iconst (v := 2) hx hb d_law_654 (by decide) ?_
  refine lv_iadd hx hb d_law_655 ?_
  refine w_i (y := nI (i + 2)) (nI_add i 2) ?_
  refine va_sld hx hb hX hbl hbA hS (i := nI (i + 2)) (vp_in_nI (n := i + 2) (N := L) (by omega) (by omega)) d_law_656 ?_
  refine w_i (y := xs (i + 2)) (by rw [cl_nI (by omega)]) ?_
  refine lv_aload_n hx hb d_law_657 rfl (lv_at hl 5 rfl) ?_
  refine lv_iload hx hb d_law_658 (lv_at hl 1 rfl) ?_
  refine lv_iconst (v := 3) hx hb d_law_660 (by decide) ?_
  refine lv_iadd hx hb d_law_661 ?_
  refine w_i (y := nI (i + 3)) (nI_add i 3) ?_
  refine va_sld hx hb hX hbl hbA hS (i := nI (i + 3)) (vp_in_nI (n := i + 3) (N := L) (by omega) (by omega)) d_law_662 ?_
  refine w_i (y := xs (i + 3)) (by rw [cl_nI (by omega)]) ?_
  refine lv_aload_n hx hb d_law_663 rfl (lv_at hl 5 rfl) ?_
  refine lv_iload hx hb d_law_664 (lv_at hl 1 rfl) ?_
  refine lv_iconst (v := 4) hx hb d_law_666 (by decide) ?_
  refine lv_iadd hx hb d_law_667 ?_
  refine w_i (y := nI (i + 4)) (nI_add i 4) ?_
  refine va_sld hx hb hX hbl hbA hS (i := nI (i + 4)) (vp_in_nI (n := i + 4) (N := L) (by omega) (by omega)) d_law_668 ?_
  refine w_i (y := xs (i + 4)) (by rw [cl_nI (by omega)]) ?_
  refine lv_aload_n hx hb d_law_669 rfl (lv_at hl 5 rfl) ?_
  refine lv_iload hx hb d_law_670 (lv_at hl 1 rfl) ?_
  refine lv_iconst (v := 5) hx hb d_law_672 (by decide) ?_
  refine lv_iadd hx hb d_law_673 ?_
  refine w_i (y := nI (i + 5)) (nI_add i 5) ?_
  refine va_sld hx hb hX hbl hbA hS (i := nI (i + 5)) (vp_in_nI (n := i + 5) (N := L) (by omega) (by omega)) d_law_674 ?_
  refine w_i (y := xs (i + 5)) (by rw [cl_nI (by omega)]) ?_
  refine lv_i2l hx hb d_law_675 rfl ?_
  refine lv_bipush (v := 32) hx hb d_law_676 (by decide) ?_
  refine lv_lshl hx hb d_law_678 rfl ?_
  refine lv_aload_n hx hb d_law_679 rfl (lv_at hl 5 rfl) ?_
  refine lv_iload hx hb d_law_680 (lv_at hl 1 rfl) ?_
  refine lv_bipush (v := 6) hx hb d_law_682 (by decide) ?_
  refine lv_iadd hx hb d_law_684 ?_
  refine w_i (y := nI (i + 6)) (nI_add i 6) ?_
  refine va_sld hx hb hX hbl hbA hS (i := nI (i + 6)) (vp_in_nI (n := i + 6) (N := L) (by omega) (by omega)) d_law_685 ?_
  refine w_i (y := xs (i + 6)) (by rw [cl_nI (by omega)]) ?_
  refine lv_i2l hx hb d_law_686 rfl ?_
  refine lv_ldc2 (v := 4294967295) hx hb hown (hts _ kw_2007) d_law_687 ?_
  refine lv_land hx hb d_law_690 ?_
  refine lv_lor hx hb d_law_691 ?_
  refine w_l (y := xl) exl.symm ?_
  have hPc := p_r hP
  have hDc := d_r hD
  have hKc := hK.sub (tys' := mty mc) [8, 9, 10, 11, 12] rfl
  have hFc := fr_all hDc hS hA
  refine va_calli (va_runV (As := [.int (xs (i + 1)), .int (xs (i + 2)), .int (xs (i + 3)), .int (xs (i + 4)), .long xl]) (rest := []) ⟨hx, hb, hml, hown, hts⟩ (g_rinsert l D H.size (md := md) (mc := mc) e2) (cw_v 5 hts kw_1729 kw_1726 kw_1727 kw_1728 kw_11 rfl rfl (by decide +kernel) ⟨Nat.le_of_ble_eq_true rfl, Nat.le_of_ble_eq_true rfl⟩) ⟨g_blind, va_recv hKc hPc (ci := 12) (q0 := 0) rfl rfl, fun U hU hW => g_pre hU hW hPc hKc hDc⟩ rfl rfl hl.1 rfl (lv_room (Nat.le_of_ble_eq_true rfl)) d_law_692 ⟨by show cells + c1 + 0 ≤ 601024; omega, by show slots + z1 + 0 ≤ 7293034; omega⟩) hS (fun q _ h => hFc q h) hFc (fun rb u t H1 locs ht hvm hw hB hz1 hk1 hS => ?_)
  obtain ⟨hP1, -, hD1⟩ := hB
  rw [ht] at hP1
  obtain ⟨hP, hD⟩ := join_r hP hD hk1 hFc hP1 hD1
  refine w_i (y := bb) hw ?_
  generalize H1 = H at hP hS ⊢
  refine W.cs (cells' := cells + c1) (slots' := slots + z1) rfl rfl ?_
  refine lv_istore (lv' := [(6, .int bb), (5, .int kk), (4, .int (nI i)), (3, .ref o), (2, .ref (md 100)), (1, .ref (ad1 11 0)), (0, .ref b)]) hx hb d_law_695 hl (by decide) rfl (fun ls hl => ?_)
  refine lv_aload_n hx hb d_law_697 rfl (lv_at hl 4 rfl) ?_
  have hPc := p_r hP
  have hDc := d_r hD
  have hKc := hK.sub (tys' := mty mc) [8, 9, 10, 11, 12] rfl
  have hFc := fr_all hDc hS hA
  refine va_calli (va_runV (As := []) (rest := []) ⟨hx, hb, hml, hown, hts⟩ (g_rthrown l D H.size (md := md) (mc := mc) (show m_rthrown S1 = some (S1, S1.i 0) from rfl)) (cw_v 0 hts kw_1618 kw_1615 kw_1616 kw_1617 kw_11 rfl rfl (by decide +kernel) ⟨Nat.le_of_ble_eq_true rfl, Nat.le_of_ble_eq_true rfl⟩) ⟨g_blind, va_recv hKc hPc (ci := 12) (q0 := 0) rfl rfl, fun U hU hW => g_pre hU hW hPc hKc hDc⟩ rfl rfl hl.1 rfl (lv_room (Nat.le_of_ble_eq_true rfl)) d_law_698 ⟨by show cells + c1 + 0 ≤ 601024; omega, by show slots + z1 + 0 ≤ 7293034; omega⟩) hS (fun q _ h => hFc q h) hFc (fun rt u t H1 locs ht hvm hw hB hz1 hk1 hS => ?_)
  obtain ⟨hP1, -, hD1⟩ := hB
  rw [ht] at hP1
  obtain ⟨hP, hD⟩ := join_r hP hD hk1 hFc hP1 hD1
  refine w_i (y := kk) (hw.trans e3) ?_
  generalize H1 = H at hP hS ⊢
  refine W.cs (cells' := cells + c1) (slots' := slots + z1) rfl rfl ?_
  refine lv_iload hx hb d_law_701 (lv_at hl 1 rfl) ?_
  refine lv_icmp_eq (tgt := 708) hx hb d_law_703 (by decide) (fun _ => ?_) (fun h => absurd rfl h)
  refine lv_iload hx hb d_law_708 (lv_at hl 1 rfl) ?_
  refine lv_if_ne (tgt := 725) hx hb d_law_710 (by decide) (fun ck => ?_) (fun ck => ?_)
  · refine lv_goto (tgt := 2391) hx hb d_law_725 (by decide) ?_
    exact hk ad1 ov1 N1 C1 S1 A1 rd1 c1 z1 H _ ls ⟨⟨hx, hb, hr, hml, hown, hts, hX, hbl, hlocks, hL⟩, ⟨hev, hE, hN, hH⟩, ⟨hP, hK, hD, hS, lv_sub hl [2, 3, 4, 5, 6] rfl⟩, hI1⟩ e5 e6 e7 e8 e9
  · refine lv_aload_n hx hb d_law_713 rfl (lv_at hl 3 rfl) ?_
    refine lv_iconst (v := 0) hx hb d_law_714 (by decide) ?_
    refine va_lald hx hb hK hP (cw ad1 cc N1 C1).length 7 at_mid rfl (i := 0) (vp_in_nI (n := 0) (N := 1) (by decide) (by decide)) d_law_715 ?_
    refine w_l (y := ov1 0) rfl ?_
    refine lv_iload hx hb d_law_716 (lv_at hl 0 rfl) ?_
    refine lv_i2l hx hb d_law_718 rfl ?_
    refine w_l (y := ov1 0) (e4 ck).symm ?_
    refine W.lcmp hx hb d_law_719 ?_
    refine w_i (y := 0) (by simp [lg_cmp]) ?_
    refine lv_if_eq (tgt := 725) hx hb d_law_720 (by decide) (fun _ => ?_) (fun h => absurd rfl h)
    refine lv_goto (tgt := 2391) hx hb d_law_725 (by decide) ?_
    exact hk ad1 ov1 N1 C1 S1 A1 rd1 c1 z1 H _ ls ⟨⟨hx, hb, hr, hml, hown, hts, hX, hbl, hlocks, hL⟩, ⟨hev, hE, hN, hH⟩, ⟨hP, hK, hD, hS, lv_sub hl [2, 3, 4, 5, 6] rfl⟩, hI1⟩ e5 e6 e7 e8 e9
theorem d_law_728 : decode code 728 = .ok (.aload_n 1, 1) := by decide +kernel
theorem d_law_729 : decode code 729 = .ok (.aload_n 0, 1) := by decide +kernel
theorem d_law_730 : decode code 730 = .ok (.iload 4, 2) := by decide +kernel
theorem d_law_732 : decode code 732 = .ok (.iconst 1, 1) := by decide +kernel
theorem d_law_733 : decode code 733 = .ok (.iadd, 1) := by decide +kernel
theorem d_law_734 : decode code 734 = .ok (.iaload, 1) := by decide +kernel
theorem d_law_735 : decode code 735 = .ok (.aload_n 0, 1) := by decide +kernel
theorem d_law_736 : decode code 736 = .ok (.iload 4, 2) := by decide +kernel
theorem d_law_738 : decode code 738 = .ok (.iconst 2, 1) := by decide +kernel
theorem d_law_739 : decode code 739 = .ok (.iadd, 1) := by decide +kernel
theorem d_law_740 : decode code 740 = .ok (.iaload, 1) := by decide +kernel
theorem d_law_741 : decode code 741 = .ok (.aload_n 0, 1) := by decide +kernel
theorem d_law_742 : decode code 742 = .ok (.iload 4, 2) := by decide +kernel
theorem d_law_744 : decode code 744 = .ok (.iconst 3, 1) := by decide +kernel
theorem d_law_745 : decode code 745 = .ok (.iadd, 1) := by decide +kernel
theorem d_law_746 : decode code 746 = .ok (.iaload, 1) := by decide +kernel
theorem d_law_747 : decode code 747 = .ok (.aload_n 0, 1) := by decide +kernel
theorem d_law_748 : decode code 748 = .ok (.iload 4, 2) := by decide +kernel
theorem d_law_750 : decode code 750 = .ok (.iconst 4, 1) := by decide +kernel
theorem d_law_751 : decode code 751 = .ok (.iadd, 1) := by decide +kernel
theorem d_law_752 : decode code 752 = .ok (.iaload, 1) := by decide +kernel
theorem d_law_753 : decode code 753 = .ok (.aload_n 3, 1) := by decide +kernel
theorem d_law_754 : decode code 754 = .ok (.invokestatic 141, 3) := by decide +kernel
theorem d_law_757 : decode code 757 = .ok (.istore 5, 2) := by decide +kernel
theorem d_law_759 : decode code 759 = .ok (.aload_n 2, 1) := by decide +kernel
theorem d_law_760 : decode code 760 = .ok (.aload_n 0, 1) := by decide +kernel
theorem d_law_761 : decode code 761 = .ok (.iload 4, 2) := by decide +kernel
theorem d_law_763 : decode code 763 = .ok (.iconst 1, 1) := by decide +kernel
theorem d_law_764 : decode code 764 = .ok (.iadd, 1) := by decide +kernel
theorem d_law_765 : decode code 765 = .ok (.iaload, 1) := by decide +kernel
theorem d_law_766 : decode code 766 = .ok (.aload_n 0, 1) := by decide +kernel
theorem d_law_767 : decode code 767 = .ok (.iload 4, 2) := by decide +kernel
theorem d_law_769 : decode code 769 = .ok (.iconst 2, 1) := by decide +kernel
theorem d_law_770 : decode code 770 = .ok (.iadd, 1) := by decide +kernel
theorem d_law_771 : decode code 771 = .ok (.iaload, 1) := by decide +kernel
theorem d_law_772 : decode code 772 = .ok (.aload_n 0, 1) := by decide +kernel
theorem d_law_773 : decode code 773 = .ok (.iload 4, 2) := by decide +kernel
theorem d_law_775 : decode code 775 = .ok (.iconst 3, 1) := by decide +kernel
theorem d_law_776 : decode code 776 = .ok (.iadd, 1) := by decide +kernel
theorem d_law_777 : decode code 777 = .ok (.iaload, 1) := by decide +kernel
theorem d_law_778 : decode code 778 = .ok (.aload_n 0, 1) := by decide +kernel
theorem d_law_779 : decode code 779 = .ok (.iload 4, 2) := by decide +kernel
theorem d_law_781 : decode code 781 = .ok (.iconst 4, 1) := by decide +kernel
theorem d_law_782 : decode code 782 = .ok (.iadd, 1) := by decide +kernel
theorem d_law_783 : decode code 783 = .ok (.iaload, 1) := by decide +kernel
theorem d_law_784 : decode code 784 = .ok (.invokevirtual 144, 3) := by decide +kernel
theorem d_law_787 : decode code 787 = .ok (.istore 6, 2) := by decide +kernel
theorem d_law_789 : decode code 789 = .ok (.aload_n 2, 1) := by decide +kernel
theorem d_law_790 : decode code 790 = .ok (.invokevirtual 120, 3) := by decide +kernel
theorem d_law_793 : decode code 793 = .ok (.iload 5, 2) := by decide +kernel
theorem d_law_795 : decode code 795 = .ok (.if_icmp .eq 5, 3) := by decide +kernel
theorem d_law_800 : decode code 800 = .ok (.iload 5, 2) := by decide +kernel
theorem d_law_802 : decode code 802 = .ok (.ifCond .ne 15, 3) := by decide +kernel
theorem d_law_817 : decode code 817 = .ok (.goto 1574, 3) := by decide +kernel
theorem d_law_805 : decode code 805 = .ok (.aload_n 3, 1) := by decide +kernel
theorem d_law_806 : decode code 806 = .ok (.iconst 0, 1) := by decide +kernel
theorem d_law_807 : decode code 807 = .ok (.laload, 1) := by decide +kernel
theorem d_law_808 : decode code 808 = .ok (.iload 6, 2) := by decide +kernel
theorem d_law_810 : decode code 810 = .ok (.i2l, 1) := by decide +kernel
theorem d_law_811 : decode code 811 = .ok (.lcmp, 1) := by decide +kernel
theorem d_law_812 : decode code 812 = .ok (.ifCond .eq 5, 3) := by decide +kernel
set_option maxHeartbeats 8000000 in
set_option maxRecDepth 100000 in
theorem law_k5 {p : Program} {e : Env} {s : State} {m : MethodId} {below : List Frame} {meth : Method} {c : Code} (l : Launch) (hfl : l.flags = flags0) {b L i : Nat} {xs : Nat → Int32} {D : va_G} {cc : Nat → ClassId} {md : Nat → Nat} {mc : Nat → ClassId} {o : Nat} {cL : ClassId} {sad sav : Nat → Nat} {ad : Nat → Nat → Nat} {ov : Nat → Int64} {N : Nat → Nat} {C : CS} {S : MS} {A : AS} {rd cells slots : Nat} {H : Heap} {locs : List Loc} {ls : Array Slot} (h : LwW p s m meth c b L xs D cc md mc o cL sad sav i ad ov N C S A rd H locs ls) (hi7 : i + 7 ≤ L) (hrd : rd + 60000 < 2 ^ 30) (hcb : cells ≤ 500000) (hsb : slots ≤ 6000000) (hk : ∀ (ad1 : Nat → Nat → Nat) (ov1 : Nat → Int64) (N1 : Nat → Nat) (C1 : CS) (S1 : MS) (A1 : AS) (rd1 c1 z1 : Nat) (H1 : Heap) (locs1 : List Loc) (ls1 : Array Slot), LwW p s m meth c b L xs D cc md mc o cL sad sav i ad1 ov1 N1 C1 S1 A1 rd1 H1 locs1 ls1 → A.n ≤ A1.n → A.m ≤ A1.m → rd1 ≤ rd + 50000 → c1 ≤ 2 * (A1.n - A.n) + 3 * (A1.m - A.m) + 1 → z1 ≤ 23 * (A1.n - A.n) + 40 * (A1.m - A.m) + 6 → W p l e room_1 s m #[Value.ref b] below meth c H1 locs1 (cells + c1) (slots + z1) (lw_Z below #[Value.ref b] s) (F0 m 2391 ls1 [])) : W p l e room_1 s m #[Value.ref b] below meth c H locs cells slots (lw_Z below #[Value.ref b] s) (F0 m 728 ls []) := by
  obtain ⟨⟨hx, hb, hr, hml, hown, hts, hX, hbl, hlocks, hL⟩, ⟨hev, hE, hN, hH⟩, ⟨hP, hK, hD, hS, hl⟩, hI⟩ := h
  have hNS : tx_NS (lA s) s := fun q cell hq hc => absurd (Array.getElem?_eq_some_iff.mp hc).1 (Nat.not_lt.mpr hq)
  have hA : ∀ q : Nat, s.heap.size ≤ q → lA s q := fun _ h => h
  have hbA : ¬ lA s b := Nat.not_le.mpr hbl
  have h11 : N 11 = 1 := hI.2.1.nn.2.2.2.2.2.2.2.2.2.2.2.1
  refine lv_aload_n hx hb d_law_728 rfl (lv_at hl 3 rfl) ?_
  refine lv_aload_n hx hb d_law_729 rfl (lv_at hl 4 rfl) ?_
  refine lv_iload hx hb d_law_730 (lv_at hl 0 rfl) ?_
  refine lv_iconst (v := 1) hx hb d_law_732 (by decide) ?_
  refine lv_iadd hx hb d_law_733 ?_
  refine w_i (y := nI (i + 1)) (nI_add i 1) ?_
  refine va_sld hx hb hX hbl hbA hS (i := nI (i + 1)) (vp_in_nI (n := i + 1) (N := L) (by omega) (by omega)) d_law_734 ?_
  refine w_i (y := xs (i + 1)) (by rw [cl_nI (by omega)]) ?_
  refine lv_aload_n hx hb d_law_735 rfl (lv_at hl 4 rfl) ?_
  refine lv_iload hx hb d_law_736 (lv_at hl 0 rfl) ?_
  refine lv_iconst (v := 2) hx hb d_law_738 (by decide) ?_
  refine lv_iadd hx hb d_law_739 ?_
  refine w_i (y := nI (i + 2)) (nI_add i 2) ?_
  refine va_sld hx hb hX hbl hbA hS (i := nI (i + 2)) (vp_in_nI (n := i + 2) (N := L) (by omega) (by omega)) d_law_740 ?_
  refine w_i (y := xs (i + 2)) (by rw [cl_nI (by omega)]) ?_
  refine lv_aload_n hx hb d_law_741 rfl (lv_at hl 4 rfl) ?_
  refine lv_iload hx hb d_law_742 (lv_at hl 0 rfl) ?_
  refine lv_iconst (v := 3) hx hb d_law_744 (by decide) ?_
  refine lv_iadd hx hb d_law_745 ?_
  refine w_i (y := nI (i + 3)) (nI_add i 3) ?_
  refine va_sld hx hb hX hbl hbA hS (i := nI (i + 3)) (vp_in_nI (n := i + 3) (N := L) (by omega) (by omega)) d_law_746 ?_
  refine w_i (y := xs (i + 3)) (by rw [cl_nI (by omega)]) ?_
  refine lv_aload_n hx hb d_law_747 rfl (lv_at hl 4 rfl) ?_
  refine lv_iload hx hb d_law_748 (lv_at hl 0 rfl) ?_
  refine lv_iconst (v := 4) hx hb d_law_750 (by decide) ?_
  refine lv_iadd hx hb d_law_751 ?_
  refine w_i (y := nI (i + 4)) (nI_add i 4) ?_
  refine va_sld hx hb hX hbl hbA hS (i := nI (i + 4)) (vp_in_nI (n := i + 4) (N := L) (by omega) (by omega)) d_law_752 ?_
  refine w_i (y := xs (i + 4)) (by rw [cl_nI (by omega)]) ?_
  refine lv_aload_n hx hb d_law_753 rfl (lv_at hl 1 rfl) ?_
  obtain ⟨N1, C1, ov1, kk, c1, z1, S1, bb, A1, rd1, e1, e2, e3, e4, hI1, e5, e6, e7, e8, e9⟩ := st_splice (ov := ov) hI hrd (xs (i + 1)) (xs (i + 2)) (xs (i + 3)) (xs (i + 4))
  have hn1 := hI1.2.2.1.1.1
  have hm1 := hI1.2.2.1.1.2.1
  have hPh := p_l hP
  have hDh := d_l hD
  have hKh := hK.sub (tys' := cty cc ++ [(cL, .long)]) [0, 1, 2, 3, 4, 5, 6, 7] rfl
  have hFc := fr_all hDh hS hA
  refine va_calli (tx_runSW (As := [.ref (ad 11 0), .int (xs (i + 1)), .int (xs (i + 2)), .int (xs (i + 3)), .int (xs (i + 4)), .ref o]) (rest := []) ⟨hx, hb, hml, hown, hts⟩ (g_h_splice l hfl D H.size (ad := ad) (cc := cc) (sad := sad) (sav := sav) (cL := cL) (a := o) e1) (cw_w 6 hts kw_811 kw_809 kw_810 kw_0 rfl rfl (by decide +kernel) ⟨Nat.le_of_ble_eq_true rfl, Nat.le_of_ble_eq_true rfl⟩) ⟨h_blind, fun U hU hW => h_pre hU hW hPh hKh hDh hev hE hN hH hNS hS hFc⟩ rfl rfl hl.1 rfl (lv_room (Nat.le_of_ble_eq_true rfl)) d_law_754 ⟨by show cells + c1 ≤ 601024; omega, by show slots + z1 ≤ 7293034; omega⟩) hS (fun q _ h => hFc q h) hFc (fun rz ad1 t H1 locs ht hvm hw hB hz1 hk1 hS => ?_)
  obtain ⟨hXt, hP1, -, hD1⟩ := hB
  rw [ht] at hP1
  obtain ⟨hP, hD⟩ := join_w hP hD hk1 hFc hP1 hD1
  refine w_i (y := kk) hw ?_
  have had : ad1 11 0 = ad 11 0 := hXt.2 11 0 (by rw [h11]; decide)
  rw [← had] at hl
  generalize H1 = H at hP hS ⊢
  refine W.cs (cells' := cells + c1) (slots' := slots + z1) rfl rfl ?_
  refine lv_istore (lv' := [(5, .int kk), (4, .int (nI i)), (3, .ref o), (2, .ref (md 100)), (1, .ref (ad1 11 0)), (0, .ref b)]) hx hb d_law_757 hl (by decide) rfl (fun ls hl => ?_)
  refine lv_aload_n hx hb d_law_759 rfl (lv_at hl 3 rfl) ?_
  refine lv_aload_n hx hb d_law_760 rfl (lv_at hl 5 rfl) ?_
  refine lv_iload hx hb d_law_761 (lv_at hl 1 rfl) ?_
  refine lv_iconst (v := 1) hx hb d_law_763 (by decide) ?_
  refine lv_iadd hx hb d_law_764 ?_
  refine w_i (y := nI (i + 1)) (nI_add i 1) ?_
  refine va_sld hx hb hX hbl hbA hS (i := nI (i + 1)) (vp_in_nI (n := i + 1) (N := L) (by omega) (by omega)) d_law_765 ?_
  refine w_i (y := xs (i + 1)) (by rw [cl_nI (by omega)]) ?_
  refine lv_aload_n hx hb d_law_766 rfl (lv_at hl 5 rfl) ?_
  refine lv_iload hx hb d_law_767 (lv_at hl 1 rfl) ?_
  refine lv_iconst (v := 2) hx hb d_law_769 (by decide) ?_
  refine lv_iadd hx hb d_law_770 ?_
  refine w_i (y := nI (i + 2)) (nI_add i 2) ?_
  refine va_sld hx hb hX hbl hbA hS (i := nI (i + 2)) (vp_in_nI (n := i + 2) (N := L) (by omega) (by omega)) d_law_771 ?_
  refine w_i (y := xs (i + 2)) (by rw [cl_nI (by omega)]) ?_
  refine lv_aload_n hx hb d_law_772 rfl (lv_at hl 5 rfl) ?_
  refine lv_iload hx hb d_law_773 (lv_at hl 1 rfl) ?_
  refine lv_iconst (v := 3) hx hb d_law_775 (by decide) ?_
  refine lv_iadd hx hb d_law_776 ?_
  refine w_i (y := nI (i + 3)) (nI_add i 3) ?_
  refine va_sld hx hb hX hbl hbA hS (i := nI (i + 3)) (vp_in_nI (n := i + 3) (N := L) (by omega) (by omega)) d_law_777 ?_
  refine w_i (y := xs (i + 3)) (by rw [cl_nI (by omega)]) ?_
  refine lv_aload_n hx hb d_law_778 rfl (lv_at hl 5 rfl) ?_
  refine lv_iload hx hb d_law_779 (lv_at hl 1 rfl) ?_
  refine lv_iconst (v := 4) hx hb d_law_781 (by decide) ?_
  refine lv_iadd hx hb d_law_782 ?_
  refine w_i (y := nI (i + 4)) (nI_add i 4) ?_
  refine va_sld hx hb hX hbl hbA hS (i := nI (i + 4)) (vp_in_nI (n := i + 4) (N := L) (by omega) (by omega)) d_law_783 ?_
  refine w_i (y := xs (i + 4)) (by rw [cl_nI (by omega)]) ?_
  have hPc := p_r hP
  have hDc := d_r hD
  have hKc := hK.sub (tys' := mty mc) [8, 9, 10, 11, 12] rfl
  have hFc := fr_all hDc hS hA
  refine va_calli (va_runV (As := [.int (xs (i + 1)), .int (xs (i + 2)), .int (xs (i + 3)), .int (xs (i + 4))]) (rest := []) ⟨hx, hb, hml, hown, hts⟩ (g_rsplice l D H.size (md := md) (mc := mc) e2) (cw_v 4 hts kw_1741 kw_1738 kw_1739 kw_1740 kw_11 rfl rfl (by decide +kernel) ⟨Nat.le_of_ble_eq_true rfl, Nat.le_of_ble_eq_true rfl⟩) ⟨g_blind, va_recv hKc hPc (ci := 12) (q0 := 0) rfl rfl, fun U hU hW => g_pre hU hW hPc hKc hDc⟩ rfl rfl hl.1 rfl (lv_room (Nat.le_of_ble_eq_true rfl)) d_law_784 ⟨by show cells + c1 + 0 ≤ 601024; omega, by show slots + z1 + 0 ≤ 7293034; omega⟩) hS (fun q _ h => hFc q h) hFc (fun rb u t H1 locs ht hvm hw hB hz1 hk1 hS => ?_)
  obtain ⟨hP1, -, hD1⟩ := hB
  rw [ht] at hP1
  obtain ⟨hP, hD⟩ := join_r hP hD hk1 hFc hP1 hD1
  refine w_i (y := bb) hw ?_
  generalize H1 = H at hP hS ⊢
  refine W.cs (cells' := cells + c1) (slots' := slots + z1) rfl rfl ?_
  refine lv_istore (lv' := [(6, .int bb), (5, .int kk), (4, .int (nI i)), (3, .ref o), (2, .ref (md 100)), (1, .ref (ad1 11 0)), (0, .ref b)]) hx hb d_law_787 hl (by decide) rfl (fun ls hl => ?_)
  refine lv_aload_n hx hb d_law_789 rfl (lv_at hl 4 rfl) ?_
  have hPc := p_r hP
  have hDc := d_r hD
  have hKc := hK.sub (tys' := mty mc) [8, 9, 10, 11, 12] rfl
  have hFc := fr_all hDc hS hA
  refine va_calli (va_runV (As := []) (rest := []) ⟨hx, hb, hml, hown, hts⟩ (g_rthrown l D H.size (md := md) (mc := mc) (show m_rthrown S1 = some (S1, S1.i 0) from rfl)) (cw_v 0 hts kw_1618 kw_1615 kw_1616 kw_1617 kw_11 rfl rfl (by decide +kernel) ⟨Nat.le_of_ble_eq_true rfl, Nat.le_of_ble_eq_true rfl⟩) ⟨g_blind, va_recv hKc hPc (ci := 12) (q0 := 0) rfl rfl, fun U hU hW => g_pre hU hW hPc hKc hDc⟩ rfl rfl hl.1 rfl (lv_room (Nat.le_of_ble_eq_true rfl)) d_law_790 ⟨by show cells + c1 + 0 ≤ 601024; omega, by show slots + z1 + 0 ≤ 7293034; omega⟩) hS (fun q _ h => hFc q h) hFc (fun rt u t H1 locs ht hvm hw hB hz1 hk1 hS => ?_)
  obtain ⟨hP1, -, hD1⟩ := hB
  rw [ht] at hP1
  obtain ⟨hP, hD⟩ := join_r hP hD hk1 hFc hP1 hD1
  refine w_i (y := kk) (hw.trans e3) ?_
  generalize H1 = H at hP hS ⊢
  refine W.cs (cells' := cells + c1) (slots' := slots + z1) rfl rfl ?_
  refine lv_iload hx hb d_law_793 (lv_at hl 1 rfl) ?_
  refine lv_icmp_eq (tgt := 800) hx hb d_law_795 (by decide) (fun _ => ?_) (fun h => absurd rfl h)
  refine lv_iload hx hb d_law_800 (lv_at hl 1 rfl) ?_
  refine lv_if_ne (tgt := 817) hx hb d_law_802 (by decide) (fun ck => ?_) (fun ck => ?_)
  · refine lv_goto (tgt := 2391) hx hb d_law_817 (by decide) ?_
    exact hk ad1 ov1 N1 C1 S1 A1 rd1 c1 z1 H _ ls ⟨⟨hx, hb, hr, hml, hown, hts, hX, hbl, hlocks, hL⟩, ⟨hev, hE, hN, hH⟩, ⟨hP, hK, hD, hS, lv_sub hl [2, 3, 4, 5, 6] rfl⟩, hI1⟩ e5 e6 e7 e8 e9
  · refine lv_aload_n hx hb d_law_805 rfl (lv_at hl 3 rfl) ?_
    refine lv_iconst (v := 0) hx hb d_law_806 (by decide) ?_
    refine va_lald hx hb hK hP (cw ad1 cc N1 C1).length 7 at_mid rfl (i := 0) (vp_in_nI (n := 0) (N := 1) (by decide) (by decide)) d_law_807 ?_
    refine w_l (y := ov1 0) rfl ?_
    refine lv_iload hx hb d_law_808 (lv_at hl 0 rfl) ?_
    refine lv_i2l hx hb d_law_810 rfl ?_
    refine w_l (y := ov1 0) (e4 ck).symm ?_
    refine W.lcmp hx hb d_law_811 ?_
    refine w_i (y := 0) (by simp [lg_cmp]) ?_
    refine lv_if_eq (tgt := 817) hx hb d_law_812 (by decide) (fun _ => ?_) (fun h => absurd rfl h)
    refine lv_goto (tgt := 2391) hx hb d_law_817 (by decide) ?_
    exact hk ad1 ov1 N1 C1 S1 A1 rd1 c1 z1 H _ ls ⟨⟨hx, hb, hr, hml, hown, hts, hX, hbl, hlocks, hL⟩, ⟨hev, hE, hN, hH⟩, ⟨hP, hK, hD, hS, lv_sub hl [2, 3, 4, 5, 6] rfl⟩, hI1⟩ e5 e6 e7 e8 e9
theorem d_law_820 : decode code 820 = .ok (.aload_n 1, 1) := by decide +kernel
theorem d_law_821 : decode code 821 = .ok (.aload_n 0, 1) := by decide +kernel
theorem d_law_822 : decode code 822 = .ok (.iload 4, 2) := by decide +kernel
theorem d_law_824 : decode code 824 = .ok (.iconst 1, 1) := by decide +kernel
theorem d_law_825 : decode code 825 = .ok (.iadd, 1) := by decide +kernel
theorem d_law_826 : decode code 826 = .ok (.iaload, 1) := by decide +kernel
theorem d_law_827 : decode code 827 = .ok (.aload_n 0, 1) := by decide +kernel
theorem d_law_828 : decode code 828 = .ok (.iload 4, 2) := by decide +kernel
theorem d_law_830 : decode code 830 = .ok (.iconst 2, 1) := by decide +kernel
theorem d_law_831 : decode code 831 = .ok (.iadd, 1) := by decide +kernel
theorem d_law_832 : decode code 832 = .ok (.iaload, 1) := by decide +kernel
theorem d_law_833 : decode code 833 = .ok (.aload_n 0, 1) := by decide +kernel
theorem d_law_834 : decode code 834 = .ok (.iload 4, 2) := by decide +kernel
theorem d_law_836 : decode code 836 = .ok (.iconst 3, 1) := by decide +kernel
theorem d_law_837 : decode code 837 = .ok (.iadd, 1) := by decide +kernel
theorem d_law_838 : decode code 838 = .ok (.iaload, 1) := by decide +kernel
theorem d_law_839 : decode code 839 = .ok (.aload_n 3, 1) := by decide +kernel
theorem d_law_840 : decode code 840 = .ok (.invokestatic 145, 3) := by decide +kernel
theorem d_law_843 : decode code 843 = .ok (.istore 5, 2) := by decide +kernel
theorem d_law_845 : decode code 845 = .ok (.aload_n 2, 1) := by decide +kernel
theorem d_law_846 : decode code 846 = .ok (.aload_n 0, 1) := by decide +kernel
theorem d_law_847 : decode code 847 = .ok (.iload 4, 2) := by decide +kernel
theorem d_law_849 : decode code 849 = .ok (.iconst 1, 1) := by decide +kernel
theorem d_law_850 : decode code 850 = .ok (.iadd, 1) := by decide +kernel
theorem d_law_851 : decode code 851 = .ok (.iaload, 1) := by decide +kernel
theorem d_law_852 : decode code 852 = .ok (.aload_n 0, 1) := by decide +kernel
theorem d_law_853 : decode code 853 = .ok (.iload 4, 2) := by decide +kernel
theorem d_law_855 : decode code 855 = .ok (.iconst 2, 1) := by decide +kernel
theorem d_law_856 : decode code 856 = .ok (.iadd, 1) := by decide +kernel
theorem d_law_857 : decode code 857 = .ok (.iaload, 1) := by decide +kernel
theorem d_law_858 : decode code 858 = .ok (.aload_n 0, 1) := by decide +kernel
theorem d_law_859 : decode code 859 = .ok (.iload 4, 2) := by decide +kernel
theorem d_law_861 : decode code 861 = .ok (.iconst 3, 1) := by decide +kernel
theorem d_law_862 : decode code 862 = .ok (.iadd, 1) := by decide +kernel
theorem d_law_863 : decode code 863 = .ok (.iaload, 1) := by decide +kernel
theorem d_law_864 : decode code 864 = .ok (.invokevirtual 148, 3) := by decide +kernel
theorem d_law_867 : decode code 867 = .ok (.istore 6, 2) := by decide +kernel
theorem d_law_869 : decode code 869 = .ok (.aload_n 2, 1) := by decide +kernel
theorem d_law_870 : decode code 870 = .ok (.invokevirtual 120, 3) := by decide +kernel
theorem d_law_873 : decode code 873 = .ok (.iload 5, 2) := by decide +kernel
theorem d_law_875 : decode code 875 = .ok (.if_icmp .eq 5, 3) := by decide +kernel
theorem d_law_880 : decode code 880 = .ok (.iload 5, 2) := by decide +kernel
theorem d_law_882 : decode code 882 = .ok (.ifCond .ne 15, 3) := by decide +kernel
theorem d_law_897 : decode code 897 = .ok (.goto 1494, 3) := by decide +kernel
theorem d_law_885 : decode code 885 = .ok (.aload_n 3, 1) := by decide +kernel
theorem d_law_886 : decode code 886 = .ok (.iconst 0, 1) := by decide +kernel
theorem d_law_887 : decode code 887 = .ok (.laload, 1) := by decide +kernel
theorem d_law_888 : decode code 888 = .ok (.iload 6, 2) := by decide +kernel
theorem d_law_890 : decode code 890 = .ok (.i2l, 1) := by decide +kernel
theorem d_law_891 : decode code 891 = .ok (.lcmp, 1) := by decide +kernel
theorem d_law_892 : decode code 892 = .ok (.ifCond .eq 5, 3) := by decide +kernel
set_option maxHeartbeats 8000000 in
set_option maxRecDepth 100000 in
theorem law_k6 {p : Program} {e : Env} {s : State} {m : MethodId} {below : List Frame} {meth : Method} {c : Code} (l : Launch) (hfl : l.flags = flags0) {b L i : Nat} {xs : Nat → Int32} {D : va_G} {cc : Nat → ClassId} {md : Nat → Nat} {mc : Nat → ClassId} {o : Nat} {cL : ClassId} {sad sav : Nat → Nat} {ad : Nat → Nat → Nat} {ov : Nat → Int64} {N : Nat → Nat} {C : CS} {S : MS} {A : AS} {rd cells slots : Nat} {H : Heap} {locs : List Loc} {ls : Array Slot} (h : LwW p s m meth c b L xs D cc md mc o cL sad sav i ad ov N C S A rd H locs ls) (hi7 : i + 7 ≤ L) (hrd : rd + 60000 < 2 ^ 30) (hcb : cells ≤ 500000) (hsb : slots ≤ 6000000) (hk : ∀ (ad1 : Nat → Nat → Nat) (ov1 : Nat → Int64) (N1 : Nat → Nat) (C1 : CS) (S1 : MS) (A1 : AS) (rd1 c1 z1 : Nat) (H1 : Heap) (locs1 : List Loc) (ls1 : Array Slot), LwW p s m meth c b L xs D cc md mc o cL sad sav i ad1 ov1 N1 C1 S1 A1 rd1 H1 locs1 ls1 → A.n ≤ A1.n → A.m ≤ A1.m → rd1 ≤ rd + 50000 → c1 ≤ 2 * (A1.n - A.n) + 3 * (A1.m - A.m) + 1 → z1 ≤ 23 * (A1.n - A.n) + 40 * (A1.m - A.m) + 6 → W p l e room_1 s m #[Value.ref b] below meth c H1 locs1 (cells + c1) (slots + z1) (lw_Z below #[Value.ref b] s) (F0 m 2391 ls1 [])) : W p l e room_1 s m #[Value.ref b] below meth c H locs cells slots (lw_Z below #[Value.ref b] s) (F0 m 820 ls []) := by
  obtain ⟨⟨hx, hb, hr, hml, hown, hts, hX, hbl, hlocks, hL⟩, ⟨hev, hE, hN, hH⟩, ⟨hP, hK, hD, hS, hl⟩, hI⟩ := h
  have hNS : tx_NS (lA s) s := fun q cell hq hc => absurd (Array.getElem?_eq_some_iff.mp hc).1 (Nat.not_lt.mpr hq)
  have hA : ∀ q : Nat, s.heap.size ≤ q → lA s q := fun _ h => h
  have hbA : ¬ lA s b := Nat.not_le.mpr hbl
  have h11 : N 11 = 1 := hI.2.1.nn.2.2.2.2.2.2.2.2.2.2.2.1
  refine lv_aload_n hx hb d_law_820 rfl (lv_at hl 3 rfl) ?_
  refine lv_aload_n hx hb d_law_821 rfl (lv_at hl 4 rfl) ?_
  refine lv_iload hx hb d_law_822 (lv_at hl 0 rfl) ?_
  refine lv_iconst (v := 1) hx hb d_law_824 (by decide) ?_
  refine lv_iadd hx hb d_law_825 ?_
  refine w_i (y := nI (i + 1)) (nI_add i 1) ?_
  refine va_sld hx hb hX hbl hbA hS (i := nI (i + 1)) (vp_in_nI (n := i + 1) (N := L) (by omega) (by omega)) d_law_826 ?_
  refine w_i (y := xs (i + 1)) (by rw [cl_nI (by omega)]) ?_
  refine lv_aload_n hx hb d_law_827 rfl (lv_at hl 4 rfl) ?_
  refine lv_iload hx hb d_law_828 (lv_at hl 0 rfl) ?_
  refine lv_iconst (v := 2) hx hb d_law_830 (by decide) ?_
  refine lv_iadd hx hb d_law_831 ?_
  refine w_i (y := nI (i + 2)) (nI_add i 2) ?_
  refine va_sld hx hb hX hbl hbA hS (i := nI (i + 2)) (vp_in_nI (n := i + 2) (N := L) (by omega) (by omega)) d_law_832 ?_
  refine w_i (y := xs (i + 2)) (by rw [cl_nI (by omega)]) ?_
  refine lv_aload_n hx hb d_law_833 rfl (lv_at hl 4 rfl) ?_
  refine lv_iload hx hb d_law_834 (lv_at hl 0 rfl) ?_
  refine lv_iconst (v := 3) hx hb d_law_836 (by decide) ?_
  refine lv_iadd hx hb d_law_837 ?_
  refine w_i (y := nI (i + 3)) (nI_add i 3) ?_
  refine va_sld hx hb hX hbl hbA hS (i := nI (i + 3)) (vp_in_nI (n := i + 3) (N := L) (by omega) (by omega)) d_law_838 ?_
  refine w_i (y := xs (i + 3)) (by rw [cl_nI (by omega)]) ?_
  refine lv_aload_n hx hb d_law_839 rfl (lv_at hl 1 rfl) ?_
  obtain ⟨N1, C1, ov1, kk, c1, z1, S1, bb, A1, rd1, e1, e2, e3, e4, hI1, e5, e6, e7, e8, e9⟩ := st_erase (ov := ov) hI hrd (xs (i + 1)) (xs (i + 2)) (xs (i + 3))
  have hn1 := hI1.2.2.1.1.1
  have hm1 := hI1.2.2.1.1.2.1
  have hPh := p_l hP
  have hDh := d_l hD
  have hKh := hK.sub (tys' := cty cc ++ [(cL, .long)]) [0, 1, 2, 3, 4, 5, 6, 7] rfl
  have hFc := fr_all hDh hS hA
  refine va_calli (tx_runSW (As := [.ref (ad 11 0), .int (xs (i + 1)), .int (xs (i + 2)), .int (xs (i + 3)), .ref o]) (rest := []) ⟨hx, hb, hml, hown, hts⟩ (g_h_erase l hfl D H.size (ad := ad) (cc := cc) (sad := sad) (sav := sav) (cL := cL) (a := o) e1) (cw_w 5 hts kw_835 kw_833 kw_834 kw_0 rfl rfl (by decide +kernel) ⟨Nat.le_of_ble_eq_true rfl, Nat.le_of_ble_eq_true rfl⟩) ⟨h_blind, fun U hU hW => h_pre hU hW hPh hKh hDh hev hE hN hH hNS hS hFc⟩ rfl rfl hl.1 rfl (lv_room (Nat.le_of_ble_eq_true rfl)) d_law_840 ⟨by show cells + c1 ≤ 601024; omega, by show slots + z1 ≤ 7293034; omega⟩) hS (fun q _ h => hFc q h) hFc (fun rz ad1 t H1 locs ht hvm hw hB hz1 hk1 hS => ?_)
  obtain ⟨hXt, hP1, -, hD1⟩ := hB
  rw [ht] at hP1
  obtain ⟨hP, hD⟩ := join_w hP hD hk1 hFc hP1 hD1
  refine w_i (y := kk) hw ?_
  have had : ad1 11 0 = ad 11 0 := hXt.2 11 0 (by rw [h11]; decide)
  rw [← had] at hl
  generalize H1 = H at hP hS ⊢
  refine W.cs (cells' := cells + c1) (slots' := slots + z1) rfl rfl ?_
  refine lv_istore (lv' := [(5, .int kk), (4, .int (nI i)), (3, .ref o), (2, .ref (md 100)), (1, .ref (ad1 11 0)), (0, .ref b)]) hx hb d_law_843 hl (by decide) rfl (fun ls hl => ?_)
  refine lv_aload_n hx hb d_law_845 rfl (lv_at hl 3 rfl) ?_
  refine lv_aload_n hx hb d_law_846 rfl (lv_at hl 5 rfl) ?_
  refine lv_iload hx hb d_law_847 (lv_at hl 1 rfl) ?_
  refine lv_iconst (v := 1) hx hb d_law_849 (by decide) ?_
  refine lv_iadd hx hb d_law_850 ?_
  refine w_i (y := nI (i + 1)) (nI_add i 1) ?_
  refine va_sld hx hb hX hbl hbA hS (i := nI (i + 1)) (vp_in_nI (n := i + 1) (N := L) (by omega) (by omega)) d_law_851 ?_
  refine w_i (y := xs (i + 1)) (by rw [cl_nI (by omega)]) ?_
  refine lv_aload_n hx hb d_law_852 rfl (lv_at hl 5 rfl) ?_
  refine lv_iload hx hb d_law_853 (lv_at hl 1 rfl) ?_
  refine lv_iconst (v := 2) hx hb d_law_855 (by decide) ?_
  refine lv_iadd hx hb d_law_856 ?_
  refine w_i (y := nI (i + 2)) (nI_add i 2) ?_
  refine va_sld hx hb hX hbl hbA hS (i := nI (i + 2)) (vp_in_nI (n := i + 2) (N := L) (by omega) (by omega)) d_law_857 ?_
  refine w_i (y := xs (i + 2)) (by rw [cl_nI (by omega)]) ?_
  refine lv_aload_n hx hb d_law_858 rfl (lv_at hl 5 rfl) ?_
  refine lv_iload hx hb d_law_859 (lv_at hl 1 rfl) ?_
  refine lv_iconst (v := 3) hx hb d_law_861 (by decide) ?_
  refine lv_iadd hx hb d_law_862 ?_
  refine w_i (y := nI (i + 3)) (nI_add i 3) ?_
  refine va_sld hx hb hX hbl hbA hS (i := nI (i + 3)) (vp_in_nI (n := i + 3) (N := L) (by omega) (by omega)) d_law_863 ?_
  refine w_i (y := xs (i + 3)) (by rw [cl_nI (by omega)]) ?_
  have hPc := p_r hP
  have hDc := d_r hD
  have hKc := hK.sub (tys' := mty mc) [8, 9, 10, 11, 12] rfl
  have hFc := fr_all hDc hS hA
  refine va_calli (va_runV (As := [.int (xs (i + 1)), .int (xs (i + 2)), .int (xs (i + 3))]) (rest := []) ⟨hx, hb, hml, hown, hts⟩ (g_rerase l D H.size (md := md) (mc := mc) e2) (cw_v 3 hts kw_1745 kw_1742 kw_1743 kw_1744 kw_11 rfl rfl (by decide +kernel) ⟨Nat.le_of_ble_eq_true rfl, Nat.le_of_ble_eq_true rfl⟩) ⟨g_blind, va_recv hKc hPc (ci := 12) (q0 := 0) rfl rfl, fun U hU hW => g_pre hU hW hPc hKc hDc⟩ rfl rfl hl.1 rfl (lv_room (Nat.le_of_ble_eq_true rfl)) d_law_864 ⟨by show cells + c1 + 0 ≤ 601024; omega, by show slots + z1 + 0 ≤ 7293034; omega⟩) hS (fun q _ h => hFc q h) hFc (fun rb u t H1 locs ht hvm hw hB hz1 hk1 hS => ?_)
  obtain ⟨hP1, -, hD1⟩ := hB
  rw [ht] at hP1
  obtain ⟨hP, hD⟩ := join_r hP hD hk1 hFc hP1 hD1
  refine w_i (y := bb) hw ?_
  generalize H1 = H at hP hS ⊢
  refine W.cs (cells' := cells + c1) (slots' := slots + z1) rfl rfl ?_
  refine lv_istore (lv' := [(6, .int bb), (5, .int kk), (4, .int (nI i)), (3, .ref o), (2, .ref (md 100)), (1, .ref (ad1 11 0)), (0, .ref b)]) hx hb d_law_867 hl (by decide) rfl (fun ls hl => ?_)
  refine lv_aload_n hx hb d_law_869 rfl (lv_at hl 4 rfl) ?_
  have hPc := p_r hP
  have hDc := d_r hD
  have hKc := hK.sub (tys' := mty mc) [8, 9, 10, 11, 12] rfl
  have hFc := fr_all hDc hS hA
  refine va_calli (va_runV (As := []) (rest := []) ⟨hx, hb, hml, hown, hts⟩ (g_rthrown l D H.size (md := md) (mc := mc) (show m_rthrown S1 = some (S1, S1.i 0) from rfl)) (cw_v 0 hts kw_1618 kw_1615 kw_1616 kw_1617 kw_11 rfl rfl (by decide +kernel) ⟨Nat.le_of_ble_eq_true rfl, Nat.le_of_ble_eq_true rfl⟩) ⟨g_blind, va_recv hKc hPc (ci := 12) (q0 := 0) rfl rfl, fun U hU hW => g_pre hU hW hPc hKc hDc⟩ rfl rfl hl.1 rfl (lv_room (Nat.le_of_ble_eq_true rfl)) d_law_870 ⟨by show cells + c1 + 0 ≤ 601024; omega, by show slots + z1 + 0 ≤ 7293034; omega⟩) hS (fun q _ h => hFc q h) hFc (fun rt u t H1 locs ht hvm hw hB hz1 hk1 hS => ?_)
  obtain ⟨hP1, -, hD1⟩ := hB
  rw [ht] at hP1
  obtain ⟨hP, hD⟩ := join_r hP hD hk1 hFc hP1 hD1
  refine w_i (y := kk) (hw.trans e3) ?_
  generalize H1 = H at hP hS ⊢
  refine W.cs (cells' := cells + c1) (slots' := slots + z1) rfl rfl ?_
  refine lv_iload hx hb d_law_873 (lv_at hl 1 rfl) ?_
  refine lv_icmp_eq (tgt := 880) hx hb d_law_875 (by decide) (fun _ => ?_) (fun h => absurd rfl h)
  refine lv_iload hx hb d_law_880 (lv_at hl 1 rfl) ?_
  refine lv_if_ne (tgt := 897) hx hb d_law_882 (by decide) (fun ck => ?_) (fun ck => ?_)
  · refine lv_goto (tgt := 2391) hx hb d_law_897 (by decide) ?_
    exact hk ad1 ov1 N1 C1 S1 A1 rd1 c1 z1 H _ ls ⟨⟨hx, hb, hr, hml, hown, hts, hX, hbl, hlocks, hL⟩, ⟨hev, hE, hN, hH⟩, ⟨hP, hK, hD, hS, lv_sub hl [2, 3, 4, 5, 6] rfl⟩, hI1⟩ e5 e6 e7 e8 e9
  · refine lv_aload_n hx hb d_law_885 rfl (lv_at hl 3 rfl) ?_
    refine lv_iconst (v := 0) hx hb d_law_886 (by decide) ?_
    refine va_lald hx hb hK hP (cw ad1 cc N1 C1).length 7 at_mid rfl (i := 0) (vp_in_nI (n := 0) (N := 1) (by decide) (by decide)) d_law_887 ?_
    refine w_l (y := ov1 0) rfl ?_
    refine lv_iload hx hb d_law_888 (lv_at hl 0 rfl) ?_
    refine lv_i2l hx hb d_law_890 rfl ?_
    refine w_l (y := ov1 0) (e4 ck).symm ?_
    refine W.lcmp hx hb d_law_891 ?_
    refine w_i (y := 0) (by simp [lg_cmp]) ?_
    refine lv_if_eq (tgt := 897) hx hb d_law_892 (by decide) (fun _ => ?_) (fun h => absurd rfl h)
    refine lv_goto (tgt := 2391) hx hb d_law_897 (by decide) ?_
    exact hk ad1 ov1 N1 C1 S1 A1 rd1 c1 z1 H _ ls ⟨⟨hx, hb, hr, hml, hown, hts, hX, hbl, hlocks, hL⟩, ⟨hev, hE, hN, hH⟩, ⟨hP, hK, hD, hS, lv_sub hl [2, 3, 4, 5, 6] rfl⟩, hI1⟩ e5 e6 e7 e8 e9
theorem d_law_900 : decode code 900 = .ok (.aload_n 1, 1) := by decide +kernel
theorem d_law_901 : decode code 901 = .ok (.aload_n 0, 1) := by decide +kernel
theorem d_law_902 : decode code 902 = .ok (.iload 4, 2) := by decide +kernel
theorem d_law_904 : decode code 904 = .ok (.iconst 1, 1) := by decide +kernel
theorem d_law_905 : decode code 905 = .ok (.iadd, 1) := by decide +kernel
theorem d_law_906 : decode code 906 = .ok (.iaload, 1) := by decide +kernel
theorem d_law_907 : decode code 907 = .ok (.aload_n 0, 1) := by decide +kernel
theorem d_law_908 : decode code 908 = .ok (.iload 4, 2) := by decide +kernel
theorem d_law_910 : decode code 910 = .ok (.iconst 2, 1) := by decide +kernel
theorem d_law_911 : decode code 911 = .ok (.iadd, 1) := by decide +kernel
theorem d_law_912 : decode code 912 = .ok (.iaload, 1) := by decide +kernel
theorem d_law_913 : decode code 913 = .ok (.aload_n 0, 1) := by decide +kernel
theorem d_law_914 : decode code 914 = .ok (.iload 4, 2) := by decide +kernel
theorem d_law_916 : decode code 916 = .ok (.iconst 3, 1) := by decide +kernel
theorem d_law_917 : decode code 917 = .ok (.iadd, 1) := by decide +kernel
theorem d_law_918 : decode code 918 = .ok (.iaload, 1) := by decide +kernel
theorem d_law_919 : decode code 919 = .ok (.aload_n 0, 1) := by decide +kernel
theorem d_law_920 : decode code 920 = .ok (.iload 4, 2) := by decide +kernel
theorem d_law_922 : decode code 922 = .ok (.iconst 4, 1) := by decide +kernel
theorem d_law_923 : decode code 923 = .ok (.iadd, 1) := by decide +kernel
theorem d_law_924 : decode code 924 = .ok (.iaload, 1) := by decide +kernel
theorem d_law_925 : decode code 925 = .ok (.i2l, 1) := by decide +kernel
theorem d_law_926 : decode code 926 = .ok (.bipush 32, 2) := by decide +kernel
theorem d_law_928 : decode code 928 = .ok (.lshl, 1) := by decide +kernel
theorem d_law_929 : decode code 929 = .ok (.aload_n 0, 1) := by decide +kernel
theorem d_law_930 : decode code 930 = .ok (.iload 4, 2) := by decide +kernel
theorem d_law_932 : decode code 932 = .ok (.iconst 5, 1) := by decide +kernel
theorem d_law_933 : decode code 933 = .ok (.iadd, 1) := by decide +kernel
theorem d_law_934 : decode code 934 = .ok (.iaload, 1) := by decide +kernel
theorem d_law_935 : decode code 935 = .ok (.i2l, 1) := by decide +kernel
theorem d_law_936 : decode code 936 = .ok (.ldc2_w 128, 3) := by decide +kernel
theorem d_law_939 : decode code 939 = .ok (.land, 1) := by decide +kernel
theorem d_law_940 : decode code 940 = .ok (.lor, 1) := by decide +kernel
theorem d_law_941 : decode code 941 = .ok (.aload_n 3, 1) := by decide +kernel
theorem d_law_942 : decode code 942 = .ok (.invokestatic 149, 3) := by decide +kernel
theorem d_law_945 : decode code 945 = .ok (.istore 5, 2) := by decide +kernel
theorem d_law_947 : decode code 947 = .ok (.aload_n 2, 1) := by decide +kernel
theorem d_law_948 : decode code 948 = .ok (.aload_n 0, 1) := by decide +kernel
theorem d_law_949 : decode code 949 = .ok (.iload 4, 2) := by decide +kernel
theorem d_law_951 : decode code 951 = .ok (.iconst 1, 1) := by decide +kernel
theorem d_law_952 : decode code 952 = .ok (.iadd, 1) := by decide +kernel
theorem d_law_953 : decode code 953 = .ok (.iaload, 1) := by decide +kernel
theorem d_law_954 : decode code 954 = .ok (.aload_n 0, 1) := by decide +kernel
theorem d_law_955 : decode code 955 = .ok (.iload 4, 2) := by decide +kernel
theorem d_law_957 : decode code 957 = .ok (.iconst 2, 1) := by decide +kernel
theorem d_law_958 : decode code 958 = .ok (.iadd, 1) := by decide +kernel
theorem d_law_959 : decode code 959 = .ok (.iaload, 1) := by decide +kernel
theorem d_law_960 : decode code 960 = .ok (.aload_n 0, 1) := by decide +kernel
theorem d_law_961 : decode code 961 = .ok (.iload 4, 2) := by decide +kernel
theorem d_law_963 : decode code 963 = .ok (.iconst 3, 1) := by decide +kernel
theorem d_law_964 : decode code 964 = .ok (.iadd, 1) := by decide +kernel
theorem d_law_965 : decode code 965 = .ok (.iaload, 1) := by decide +kernel
theorem d_law_966 : decode code 966 = .ok (.aload_n 0, 1) := by decide +kernel
theorem d_law_967 : decode code 967 = .ok (.iload 4, 2) := by decide +kernel
theorem d_law_969 : decode code 969 = .ok (.iconst 4, 1) := by decide +kernel
theorem d_law_970 : decode code 970 = .ok (.iadd, 1) := by decide +kernel
theorem d_law_971 : decode code 971 = .ok (.iaload, 1) := by decide +kernel
theorem d_law_972 : decode code 972 = .ok (.i2l, 1) := by decide +kernel
theorem d_law_973 : decode code 973 = .ok (.bipush 32, 2) := by decide +kernel
theorem d_law_975 : decode code 975 = .ok (.lshl, 1) := by decide +kernel
theorem d_law_976 : decode code 976 = .ok (.aload_n 0, 1) := by decide +kernel
theorem d_law_977 : decode code 977 = .ok (.iload 4, 2) := by decide +kernel
theorem d_law_979 : decode code 979 = .ok (.iconst 5, 1) := by decide +kernel
theorem d_law_980 : decode code 980 = .ok (.iadd, 1) := by decide +kernel
theorem d_law_981 : decode code 981 = .ok (.iaload, 1) := by decide +kernel
theorem d_law_982 : decode code 982 = .ok (.i2l, 1) := by decide +kernel
theorem d_law_983 : decode code 983 = .ok (.ldc2_w 128, 3) := by decide +kernel
theorem d_law_986 : decode code 986 = .ok (.land, 1) := by decide +kernel
theorem d_law_987 : decode code 987 = .ok (.lor, 1) := by decide +kernel
theorem d_law_988 : decode code 988 = .ok (.invokevirtual 151, 3) := by decide +kernel
theorem d_law_991 : decode code 991 = .ok (.istore 6, 2) := by decide +kernel
theorem d_law_993 : decode code 993 = .ok (.aload_n 2, 1) := by decide +kernel
theorem d_law_994 : decode code 994 = .ok (.invokevirtual 120, 3) := by decide +kernel
theorem d_law_997 : decode code 997 = .ok (.iload 5, 2) := by decide +kernel
theorem d_law_999 : decode code 999 = .ok (.if_icmp .eq 5, 3) := by decide +kernel
theorem d_law_1004 : decode code 1004 = .ok (.iload 5, 2) := by decide +kernel
theorem d_law_1006 : decode code 1006 = .ok (.ifCond .ne 15, 3) := by decide +kernel
theorem d_law_1021 : decode code 1021 = .ok (.goto 1370, 3) := by decide +kernel
theorem d_law_1009 : decode code 1009 = .ok (.aload_n 3, 1) := by decide +kernel
theorem d_law_1010 : decode code 1010 = .ok (.iconst 0, 1) := by decide +kernel
theorem d_law_1011 : decode code 1011 = .ok (.laload, 1) := by decide +kernel
theorem d_law_1012 : decode code 1012 = .ok (.iload 6, 2) := by decide +kernel
theorem d_law_1014 : decode code 1014 = .ok (.i2l, 1) := by decide +kernel
theorem d_law_1015 : decode code 1015 = .ok (.lcmp, 1) := by decide +kernel
theorem d_law_1016 : decode code 1016 = .ok (.ifCond .eq 5, 3) := by decide +kernel
set_option maxHeartbeats 8000000 in
set_option maxRecDepth 100000 in
theorem law_k7 {p : Program} {e : Env} {s : State} {m : MethodId} {below : List Frame} {meth : Method} {c : Code} (l : Launch) (hfl : l.flags = flags0) {b L i : Nat} {xs : Nat → Int32} {D : va_G} {cc : Nat → ClassId} {md : Nat → Nat} {mc : Nat → ClassId} {o : Nat} {cL : ClassId} {sad sav : Nat → Nat} {ad : Nat → Nat → Nat} {ov : Nat → Int64} {N : Nat → Nat} {C : CS} {S : MS} {A : AS} {rd cells slots : Nat} {H : Heap} {locs : List Loc} {ls : Array Slot} (h : LwW p s m meth c b L xs D cc md mc o cL sad sav i ad ov N C S A rd H locs ls) (hi7 : i + 7 ≤ L) (hrd : rd + 60000 < 2 ^ 30) (hcb : cells ≤ 500000) (hsb : slots ≤ 6000000) (hk : ∀ (ad1 : Nat → Nat → Nat) (ov1 : Nat → Int64) (N1 : Nat → Nat) (C1 : CS) (S1 : MS) (A1 : AS) (rd1 c1 z1 : Nat) (H1 : Heap) (locs1 : List Loc) (ls1 : Array Slot), LwW p s m meth c b L xs D cc md mc o cL sad sav i ad1 ov1 N1 C1 S1 A1 rd1 H1 locs1 ls1 → A.n ≤ A1.n → A.m ≤ A1.m → rd1 ≤ rd + 50000 → c1 ≤ 2 * (A1.n - A.n) + 3 * (A1.m - A.m) + 1 → z1 ≤ 23 * (A1.n - A.n) + 40 * (A1.m - A.m) + 6 → W p l e room_1 s m #[Value.ref b] below meth c H1 locs1 (cells + c1) (slots + z1) (lw_Z below #[Value.ref b] s) (F0 m 2391 ls1 [])) : W p l e room_1 s m #[Value.ref b] below meth c H locs cells slots (lw_Z below #[Value.ref b] s) (F0 m 900 ls []) := by
  obtain ⟨⟨hx, hb, hr, hml, hown, hts, hX, hbl, hlocks, hL⟩, ⟨hev, hE, hN, hH⟩, ⟨hP, hK, hD, hS, hl⟩, hI⟩ := h
  have hNS : tx_NS (lA s) s := fun q cell hq hc => absurd (Array.getElem?_eq_some_iff.mp hc).1 (Nat.not_lt.mpr hq)
  have hA : ∀ q : Nat, s.heap.size ≤ q → lA s q := fun _ h => h
  have hbA : ¬ lA s b := Nat.not_le.mpr hbl
  have h11 : N 11 = 1 := hI.2.1.nn.2.2.2.2.2.2.2.2.2.2.2.1
  refine lv_aload_n hx hb d_law_900 rfl (lv_at hl 3 rfl) ?_
  refine lv_aload_n hx hb d_law_901 rfl (lv_at hl 4 rfl) ?_
  refine lv_iload hx hb d_law_902 (lv_at hl 0 rfl) ?_
  refine lv_iconst (v := 1) hx hb d_law_904 (by decide) ?_
  refine lv_iadd hx hb d_law_905 ?_
  refine w_i (y := nI (i + 1)) (nI_add i 1) ?_
  refine va_sld hx hb hX hbl hbA hS (i := nI (i + 1)) (vp_in_nI (n := i + 1) (N := L) (by omega) (by omega)) d_law_906 ?_
  refine w_i (y := xs (i + 1)) (by rw [cl_nI (by omega)]) ?_
  refine lv_aload_n hx hb d_law_907 rfl (lv_at hl 4 rfl) ?_
  refine lv_iload hx hb d_law_908 (lv_at hl 0 rfl) ?_
  refine lv_iconst (v := 2) hx hb d_law_910 (by decide) ?_
  refine lv_iadd hx hb d_law_911 ?_
  refine w_i (y := nI (i + 2)) (nI_add i 2) ?_
  refine va_sld hx hb hX hbl hbA hS (i := nI (i + 2)) (vp_in_nI (n := i + 2) (N := L) (by omega) (by omega)) d_law_912 ?_
  refine w_i (y := xs (i + 2)) (by rw [cl_nI (by omega)]) ?_
  refine lv_aload_n hx hb d_law_913 rfl (lv_at hl 4 rfl) ?_
  refine lv_iload hx hb d_law_914 (lv_at hl 0 rfl) ?_
  refine lv_iconst (v := 3) hx hb d_law_916 (by decide) ?_
  refine lv_iadd hx hb d_law_917 ?_
  refine w_i (y := nI (i + 3)) (nI_add i 3) ?_
  refine va_sld hx hb hX hbl hbA hS (i := nI (i + 3)) (vp_in_nI (n := i + 3) (N := L) (by omega) (by omega)) d_law_918 ?_
  refine w_i (y := xs (i + 3)) (by rw [cl_nI (by omega)]) ?_
  refine lv_aload_n hx hb d_law_919 rfl (lv_at hl 4 rfl) ?_
  refine lv_iload hx hb d_law_920 (lv_at hl 0 rfl) ?_
  refine lv_iconst (v := 4) hx hb d_law_922 (by decide) ?_
  refine lv_iadd hx hb d_law_923 ?_
  refine w_i (y := nI (i + 4)) (nI_add i 4) ?_
  refine va_sld hx hb hX hbl hbA hS (i := nI (i + 4)) (vp_in_nI (n := i + 4) (N := L) (by omega) (by omega)) d_law_924 ?_
  refine w_i (y := xs (i + 4)) (by rw [cl_nI (by omega)]) ?_
  refine lv_i2l hx hb d_law_925 rfl ?_
  refine lv_bipush (v := 32) hx hb d_law_926 (by decide) ?_
  refine lv_lshl hx hb d_law_928 rfl ?_
  refine lv_aload_n hx hb d_law_929 rfl (lv_at hl 4 rfl) ?_
  refine lv_iload hx hb d_law_930 (lv_at hl 0 rfl) ?_
  refine lv_iconst (v := 5) hx hb d_law_932 (by decide) ?_
  refine lv_iadd hx hb d_law_933 ?_
  refine w_i (y := nI (i + 5)) (nI_add i 5) ?_
  refine va_sld hx hb hX hbl hbA hS (i := nI (i + 5)) (vp_in_nI (n := i + 5) (N := L) (by omega) (by omega)) d_law_934 ?_
  refine w_i (y := xs (i + 5)) (by rw [cl_nI (by omega)]) ?_
  refine lv_i2l hx hb d_law_935 rfl ?_
  refine lv_ldc2 (v := 4294967295) hx hb hown (hts _ kw_2007) d_law_936 ?_
  refine lv_land hx hb d_law_939 ?_
  refine lv_lor hx hb d_law_940 ?_
  refine lv_topl (fun xl exl => ?_)
  refine lv_aload_n hx hb d_law_941 rfl (lv_at hl 1 rfl) ?_
  obtain ⟨N1, C1, ov1, kk, c1, z1, S1, bb, A1, rd1, e1, e2, e3, e4, hI1, e5, e6, e7, e8, e9⟩ := st_add (ov := ov) hI hrd (xs (i + 1)) (xs (i + 2)) (xs (i + 3)) xl
  have hn1 := hI1.2.2.1.1.1
  have hm1 := hI1.2.2.1.1.2.1
  have hPh := p_l hP
  have hDh := d_l hD
  have hKh := hK.sub (tys' := cty cc ++ [(cL, .long)]) [0, 1, 2, 3, 4, 5, 6, 7] rfl
  have hFc := fr_all hDh hS hA
  refine va_calli (tx_runSW (As := [.ref (ad 11 0), .int (xs (i + 1)), .int (xs (i + 2)), .int (xs (i + 3)), .long xl, .ref o]) (rest := []) ⟨hx, hb, hml, hown, hts⟩ (g_h_add l hfl D H.size (ad := ad) (cc := cc) (sad := sad) (sav := sav) (cL := cL) (a := o) e1) (cw_w 6 hts kw_850 kw_848 kw_849 kw_0 rfl rfl (by decide +kernel) ⟨Nat.le_of_ble_eq_true rfl, Nat.le_of_ble_eq_true rfl⟩) ⟨h_blind, fun U hU hW => h_pre hU hW hPh hKh hDh hev hE hN hH hNS hS hFc⟩ rfl rfl hl.1 rfl (lv_room (Nat.le_of_ble_eq_true rfl)) d_law_942 ⟨by show cells + c1 ≤ 601024; omega, by show slots + z1 ≤ 7293034; omega⟩) hS (fun q _ h => hFc q h) hFc (fun rz ad1 t H1 locs ht hvm hw hB hz1 hk1 hS => ?_)
  obtain ⟨hXt, hP1, -, hD1⟩ := hB
  rw [ht] at hP1
  obtain ⟨hP, hD⟩ := join_w hP hD hk1 hFc hP1 hD1
  refine w_i (y := kk) hw ?_
  have had : ad1 11 0 = ad 11 0 := hXt.2 11 0 (by rw [h11]; decide)
  rw [← had] at hl
  generalize H1 = H at hP hS ⊢
  refine W.cs (cells' := cells + c1) (slots' := slots + z1) rfl rfl ?_
  refine lv_istore (lv' := [(5, .int kk), (4, .int (nI i)), (3, .ref o), (2, .ref (md 100)), (1, .ref (ad1 11 0)), (0, .ref b)]) hx hb d_law_945 hl (by decide) rfl (fun ls hl => ?_)
  refine lv_aload_n hx hb d_law_947 rfl (lv_at hl 3 rfl) ?_
  refine lv_aload_n hx hb d_law_948 rfl (lv_at hl 5 rfl) ?_
  refine lv_iload hx hb d_law_949 (lv_at hl 1 rfl) ?_
  refine lv_iconst (v := 1) hx hb d_law_951 (by decide) ?_
  refine lv_iadd hx hb d_law_952 ?_
  refine w_i (y := nI (i + 1)) (nI_add i 1) ?_
  refine va_sld hx hb hX hbl hbA hS (i := nI (i + 1)) (vp_in_nI (n := i + 1) (N := L) (by omega) (by omega)) d_law_953 ?_
  refine w_i (y := xs (i + 1)) (by rw [cl_nI (by omega)]) ?_
  refine lv_aload_n hx hb d_law_954 rfl (lv_at hl 5 rfl) ?_
  refine lv_iload hx hb d_law_955 (lv_at hl 1 rfl) ?_
  refine lv_iconst (v := 2) hx hb d_law_957 (by decide) ?_
  refine lv_iadd hx hb d_law_958 ?_
  refine w_i (y := nI (i + 2)) (nI_add i 2) ?_
  refine va_sld hx hb hX hbl hbA hS (i := nI (i + 2)) (vp_in_nI (n := i + 2) (N := L) (by omega) (by omega)) d_law_959 ?_
  refine w_i (y := xs (i + 2)) (by rw [cl_nI (by omega)]) ?_
  refine lv_aload_n hx hb d_law_960 rfl (lv_at hl 5 rfl) ?_
  refine lv_iload hx hb d_law_961 (lv_at hl 1 rfl) ?_
  refine lv_iconst (v := 3) hx hb d_law_963 (by decide) ?_
  refine lv_iadd hx hb d_law_964 ?_
  refine w_i (y := nI (i + 3)) (nI_add i 3) ?_
  refine va_sld hx hb hX hbl hbA hS (i := nI (i + 3)) (vp_in_nI (n := i + 3) (N := L) (by omega) (by omega)) d_law_965 ?_
  refine w_i (y := xs (i + 3)) (by rw [cl_nI (by omega)]) ?_
  refine lv_aload_n hx hb d_law_966 rfl (lv_at hl 5 rfl) ?_
  refine lv_iload hx hb d_law_967 (lv_at hl 1 rfl) ?_
  refine lv_iconst (v := 4) hx hb d_law_969 (by decide) ?_
  refine lv_iadd hx hb d_law_970 ?_
  refine w_i (y := nI (i + 4)) (nI_add i 4) ?_
  refine va_sld hx hb hX hbl hbA hS (i := nI (i + 4)) (vp_in_nI (n := i + 4) (N := L) (by omega) (by omega)) d_law_971 ?_
  refine w_i (y := xs (i + 4)) (by rw [cl_nI (by omega)]) ?_
  refine lv_i2l hx hb d_law_972 rfl ?_
  refine lv_bipush (v := 32) hx hb d_law_973 (by decide) ?_
  refine lv_lshl hx hb d_law_975 rfl ?_
  refine lv_aload_n hx hb d_law_976 rfl (lv_at hl 5 rfl) ?_
  refine lv_iload hx hb d_law_977 (lv_at hl 1 rfl) ?_
  refine lv_iconst (v := 5) hx hb d_law_979 (by decide) ?_
  refine lv_iadd hx hb d_law_980 ?_
  refine w_i (y := nI (i + 5)) (nI_add i 5) ?_
  refine va_sld hx hb hX hbl hbA hS (i := nI (i + 5)) (vp_in_nI (n := i + 5) (N := L) (by omega) (by omega)) d_law_981 ?_
  refine w_i (y := xs (i + 5)) (by rw [cl_nI (by omega)]) ?_
  refine lv_i2l hx hb d_law_982 rfl ?_
  refine lv_ldc2 (v := 4294967295) hx hb hown (hts _ kw_2007) d_law_983 ?_
  refine lv_land hx hb d_law_986 ?_
  refine lv_lor hx hb d_law_987 ?_
  refine w_l (y := xl) exl.symm ?_
  have hPc := p_r hP
  have hDc := d_r hD
  have hKc := hK.sub (tys' := mty mc) [8, 9, 10, 11, 12] rfl
  have hFc := fr_all hDc hS hA
  refine va_calli (va_runV (As := [.int (xs (i + 1)), .int (xs (i + 2)), .int (xs (i + 3)), .long xl]) (rest := []) ⟨hx, hb, hml, hown, hts⟩ (g_radd l D H.size (md := md) (mc := mc) e2) (cw_v 4 hts kw_1757 kw_1754 kw_1755 kw_1756 kw_11 rfl rfl (by decide +kernel) ⟨Nat.le_of_ble_eq_true rfl, Nat.le_of_ble_eq_true rfl⟩) ⟨g_blind, va_recv hKc hPc (ci := 12) (q0 := 0) rfl rfl, fun U hU hW => g_pre hU hW hPc hKc hDc⟩ rfl rfl hl.1 rfl (lv_room (Nat.le_of_ble_eq_true rfl)) d_law_988 ⟨by show cells + c1 + 0 ≤ 601024; omega, by show slots + z1 + 0 ≤ 7293034; omega⟩) hS (fun q _ h => hFc q h) hFc (fun rb u t H1 locs ht hvm hw hB hz1 hk1 hS => ?_)
  obtain ⟨hP1, -, hD1⟩ := hB
  rw [ht] at hP1
  obtain ⟨hP, hD⟩ := join_r hP hD hk1 hFc hP1 hD1
  refine w_i (y := bb) hw ?_
  generalize H1 = H at hP hS ⊢
  refine W.cs (cells' := cells + c1) (slots' := slots + z1) rfl rfl ?_
  refine lv_istore (lv' := [(6, .int bb), (5, .int kk), (4, .int (nI i)), (3, .ref o), (2, .ref (md 100)), (1, .ref (ad1 11 0)), (0, .ref b)]) hx hb d_law_991 hl (by decide) rfl (fun ls hl => ?_)
  refine lv_aload_n hx hb d_law_993 rfl (lv_at hl 4 rfl) ?_
  have hPc := p_r hP
  have hDc := d_r hD
  have hKc := hK.sub (tys' := mty mc) [8, 9, 10, 11, 12] rfl
  have hFc := fr_all hDc hS hA
  refine va_calli (va_runV (As := []) (rest := []) ⟨hx, hb, hml, hown, hts⟩ (g_rthrown l D H.size (md := md) (mc := mc) (show m_rthrown S1 = some (S1, S1.i 0) from rfl)) (cw_v 0 hts kw_1618 kw_1615 kw_1616 kw_1617 kw_11 rfl rfl (by decide +kernel) ⟨Nat.le_of_ble_eq_true rfl, Nat.le_of_ble_eq_true rfl⟩) ⟨g_blind, va_recv hKc hPc (ci := 12) (q0 := 0) rfl rfl, fun U hU hW => g_pre hU hW hPc hKc hDc⟩ rfl rfl hl.1 rfl (lv_room (Nat.le_of_ble_eq_true rfl)) d_law_994 ⟨by show cells + c1 + 0 ≤ 601024; omega, by show slots + z1 + 0 ≤ 7293034; omega⟩) hS (fun q _ h => hFc q h) hFc (fun rt u t H1 locs ht hvm hw hB hz1 hk1 hS => ?_)
  obtain ⟨hP1, -, hD1⟩ := hB
  rw [ht] at hP1
  obtain ⟨hP, hD⟩ := join_r hP hD hk1 hFc hP1 hD1
  refine w_i (y := kk) (hw.trans e3) ?_
  generalize H1 = H at hP hS ⊢
  refine W.cs (cells' := cells + c1) (slots' := slots + z1) rfl rfl ?_
  refine lv_iload hx hb d_law_997 (lv_at hl 1 rfl) ?_
  refine lv_icmp_eq (tgt := 1004) hx hb d_law_999 (by decide) (fun _ => ?_) (fun h => absurd rfl h)
  refine lv_iload hx hb d_law_1004 (lv_at hl 1 rfl) ?_
  refine lv_if_ne (tgt := 1021) hx hb d_law_1006 (by decide) (fun ck => ?_) (fun ck => ?_)
  · refine lv_goto (tgt := 2391) hx hb d_law_1021 (by decide) ?_
    exact hk ad1 ov1 N1 C1 S1 A1 rd1 c1 z1 H _ ls ⟨⟨hx, hb, hr, hml, hown, hts, hX, hbl, hlocks, hL⟩, ⟨hev, hE, hN, hH⟩, ⟨hP, hK, hD, hS, lv_sub hl [2, 3, 4, 5, 6] rfl⟩, hI1⟩ e5 e6 e7 e8 e9
  · refine lv_aload_n hx hb d_law_1009 rfl (lv_at hl 3 rfl) ?_
    refine lv_iconst (v := 0) hx hb d_law_1010 (by decide) ?_
    refine va_lald hx hb hK hP (cw ad1 cc N1 C1).length 7 at_mid rfl (i := 0) (vp_in_nI (n := 0) (N := 1) (by decide) (by decide)) d_law_1011 ?_
    refine w_l (y := ov1 0) rfl ?_
    refine lv_iload hx hb d_law_1012 (lv_at hl 0 rfl) ?_
    refine lv_i2l hx hb d_law_1014 rfl ?_
    refine w_l (y := ov1 0) (e4 ck).symm ?_
    refine W.lcmp hx hb d_law_1015 ?_
    refine w_i (y := 0) (by simp [lg_cmp]) ?_
    refine lv_if_eq (tgt := 1021) hx hb d_law_1016 (by decide) (fun _ => ?_) (fun h => absurd rfl h)
    refine lv_goto (tgt := 2391) hx hb d_law_1021 (by decide) ?_
    exact hk ad1 ov1 N1 C1 S1 A1 rd1 c1 z1 H _ ls ⟨⟨hx, hb, hr, hml, hown, hts, hX, hbl, hlocks, hL⟩, ⟨hev, hE, hN, hH⟩, ⟨hP, hK, hD, hS, lv_sub hl [2, 3, 4, 5, 6] rfl⟩, hI1⟩ e5 e6 e7 e8 e9
