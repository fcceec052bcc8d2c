theorem d_law_1024 : decode code 1024 = .ok (.aload_n 1, 1) := by decide +kernel
theorem d_law_1025 : decode code 1025 = .ok (.aload_n 0, 1) := by decide +kernel
theorem d_law_1026 : decode code 1026 = .ok (.iload 4, 2) := by decide +kernel
theorem d_law_1028 : decode code 1028 = .ok (.iconst 1, 1) := by decide +kernel
theorem d_law_1029 : decode code 1029 = .ok (.iadd, 1) := by decide +kernel
theorem d_law_1030 : decode code 1030 = .ok (.iaload, 1) := by decide +kernel
theorem d_law_1031 : decode code 1031 = .ok (.aload_n 0, 1) := by decide +kernel
theorem d_law_1032 : decode code 1032 = .ok (.iload 4, 2) := by decide +kernel
theorem d_law_1034 : decode code 1034 = .ok (.iconst 2, 1) := by decide +kernel
theorem d_law_1035 : decode code 1035 = .ok (.iadd, 1) := by decide +kernel
theorem d_law_1036 : decode code 1036 = .ok (.iaload, 1) := by decide +kernel
theorem d_law_1037 : decode code 1037 = .ok (.aload_n 3, 1) := by decide +kernel
theorem d_law_1038 : decode code 1038 = .ok (.invokestatic 152, 3) := by decide +kernel
theorem d_law_1041 : decode code 1041 = .ok (.istore 5, 2) := by decide +kernel
theorem d_law_1043 : decode code 1043 = .ok (.aload_n 2, 1) := by decide +kernel
theorem d_law_1044 : decode code 1044 = .ok (.aload_n 0, 1) := by decide +kernel
theorem d_law_1045 : decode code 1045 = .ok (.iload 4, 2) := by decide +kernel
theorem d_law_1047 : decode code 1047 = .ok (.iconst 1, 1) := by decide +kernel
theorem d_law_1048 : decode code 1048 = .ok (.iadd, 1) := by decide +kernel
theorem d_law_1049 : decode code 1049 = .ok (.iaload, 1) := by decide +kernel
theorem d_law_1050 : decode code 1050 = .ok (.aload_n 0, 1) := by decide +kernel
theorem d_law_1051 : decode code 1051 = .ok (.iload 4, 2) := by decide +kernel
theorem d_law_1053 : decode code 1053 = .ok (.iconst 2, 1) := by decide +kernel
theorem d_law_1054 : decode code 1054 = .ok (.iadd, 1) := by decide +kernel
theorem d_law_1055 : decode code 1055 = .ok (.iaload, 1) := by decide +kernel
theorem d_law_1056 : decode code 1056 = .ok (.invokevirtual 155, 3) := by decide +kernel
theorem d_law_1059 : decode code 1059 = .ok (.istore 6, 2) := by decide +kernel
theorem d_law_1061 : decode code 1061 = .ok (.aload_n 2, 1) := by decide +kernel
theorem d_law_1062 : decode code 1062 = .ok (.invokevirtual 120, 3) := by decide +kernel
theorem d_law_1065 : decode code 1065 = .ok (.iload 5, 2) := by decide +kernel
theorem d_law_1067 : decode code 1067 = .ok (.if_icmp .eq 5, 3) := by decide +kernel
theorem d_law_1072 : decode code 1072 = .ok (.iload 5, 2) := by decide +kernel
theorem d_law_1074 : decode code 1074 = .ok (.ifCond .ne 15, 3) := by decide +kernel
theorem d_law_1089 : decode code 1089 = .ok (.goto 1302, 3) := by decide +kernel
theorem d_law_1077 : decode code 1077 = .ok (.aload_n 3, 1) := by decide +kernel
theorem d_law_1078 : decode code 1078 = .ok (.iconst 0, 1) := by decide +kernel
theorem d_law_1079 : decode code 1079 = .ok (.laload, 1) := by decide +kernel
theorem d_law_1080 : decode code 1080 = .ok (.iload 6, 2) := by decide +kernel
theorem d_law_1082 : decode code 1082 = .ok (.i2l, 1) := by decide +kernel
theorem d_law_1083 : decode code 1083 = .ok (.lcmp, 1) := by decide +kernel
theorem d_law_1084 : decode code 1084 = .ok (.ifCond .eq 5, 3) := by decide +kernel
set_option maxHeartbeats 8000000 in
set_option maxRecDepth 100000 in
theorem law_k8 {p : Program} {e : Env} {s : State} {m : MethodId} {below : List Frame} {meth : Method} {c : Code} (l : Launch) (hfl : l.flags = flags0) {b L i : Nat} {xs : Nat → Int32} {D : va_G} {cc : Nat → ClassId} {md : Nat → Nat} {mc : Nat → ClassId} {o : Nat} {cL : ClassId} {sad sav : Nat → Nat} {ad : Nat → Nat → Nat} {ov : Nat → Int64} {N : Nat → Nat} {C : CS} {S : MS} {A : AS} {rd cells slots : Nat} {H : Heap} {locs : List Loc} {ls : Array Slot} (h : LwW p s m meth c b L xs D cc md mc o cL sad sav i ad ov N C S A rd H locs ls) (hi7 : i + 7 ≤ L) (hrd : rd + 60000 < 2 ^ 30) (hcb : cells ≤ 500000) (hsb : slots ≤ 6000000) (hk : ∀ (ad1 : Nat → Nat → Nat) (ov1 : Nat → Int64) (N1 : Nat → Nat) (C1 : CS) (S1 : MS) (A1 : AS) (rd1 c1 z1 : Nat) (H1 : Heap) (locs1 : List Loc) (ls1 : Array Slot), LwW p s m meth c b L xs D cc md mc o cL sad sav i ad1 ov1 N1 C1 S1 A1 rd1 H1 locs1 ls1 → A.n ≤ A1.n → A.m ≤ A1.m → rd1 ≤ rd + 50000 → c1 ≤ 2 * (A1.n - A.n) + 3 * (A1.m - A.m) + 1 → z1 ≤ 23 * (A1.n - A.n) + 40 * (A1.m - A.m) + 6 → W p l e room_1 s m #[Value.ref b] below meth c H1 locs1 (cells + c1) (slots + z1) (lw_Z below #[Value.ref b] s) (F0 m 2391 ls1 [])) : W p l e room_1 s m #[Value.ref b] below meth c H locs cells slots (lw_Z below #[Value.ref b] s) (F0 m 1024 ls []) := by
  obtain ⟨⟨hx, hb, hr, hml, hown, hts, hX, hbl, hlocks, hL⟩, ⟨hev, hE, hN, hH⟩, ⟨hP, hK, hD, hS, hl⟩, hI⟩ := h
  have hNS : tx_NS (lA s) s := fun q cell hq hc => absurd (Array.getElem?_eq_some_iff.mp hc).1 (Nat.not_lt.mpr hq)
  have hA : ∀ q : Nat, s.heap.size ≤ q → lA s q := fun _ h => h
  have hbA : ¬ lA s b := Nat.not_le.mpr hbl
  have h11 : N 11 = 1 := hI.2.1.nn.2.2.2.2.2.2.2.2.2.2.2.1
  refine lv_aload_n hx hb d_law_1024 rfl (lv_at hl 3 rfl) ?_
  refine lv_aload_n hx hb d_law_1025 rfl (lv_at hl 4 rfl) ?_
  refine lv_iload hx hb d_law_1026 (lv_at hl 0 rfl) ?_
  refine lv_iconst (v := 1) hx hb d_law_1028 (by decide) ?_
  refine lv_iadd hx hb d_law_1029 ?_
  refine w_i (y := nI (i + 1)) (nI_add i 1) ?_
  refine va_sld hx hb hX hbl hbA hS (i := nI (i + 1)) (vp_in_nI (n := i + 1) (N := L) (by omega) (by omega)) d_law_1030 ?_
  refine w_i (y := xs (i + 1)) (by rw [cl_nI (by omega)]) ?_
  refine lv_aload_n hx hb d_law_1031 rfl (lv_at hl 4 rfl) ?_
  refine lv_iload hx hb d_law_1032 (lv_at hl 0 rfl) ?_
  refine lv_iconst (v := 2) hx hb d_law_1034 (by decide) ?_
  refine lv_iadd hx hb d_law_1035 ?_
  refine w_i (y := nI (i + 2)) (nI_add i 2) ?_
  refine va_sld hx hb hX hbl hbA hS (i := nI (i + 2)) (vp_in_nI (n := i + 2) (N := L) (by omega) (by omega)) d_law_1036 ?_
  refine w_i (y := xs (i + 2)) (by rw [cl_nI (by omega)]) ?_
  refine lv_aload_n hx hb d_law_1037 rfl (lv_at hl 1 rfl) ?_
  obtain ⟨N1, C1, ov1, kk, c1, z1, S1, bb, A1, rd1, e1, e2, e3, e4, hI1, e5, e6, e7, e8, e9⟩ := st_read (ov := ov) hI hrd (xs (i + 1)) (xs (i + 2))
  have hn1 := hI1.2.2.1.1.1
  have hm1 := hI1.2.2.1.1.2.1
  have hPh := p_l hP
  have hDh := d_l hD
  have hKh := hK.sub (tys' := cty cc ++ [(cL, .long)]) [0, 1, 2, 3, 4, 5, 6, 7] rfl
  have hFc := fr_all hDh hS hA
  refine va_calli (tx_runSW (As := [.ref (ad 11 0), .int (xs (i + 1)), .int (xs (i + 2)), .ref o]) (rest := []) ⟨hx, hb, hml, hown, hts⟩ (g_h_read l hfl D H.size (ad := ad) (cc := cc) (sad := sad) (sav := sav) (cL := cL) (a := o) e1) (cw_w 4 hts kw_857 kw_855 kw_856 kw_0 rfl rfl (by decide +kernel) ⟨Nat.le_of_ble_eq_true rfl, Nat.le_of_ble_eq_true rfl⟩) ⟨h_blind, fun U hU hW => h_pre hU hW hPh hKh hDh hev hE hN hH hNS hS hFc⟩ rfl rfl hl.1 rfl (lv_room (Nat.le_of_ble_eq_true rfl)) d_law_1038 ⟨by show cells + c1 ≤ 601024; omega, by show slots + z1 ≤ 7293034; omega⟩) hS (fun q _ h => hFc q h) hFc (fun rz ad1 t H1 locs ht hvm hw hB hz1 hk1 hS => ?_)
  obtain ⟨hXt, hP1, -, hD1⟩ := hB
  rw [ht] at hP1
  obtain ⟨hP, hD⟩ := join_w hP hD hk1 hFc hP1 hD1
  refine w_i (y := kk) hw ?_
  have had : ad1 11 0 = ad 11 0 := hXt.2 11 0 (by rw [h11]; decide)
  rw [← had] at hl
  generalize H1 = H at hP hS ⊢
  refine W.cs (cells' := cells + c1) (slots' := slots + z1) rfl rfl ?_
  refine lv_istore (lv' := [(5, .int kk), (4, .int (nI i)), (3, .ref o), (2, .ref (md 100)), (1, .ref (ad1 11 0)), (0, .ref b)]) hx hb d_law_1041 hl (by decide) rfl (fun ls hl => ?_)
  refine lv_aload_n hx hb d_law_1043 rfl (lv_at hl 3 rfl) ?_
  refine lv_aload_n hx hb d_law_1044 rfl (lv_at hl 5 rfl) ?_
  refine lv_iload hx hb d_law_1045 (lv_at hl 1 rfl) ?_
  refine lv_iconst (v := 1) hx hb d_law_1047 (by decide) ?_
  refine lv_iadd hx hb d_law_1048 ?_
  refine w_i (y := nI (i + 1)) (nI_add i 1) ?_
  refine va_sld hx hb hX hbl hbA hS (i := nI (i + 1)) (vp_in_nI (n := i + 1) (N := L) (by omega) (by omega)) d_law_1049 ?_
  refine w_i (y := xs (i + 1)) (by rw [cl_nI (by omega)]) ?_
  refine lv_aload_n hx hb d_law_1050 rfl (lv_at hl 5 rfl) ?_
  refine lv_iload hx hb d_law_1051 (lv_at hl 1 rfl) ?_
  refine lv_iconst (v := 2) hx hb d_law_1053 (by decide) ?_
  refine lv_iadd hx hb d_law_1054 ?_
  refine w_i (y := nI (i + 2)) (nI_add i 2) ?_
  refine va_sld hx hb hX hbl hbA hS (i := nI (i + 2)) (vp_in_nI (n := i + 2) (N := L) (by omega) (by omega)) d_law_1055 ?_
  refine w_i (y := xs (i + 2)) (by rw [cl_nI (by omega)]) ?_
  have hPc := p_r hP
  have hDc := d_r hD
  have hKc := hK.sub (tys' := mty mc) [8, 9, 10, 11, 12] rfl
  have hFc := fr_all hDc hS hA
  refine va_calli (va_runV (As := [.int (xs (i + 1)), .int (xs (i + 2))]) (rest := []) ⟨hx, hb, hml, hown, hts⟩ (g_rread l D H.size (sad := sad) (sav := sav) (md := md) (mc := mc) e2) (cw_v 2 hts kw_1761 kw_1758 kw_1759 kw_1760 kw_11 rfl rfl (by decide +kernel) ⟨Nat.le_of_ble_eq_true rfl, Nat.le_of_ble_eq_true rfl⟩) ⟨gs_blind, va_recv hKc hPc (ci := 12) (q0 := 0) rfl rfl, fun U hU hW => gs_pre hU hW hPc hKc hDc hE hS hFc⟩ rfl rfl hl.1 rfl (lv_room (Nat.le_of_ble_eq_true rfl)) d_law_1056 ⟨by show cells + c1 + 0 ≤ 601024; omega, by show slots + z1 + 0 ≤ 7293034; omega⟩) hS (fun q _ h => hFc q h) hFc (fun rb u t H1 locs ht hvm hw hB hz1 hk1 hS => ?_)
  obtain ⟨hP1, -, hD1⟩ := hB
  rw [ht] at hP1
  obtain ⟨hP, hD⟩ := join_r hP hD hk1 hFc hP1 hD1
  refine w_i (y := bb) hw ?_
  generalize H1 = H at hP hS ⊢
  refine W.cs (cells' := cells + c1) (slots' := slots + z1) rfl rfl ?_
  refine lv_istore (lv' := [(6, .int bb), (5, .int kk), (4, .int (nI i)), (3, .ref o), (2, .ref (md 100)), (1, .ref (ad1 11 0)), (0, .ref b)]) hx hb d_law_1059 hl (by decide) rfl (fun ls hl => ?_)
  refine lv_aload_n hx hb d_law_1061 rfl (lv_at hl 4 rfl) ?_
  have hPc := p_r hP
  have hDc := d_r hD
  have hKc := hK.sub (tys' := mty mc) [8, 9, 10, 11, 12] rfl
  have hFc := fr_all hDc hS hA
  refine va_calli (va_runV (As := []) (rest := []) ⟨hx, hb, hml, hown, hts⟩ (g_rthrown l D H.size (md := md) (mc := mc) (show m_rthrown S1 = some (S1, S1.i 0) from rfl)) (cw_v 0 hts kw_1618 kw_1615 kw_1616 kw_1617 kw_11 rfl rfl (by decide +kernel) ⟨Nat.le_of_ble_eq_true rfl, Nat.le_of_ble_eq_true rfl⟩) ⟨g_blind, va_recv hKc hPc (ci := 12) (q0 := 0) rfl rfl, fun U hU hW => g_pre hU hW hPc hKc hDc⟩ rfl rfl hl.1 rfl (lv_room (Nat.le_of_ble_eq_true rfl)) d_law_1062 ⟨by show cells + c1 + 0 ≤ 601024; omega, by show slots + z1 + 0 ≤ 7293034; omega⟩) hS (fun q _ h => hFc q h) hFc (fun rt u t H1 locs ht hvm hw hB hz1 hk1 hS => ?_)
  obtain ⟨hP1, -, hD1⟩ := hB
  rw [ht] at hP1
  obtain ⟨hP, hD⟩ := join_r hP hD hk1 hFc hP1 hD1
  refine w_i (y := kk) (hw.trans e3) ?_
  generalize H1 = H at hP hS ⊢
  refine W.cs (cells' := cells + c1) (slots' := slots + z1) rfl rfl ?_
  refine lv_iload hx hb d_law_1065 (lv_at hl 1 rfl) ?_
  refine lv_icmp_eq (tgt := 1072) hx hb d_law_1067 (by decide) (fun _ => ?_) (fun h => absurd rfl h)
  refine lv_iload hx hb d_law_1072 (lv_at hl 1 rfl) ?_
  refine lv_if_ne (tgt := 1089) hx hb d_law_1074 (by decide) (fun ck => ?_) (fun ck => ?_)
  · refine lv_goto (tgt := 2391) hx hb d_law_1089 (by decide) ?_
    exact hk ad1 ov1 N1 C1 S1 A1 rd1 c1 z1 H _ ls ⟨⟨hx, hb, hr, hml, hown, hts, hX, hbl, hlocks, hL⟩, ⟨hev, hE, hN, hH⟩, ⟨hP, hK, hD, hS, lv_sub hl [2, 3, 4, 5, 6] rfl⟩, hI1⟩ e5 e6 e7 e8 e9
  · refine lv_aload_n hx hb d_law_1077 rfl (lv_at hl 3 rfl) ?_
    refine lv_iconst (v := 0) hx hb d_law_1078 (by decide) ?_
    refine va_lald hx hb hK hP (cw ad1 cc N1 C1).length 7 at_mid rfl (i := 0) (vp_in_nI (n := 0) (N := 1) (by decide) (by decide)) d_law_1079 ?_
    refine w_l (y := ov1 0) rfl ?_
    refine lv_iload hx hb d_law_1080 (lv_at hl 0 rfl) ?_
    refine lv_i2l hx hb d_law_1082 rfl ?_
    refine w_l (y := ov1 0) (e4 ck).symm ?_
    refine W.lcmp hx hb d_law_1083 ?_
    refine w_i (y := 0) (by simp [lg_cmp]) ?_
    refine lv_if_eq (tgt := 1089) hx hb d_law_1084 (by decide) (fun _ => ?_) (fun h => absurd rfl h)
    refine lv_goto (tgt := 2391) hx hb d_law_1089 (by decide) ?_
    exact hk ad1 ov1 N1 C1 S1 A1 rd1 c1 z1 H _ ls ⟨⟨hx, hb, hr, hml, hown, hts, hX, hbl, hlocks, hL⟩, ⟨hev, hE, hN, hH⟩, ⟨hP, hK, hD, hS, lv_sub hl [2, 3, 4, 5, 6] rfl⟩, hI1⟩ e5 e6 e7 e8 e9
theorem d_law_1092 : decode code 1092 = .ok (.aload_n 1, 1) := by decide +kernel
theorem d_law_1093 : decode code 1093 = .ok (.aload_n 0, 1) := by decide +kernel
theorem d_law_1094 : decode code 1094 = .ok (.iload 4, 2) := by decide +kernel
theorem d_law_1096 : decode code 1096 = .ok (.iconst 1, 1) := by decide +kernel
theorem d_law_1097 : decode code 1097 = .ok (.iadd, 1) := by decide +kernel
theorem d_law_1098 : decode code 1098 = .ok (.iaload, 1) := by decide +kernel
theorem d_law_1099 : decode code 1099 = .ok (.aload_n 3, 1) := by decide +kernel
theorem d_law_1100 : decode code 1100 = .ok (.invokestatic 156, 3) := by decide +kernel
theorem d_law_1103 : decode code 1103 = .ok (.istore 5, 2) := by decide +kernel
theorem d_law_1105 : decode code 1105 = .ok (.aload_n 2, 1) := by decide +kernel
theorem d_law_1106 : decode code 1106 = .ok (.aload_n 0, 1) := by decide +kernel
theorem d_law_1107 : decode code 1107 = .ok (.iload 4, 2) := by decide +kernel
theorem d_law_1109 : decode code 1109 = .ok (.iconst 1, 1) := by decide +kernel
theorem d_law_1110 : decode code 1110 = .ok (.iadd, 1) := by decide +kernel
theorem d_law_1111 : decode code 1111 = .ok (.iaload, 1) := by decide +kernel
theorem d_law_1112 : decode code 1112 = .ok (.invokevirtual 158, 3) := by decide +kernel
theorem d_law_1115 : decode code 1115 = .ok (.istore 6, 2) := by decide +kernel
theorem d_law_1117 : decode code 1117 = .ok (.aload_n 2, 1) := by decide +kernel
theorem d_law_1118 : decode code 1118 = .ok (.invokevirtual 120, 3) := by decide +kernel
theorem d_law_1121 : decode code 1121 = .ok (.iload 5, 2) := by decide +kernel
theorem d_law_1123 : decode code 1123 = .ok (.if_icmp .eq 5, 3) := by decide +kernel
theorem d_law_1128 : decode code 1128 = .ok (.iload 5, 2) := by decide +kernel
theorem d_law_1130 : decode code 1130 = .ok (.ifCond .ne 15, 3) := by decide +kernel
theorem d_law_1145 : decode code 1145 = .ok (.goto 1246, 3) := by decide +kernel
theorem d_law_1133 : decode code 1133 = .ok (.aload_n 3, 1) := by decide +kernel
theorem d_law_1134 : decode code 1134 = .ok (.iconst 0, 1) := by decide +kernel
theorem d_law_1135 : decode code 1135 = .ok (.laload, 1) := by decide +kernel
theorem d_law_1136 : decode code 1136 = .ok (.iload 6, 2) := by decide +kernel
theorem d_law_1138 : decode code 1138 = .ok (.i2l, 1) := by decide +kernel
theorem d_law_1139 : decode code 1139 = .ok (.lcmp, 1) := by decide +kernel
theorem d_law_1140 : decode code 1140 = .ok (.ifCond .eq 5, 3) := by decide +kernel
set_option maxHeartbeats 8000000 in
set_option maxRecDepth 100000 in
theorem law_k9 {p : Program} {e : Env} {s : State} {m : MethodId} {below : List Frame} {meth : Method} {c : Code} (l : Launch) (hfl : l.flags = flags0) {b L i : Nat} {xs : Nat → Int32} {D : va_G} {cc : Nat → ClassId} {md : Nat → Nat} {mc : Nat → ClassId} {o : Nat} {cL : ClassId} {sad sav : Nat → Nat} {ad : Nat → Nat → Nat} {ov : Nat → Int64} {N : Nat → Nat} {C : CS} {S : MS} {A : AS} {rd cells slots : Nat} {H : Heap} {locs : List Loc} {ls : Array Slot} (h : LwW p s m meth c b L xs D cc md mc o cL sad sav i ad ov N C S A rd H locs ls) (hi7 : i + 7 ≤ L) (hrd : rd + 60000 < 2 ^ 30) (hcb : cells ≤ 500000) (hsb : slots ≤ 6000000) (hk : ∀ (ad1 : Nat → Nat → Nat) (ov1 : Nat → Int64) (N1 : Nat → Nat) (C1 : CS) (S1 : MS) (A1 : AS) (rd1 c1 z1 : Nat) (H1 : Heap) (locs1 : List Loc) (ls1 : Array Slot), LwW p s m meth c b L xs D cc md mc o cL sad sav i ad1 ov1 N1 C1 S1 A1 rd1 H1 locs1 ls1 → A.n ≤ A1.n → A.m ≤ A1.m → rd1 ≤ rd + 50000 → c1 ≤ 2 * (A1.n - A.n) + 3 * (A1.m - A.m) + 1 → z1 ≤ 23 * (A1.n - A.n) + 40 * (A1.m - A.m) + 6 → W p l e room_1 s m #[Value.ref b] below meth c H1 locs1 (cells + c1) (slots + z1) (lw_Z below #[Value.ref b] s) (F0 m 2391 ls1 [])) : W p l e room_1 s m #[Value.ref b] below meth c H locs cells slots (lw_Z below #[Value.ref b] s) (F0 m 1092 ls []) := by
  obtain ⟨⟨hx, hb, hr, hml, hown, hts, hX, hbl, hlocks, hL⟩, ⟨hev, hE, hN, hH⟩, ⟨hP, hK, hD, hS, hl⟩, hI⟩ := h
  have hNS : tx_NS (lA s) s := fun q cell hq hc => absurd (Array.getElem?_eq_some_iff.mp hc).1 (Nat.not_lt.mpr hq)
  have hA : ∀ q : Nat, s.heap.size ≤ q → lA s q := fun _ h => h
  have hbA : ¬ lA s b := Nat.not_le.mpr hbl
  have h11 : N 11 = 1 := hI.2.1.nn.2.2.2.2.2.2.2.2.2.2.2.1
  refine lv_aload_n hx hb d_law_1092 rfl (lv_at hl 3 rfl) ?_
  refine lv_aload_n hx hb d_law_1093 rfl (lv_at hl 4 rfl) ?_
  refine lv_iload hx hb d_law_1094 (lv_at hl 0 rfl) ?_
  refine lv_iconst (v := 1) hx hb d_law_1096 (by decide) ?_
  refine lv_iadd hx hb d_law_1097 ?_
  refine w_i (y := nI (i + 1)) (nI_add i 1) ?_
  refine va_sld hx hb hX hbl hbA hS (i := nI (i + 1)) (vp_in_nI (n := i + 1) (N := L) (by omega) (by omega)) d_law_1098 ?_
  refine w_i (y := xs (i + 1)) (by rw [cl_nI (by omega)]) ?_
  refine lv_aload_n hx hb d_law_1099 rfl (lv_at hl 1 rfl) ?_
  obtain ⟨N1, C1, ov1, kk, c1, z1, S1, bb, A1, rd1, e1, e2, e3, e4, hI1, e5, e6, e7, e8, e9⟩ := st_commit (ov := ov) hI hrd (xs (i + 1))
  have hn1 := hI1.2.2.1.1.1
  have hm1 := hI1.2.2.1.1.2.1
  have hPh := p_l hP
  have hDh := d_l hD
  have hKh := hK.sub (tys' := cty cc ++ [(cL, .long)]) [0, 1, 2, 3, 4, 5, 6, 7] rfl
  have hFc := fr_all hDh hS hA
  refine va_calli (tx_runSW (As := [.ref (ad 11 0), .int (xs (i + 1)), .ref o]) (rest := []) ⟨hx, hb, hml, hown, hts⟩ (g_h_commit l hfl D H.size (ad := ad) (cc := cc) (sad := sad) (sav := sav) (cL := cL) (a := o) e1) (cw_w 3 hts kw_986 kw_984 kw_985 kw_0 rfl rfl (by decide +kernel) ⟨Nat.le_of_ble_eq_true rfl, Nat.le_of_ble_eq_true rfl⟩) ⟨h_blind, fun U hU hW => h_pre hU hW hPh hKh hDh hev hE hN hH hNS hS hFc⟩ rfl rfl hl.1 rfl (lv_room (Nat.le_of_ble_eq_true rfl)) d_law_1100 ⟨by show cells + c1 ≤ 601024; omega, by show slots + z1 ≤ 7293034; omega⟩) hS (fun q _ h => hFc q h) hFc (fun rz ad1 t H1 locs ht hvm hw hB hz1 hk1 hS => ?_)
  obtain ⟨hXt, hP1, -, hD1⟩ := hB
  rw [ht] at hP1
  obtain ⟨hP, hD⟩ := join_w hP hD hk1 hFc hP1 hD1
  refine w_i (y := kk) hw ?_
  have had : ad1 11 0 = ad 11 0 := hXt.2 11 0 (by rw [h11]; decide)
  rw [← had] at hl
  generalize H1 = H at hP hS ⊢
  refine W.cs (cells' := cells + c1) (slots' := slots + z1) rfl rfl ?_
  refine lv_istore (lv' := [(5, .int kk), (4, .int (nI i)), (3, .ref o), (2, .ref (md 100)), (1, .ref (ad1 11 0)), (0, .ref b)]) hx hb d_law_1103 hl (by decide) rfl (fun ls hl => ?_)
  refine lv_aload_n hx hb d_law_1105 rfl (lv_at hl 3 rfl) ?_
  refine lv_aload_n hx hb d_law_1106 rfl (lv_at hl 5 rfl) ?_
  refine lv_iload hx hb d_law_1107 (lv_at hl 1 rfl) ?_
  refine lv_iconst (v := 1) hx hb d_law_1109 (by decide) ?_
  refine lv_iadd hx hb d_law_1110 ?_
  refine w_i (y := nI (i + 1)) (nI_add i 1) ?_
  refine va_sld hx hb hX hbl hbA hS (i := nI (i + 1)) (vp_in_nI (n := i + 1) (N := L) (by omega) (by omega)) d_law_1111 ?_
  refine w_i (y := xs (i + 1)) (by rw [cl_nI (by omega)]) ?_
  have hPc := p_r hP
  have hDc := d_r hD
  have hKc := hK.sub (tys' := mty mc) [8, 9, 10, 11, 12] rfl
  have hFc := fr_all hDc hS hA
  refine va_calli (va_runV (As := [.int (xs (i + 1))]) (rest := []) ⟨hx, hb, hml, hown, hts⟩ (g_rcommit l D H.size (md := md) (mc := mc) e2) (cw_v 1 hts kw_1811 kw_1808 kw_1809 kw_1810 kw_11 rfl rfl (by decide +kernel) ⟨Nat.le_of_ble_eq_true rfl, Nat.le_of_ble_eq_true rfl⟩) ⟨g_blind, va_recv hKc hPc (ci := 12) (q0 := 0) rfl rfl, fun U hU hW => g_pre hU hW hPc hKc hDc⟩ rfl rfl hl.1 rfl (lv_room (Nat.le_of_ble_eq_true rfl)) d_law_1112 ⟨by show cells + c1 + 0 ≤ 601024; omega, by show slots + z1 + 0 ≤ 7293034; omega⟩) hS (fun q _ h => hFc q h) hFc (fun rb u t H1 locs ht hvm hw hB hz1 hk1 hS => ?_)
  obtain ⟨hP1, -, hD1⟩ := hB
  rw [ht] at hP1
  obtain ⟨hP, hD⟩ := join_r hP hD hk1 hFc hP1 hD1
  refine w_i (y := bb) hw ?_
  generalize H1 = H at hP hS ⊢
  refine W.cs (cells' := cells + c1) (slots' := slots + z1) rfl rfl ?_
  refine lv_istore (lv' := [(6, .int bb), (5, .int kk), (4, .int (nI i)), (3, .ref o), (2, .ref (md 100)), (1, .ref (ad1 11 0)), (0, .ref b)]) hx hb d_law_1115 hl (by decide) rfl (fun ls hl => ?_)
  refine lv_aload_n hx hb d_law_1117 rfl (lv_at hl 4 rfl) ?_
  have hPc := p_r hP
  have hDc := d_r hD
  have hKc := hK.sub (tys' := mty mc) [8, 9, 10, 11, 12] rfl
  have hFc := fr_all hDc hS hA
  refine va_calli (va_runV (As := []) (rest := []) ⟨hx, hb, hml, hown, hts⟩ (g_rthrown l D H.size (md := md) (mc := mc) (show m_rthrown S1 = some (S1, S1.i 0) from rfl)) (cw_v 0 hts kw_1618 kw_1615 kw_1616 kw_1617 kw_11 rfl rfl (by decide +kernel) ⟨Nat.le_of_ble_eq_true rfl, Nat.le_of_ble_eq_true rfl⟩) ⟨g_blind, va_recv hKc hPc (ci := 12) (q0 := 0) rfl rfl, fun U hU hW => g_pre hU hW hPc hKc hDc⟩ rfl rfl hl.1 rfl (lv_room (Nat.le_of_ble_eq_true rfl)) d_law_1118 ⟨by show cells + c1 + 0 ≤ 601024; omega, by show slots + z1 + 0 ≤ 7293034; omega⟩) hS (fun q _ h => hFc q h) hFc (fun rt u t H1 locs ht hvm hw hB hz1 hk1 hS => ?_)
  obtain ⟨hP1, -, hD1⟩ := hB
  rw [ht] at hP1
  obtain ⟨hP, hD⟩ := join_r hP hD hk1 hFc hP1 hD1
  refine w_i (y := kk) (hw.trans e3) ?_
  generalize H1 = H at hP hS ⊢
  refine W.cs (cells' := cells + c1) (slots' := slots + z1) rfl rfl ?_
  refine lv_iload hx hb d_law_1121 (lv_at hl 1 rfl) ?_
  refine lv_icmp_eq (tgt := 1128) hx hb d_law_1123 (by decide) (fun _ => ?_) (fun h => absurd rfl h)
  refine lv_iload hx hb d_law_1128 (lv_at hl 1 rfl) ?_
  refine lv_if_ne (tgt := 1145) hx hb d_law_1130 (by decide) (fun ck => ?_) (fun ck => ?_)
  · refine lv_goto (tgt := 2391) hx hb d_law_1145 (by decide) ?_
    exact hk ad1 ov1 N1 C1 S1 A1 rd1 c1 z1 H _ ls ⟨⟨hx, hb, hr, hml, hown, hts, hX, hbl, hlocks, hL⟩, ⟨hev, hE, hN, hH⟩, ⟨hP, hK, hD, hS, lv_sub hl [2, 3, 4, 5, 6] rfl⟩, hI1⟩ e5 e6 e7 e8 e9
  · refine lv_aload_n hx hb d_law_1133 rfl (lv_at hl 3 rfl) ?_
    refine lv_iconst (v := 0) hx hb d_law_1134 (by decide) ?_
    refine va_lald hx hb hK hP (cw ad1 cc N1 C1).length 7 at_mid rfl (i := 0) (vp_in_nI (n := 0) (N := 1) (by decide) (by decide)) d_law_1135 ?_
    refine w_l (y := ov1 0) rfl ?_
    refine lv_iload hx hb d_law_1136 (lv_at hl 0 rfl) ?_
    refine lv_i2l hx hb d_law_1138 rfl ?_
    refine w_l (y := ov1 0) (e4 ck).symm ?_
    refine W.lcmp hx hb d_law_1139 ?_
    refine w_i (y := 0) (by simp [lg_cmp]) ?_
    refine lv_if_eq (tgt := 1145) hx hb d_law_1140 (by decide) (fun _ => ?_) (fun h => absurd rfl h)
    refine lv_goto (tgt := 2391) hx hb d_law_1145 (by decide) ?_
    exact hk ad1 ov1 N1 C1 S1 A1 rd1 c1 z1 H _ ls ⟨⟨hx, hb, hr, hml, hown, hts, hX, hbl, hlocks, hL⟩, ⟨hev, hE, hN, hH⟩, ⟨hP, hK, hD, hS, lv_sub hl [2, 3, 4, 5, 6] rfl⟩, hI1⟩ e5 e6 e7 e8 e9
theorem d_law_1148 : decode code 1148 = .ok (.aload_n 1, 1) := by decide +kernel
theorem d_law_1149 : decode code 1149 = .ok (.aload_n 0, 1) := by decide +kernel
theorem d_law_1150 : decode code 1150 = .ok (.iload 4, 2) := by decide +kernel
theorem d_law_1152 : decode code 1152 = .ok (.iconst 1, 1) := by decide +kernel
theorem d_law_1153 : decode code 1153 = .ok (.iadd, 1) := by decide +kernel
theorem d_law_1154 : decode code 1154 = .ok (.iaload, 1) := by decide +kernel
theorem d_law_1155 : decode code 1155 = .ok (.aload_n 3, 1) := by decide +kernel
theorem d_law_1156 : decode code 1156 = .ok (.invokestatic 159, 3) := by decide +kernel
theorem d_law_1159 : decode code 1159 = .ok (.istore 5, 2) := by decide +kernel
theorem d_law_1161 : decode code 1161 = .ok (.aload_n 2, 1) := by decide +kernel
theorem d_law_1162 : decode code 1162 = .ok (.aload_n 0, 1) := by decide +kernel
theorem d_law_1163 : decode code 1163 = .ok (.iload 4, 2) := by decide +kernel
theorem d_law_1165 : decode code 1165 = .ok (.iconst 1, 1) := by decide +kernel
theorem d_law_1166 : decode code 1166 = .ok (.iadd, 1) := by decide +kernel
theorem d_law_1167 : decode code 1167 = .ok (.iaload, 1) := by decide +kernel
theorem d_law_1168 : decode code 1168 = .ok (.invokevirtual 161, 3) := by decide +kernel
theorem d_law_1171 : decode code 1171 = .ok (.istore 6, 2) := by decide +kernel
theorem d_law_1173 : decode code 1173 = .ok (.aload_n 2, 1) := by decide +kernel
theorem d_law_1174 : decode code 1174 = .ok (.invokevirtual 120, 3) := by decide +kernel
theorem d_law_1177 : decode code 1177 = .ok (.iload 5, 2) := by decide +kernel
theorem d_law_1179 : decode code 1179 = .ok (.if_icmp .eq 5, 3) := by decide +kernel
theorem d_law_1184 : decode code 1184 = .ok (.iload 5, 2) := by decide +kernel
theorem d_law_1186 : decode code 1186 = .ok (.ifCond .ne 15, 3) := by decide +kernel
theorem d_law_1201 : decode code 1201 = .ok (.goto 1190, 3) := by decide +kernel
theorem d_law_1189 : decode code 1189 = .ok (.aload_n 3, 1) := by decide +kernel
theorem d_law_1190 : decode code 1190 = .ok (.iconst 0, 1) := by decide +kernel
theorem d_law_1191 : decode code 1191 = .ok (.laload, 1) := by decide +kernel
theorem d_law_1192 : decode code 1192 = .ok (.iload 6, 2) := by decide +kernel
theorem d_law_1194 : decode code 1194 = .ok (.i2l, 1) := by decide +kernel
theorem d_law_1195 : decode code 1195 = .ok (.lcmp, 1) := by decide +kernel
theorem d_law_1196 : decode code 1196 = .ok (.ifCond .eq 5, 3) := by decide +kernel
set_option maxHeartbeats 8000000 in
set_option maxRecDepth 100000 in
theorem law_k10 {p : Program} {e : Env} {s : State} {m : MethodId} {below : List Frame} {meth : Method} {c : Code} (l : Launch) (hfl : l.flags = flags0) {b L i : Nat} {xs : Nat → Int32} {D : va_G} {cc : Nat → ClassId} {md : Nat → Nat} {mc : Nat → ClassId} {o : Nat} {cL : ClassId} {sad sav : Nat → Nat} {ad : Nat → Nat → Nat} {ov : Nat → Int64} {N : Nat → Nat} {C : CS} {S : MS} {A : AS} {rd cells slots : Nat} {H : Heap} {locs : List Loc} {ls : Array Slot} (h : LwW p s m meth c b L xs D cc md mc o cL sad sav i ad ov N C S A rd H locs ls) (hi7 : i + 7 ≤ L) (hrd : rd + 60000 < 2 ^ 30) (hcb : cells ≤ 500000) (hsb : slots ≤ 6000000) (hk : ∀ (ad1 : Nat → Nat → Nat) (ov1 : Nat → Int64) (N1 : Nat → Nat) (C1 : CS) (S1 : MS) (A1 : AS) (rd1 c1 z1 : Nat) (H1 : Heap) (locs1 : List Loc) (ls1 : Array Slot), LwW p s m meth c b L xs D cc md mc o cL sad sav i ad1 ov1 N1 C1 S1 A1 rd1 H1 locs1 ls1 → A.n ≤ A1.n → A.m ≤ A1.m → rd1 ≤ rd + 50000 → c1 ≤ 2 * (A1.n - A.n) + 3 * (A1.m - A.m) + 1 → z1 ≤ 23 * (A1.n - A.n) + 40 * (A1.m - A.m) + 6 → W p l e room_1 s m #[Value.ref b] below meth c H1 locs1 (cells + c1) (slots + z1) (lw_Z below #[Value.ref b] s) (F0 m 2391 ls1 [])) : W p l e room_1 s m #[Value.ref b] below meth c H locs cells slots (lw_Z below #[Value.ref b] s) (F0 m 1148 ls []) := by
  obtain ⟨⟨hx, hb, hr, hml, hown, hts, hX, hbl, hlocks, hL⟩, ⟨hev, hE, hN, hH⟩, ⟨hP, hK, hD, hS, hl⟩, hI⟩ := h
  have hNS : tx_NS (lA s) s := fun q cell hq hc => absurd (Array.getElem?_eq_some_iff.mp hc).1 (Nat.not_lt.mpr hq)
  have hA : ∀ q : Nat, s.heap.size ≤ q → lA s q := fun _ h => h
  have hbA : ¬ lA s b := Nat.not_le.mpr hbl
  have h11 : N 11 = 1 := hI.2.1.nn.2.2.2.2.2.2.2.2.2.2.2.1
  refine lv_aload_n hx hb d_law_1148 rfl (lv_at hl 3 rfl) ?_
  refine lv_aload_n hx hb d_law_1149 rfl (lv_at hl 4 rfl) ?_
  refine lv_iload hx hb d_law_1150 (lv_at hl 0 rfl) ?_
  refine lv_iconst (v := 1) hx hb d_law_1152 (by decide) ?_
  refine lv_iadd hx hb d_law_1153 ?_
  refine w_i (y := nI (i + 1)) (nI_add i 1) ?_
  refine va_sld hx hb hX hbl hbA hS (i := nI (i + 1)) (vp_in_nI (n := i + 1) (N := L) (by omega) (by omega)) d_law_1154 ?_
  refine w_i (y := xs (i + 1)) (by rw [cl_nI (by omega)]) ?_
  refine lv_aload_n hx hb d_law_1155 rfl (lv_at hl 1 rfl) ?_
  obtain ⟨N1, C1, ov1, kk, c1, z1, S1, bb, A1, rd1, e1, e2, e3, e4, hI1, e5, e6, e7, e8, e9⟩ := st_drop (ov := ov) hI hrd (xs (i + 1))
  have hn1 := hI1.2.2.1.1.1
  have hm1 := hI1.2.2.1.1.2.1
  have hPh := p_l hP
  have hDh := d_l hD
  have hKh := hK.sub (tys' := cty cc ++ [(cL, .long)]) [0, 1, 2, 3, 4, 5, 6, 7] rfl
  have hFc := fr_all hDh hS hA
  refine va_calli (tx_runSW (As := [.ref (ad 11 0), .int (xs (i + 1)), .ref o]) (rest := []) ⟨hx, hb, hml, hown, hts⟩ (g_h_drop l hfl D H.size (ad := ad) (cc := cc) (sad := sad) (sav := sav) (cL := cL) (a := o) e1) (cw_w 3 hts kw_1060 kw_1058 kw_1059 kw_0 rfl rfl (by decide +kernel) ⟨Nat.le_of_ble_eq_true rfl, Nat.le_of_ble_eq_true rfl⟩) ⟨h_blind, fun U hU hW => h_pre hU hW hPh hKh hDh hev hE hN hH hNS hS hFc⟩ rfl rfl hl.1 rfl (lv_room (Nat.le_of_ble_eq_true rfl)) d_law_1156 ⟨by show cells + c1 ≤ 601024; omega, by show slots + z1 ≤ 7293034; omega⟩) hS (fun q _ h => hFc q h) hFc (fun rz ad1 t H1 locs ht hvm hw hB hz1 hk1 hS => ?_)
  obtain ⟨hXt, hP1, -, hD1⟩ := hB
  rw [ht] at hP1
  obtain ⟨hP, hD⟩ := join_w hP hD hk1 hFc hP1 hD1
  refine w_i (y := kk) hw ?_
  have had : ad1 11 0 = ad 11 0 := hXt.2 11 0 (by rw [h11]; decide)
  rw [← had] at hl
  generalize H1 = H at hP hS ⊢
  refine W.cs (cells' := cells + c1) (slots' := slots + z1) rfl rfl ?_
  refine lv_istore (lv' := [(5, .int kk), (4, .int (nI i)), (3, .ref o), (2, .ref (md 100)), (1, .ref (ad1 11 0)), (0, .ref b)]) hx hb d_law_1159 hl (by decide) rfl (fun ls hl => ?_)
  refine lv_aload_n hx hb d_law_1161 rfl (lv_at hl 3 rfl) ?_
  refine lv_aload_n hx hb d_law_1162 rfl (lv_at hl 5 rfl) ?_
  refine lv_iload hx hb d_law_1163 (lv_at hl 1 rfl) ?_
  refine lv_iconst (v := 1) hx hb d_law_1165 (by decide) ?_
  refine lv_iadd hx hb d_law_1166 ?_
  refine w_i (y := nI (i + 1)) (nI_add i 1) ?_
  refine va_sld hx hb hX hbl hbA hS (i := nI (i + 1)) (vp_in_nI (n := i + 1) (N := L) (by omega) (by omega)) d_law_1167 ?_
  refine w_i (y := xs (i + 1)) (by rw [cl_nI (by omega)]) ?_
  have hPc := p_r hP
  have hDc := d_r hD
  have hKc := hK.sub (tys' := mty mc) [8, 9, 10, 11, 12] rfl
  have hFc := fr_all hDc hS hA
  refine va_calli (va_runV (As := [.int (xs (i + 1))]) (rest := []) ⟨hx, hb, hml, hown, hts⟩ (g_rdrop l D H.size (md := md) (mc := mc) e2) (cw_v 1 hts kw_1827 kw_1824 kw_1825 kw_1826 kw_11 rfl rfl (by decide +kernel) ⟨Nat.le_of_ble_eq_true rfl, Nat.le_of_ble_eq_true rfl⟩) ⟨g_blind, va_recv hKc hPc (ci := 12) (q0 := 0) rfl rfl, fun U hU hW => g_pre hU hW hPc hKc hDc⟩ rfl rfl hl.1 rfl (lv_room (Nat.le_of_ble_eq_true rfl)) d_law_1168 ⟨by show cells + c1 + 0 ≤ 601024; omega, by show slots + z1 + 0 ≤ 7293034; omega⟩) hS (fun q _ h => hFc q h) hFc (fun rb u t H1 locs ht hvm hw hB hz1 hk1 hS => ?_)
  obtain ⟨hP1, -, hD1⟩ := hB
  rw [ht] at hP1
  obtain ⟨hP, hD⟩ := join_r hP hD hk1 hFc hP1 hD1
  refine w_i (y := bb) hw ?_
  generalize H1 = H at hP hS ⊢
  refine W.cs (cells' := cells + c1) (slots' := slots + z1) rfl rfl ?_
  refine lv_istore (lv' := [(6, .int bb), (5, .int kk), (4, .int (nI i)), (3, .ref o), (2, .ref (md 100)), (1, .ref (ad1 11 0)), (0, .ref b)]) hx hb d_law_1171 hl (by decide) rfl (fun ls hl => ?_)
  refine lv_aload_n hx hb d_law_1173 rfl (lv_at hl 4 rfl) ?_
  have hPc := p_r hP
  have hDc := d_r hD
  have hKc := hK.sub (tys' := mty mc) [8, 9, 10, 11, 12] rfl
  have hFc := fr_all hDc hS hA
  refine va_calli (va_runV (As := []) (rest := []) ⟨hx, hb, hml, hown, hts⟩ (g_rthrown l D H.size (md := md) (mc := mc) (show m_rthrown S1 = some (S1, S1.i 0) from rfl)) (cw_v 0 hts kw_1618 kw_1615 kw_1616 kw_1617 kw_11 rfl rfl (by decide +kernel) ⟨Nat.le_of_ble_eq_true rfl, Nat.le_of_ble_eq_true rfl⟩) ⟨g_blind, va_recv hKc hPc (ci := 12) (q0 := 0) rfl rfl, fun U hU hW => g_pre hU hW hPc hKc hDc⟩ rfl rfl hl.1 rfl (lv_room (Nat.le_of_ble_eq_true rfl)) d_law_1174 ⟨by show cells + c1 + 0 ≤ 601024; omega, by show slots + z1 + 0 ≤ 7293034; omega⟩) hS (fun q _ h => hFc q h) hFc (fun rt u t H1 locs ht hvm hw hB hz1 hk1 hS => ?_)
  obtain ⟨hP1, -, hD1⟩ := hB
  rw [ht] at hP1
  obtain ⟨hP, hD⟩ := join_r hP hD hk1 hFc hP1 hD1
  refine w_i (y := kk) (hw.trans e3) ?_
  generalize H1 = H at hP hS ⊢
  refine W.cs (cells' := cells + c1) (slots' := slots + z1) rfl rfl ?_
  refine lv_iload hx hb d_law_1177 (lv_at hl 1 rfl) ?_
  refine lv_icmp_eq (tgt := 1184) hx hb d_law_1179 (by decide) (fun _ => ?_) (fun h => absurd rfl h)
  refine lv_iload hx hb d_law_1184 (lv_at hl 1 rfl) ?_
  refine lv_if_ne (tgt := 1201) hx hb d_law_1186 (by decide) (fun ck => ?_) (fun ck => ?_)
  · refine lv_goto (tgt := 2391) hx hb d_law_1201 (by decide) ?_
    exact hk ad1 ov1 N1 C1 S1 A1 rd1 c1 z1 H _ ls ⟨⟨hx, hb, hr, hml, hown, hts, hX, hbl, hlocks, hL⟩, ⟨hev, hE, hN, hH⟩, ⟨hP, hK, hD, hS, lv_sub hl [2, 3, 4, 5, 6] rfl⟩, hI1⟩ e5 e6 e7 e8 e9
  · refine lv_aload_n hx hb d_law_1189 rfl (lv_at hl 3 rfl) ?_
    refine lv_iconst (v := 0) hx hb d_law_1190 (by decide) ?_
    refine va_lald hx hb hK hP (cw ad1 cc N1 C1).length 7 at_mid rfl (i := 0) (vp_in_nI (n := 0) (N := 1) (by decide) (by decide)) d_law_1191 ?_
    refine w_l (y := ov1 0) rfl ?_
    refine lv_iload hx hb d_law_1192 (lv_at hl 0 rfl) ?_
    refine lv_i2l hx hb d_law_1194 rfl ?_
    refine w_l (y := ov1 0) (e4 ck).symm ?_
    refine W.lcmp hx hb d_law_1195 ?_
    refine w_i (y := 0) (by simp [lg_cmp]) ?_
    refine lv_if_eq (tgt := 1201) hx hb d_law_1196 (by decide) (fun _ => ?_) (fun h => absurd rfl h)
    refine lv_goto (tgt := 2391) hx hb d_law_1201 (by decide) ?_
    exact hk ad1 ov1 N1 C1 S1 A1 rd1 c1 z1 H _ ls ⟨⟨hx, hb, hr, hml, hown, hts, hX, hbl, hlocks, hL⟩, ⟨hev, hE, hN, hH⟩, ⟨hP, hK, hD, hS, lv_sub hl [2, 3, 4, 5, 6] rfl⟩, hI1⟩ e5 e6 e7 e8 e9
theorem d_law_1204 : decode code 1204 = .ok (.aload_n 1, 1) := by decide +kernel
theorem d_law_1205 : decode code 1205 = .ok (.aload_n 0, 1) := by decide +kernel
theorem d_law_1206 : decode code 1206 = .ok (.iload 4, 2) := by decide +kernel
theorem d_law_1208 : decode code 1208 = .ok (.iconst 1, 1) := by decide +kernel
theorem d_law_1209 : decode code 1209 = .ok (.iadd, 1) := by decide +kernel
theorem d_law_1210 : decode code 1210 = .ok (.iaload, 1) := by decide +kernel
theorem d_law_1211 : decode code 1211 = .ok (.aload_n 0, 1) := by decide +kernel
theorem d_law_1212 : decode code 1212 = .ok (.iload 4, 2) := by decide +kernel
theorem d_law_1214 : decode code 1214 = .ok (.iconst 2, 1) := by decide +kernel
theorem d_law_1215 : decode code 1215 = .ok (.iadd, 1) := by decide +kernel
theorem d_law_1216 : decode code 1216 = .ok (.iaload, 1) := by decide +kernel
theorem d_law_1217 : decode code 1217 = .ok (.aload_n 0, 1) := by decide +kernel
theorem d_law_1218 : decode code 1218 = .ok (.iload 4, 2) := by decide +kernel
theorem d_law_1220 : decode code 1220 = .ok (.iconst 3, 1) := by decide +kernel
theorem d_law_1221 : decode code 1221 = .ok (.iadd, 1) := by decide +kernel
theorem d_law_1222 : decode code 1222 = .ok (.iaload, 1) := by decide +kernel
theorem d_law_1223 : decode code 1223 = .ok (.aload_n 0, 1) := by decide +kernel
theorem d_law_1224 : decode code 1224 = .ok (.iload 4, 2) := by decide +kernel
theorem d_law_1226 : decode code 1226 = .ok (.iconst 4, 1) := by decide +kernel
theorem d_law_1227 : decode code 1227 = .ok (.iadd, 1) := by decide +kernel
theorem d_law_1228 : decode code 1228 = .ok (.iaload, 1) := by decide +kernel
theorem d_law_1229 : decode code 1229 = .ok (.aload_n 3, 1) := by decide +kernel
theorem d_law_1230 : decode code 1230 = .ok (.invokestatic 162, 3) := by decide +kernel
theorem d_law_1233 : decode code 1233 = .ok (.istore 5, 2) := by decide +kernel
theorem d_law_1235 : decode code 1235 = .ok (.aload_n 2, 1) := by decide +kernel
theorem d_law_1236 : decode code 1236 = .ok (.aload_n 0, 1) := by decide +kernel
theorem d_law_1237 : decode code 1237 = .ok (.iload 4, 2) := by decide +kernel
theorem d_law_1239 : decode code 1239 = .ok (.iconst 1, 1) := by decide +kernel
theorem d_law_1240 : decode code 1240 = .ok (.iadd, 1) := by decide +kernel
theorem d_law_1241 : decode code 1241 = .ok (.iaload, 1) := by decide +kernel
theorem d_law_1242 : decode code 1242 = .ok (.aload_n 0, 1) := by decide +kernel
theorem d_law_1243 : decode code 1243 = .ok (.iload 4, 2) := by decide +kernel
theorem d_law_1245 : decode code 1245 = .ok (.iconst 2, 1) := by decide +kernel
theorem d_law_1246 : decode code 1246 = .ok (.iadd, 1) := by decide +kernel
theorem d_law_1247 : decode code 1247 = .ok (.iaload, 1) := by decide +kernel
theorem d_law_1248 : decode code 1248 = .ok (.aload_n 0, 1) := by decide +kernel
theorem d_law_1249 : decode code 1249 = .ok (.iload 4, 2) := by decide +kernel
theorem d_law_1251 : decode code 1251 = .ok (.iconst 3, 1) := by decide +kernel
theorem d_law_1252 : decode code 1252 = .ok (.iadd, 1) := by decide +kernel
theorem d_law_1253 : decode code 1253 = .ok (.iaload, 1) := by decide +kernel
theorem d_law_1254 : decode code 1254 = .ok (.aload_n 0, 1) := by decide +kernel
theorem d_law_1255 : decode code 1255 = .ok (.iload 4, 2) := by decide +kernel
theorem d_law_1257 : decode code 1257 = .ok (.iconst 4, 1) := by decide +kernel
theorem d_law_1258 : decode code 1258 = .ok (.iadd, 1) := by decide +kernel
theorem d_law_1259 : decode code 1259 = .ok (.iaload, 1) := by decide +kernel
theorem d_law_1260 : decode code 1260 = .ok (.invokevirtual 164, 3) := by decide +kernel
theorem d_law_1263 : decode code 1263 = .ok (.istore 6, 2) := by decide +kernel
theorem d_law_1265 : decode code 1265 = .ok (.aload_n 2, 1) := by decide +kernel
theorem d_law_1266 : decode code 1266 = .ok (.invokevirtual 120, 3) := by decide +kernel
theorem d_law_1269 : decode code 1269 = .ok (.iload 5, 2) := by decide +kernel
theorem d_law_1271 : decode code 1271 = .ok (.if_icmp .eq 5, 3) := by decide +kernel
theorem d_law_1276 : decode code 1276 = .ok (.iload 5, 2) := by decide +kernel
theorem d_law_1278 : decode code 1278 = .ok (.ifCond .ne 15, 3) := by decide +kernel
theorem d_law_1293 : decode code 1293 = .ok (.goto 1098, 3) := by decide +kernel
theorem d_law_1281 : decode code 1281 = .ok (.aload_n 3, 1) := by decide +kernel
theorem d_law_1282 : decode code 1282 = .ok (.iconst 0, 1) := by decide +kernel
theorem d_law_1283 : decode code 1283 = .ok (.laload, 1) := by decide +kernel
theorem d_law_1284 : decode code 1284 = .ok (.iload 6, 2) := by decide +kernel
theorem d_law_1286 : decode code 1286 = .ok (.i2l, 1) := by decide +kernel
theorem d_law_1287 : decode code 1287 = .ok (.lcmp, 1) := by decide +kernel
theorem d_law_1288 : decode code 1288 = .ok (.ifCond .eq 5, 3) := by decide +kernel
set_option maxHeartbeats 8000000 in
set_option maxRecDepth 100000 in
theorem law_k11 {p : Program} {e : Env} {s : State} {m : MethodId} {below : List Frame} {meth : Method} {c : Code} (l : Launch) (hfl : l.flags = flags0) {b L i : Nat} {xs : Nat → Int32} {D : va_G} {cc : Nat → ClassId} {md : Nat → Nat} {mc : Nat → ClassId} {o : Nat} {cL : ClassId} {sad sav : Nat → Nat} {ad : Nat → Nat → Nat} {ov : Nat → Int64} {N : Nat → Nat} {C : CS} {S : MS} {A : AS} {rd cells slots : Nat} {H : Heap} {locs : List Loc} {ls : Array Slot} (h : LwW p s m meth c b L xs D cc md mc o cL sad sav i ad ov N C S A rd H locs ls) (hi7 : i + 7 ≤ L) (hrd : rd + 60000 < 2 ^ 30) (hcb : cells ≤ 500000) (hsb : slots ≤ 6000000) (hk : ∀ (ad1 : Nat → Nat → Nat) (ov1 : Nat → Int64) (N1 : Nat → Nat) (C1 : CS) (S1 : MS) (A1 : AS) (rd1 c1 z1 : Nat) (H1 : Heap) (locs1 : List Loc) (ls1 : Array Slot), LwW p s m meth c b L xs D cc md mc o cL sad sav i ad1 ov1 N1 C1 S1 A1 rd1 H1 locs1 ls1 → A.n ≤ A1.n → A.m ≤ A1.m → rd1 ≤ rd + 50000 → c1 ≤ 2 * (A1.n - A.n) + 3 * (A1.m - A.m) + 1 → z1 ≤ 23 * (A1.n - A.n) + 40 * (A1.m - A.m) + 6 → W p l e room_1 s m #[Value.ref b] below meth c H1 locs1 (cells + c1) (slots + z1) (lw_Z below #[Value.ref b] s) (F0 m 2391 ls1 [])) : W p l e room_1 s m #[Value.ref b] below meth c H locs cells slots (lw_Z below #[Value.ref b] s) (F0 m 1204 ls []) := by
  obtain ⟨⟨hx, hb, hr, hml, hown, hts, hX, hbl, hlocks, hL⟩, ⟨hev, hE, hN, hH⟩, ⟨hP, hK, hD, hS, hl⟩, hI⟩ := h
  have hNS : tx_NS (lA s) s := fun q cell hq hc => absurd (Array.getElem?_eq_some_iff.mp hc).1 (Nat.not_lt.mpr hq)
  have hA : ∀ q : Nat, s.heap.size ≤ q → lA s q := fun _ h => h
  have hbA : ¬ lA s b := Nat.not_le.mpr hbl
  have h11 : N 11 = 1 := hI.2.1.nn.2.2.2.2.2.2.2.2.2.2.2.1
  refine lv_aload_n hx hb d_law_1204 rfl (lv_at hl 3 rfl) ?_
  refine lv_aload_n hx hb d_law_1205 rfl (lv_at hl 4 rfl) ?_
  refine lv_iload hx hb d_law_1206 (lv_at hl 0 rfl) ?_
  refine lv_iconst (v := 1) hx hb d_law_1208 (by decide) ?_
  refine lv_iadd hx hb d_law_1209 ?_
  refine w_i (y := nI (i + 1)) (nI_add i 1) ?_
  refine va_sld hx hb hX hbl hbA hS (i := nI (i + 1)) (vp_in_nI (n := i + 1) (N := L) (by omega) (by omega)) d_law_1210 ?_
  refine w_i (y := xs (i + 1)) (by rw [cl_nI (by omega)]) ?_
  refine lv_aload_n hx hb d_law_1211 rfl (lv_at hl 4 rfl) ?_
  refine lv_iload hx hb d_law_1212 (lv_at hl 0 rfl) ?_
  refine lv_iconst (v := 2) hx hb d_law_1214 (by decide) ?_
  refine lv_iadd hx hb d_law_1215 ?_
  refine w_i (y := nI (i + 2)) (nI_add i 2) ?_
  refine va_sld hx hb hX hbl hbA hS (i := nI (i + 2)) (vp_in_nI (n := i + 2) (N := L) (by omega) (by omega)) d_law_1216 ?_
  refine w_i (y := xs (i + 2)) (by rw [cl_nI (by omega)]) ?_
  refine lv_aload_n hx hb d_law_1217 rfl (lv_at hl 4 rfl) ?_
  refine lv_iload hx hb d_law_1218 (lv_at hl 0 rfl) ?_
  refine lv_iconst (v := 3) hx hb d_law_1220 (by decide) ?_
  refine lv_iadd hx hb d_law_1221 ?_
  refine w_i (y := nI (i + 3)) (nI_add i 3) ?_
  refine va_sld hx hb hX hbl hbA hS (i := nI (i + 3)) (vp_in_nI (n := i + 3) (N := L) (by omega) (by omega)) d_law_1222 ?_
  refine w_i (y := xs (i + 3)) (by rw [cl_nI (by omega)]) ?_
  refine lv_aload_n hx hb d_law_1223 rfl (lv_at hl 4 rfl) ?_
  refine lv_iload hx hb d_law_1224 (lv_at hl 0 rfl) ?_
  refine lv_iconst (v := 4) hx hb d_law_1226 (by decide) ?_
  refine lv_iadd hx hb d_law_1227 ?_
  refine w_i (y := nI (i + 4)) (nI_add i 4) ?_
  refine va_sld hx hb hX hbl hbA hS (i := nI (i + 4)) (vp_in_nI (n := i + 4) (N := L) (by omega) (by omega)) d_law_1228 ?_
  refine w_i (y := xs (i + 4)) (by rw [cl_nI (by omega)]) ?_
  refine lv_aload_n hx hb d_law_1229 rfl (lv_at hl 1 rfl) ?_
  obtain ⟨N1, C1, ov1, kk, c1, z1, S1, bb, A1, rd1, e1, e2, e3, e4, hI1, e5, e6, e7, e8, e9⟩ := st_send (ov := ov) hI hrd (xs (i + 1)) (xs (i + 2)) (xs (i + 3)) (xs (i + 4))
  have hn1 := hI1.2.2.1.1.1
  have hm1 := hI1.2.2.1.1.2.1
  have hPh := p_l hP
  have hDh := d_l hD
  have hKh := hK.sub (tys' := cty cc ++ [(cL, .long)]) [0, 1, 2, 3, 4, 5, 6, 7] rfl
  have hFc := fr_all hDh hS hA
  refine va_calli (tx_runSW (As := [.ref (ad 11 0), .int (xs (i + 1)), .int (xs (i + 2)), .int (xs (i + 3)), .int (xs (i + 4)), .ref o]) (rest := []) ⟨hx, hb, hml, hown, hts⟩ (g_h_send l hfl D H.size (ad := ad) (cc := cc) (sad := sad) (sav := sav) (cL := cL) (a := o) e1) (cw_w 6 hts kw_1071 kw_1069 kw_1070 kw_0 rfl rfl (by decide +kernel) ⟨Nat.le_of_ble_eq_true rfl, Nat.le_of_ble_eq_true rfl⟩) ⟨h_blind, fun U hU hW => h_pre hU hW hPh hKh hDh hev hE hN hH hNS hS hFc⟩ rfl rfl hl.1 rfl (lv_room (Nat.le_of_ble_eq_true rfl)) d_law_1230 ⟨by show cells + c1 ≤ 601024; omega, by show slots + z1 ≤ 7293034; omega⟩) hS (fun q _ h => hFc q h) hFc (fun rz ad1 t H1 locs ht hvm hw hB hz1 hk1 hS => ?_)
  obtain ⟨hXt, hP1, -, hD1⟩ := hB
  rw [ht] at hP1
  obtain ⟨hP, hD⟩ := join_w hP hD hk1 hFc hP1 hD1
  refine w_i (y := kk) hw ?_
  have had : ad1 11 0 = ad 11 0 := hXt.2 11 0 (by rw [h11]; decide)
  rw [← had] at hl
  generalize H1 = H at hP hS ⊢
  refine W.cs (cells' := cells + c1) (slots' := slots + z1) rfl rfl ?_
  refine lv_istore (lv' := [(5, .int kk), (4, .int (nI i)), (3, .ref o), (2, .ref (md 100)), (1, .ref (ad1 11 0)), (0, .ref b)]) hx hb d_law_1233 hl (by decide) rfl (fun ls hl => ?_)
  refine lv_aload_n hx hb d_law_1235 rfl (lv_at hl 3 rfl) ?_
  refine lv_aload_n hx hb d_law_1236 rfl (lv_at hl 5 rfl) ?_
  refine lv_iload hx hb d_law_1237 (lv_at hl 1 rfl) ?_
  refine lv_iconst (v := 1) hx hb d_law_1239 (by decide) ?_
  refine lv_iadd hx hb d_law_1240 ?_
  refine w_i (y := nI (i + 1)) (nI_add i 1) ?_
  refine va_sld hx hb hX hbl hbA hS (i := nI (i + 1)) (vp_in_nI (n := i + 1) (N := L) (by omega) (by omega)) d_law_1241 ?_
  refine w_i (y := xs (i + 1)) (by rw [cl_nI (by omega)]) ?_
  refine lv_aload_n hx hb d_law_1242 rfl (lv_at hl 5 rfl) ?_
  refine lv_iload hx hb d_law_1243 (lv_at hl 1 rfl) ?_
  refine lv_iconst (v := 2) hx hb d_law_1245 (by decide) ?_
  refine lv_iadd hx hb d_law_1246 ?_
  refine w_i (y := nI (i + 2)) (nI_add i 2) ?_
  refine va_sld hx hb hX hbl hbA hS (i := nI (i + 2)) (vp_in_nI (n := i + 2) (N := L) (by omega) (by omega)) d_law_1247 ?_
  refine w_i (y := xs (i + 2)) (by rw [cl_nI (by omega)]) ?_
  refine lv_aload_n hx hb d_law_1248 rfl (lv_at hl 5 rfl) ?_
  refine lv_iload hx hb d_law_1249 (lv_at hl 1 rfl) ?_
  refine lv_iconst (v := 3) hx hb d_law_1251 (by decide) ?_
  refine lv_iadd hx hb d_law_1252 ?_
  refine w_i (y := nI (i + 3)) (nI_add i 3) ?_
  refine va_sld hx hb hX hbl hbA hS (i := nI (i + 3)) (vp_in_nI (n := i + 3) (N := L) (by omega) (by omega)) d_law_1253 ?_
  refine w_i (y := xs (i + 3)) (by rw [cl_nI (by omega)]) ?_
  refine lv_aload_n hx hb d_law_1254 rfl (lv_at hl 5 rfl) ?_
  refine lv_iload hx hb d_law_1255 (lv_at hl 1 rfl) ?_
  refine lv_iconst (v := 4) hx hb d_law_1257 (by decide) ?_
  refine lv_iadd hx hb d_law_1258 ?_
  refine w_i (y := nI (i + 4)) (nI_add i 4) ?_
  refine va_sld hx hb hX hbl hbA hS (i := nI (i + 4)) (vp_in_nI (n := i + 4) (N := L) (by omega) (by omega)) d_law_1259 ?_
  refine w_i (y := xs (i + 4)) (by rw [cl_nI (by omega)]) ?_
  have hPc := p_r hP
  have hDc := d_r hD
  have hKc := hK.sub (tys' := mty mc) [8, 9, 10, 11, 12] rfl
  have hFc := fr_all hDc hS hA
  refine va_calli (va_runV (As := [.int (xs (i + 1)), .int (xs (i + 2)), .int (xs (i + 3)), .int (xs (i + 4))]) (rest := []) ⟨hx, hb, hml, hown, hts⟩ (g_rsend l D H.size (md := md) (mc := mc) e2) (cw_v 4 hts kw_1831 kw_1828 kw_1829 kw_1830 kw_11 rfl rfl (by decide +kernel) ⟨Nat.le_of_ble_eq_true rfl, Nat.le_of_ble_eq_true rfl⟩) ⟨g_blind, va_recv hKc hPc (ci := 12) (q0 := 0) rfl rfl, fun U hU hW => g_pre hU hW hPc hKc hDc⟩ rfl rfl hl.1 rfl (lv_room (Nat.le_of_ble_eq_true rfl)) d_law_1260 ⟨by show cells + c1 + 0 ≤ 601024; omega, by show slots + z1 + 0 ≤ 7293034; omega⟩) hS (fun q _ h => hFc q h) hFc (fun rb u t H1 locs ht hvm hw hB hz1 hk1 hS => ?_)
  obtain ⟨hP1, -, hD1⟩ := hB
  rw [ht] at hP1
  obtain ⟨hP, hD⟩ := join_r hP hD hk1 hFc hP1 hD1
  refine w_i (y := bb) hw ?_
  generalize H1 = H at hP hS ⊢
  refine W.cs (cells' := cells + c1) (slots' := slots + z1) rfl rfl ?_
  refine lv_istore (lv' := [(6, .int bb), (5, .int kk), (4, .int (nI i)), (3, .ref o), (2, .ref (md 100)), (1, .ref (ad1 11 0)), (0, .ref b)]) hx hb d_law_1263 hl (by decide) rfl (fun ls hl => ?_)
  refine lv_aload_n hx hb d_law_1265 rfl (lv_at hl 4 rfl) ?_
  have hPc := p_r hP
  have hDc := d_r hD
  have hKc := hK.sub (tys' := mty mc) [8, 9, 10, 11, 12] rfl
  have hFc := fr_all hDc hS hA
  refine va_calli (va_runV (As := []) (rest := []) ⟨hx, hb, hml, hown, hts⟩ (g_rthrown l D H.size (md := md) (mc := mc) (show m_rthrown S1 = some (S1, S1.i 0) from rfl)) (cw_v 0 hts kw_1618 kw_1615 kw_1616 kw_1617 kw_11 rfl rfl (by decide +kernel) ⟨Nat.le_of_ble_eq_true rfl, Nat.le_of_ble_eq_true rfl⟩) ⟨g_blind, va_recv hKc hPc (ci := 12) (q0 := 0) rfl rfl, fun U hU hW => g_pre hU hW hPc hKc hDc⟩ rfl rfl hl.1 rfl (lv_room (Nat.le_of_ble_eq_true rfl)) d_law_1266 ⟨by show cells + c1 + 0 ≤ 601024; omega, by show slots + z1 + 0 ≤ 7293034; omega⟩) hS (fun q _ h => hFc q h) hFc (fun rt u t H1 locs ht hvm hw hB hz1 hk1 hS => ?_)
  obtain ⟨hP1, -, hD1⟩ := hB
  rw [ht] at hP1
  obtain ⟨hP, hD⟩ := join_r hP hD hk1 hFc hP1 hD1
  refine w_i (y := kk) (hw.trans e3) ?_
  generalize H1 = H at hP hS ⊢
  refine W.cs (cells' := cells + c1) (slots' := slots + z1) rfl rfl ?_
  refine lv_iload hx hb d_law_1269 (lv_at hl 1 rfl) ?_
  refine lv_icmp_eq (tgt := 1276) hx hb d_law_1271 (by decide) (fun _ => ?_) (fun h => absurd rfl h)
  refine lv_iload hx hb d_law_1276 (lv_at hl 1 rfl) ?_
  refine lv_if_ne (tgt := 1293) hx hb d_law_1278 (by decide) (fun ck => ?_) (fun ck => ?_)
  · refine lv_goto (tgt := 2391) hx hb d_law_1293 (by decide) ?_
    exact hk ad1 ov1 N1 C1 S1 A1 rd1 c1 z1 H _ ls ⟨⟨hx, hb, hr, hml, hown, hts, hX, hbl, hlocks, hL⟩, ⟨hev, hE, hN, hH⟩, ⟨hP, hK, hD, hS, lv_sub hl [2, 3, 4, 5, 6] rfl⟩, hI1⟩ e5 e6 e7 e8 e9
  · refine lv_aload_n hx hb d_law_1281 rfl (lv_at hl 3 rfl) ?_
    refine lv_iconst (v := 0) hx hb d_law_1282 (by decide) ?_
    refine va_lald hx hb hK hP (cw ad1 cc N1 C1).length 7 at_mid rfl (i := 0) (vp_in_nI (n := 0) (N := 1) (by decide) (by decide)) d_law_1283 ?_
    refine w_l (y := ov1 0) rfl ?_
    refine lv_iload hx hb d_law_1284 (lv_at hl 0 rfl) ?_
    refine lv_i2l hx hb d_law_1286 rfl ?_
    refine w_l (y := ov1 0) (e4 ck).symm ?_
    refine W.lcmp hx hb d_law_1287 ?_
    refine w_i (y := 0) (by simp [lg_cmp]) ?_
    refine lv_if_eq (tgt := 1293) hx hb d_law_1288 (by decide) (fun _ => ?_) (fun h => absurd rfl h)
    refine lv_goto (tgt := 2391) hx hb d_law_1293 (by decide) ?_
    exact hk ad1 ov1 N1 C1 S1 A1 rd1 c1 z1 H _ ls ⟨⟨hx, hb, hr, hml, hown, hts, hX, hbl, hlocks, hL⟩, ⟨hev, hE, hN, hH⟩, ⟨hP, hK, hD, hS, lv_sub hl [2, 3, 4, 5, 6] rfl⟩, hI1⟩ e5 e6 e7 e8 e9
