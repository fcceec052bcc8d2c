theorem d_law_1959 : decode code 1959 = .ok (.aload_n 1, 1) := by decide +kernel
theorem d_law_1960 : decode code 1960 = .ok (.aload_n 0, 1) := by decide +kernel
theorem d_law_1961 : decode code 1961 = .ok (.iload 4, 2) := by decide +kernel
theorem d_law_1963 : decode code 1963 = .ok (.iconst 1, 1) := by decide +kernel
theorem d_law_1964 : decode code 1964 = .ok (.iadd, 1) := by decide +kernel
theorem d_law_1965 : decode code 1965 = .ok (.iaload, 1) := by decide +kernel
theorem d_law_1966 : decode code 1966 = .ok (.aload_n 3, 1) := by decide +kernel
theorem d_law_1967 : decode code 1967 = .ok (.invokestatic 189, 3) := by decide +kernel
theorem d_law_1970 : decode code 1970 = .ok (.istore 5, 2) := by decide +kernel
theorem d_law_1972 : decode code 1972 = .ok (.aload_n 2, 1) := by decide +kernel
theorem d_law_1973 : decode code 1973 = .ok (.aload_n 0, 1) := by decide +kernel
theorem d_law_1974 : decode code 1974 = .ok (.iload 4, 2) := by decide +kernel
theorem d_law_1976 : decode code 1976 = .ok (.iconst 1, 1) := by decide +kernel
theorem d_law_1977 : decode code 1977 = .ok (.iadd, 1) := by decide +kernel
theorem d_law_1978 : decode code 1978 = .ok (.iaload, 1) := by decide +kernel
theorem d_law_1979 : decode code 1979 = .ok (.invokevirtual 191, 3) := by decide +kernel
theorem d_law_1982 : decode code 1982 = .ok (.istore 6, 2) := by decide +kernel
theorem d_law_1984 : decode code 1984 = .ok (.aload_n 2, 1) := by decide +kernel
theorem d_law_1985 : decode code 1985 = .ok (.invokevirtual 120, 3) := by decide +kernel
theorem d_law_1988 : decode code 1988 = .ok (.iload 5, 2) := by decide +kernel
theorem d_law_1990 : decode code 1990 = .ok (.if_icmp .eq 5, 3) := by decide +kernel
theorem d_law_1995 : decode code 1995 = .ok (.iload 5, 2) := by decide +kernel
theorem d_law_1997 : decode code 1997 = .ok (.ifCond .ne 15, 3) := by decide +kernel
theorem d_law_2012 : decode code 2012 = .ok (.goto 379, 3) := by decide +kernel
theorem d_law_2000 : decode code 2000 = .ok (.aload_n 3, 1) := by decide +kernel
theorem d_law_2001 : decode code 2001 = .ok (.iconst 0, 1) := by decide +kernel
theorem d_law_2002 : decode code 2002 = .ok (.laload, 1) := by decide +kernel
theorem d_law_2003 : decode code 2003 = .ok (.iload 6, 2) := by decide +kernel
theorem d_law_2005 : decode code 2005 = .ok (.i2l, 1) := by decide +kernel
theorem d_law_2006 : decode code 2006 = .ok (.lcmp, 1) := by decide +kernel
theorem d_law_2007 : decode code 2007 = .ok (.ifCond .eq 5, 3) := by decide +kernel
set_option maxHeartbeats 8000000 in
set_option maxRecDepth 100000 in
theorem law_k20 {p : Program} {e : Env} {s : State} {m : MethodId} {below : List Frame} {meth : Method} {c : Code} (l : Launch) (hfl : l.flags = flags0) {b L i : Nat} {xs : Nat → Int32} {D : va_G} {cc : Nat → ClassId} {md : Nat → Nat} {mc : Nat → ClassId} {o : Nat} {cL : ClassId} {sad sav : Nat → Nat} {ad : Nat → Nat → Nat} {ov : Nat → Int64} {N : Nat → Nat} {C : CS} {S : MS} {A : AS} {rd cells slots : Nat} {H : Heap} {locs : List Loc} {ls : Array Slot} (h : LwW p s m meth c b L xs D cc md mc o cL sad sav i ad ov N C S A rd H locs ls) (hi7 : i + 7 ≤ L) (hrd : rd + 60000 < 2 ^ 30) (hcb : cells ≤ 500000) (hsb : slots ≤ 6000000) (hk : ∀ (ad1 : Nat → Nat → Nat) (ov1 : Nat → Int64) (N1 : Nat → Nat) (C1 : CS) (S1 : MS) (A1 : AS) (rd1 c1 z1 : Nat) (H1 : Heap) (locs1 : List Loc) (ls1 : Array Slot), LwW p s m meth c b L xs D cc md mc o cL sad sav i ad1 ov1 N1 C1 S1 A1 rd1 H1 locs1 ls1 → A.n ≤ A1.n → A.m ≤ A1.m → rd1 ≤ rd + 50000 → c1 ≤ 2 * (A1.n - A.n) + 3 * (A1.m - A.m) + 1 → z1 ≤ 23 * (A1.n - A.n) + 40 * (A1.m - A.m) + 6 → W p l e room_1 s m #[Value.ref b] below meth c H1 locs1 (cells + c1) (slots + z1) (lw_Z below #[Value.ref b] s) (F0 m 2391 ls1 [])) : W p l e room_1 s m #[Value.ref b] below meth c H locs cells slots (lw_Z below #[Value.ref b] s) (F0 m 1959 ls []) := by
  obtain ⟨⟨hx, hb, hr, hml, hown, hts, hX, hbl, hlocks, hL⟩, ⟨hev, hE, hN, hH⟩, ⟨hP, hK, hD, hS, hl⟩, hI⟩ := h
  have hNS : tx_NS (lA s) s := fun q cell hq hc => absurd (Array.getElem?_eq_some_iff.mp hc).1 (Nat.not_lt.mpr hq)
  have hA : ∀ q : Nat, s.heap.size ≤ q → lA s q := fun _ h => h
  have hbA : ¬ lA s b := Nat.not_le.mpr hbl
  have h11 : N 11 = 1 := hI.2.1.nn.2.2.2.2.2.2.2.2.2.2.2.1
  refine lv_aload_n hx hb d_law_1959 rfl (lv_at hl 3 rfl) ?_
  refine lv_aload_n hx hb d_law_1960 rfl (lv_at hl 4 rfl) ?_
  refine lv_iload hx hb d_law_1961 (lv_at hl 0 rfl) ?_
  refine lv_iconst (v := 1) hx hb d_law_1963 (by decide) ?_
  refine lv_iadd hx hb d_law_1964 ?_
  refine w_i (y := nI (i + 1)) (nI_add i 1) ?_
  refine va_sld hx hb hX hbl hbA hS (i := nI (i + 1)) (vp_in_nI (n := i + 1) (N := L) (by omega) (by omega)) d_law_1965 ?_
  refine w_i (y := xs (i + 1)) (by rw [cl_nI (by omega)]) ?_
  refine lv_aload_n hx hb d_law_1966 rfl (lv_at hl 1 rfl) ?_
  obtain ⟨N1, C1, ov1, kk, c1, z1, S1, bb, A1, rd1, e1, e2, e3, e4, hI1, e5, e6, e7, e8, e9⟩ := st_find (ov := ov) hI hrd (xs (i + 1))
  have hn1 := hI1.2.2.1.1.1
  have hm1 := hI1.2.2.1.1.2.1
  have hPh := p_l hP
  have hDh := d_l hD
  have hKh := hK.sub (tys' := cty cc ++ [(cL, .long)]) [0, 1, 2, 3, 4, 5, 6, 7] rfl
  have hFc := fr_all hDh hS hA
  refine va_calli (tx_runSW (As := [.ref (ad 11 0), .int (xs (i + 1)), .ref o]) (rest := []) ⟨hx, hb, hml, hown, hts⟩ (g_h_find l hfl D H.size (ad := ad) (cc := cc) (sad := sad) (sav := sav) (cL := cL) (a := o) e1) (cw_w 3 hts kw_1176 kw_1174 kw_1175 kw_0 rfl rfl (by decide +kernel) ⟨Nat.le_of_ble_eq_true rfl, Nat.le_of_ble_eq_true rfl⟩) ⟨h_blind, fun U hU hW => h_pre hU hW hPh hKh hDh hev hE hN hH hNS hS hFc⟩ rfl rfl hl.1 rfl (lv_room (Nat.le_of_ble_eq_true rfl)) d_law_1967 ⟨by show cells + c1 ≤ 601024; omega, by show slots + z1 ≤ 7293034; omega⟩) hS (fun q _ h => hFc q h) hFc (fun rz ad1 t H1 locs ht hvm hw hB hz1 hk1 hS => ?_)
  obtain ⟨hXt, hP1, -, hD1⟩ := hB
  rw [ht] at hP1
  obtain ⟨hP, hD⟩ := join_w hP hD hk1 hFc hP1 hD1
  refine w_i (y := kk) hw ?_
  have had : ad1 11 0 = ad 11 0 := hXt.2 11 0 (by rw [h11]; decide)
  rw [← had] at hl
  generalize H1 = H at hP hS ⊢
  refine W.cs (cells' := cells + c1) (slots' := slots + z1) rfl rfl ?_
  refine lv_istore (lv' := [(5, .int kk), (4, .int (nI i)), (3, .ref o), (2, .ref (md 100)), (1, .ref (ad1 11 0)), (0, .ref b)]) hx hb d_law_1970 hl (by decide) rfl (fun ls hl => ?_)
  refine lv_aload_n hx hb d_law_1972 rfl (lv_at hl 3 rfl) ?_
  refine lv_aload_n hx hb d_law_1973 rfl (lv_at hl 5 rfl) ?_
  refine lv_iload hx hb d_law_1974 (lv_at hl 1 rfl) ?_
  refine lv_iconst (v := 1) hx hb d_law_1976 (by decide) ?_
  refine lv_iadd hx hb d_law_1977 ?_
  refine w_i (y := nI (i + 1)) (nI_add i 1) ?_
  refine va_sld hx hb hX hbl hbA hS (i := nI (i + 1)) (vp_in_nI (n := i + 1) (N := L) (by omega) (by omega)) d_law_1978 ?_
  refine w_i (y := xs (i + 1)) (by rw [cl_nI (by omega)]) ?_
  have hPc := p_r hP
  have hDc := d_r hD
  have hKc := hK.sub (tys' := mty mc) [8, 9, 10, 11, 12] rfl
  have hFc := fr_all hDc hS hA
  refine va_calli (va_runV (As := [.int (xs (i + 1))]) (rest := []) ⟨hx, hb, hml, hown, hts⟩ (g_rfind2 l D H.size (md := md) (mc := mc) e2) (cw_v 1 hts kw_1899 kw_1896 kw_1897 kw_1898 kw_11 rfl rfl (by decide +kernel) ⟨Nat.le_of_ble_eq_true rfl, Nat.le_of_ble_eq_true rfl⟩) ⟨g_blind, va_recv hKc hPc (ci := 12) (q0 := 0) rfl rfl, fun U hU hW => g_pre hU hW hPc hKc hDc⟩ rfl rfl hl.1 rfl (lv_room (Nat.le_of_ble_eq_true rfl)) d_law_1979 ⟨by show cells + c1 + 0 ≤ 601024; omega, by show slots + z1 + 0 ≤ 7293034; omega⟩) hS (fun q _ h => hFc q h) hFc (fun rb u t H1 locs ht hvm hw hB hz1 hk1 hS => ?_)
  obtain ⟨hP1, -, hD1⟩ := hB
  rw [ht] at hP1
  obtain ⟨hP, hD⟩ := join_r hP hD hk1 hFc hP1 hD1
  refine w_i (y := bb) hw ?_
  generalize H1 = H at hP hS ⊢
  refine W.cs (cells' := cells + c1) (slots' := slots + z1) rfl rfl ?_
  refine lv_istore (lv' := [(6, .int bb), (5, .int kk), (4, .int (nI i)), (3, .ref o), (2, .ref (md 100)), (1, .ref (ad1 11 0)), (0, .ref b)]) hx hb d_law_1982 hl (by decide) rfl (fun ls hl => ?_)
  refine lv_aload_n hx hb d_law_1984 rfl (lv_at hl 4 rfl) ?_
  have hPc := p_r hP
  have hDc := d_r hD
  have hKc := hK.sub (tys' := mty mc) [8, 9, 10, 11, 12] rfl
  have hFc := fr_all hDc hS hA
  refine va_calli (va_runV (As := []) (rest := []) ⟨hx, hb, hml, hown, hts⟩ (g_rthrown l D H.size (md := md) (mc := mc) (show m_rthrown S1 = some (S1, S1.i 0) from rfl)) (cw_v 0 hts kw_1618 kw_1615 kw_1616 kw_1617 kw_11 rfl rfl (by decide +kernel) ⟨Nat.le_of_ble_eq_true rfl, Nat.le_of_ble_eq_true rfl⟩) ⟨g_blind, va_recv hKc hPc (ci := 12) (q0 := 0) rfl rfl, fun U hU hW => g_pre hU hW hPc hKc hDc⟩ rfl rfl hl.1 rfl (lv_room (Nat.le_of_ble_eq_true rfl)) d_law_1985 ⟨by show cells + c1 + 0 ≤ 601024; omega, by show slots + z1 + 0 ≤ 7293034; omega⟩) hS (fun q _ h => hFc q h) hFc (fun rt u t H1 locs ht hvm hw hB hz1 hk1 hS => ?_)
  obtain ⟨hP1, -, hD1⟩ := hB
  rw [ht] at hP1
  obtain ⟨hP, hD⟩ := join_r hP hD hk1 hFc hP1 hD1
  refine w_i (y := kk) (hw.trans e3) ?_
  generalize H1 = H at hP hS ⊢
  refine W.cs (cells' := cells + c1) (slots' := slots + z1) rfl rfl ?_
  refine lv_iload hx hb d_law_1988 (lv_at hl 1 rfl) ?_
  refine lv_icmp_eq (tgt := 1995) hx hb d_law_1990 (by decide) (fun _ => ?_) (fun h => absurd rfl h)
  refine lv_iload hx hb d_law_1995 (lv_at hl 1 rfl) ?_
  refine lv_if_ne (tgt := 2012) hx hb d_law_1997 (by decide) (fun ck => ?_) (fun ck => ?_)
  · refine lv_goto (tgt := 2391) hx hb d_law_2012 (by decide) ?_
    exact hk ad1 ov1 N1 C1 S1 A1 rd1 c1 z1 H _ ls ⟨⟨hx, hb, hr, hml, hown, hts, hX, hbl, hlocks, hL⟩, ⟨hev, hE, hN, hH⟩, ⟨hP, hK, hD, hS, lv_sub hl [2, 3, 4, 5, 6] rfl⟩, hI1⟩ e5 e6 e7 e8 e9
  · refine lv_aload_n hx hb d_law_2000 rfl (lv_at hl 3 rfl) ?_
    refine lv_iconst (v := 0) hx hb d_law_2001 (by decide) ?_
    refine va_lald hx hb hK hP (cw ad1 cc N1 C1).length 7 at_mid rfl (i := 0) (vp_in_nI (n := 0) (N := 1) (by decide) (by decide)) d_law_2002 ?_
    refine w_l (y := ov1 0) rfl ?_
    refine lv_iload hx hb d_law_2003 (lv_at hl 0 rfl) ?_
    refine lv_i2l hx hb d_law_2005 rfl ?_
    refine w_l (y := ov1 0) (e4 ck).symm ?_
    refine W.lcmp hx hb d_law_2006 ?_
    refine w_i (y := 0) (by simp [lg_cmp]) ?_
    refine lv_if_eq (tgt := 2012) hx hb d_law_2007 (by decide) (fun _ => ?_) (fun h => absurd rfl h)
    refine lv_goto (tgt := 2391) hx hb d_law_2012 (by decide) ?_
    exact hk ad1 ov1 N1 C1 S1 A1 rd1 c1 z1 H _ ls ⟨⟨hx, hb, hr, hml, hown, hts, hX, hbl, hlocks, hL⟩, ⟨hev, hE, hN, hH⟩, ⟨hP, hK, hD, hS, lv_sub hl [2, 3, 4, 5, 6] rfl⟩, hI1⟩ e5 e6 e7 e8 e9
theorem d_law_2015 : decode code 2015 = .ok (.aload_n 1, 1) := by decide +kernel
theorem d_law_2016 : decode code 2016 = .ok (.aload_n 0, 1) := by decide +kernel
theorem d_law_2017 : decode code 2017 = .ok (.iload 4, 2) := by decide +kernel
theorem d_law_2019 : decode code 2019 = .ok (.iconst 1, 1) := by decide +kernel
theorem d_law_2020 : decode code 2020 = .ok (.iadd, 1) := by decide +kernel
theorem d_law_2021 : decode code 2021 = .ok (.iaload, 1) := by decide +kernel
theorem d_law_2022 : decode code 2022 = .ok (.aload_n 0, 1) := by decide +kernel
theorem d_law_2023 : decode code 2023 = .ok (.iload 4, 2) := by decide +kernel
theorem d_law_2025 : decode code 2025 = .ok (.iconst 2, 1) := by decide +kernel
theorem d_law_2026 : decode code 2026 = .ok (.iadd, 1) := by decide +kernel
theorem d_law_2027 : decode code 2027 = .ok (.iaload, 1) := by decide +kernel
theorem d_law_2028 : decode code 2028 = .ok (.aload_n 3, 1) := by decide +kernel
theorem d_law_2029 : decode code 2029 = .ok (.invokestatic 192, 3) := by decide +kernel
theorem d_law_2032 : decode code 2032 = .ok (.istore 5, 2) := by decide +kernel
theorem d_law_2034 : decode code 2034 = .ok (.aload_n 2, 1) := by decide +kernel
theorem d_law_2035 : decode code 2035 = .ok (.aload_n 0, 1) := by decide +kernel
theorem d_law_2036 : decode code 2036 = .ok (.iload 4, 2) := by decide +kernel
theorem d_law_2038 : decode code 2038 = .ok (.iconst 1, 1) := by decide +kernel
theorem d_law_2039 : decode code 2039 = .ok (.iadd, 1) := by decide +kernel
theorem d_law_2040 : decode code 2040 = .ok (.iaload, 1) := by decide +kernel
theorem d_law_2041 : decode code 2041 = .ok (.aload_n 0, 1) := by decide +kernel
theorem d_law_2042 : decode code 2042 = .ok (.iload 4, 2) := by decide +kernel
theorem d_law_2044 : decode code 2044 = .ok (.iconst 2, 1) := by decide +kernel
theorem d_law_2045 : decode code 2045 = .ok (.iadd, 1) := by decide +kernel
theorem d_law_2046 : decode code 2046 = .ok (.iaload, 1) := by decide +kernel
theorem d_law_2047 : decode code 2047 = .ok (.invokevirtual 194, 3) := by decide +kernel
theorem d_law_2050 : decode code 2050 = .ok (.istore 6, 2) := by decide +kernel
theorem d_law_2052 : decode code 2052 = .ok (.aload_n 2, 1) := by decide +kernel
theorem d_law_2053 : decode code 2053 = .ok (.invokevirtual 120, 3) := by decide +kernel
theorem d_law_2056 : decode code 2056 = .ok (.iload 5, 2) := by decide +kernel
theorem d_law_2058 : decode code 2058 = .ok (.if_icmp .eq 5, 3) := by decide +kernel
theorem d_law_2063 : decode code 2063 = .ok (.iload 5, 2) := by decide +kernel
theorem d_law_2065 : decode code 2065 = .ok (.ifCond .ne 15, 3) := by decide +kernel
theorem d_law_2080 : decode code 2080 = .ok (.goto 311, 3) := by decide +kernel
theorem d_law_2068 : decode code 2068 = .ok (.aload_n 3, 1) := by decide +kernel
theorem d_law_2069 : decode code 2069 = .ok (.iconst 0, 1) := by decide +kernel
theorem d_law_2070 : decode code 2070 = .ok (.laload, 1) := by decide +kernel
theorem d_law_2071 : decode code 2071 = .ok (.iload 6, 2) := by decide +kernel
theorem d_law_2073 : decode code 2073 = .ok (.i2l, 1) := by decide +kernel
theorem d_law_2074 : decode code 2074 = .ok (.lcmp, 1) := by decide +kernel
theorem d_law_2075 : decode code 2075 = .ok (.ifCond .eq 5, 3) := by decide +kernel
set_option maxHeartbeats 8000000 in
set_option maxRecDepth 100000 in
theorem law_k21 {p : Program} {e : Env} {s : State} {m : MethodId} {below : List Frame} {meth : Method} {c : Code} (l : Launch) (hfl : l.flags = flags0) {b L i : Nat} {xs : Nat → Int32} {D : va_G} {cc : Nat → ClassId} {md : Nat → Nat} {mc : Nat → ClassId} {o : Nat} {cL : ClassId} {sad sav : Nat → Nat} {ad : Nat → Nat → Nat} {ov : Nat → Int64} {N : Nat → Nat} {C : CS} {S : MS} {A : AS} {rd cells slots : Nat} {H : Heap} {locs : List Loc} {ls : Array Slot} (h : LwW p s m meth c b L xs D cc md mc o cL sad sav i ad ov N C S A rd H locs ls) (hi7 : i + 7 ≤ L) (hrd : rd + 60000 < 2 ^ 30) (hcb : cells ≤ 500000) (hsb : slots ≤ 6000000) (hk : ∀ (ad1 : Nat → Nat → Nat) (ov1 : Nat → Int64) (N1 : Nat → Nat) (C1 : CS) (S1 : MS) (A1 : AS) (rd1 c1 z1 : Nat) (H1 : Heap) (locs1 : List Loc) (ls1 : Array Slot), LwW p s m meth c b L xs D cc md mc o cL sad sav i ad1 ov1 N1 C1 S1 A1 rd1 H1 locs1 ls1 → A.n ≤ A1.n → A.m ≤ A1.m → rd1 ≤ rd + 50000 → c1 ≤ 2 * (A1.n - A.n) + 3 * (A1.m - A.m) + 1 → z1 ≤ 23 * (A1.n - A.n) + 40 * (A1.m - A.m) + 6 → W p l e room_1 s m #[Value.ref b] below meth c H1 locs1 (cells + c1) (slots + z1) (lw_Z below #[Value.ref b] s) (F0 m 2391 ls1 [])) : W p l e room_1 s m #[Value.ref b] below meth c H locs cells slots (lw_Z below #[Value.ref b] s) (F0 m 2015 ls []) := by
  obtain ⟨⟨hx, hb, hr, hml, hown, hts, hX, hbl, hlocks, hL⟩, ⟨hev, hE, hN, hH⟩, ⟨hP, hK, hD, hS, hl⟩, hI⟩ := h
  have hNS : tx_NS (lA s) s := fun q cell hq hc => absurd (Array.getElem?_eq_some_iff.mp hc).1 (Nat.not_lt.mpr hq)
  have hA : ∀ q : Nat, s.heap.size ≤ q → lA s q := fun _ h => h
  have hbA : ¬ lA s b := Nat.not_le.mpr hbl
  have h11 : N 11 = 1 := hI.2.1.nn.2.2.2.2.2.2.2.2.2.2.2.1
  refine lv_aload_n hx hb d_law_2015 rfl (lv_at hl 3 rfl) ?_
  refine lv_aload_n hx hb d_law_2016 rfl (lv_at hl 4 rfl) ?_
  refine lv_iload hx hb d_law_2017 (lv_at hl 0 rfl) ?_
  refine lv_iconst (v := 1) hx hb d_law_2019 (by decide) ?_
  refine lv_iadd hx hb d_law_2020 ?_
  refine w_i (y := nI (i + 1)) (nI_add i 1) ?_
  refine va_sld hx hb hX hbl hbA hS (i := nI (i + 1)) (vp_in_nI (n := i + 1) (N := L) (by omega) (by omega)) d_law_2021 ?_
  refine w_i (y := xs (i + 1)) (by rw [cl_nI (by omega)]) ?_
  refine lv_aload_n hx hb d_law_2022 rfl (lv_at hl 4 rfl) ?_
  refine lv_iload hx hb d_law_2023 (lv_at hl 0 rfl) ?_
  refine lv_iconst (v := 2) hx hb d_law_2025 (by decide) ?_
  refine lv_iadd hx hb d_law_2026 ?_
  refine w_i (y := nI (i + 2)) (nI_add i 2) ?_
  refine va_sld hx hb hX hbl hbA hS (i := nI (i + 2)) (vp_in_nI (n := i + 2) (N := L) (by omega) (by omega)) d_law_2027 ?_
  refine w_i (y := xs (i + 2)) (by rw [cl_nI (by omega)]) ?_
  refine lv_aload_n hx hb d_law_2028 rfl (lv_at hl 1 rfl) ?_
  obtain ⟨N1, C1, ov1, kk, c1, z1, S1, bb, A1, rd1, e1, e2, e3, e4, hI1, e5, e6, e7, e8, e9⟩ := st_text (ov := ov) hI hrd (xs (i + 1)) (xs (i + 2))
  have hn1 := hI1.2.2.1.1.1
  have hm1 := hI1.2.2.1.1.2.1
  have hPh := p_l hP
  have hDh := d_l hD
  have hKh := hK.sub (tys' := cty cc ++ [(cL, .long)]) [0, 1, 2, 3, 4, 5, 6, 7] rfl
  have hFc := fr_all hDh hS hA
  refine va_calli (tx_runSW (As := [.ref (ad 11 0), .int (xs (i + 1)), .int (xs (i + 2)), .ref o]) (rest := []) ⟨hx, hb, hml, hown, hts⟩ (g_h_text l hfl D H.size (ad := ad) (cc := cc) (sad := sad) (sav := sav) (cL := cL) (a := o) e1) (cw_w 4 hts kw_1211 kw_1209 kw_1210 kw_0 rfl rfl (by decide +kernel) ⟨Nat.le_of_ble_eq_true rfl, Nat.le_of_ble_eq_true rfl⟩) ⟨h_blind, fun U hU hW => h_pre hU hW hPh hKh hDh hev hE hN hH hNS hS hFc⟩ rfl rfl hl.1 rfl (lv_room (Nat.le_of_ble_eq_true rfl)) d_law_2029 ⟨by show cells + c1 ≤ 601024; omega, by show slots + z1 ≤ 7293034; omega⟩) hS (fun q _ h => hFc q h) hFc (fun rz ad1 t H1 locs ht hvm hw hB hz1 hk1 hS => ?_)
  obtain ⟨hXt, hP1, -, hD1⟩ := hB
  rw [ht] at hP1
  obtain ⟨hP, hD⟩ := join_w hP hD hk1 hFc hP1 hD1
  refine w_i (y := kk) hw ?_
  have had : ad1 11 0 = ad 11 0 := hXt.2 11 0 (by rw [h11]; decide)
  rw [← had] at hl
  generalize H1 = H at hP hS ⊢
  refine W.cs (cells' := cells + c1) (slots' := slots + z1) rfl rfl ?_
  refine lv_istore (lv' := [(5, .int kk), (4, .int (nI i)), (3, .ref o), (2, .ref (md 100)), (1, .ref (ad1 11 0)), (0, .ref b)]) hx hb d_law_2032 hl (by decide) rfl (fun ls hl => ?_)
  refine lv_aload_n hx hb d_law_2034 rfl (lv_at hl 3 rfl) ?_
  refine lv_aload_n hx hb d_law_2035 rfl (lv_at hl 5 rfl) ?_
  refine lv_iload hx hb d_law_2036 (lv_at hl 1 rfl) ?_
  refine lv_iconst (v := 1) hx hb d_law_2038 (by decide) ?_
  refine lv_iadd hx hb d_law_2039 ?_
  refine w_i (y := nI (i + 1)) (nI_add i 1) ?_
  refine va_sld hx hb hX hbl hbA hS (i := nI (i + 1)) (vp_in_nI (n := i + 1) (N := L) (by omega) (by omega)) d_law_2040 ?_
  refine w_i (y := xs (i + 1)) (by rw [cl_nI (by omega)]) ?_
  refine lv_aload_n hx hb d_law_2041 rfl (lv_at hl 5 rfl) ?_
  refine lv_iload hx hb d_law_2042 (lv_at hl 1 rfl) ?_
  refine lv_iconst (v := 2) hx hb d_law_2044 (by decide) ?_
  refine lv_iadd hx hb d_law_2045 ?_
  refine w_i (y := nI (i + 2)) (nI_add i 2) ?_
  refine va_sld hx hb hX hbl hbA hS (i := nI (i + 2)) (vp_in_nI (n := i + 2) (N := L) (by omega) (by omega)) d_law_2046 ?_
  refine w_i (y := xs (i + 2)) (by rw [cl_nI (by omega)]) ?_
  have hPc := p_r hP
  have hDc := d_r hD
  have hKc := hK.sub (tys' := mty mc) [8, 9, 10, 11, 12] rfl
  have hFc := fr_all hDc hS hA
  refine va_calli (va_runV (As := [.int (xs (i + 1)), .int (xs (i + 2))]) (rest := []) ⟨hx, hb, hml, hown, hts⟩ (g_rtext l D H.size (sad := sad) (sav := sav) (md := md) (mc := mc) e2) (cw_v 2 hts kw_1910 kw_1907 kw_1908 kw_1909 kw_11 rfl rfl (by decide +kernel) ⟨Nat.le_of_ble_eq_true rfl, Nat.le_of_ble_eq_true rfl⟩) ⟨gs_blind, va_recv hKc hPc (ci := 12) (q0 := 0) rfl rfl, fun U hU hW => gs_pre hU hW hPc hKc hDc hE hS hFc⟩ rfl rfl hl.1 rfl (lv_room (Nat.le_of_ble_eq_true rfl)) d_law_2047 ⟨by show cells + c1 + 0 ≤ 601024; omega, by show slots + z1 + 0 ≤ 7293034; omega⟩) hS (fun q _ h => hFc q h) hFc (fun rb u t H1 locs ht hvm hw hB hz1 hk1 hS => ?_)
  obtain ⟨hP1, -, hD1⟩ := hB
  rw [ht] at hP1
  obtain ⟨hP, hD⟩ := join_r hP hD hk1 hFc hP1 hD1
  refine w_i (y := bb) hw ?_
  generalize H1 = H at hP hS ⊢
  refine W.cs (cells' := cells + c1) (slots' := slots + z1) rfl rfl ?_
  refine lv_istore (lv' := [(6, .int bb), (5, .int kk), (4, .int (nI i)), (3, .ref o), (2, .ref (md 100)), (1, .ref (ad1 11 0)), (0, .ref b)]) hx hb d_law_2050 hl (by decide) rfl (fun ls hl => ?_)
  refine lv_aload_n hx hb d_law_2052 rfl (lv_at hl 4 rfl) ?_
  have hPc := p_r hP
  have hDc := d_r hD
  have hKc := hK.sub (tys' := mty mc) [8, 9, 10, 11, 12] rfl
  have hFc := fr_all hDc hS hA
  refine va_calli (va_runV (As := []) (rest := []) ⟨hx, hb, hml, hown, hts⟩ (g_rthrown l D H.size (md := md) (mc := mc) (show m_rthrown S1 = some (S1, S1.i 0) from rfl)) (cw_v 0 hts kw_1618 kw_1615 kw_1616 kw_1617 kw_11 rfl rfl (by decide +kernel) ⟨Nat.le_of_ble_eq_true rfl, Nat.le_of_ble_eq_true rfl⟩) ⟨g_blind, va_recv hKc hPc (ci := 12) (q0 := 0) rfl rfl, fun U hU hW => g_pre hU hW hPc hKc hDc⟩ rfl rfl hl.1 rfl (lv_room (Nat.le_of_ble_eq_true rfl)) d_law_2053 ⟨by show cells + c1 + 0 ≤ 601024; omega, by show slots + z1 + 0 ≤ 7293034; omega⟩) hS (fun q _ h => hFc q h) hFc (fun rt u t H1 locs ht hvm hw hB hz1 hk1 hS => ?_)
  obtain ⟨hP1, -, hD1⟩ := hB
  rw [ht] at hP1
  obtain ⟨hP, hD⟩ := join_r hP hD hk1 hFc hP1 hD1
  refine w_i (y := kk) (hw.trans e3) ?_
  generalize H1 = H at hP hS ⊢
  refine W.cs (cells' := cells + c1) (slots' := slots + z1) rfl rfl ?_
  refine lv_iload hx hb d_law_2056 (lv_at hl 1 rfl) ?_
  refine lv_icmp_eq (tgt := 2063) hx hb d_law_2058 (by decide) (fun _ => ?_) (fun h => absurd rfl h)
  refine lv_iload hx hb d_law_2063 (lv_at hl 1 rfl) ?_
  refine lv_if_ne (tgt := 2080) hx hb d_law_2065 (by decide) (fun ck => ?_) (fun ck => ?_)
  · refine lv_goto (tgt := 2391) hx hb d_law_2080 (by decide) ?_
    exact hk ad1 ov1 N1 C1 S1 A1 rd1 c1 z1 H _ ls ⟨⟨hx, hb, hr, hml, hown, hts, hX, hbl, hlocks, hL⟩, ⟨hev, hE, hN, hH⟩, ⟨hP, hK, hD, hS, lv_sub hl [2, 3, 4, 5, 6] rfl⟩, hI1⟩ e5 e6 e7 e8 e9
  · refine lv_aload_n hx hb d_law_2068 rfl (lv_at hl 3 rfl) ?_
    refine lv_iconst (v := 0) hx hb d_law_2069 (by decide) ?_
    refine va_lald hx hb hK hP (cw ad1 cc N1 C1).length 7 at_mid rfl (i := 0) (vp_in_nI (n := 0) (N := 1) (by decide) (by decide)) d_law_2070 ?_
    refine w_l (y := ov1 0) rfl ?_
    refine lv_iload hx hb d_law_2071 (lv_at hl 0 rfl) ?_
    refine lv_i2l hx hb d_law_2073 rfl ?_
    refine w_l (y := ov1 0) (e4 ck).symm ?_
    refine W.lcmp hx hb d_law_2074 ?_
    refine w_i (y := 0) (by simp [lg_cmp]) ?_
    refine lv_if_eq (tgt := 2080) hx hb d_law_2075 (by decide) (fun _ => ?_) (fun h => absurd rfl h)
    refine lv_goto (tgt := 2391) hx hb d_law_2080 (by decide) ?_
    exact hk ad1 ov1 N1 C1 S1 A1 rd1 c1 z1 H _ ls ⟨⟨hx, hb, hr, hml, hown, hts, hX, hbl, hlocks, hL⟩, ⟨hev, hE, hN, hH⟩, ⟨hP, hK, hD, hS, lv_sub hl [2, 3, 4, 5, 6] rfl⟩, hI1⟩ e5 e6 e7 e8 e9
theorem d_law_2083 : decode code 2083 = .ok (.aload_n 1, 1) := by decide +kernel
theorem d_law_2084 : decode code 2084 = .ok (.aload_n 0, 1) := by decide +kernel
theorem d_law_2085 : decode code 2085 = .ok (.iload 4, 2) := by decide +kernel
theorem d_law_2087 : decode code 2087 = .ok (.iconst 1, 1) := by decide +kernel
theorem d_law_2088 : decode code 2088 = .ok (.iadd, 1) := by decide +kernel
theorem d_law_2089 : decode code 2089 = .ok (.iaload, 1) := by decide +kernel
theorem d_law_2090 : decode code 2090 = .ok (.aload_n 3, 1) := by decide +kernel
theorem d_law_2091 : decode code 2091 = .ok (.invokestatic 195, 3) := by decide +kernel
theorem d_law_2094 : decode code 2094 = .ok (.istore 5, 2) := by decide +kernel
theorem d_law_2096 : decode code 2096 = .ok (.aload_n 2, 1) := by decide +kernel
theorem d_law_2097 : decode code 2097 = .ok (.aload_n 0, 1) := by decide +kernel
theorem d_law_2098 : decode code 2098 = .ok (.iload 4, 2) := by decide +kernel
theorem d_law_2100 : decode code 2100 = .ok (.iconst 1, 1) := by decide +kernel
theorem d_law_2101 : decode code 2101 = .ok (.iadd, 1) := by decide +kernel
theorem d_law_2102 : decode code 2102 = .ok (.iaload, 1) := by decide +kernel
theorem d_law_2103 : decode code 2103 = .ok (.invokevirtual 197, 3) := by decide +kernel
theorem d_law_2106 : decode code 2106 = .ok (.istore 6, 2) := by decide +kernel
theorem d_law_2108 : decode code 2108 = .ok (.aload_n 2, 1) := by decide +kernel
theorem d_law_2109 : decode code 2109 = .ok (.invokevirtual 120, 3) := by decide +kernel
theorem d_law_2112 : decode code 2112 = .ok (.iload 5, 2) := by decide +kernel
theorem d_law_2114 : decode code 2114 = .ok (.if_icmp .eq 5, 3) := by decide +kernel
theorem d_law_2119 : decode code 2119 = .ok (.iload 5, 2) := by decide +kernel
theorem d_law_2121 : decode code 2121 = .ok (.ifCond .ne 15, 3) := by decide +kernel
theorem d_law_2136 : decode code 2136 = .ok (.goto 255, 3) := by decide +kernel
theorem d_law_2124 : decode code 2124 = .ok (.aload_n 3, 1) := by decide +kernel
theorem d_law_2125 : decode code 2125 = .ok (.iconst 0, 1) := by decide +kernel
theorem d_law_2126 : decode code 2126 = .ok (.laload, 1) := by decide +kernel
theorem d_law_2127 : decode code 2127 = .ok (.iload 6, 2) := by decide +kernel
theorem d_law_2129 : decode code 2129 = .ok (.i2l, 1) := by decide +kernel
theorem d_law_2130 : decode code 2130 = .ok (.lcmp, 1) := by decide +kernel
theorem d_law_2131 : decode code 2131 = .ok (.ifCond .eq 5, 3) := by decide +kernel
set_option maxHeartbeats 8000000 in
set_option maxRecDepth 100000 in
theorem law_k22 {p : Program} {e : Env} {s : State} {m : MethodId} {below : List Frame} {meth : Method} {c : Code} (l : Launch) (hfl : l.flags = flags0) {b L i : Nat} {xs : Nat → Int32} {D : va_G} {cc : Nat → ClassId} {md : Nat → Nat} {mc : Nat → ClassId} {o : Nat} {cL : ClassId} {sad sav : Nat → Nat} {ad : Nat → Nat → Nat} {ov : Nat → Int64} {N : Nat → Nat} {C : CS} {S : MS} {A : AS} {rd cells slots : Nat} {H : Heap} {locs : List Loc} {ls : Array Slot} (h : LwW p s m meth c b L xs D cc md mc o cL sad sav i ad ov N C S A rd H locs ls) (hi7 : i + 7 ≤ L) (hrd : rd + 60000 < 2 ^ 30) (hcb : cells ≤ 500000) (hsb : slots ≤ 6000000) (hk : ∀ (ad1 : Nat → Nat → Nat) (ov1 : Nat → Int64) (N1 : Nat → Nat) (C1 : CS) (S1 : MS) (A1 : AS) (rd1 c1 z1 : Nat) (H1 : Heap) (locs1 : List Loc) (ls1 : Array Slot), LwW p s m meth c b L xs D cc md mc o cL sad sav i ad1 ov1 N1 C1 S1 A1 rd1 H1 locs1 ls1 → A.n ≤ A1.n → A.m ≤ A1.m → rd1 ≤ rd + 50000 → c1 ≤ 2 * (A1.n - A.n) + 3 * (A1.m - A.m) + 1 → z1 ≤ 23 * (A1.n - A.n) + 40 * (A1.m - A.m) + 6 → W p l e room_1 s m #[Value.ref b] below meth c H1 locs1 (cells + c1) (slots + z1) (lw_Z below #[Value.ref b] s) (F0 m 2391 ls1 [])) : W p l e room_1 s m #[Value.ref b] below meth c H locs cells slots (lw_Z below #[Value.ref b] s) (F0 m 2083 ls []) := by
  obtain ⟨⟨hx, hb, hr, hml, hown, hts, hX, hbl, hlocks, hL⟩, ⟨hev, hE, hN, hH⟩, ⟨hP, hK, hD, hS, hl⟩, hI⟩ := h
  have hNS : tx_NS (lA s) s := fun q cell hq hc => absurd (Array.getElem?_eq_some_iff.mp hc).1 (Nat.not_lt.mpr hq)
  have hA : ∀ q : Nat, s.heap.size ≤ q → lA s q := fun _ h => h
  have hbA : ¬ lA s b := Nat.not_le.mpr hbl
  have h11 : N 11 = 1 := hI.2.1.nn.2.2.2.2.2.2.2.2.2.2.2.1
  refine lv_aload_n hx hb d_law_2083 rfl (lv_at hl 3 rfl) ?_
  refine lv_aload_n hx hb d_law_2084 rfl (lv_at hl 4 rfl) ?_
  refine lv_iload hx hb d_law_2085 (lv_at hl 0 rfl) ?_
  refine lv_iconst (v := 1) hx hb d_law_2087 (by decide) ?_
  refine lv_iadd hx hb d_law_2088 ?_
  refine w_i (y := nI (i + 1)) (nI_add i 1) ?_
  refine va_sld hx hb hX hbl hbA hS (i := nI (i + 1)) (vp_in_nI (n := i + 1) (N := L) (by omega) (by omega)) d_law_2089 ?_
  refine w_i (y := xs (i + 1)) (by rw [cl_nI (by omega)]) ?_
  refine lv_aload_n hx hb d_law_2090 rfl (lv_at hl 1 rfl) ?_
  obtain ⟨N1, C1, ov1, kk, c1, z1, S1, bb, A1, rd1, e1, e2, e3, e4, hI1, e5, e6, e7, e8, e9⟩ := st_save (ov := ov) hI hrd (xs (i + 1))
  have hn1 := hI1.2.2.1.1.1
  have hm1 := hI1.2.2.1.1.2.1
  have hPh := p_l hP
  have hDh := d_l hD
  have hKh := hK.sub (tys' := cty cc ++ [(cL, .long)]) [0, 1, 2, 3, 4, 5, 6, 7] rfl
  have hFc := fr_all hDh hS hA
  refine va_calli (tx_runSW (As := [.ref (ad 11 0), .int (xs (i + 1)), .ref o]) (rest := []) ⟨hx, hb, hml, hown, hts⟩ (g_h_save l hfl D H.size (ad := ad) (cc := cc) (sad := sad) (sav := sav) (cL := cL) (a := o) e1) (cw_w 3 hts kw_1270 kw_1268 kw_1269 kw_0 rfl rfl (by decide +kernel) ⟨Nat.le_of_ble_eq_true rfl, Nat.le_of_ble_eq_true rfl⟩) ⟨h_blind, fun U hU hW => h_pre hU hW hPh hKh hDh hev hE hN hH hNS hS hFc⟩ rfl rfl hl.1 rfl (lv_room (Nat.le_of_ble_eq_true rfl)) d_law_2091 ⟨by show cells + c1 ≤ 601024; omega, by show slots + z1 ≤ 7293034; omega⟩) hS (fun q _ h => hFc q h) hFc (fun rz ad1 t H1 locs ht hvm hw hB hz1 hk1 hS => ?_)
  obtain ⟨hXt, hP1, -, hD1⟩ := hB
  rw [ht] at hP1
  obtain ⟨hP, hD⟩ := join_w hP hD hk1 hFc hP1 hD1
  refine w_i (y := kk) hw ?_
  have had : ad1 11 0 = ad 11 0 := hXt.2 11 0 (by rw [h11]; decide)
  rw [← had] at hl
  generalize H1 = H at hP hS ⊢
  refine W.cs (cells' := cells + c1) (slots' := slots + z1) rfl rfl ?_
  refine lv_istore (lv' := [(5, .int kk), (4, .int (nI i)), (3, .ref o), (2, .ref (md 100)), (1, .ref (ad1 11 0)), (0, .ref b)]) hx hb d_law_2094 hl (by decide) rfl (fun ls hl => ?_)
  refine lv_aload_n hx hb d_law_2096 rfl (lv_at hl 3 rfl) ?_
  refine lv_aload_n hx hb d_law_2097 rfl (lv_at hl 5 rfl) ?_
  refine lv_iload hx hb d_law_2098 (lv_at hl 1 rfl) ?_
  refine lv_iconst (v := 1) hx hb d_law_2100 (by decide) ?_
  refine lv_iadd hx hb d_law_2101 ?_
  refine w_i (y := nI (i + 1)) (nI_add i 1) ?_
  refine va_sld hx hb hX hbl hbA hS (i := nI (i + 1)) (vp_in_nI (n := i + 1) (N := L) (by omega) (by omega)) d_law_2102 ?_
  refine w_i (y := xs (i + 1)) (by rw [cl_nI (by omega)]) ?_
  have hPc := p_r hP
  have hDc := d_r hD
  have hKc := hK.sub (tys' := mty mc) [8, 9, 10, 11, 12] rfl
  have hFc := fr_all hDc hS hA
  refine va_calli (va_runV (As := [.int (xs (i + 1))]) (rest := []) ⟨hx, hb, hml, hown, hts⟩ (g_rsave l D H.size (md := md) (mc := mc) e2) (cw_v 1 hts kw_1946 kw_1943 kw_1944 kw_1945 kw_11 rfl rfl (by decide +kernel) ⟨Nat.le_of_ble_eq_true rfl, Nat.le_of_ble_eq_true rfl⟩) ⟨g_blind, va_recv hKc hPc (ci := 12) (q0 := 0) rfl rfl, fun U hU hW => g_pre hU hW hPc hKc hDc⟩ rfl rfl hl.1 rfl (lv_room (Nat.le_of_ble_eq_true rfl)) d_law_2103 ⟨by show cells + c1 + 0 ≤ 601024; omega, by show slots + z1 + 0 ≤ 7293034; omega⟩) hS (fun q _ h => hFc q h) hFc (fun rb u t H1 locs ht hvm hw hB hz1 hk1 hS => ?_)
  obtain ⟨hP1, -, hD1⟩ := hB
  rw [ht] at hP1
  obtain ⟨hP, hD⟩ := join_r hP hD hk1 hFc hP1 hD1
  refine w_i (y := bb) hw ?_
  generalize H1 = H at hP hS ⊢
  refine W.cs (cells' := cells + c1) (slots' := slots + z1) rfl rfl ?_
  refine lv_istore (lv' := [(6, .int bb), (5, .int kk), (4, .int (nI i)), (3, .ref o), (2, .ref (md 100)), (1, .ref (ad1 11 0)), (0, .ref b)]) hx hb d_law_2106 hl (by decide) rfl (fun ls hl => ?_)
  refine lv_aload_n hx hb d_law_2108 rfl (lv_at hl 4 rfl) ?_
  have hPc := p_r hP
  have hDc := d_r hD
  have hKc := hK.sub (tys' := mty mc) [8, 9, 10, 11, 12] rfl
  have hFc := fr_all hDc hS hA
  refine va_calli (va_runV (As := []) (rest := []) ⟨hx, hb, hml, hown, hts⟩ (g_rthrown l D H.size (md := md) (mc := mc) (show m_rthrown S1 = some (S1, S1.i 0) from rfl)) (cw_v 0 hts kw_1618 kw_1615 kw_1616 kw_1617 kw_11 rfl rfl (by decide +kernel) ⟨Nat.le_of_ble_eq_true rfl, Nat.le_of_ble_eq_true rfl⟩) ⟨g_blind, va_recv hKc hPc (ci := 12) (q0 := 0) rfl rfl, fun U hU hW => g_pre hU hW hPc hKc hDc⟩ rfl rfl hl.1 rfl (lv_room (Nat.le_of_ble_eq_true rfl)) d_law_2109 ⟨by show cells + c1 + 0 ≤ 601024; omega, by show slots + z1 + 0 ≤ 7293034; omega⟩) hS (fun q _ h => hFc q h) hFc (fun rt u t H1 locs ht hvm hw hB hz1 hk1 hS => ?_)
  obtain ⟨hP1, -, hD1⟩ := hB
  rw [ht] at hP1
  obtain ⟨hP, hD⟩ := join_r hP hD hk1 hFc hP1 hD1
  refine w_i (y := kk) (hw.trans e3) ?_
  generalize H1 = H at hP hS ⊢
  refine W.cs (cells' := cells + c1) (slots' := slots + z1) rfl rfl ?_
  refine lv_iload hx hb d_law_2112 (lv_at hl 1 rfl) ?_
  refine lv_icmp_eq (tgt := 2119) hx hb d_law_2114 (by decide) (fun _ => ?_) (fun h => absurd rfl h)
  refine lv_iload hx hb d_law_2119 (lv_at hl 1 rfl) ?_
  refine lv_if_ne (tgt := 2136) hx hb d_law_2121 (by decide) (fun ck => ?_) (fun ck => ?_)
  · refine lv_goto (tgt := 2391) hx hb d_law_2136 (by decide) ?_
    exact hk ad1 ov1 N1 C1 S1 A1 rd1 c1 z1 H _ ls ⟨⟨hx, hb, hr, hml, hown, hts, hX, hbl, hlocks, hL⟩, ⟨hev, hE, hN, hH⟩, ⟨hP, hK, hD, hS, lv_sub hl [2, 3, 4, 5, 6] rfl⟩, hI1⟩ e5 e6 e7 e8 e9
  · refine lv_aload_n hx hb d_law_2124 rfl (lv_at hl 3 rfl) ?_
    refine lv_iconst (v := 0) hx hb d_law_2125 (by decide) ?_
    refine va_lald hx hb hK hP (cw ad1 cc N1 C1).length 7 at_mid rfl (i := 0) (vp_in_nI (n := 0) (N := 1) (by decide) (by decide)) d_law_2126 ?_
    refine w_l (y := ov1 0) rfl ?_
    refine lv_iload hx hb d_law_2127 (lv_at hl 0 rfl) ?_
    refine lv_i2l hx hb d_law_2129 rfl ?_
    refine w_l (y := ov1 0) (e4 ck).symm ?_
    refine W.lcmp hx hb d_law_2130 ?_
    refine w_i (y := 0) (by simp [lg_cmp]) ?_
    refine lv_if_eq (tgt := 2136) hx hb d_law_2131 (by decide) (fun _ => ?_) (fun h => absurd rfl h)
    refine lv_goto (tgt := 2391) hx hb d_law_2136 (by decide) ?_
    exact hk ad1 ov1 N1 C1 S1 A1 rd1 c1 z1 H _ ls ⟨⟨hx, hb, hr, hml, hown, hts, hX, hbl, hlocks, hL⟩, ⟨hev, hE, hN, hH⟩, ⟨hP, hK, hD, hS, lv_sub hl [2, 3, 4, 5, 6] rfl⟩, hI1⟩ e5 e6 e7 e8 e9
theorem d_law_2139 : decode code 2139 = .ok (.aload_n 1, 1) := by decide +kernel
theorem d_law_2140 : decode code 2140 = .ok (.aload_n 0, 1) := by decide +kernel
theorem d_law_2141 : decode code 2141 = .ok (.iload 4, 2) := by decide +kernel
theorem d_law_2143 : decode code 2143 = .ok (.iconst 1, 1) := by decide +kernel
theorem d_law_2144 : decode code 2144 = .ok (.iadd, 1) := by decide +kernel
theorem d_law_2145 : decode code 2145 = .ok (.iaload, 1) := by decide +kernel
theorem d_law_2146 : decode code 2146 = .ok (.aload_n 3, 1) := by decide +kernel
theorem d_law_2147 : decode code 2147 = .ok (.invokestatic 198, 3) := by decide +kernel
theorem d_law_2150 : decode code 2150 = .ok (.istore 5, 2) := by decide +kernel
theorem d_law_2152 : decode code 2152 = .ok (.aload_n 2, 1) := by decide +kernel
theorem d_law_2153 : decode code 2153 = .ok (.aload_n 0, 1) := by decide +kernel
theorem d_law_2154 : decode code 2154 = .ok (.iload 4, 2) := by decide +kernel
theorem d_law_2156 : decode code 2156 = .ok (.iconst 1, 1) := by decide +kernel
theorem d_law_2157 : decode code 2157 = .ok (.iadd, 1) := by decide +kernel
theorem d_law_2158 : decode code 2158 = .ok (.iaload, 1) := by decide +kernel
theorem d_law_2159 : decode code 2159 = .ok (.invokevirtual 200, 3) := by decide +kernel
theorem d_law_2162 : decode code 2162 = .ok (.istore 6, 2) := by decide +kernel
theorem d_law_2164 : decode code 2164 = .ok (.aload_n 2, 1) := by decide +kernel
theorem d_law_2165 : decode code 2165 = .ok (.invokevirtual 120, 3) := by decide +kernel
theorem d_law_2168 : decode code 2168 = .ok (.iload 5, 2) := by decide +kernel
theorem d_law_2170 : decode code 2170 = .ok (.if_icmp .eq 5, 3) := by decide +kernel
theorem d_law_2175 : decode code 2175 = .ok (.iload 5, 2) := by decide +kernel
theorem d_law_2177 : decode code 2177 = .ok (.ifCond .ne 15, 3) := by decide +kernel
theorem d_law_2192 : decode code 2192 = .ok (.goto 199, 3) := by decide +kernel
theorem d_law_2180 : decode code 2180 = .ok (.aload_n 3, 1) := by decide +kernel
theorem d_law_2181 : decode code 2181 = .ok (.iconst 0, 1) := by decide +kernel
theorem d_law_2182 : decode code 2182 = .ok (.laload, 1) := by decide +kernel
theorem d_law_2183 : decode code 2183 = .ok (.iload 6, 2) := by decide +kernel
theorem d_law_2185 : decode code 2185 = .ok (.i2l, 1) := by decide +kernel
theorem d_law_2186 : decode code 2186 = .ok (.lcmp, 1) := by decide +kernel
theorem d_law_2187 : decode code 2187 = .ok (.ifCond .eq 5, 3) := by decide +kernel
set_option maxHeartbeats 8000000 in
set_option maxRecDepth 100000 in
theorem law_k23 {p : Program} {e : Env} {s : State} {m : MethodId} {below : List Frame} {meth : Method} {c : Code} (l : Launch) (hfl : l.flags = flags0) {b L i : Nat} {xs : Nat → Int32} {D : va_G} {cc : Nat → ClassId} {md : Nat → Nat} {mc : Nat → ClassId} {o : Nat} {cL : ClassId} {sad sav : Nat → Nat} {ad : Nat → Nat → Nat} {ov : Nat → Int64} {N : Nat → Nat} {C : CS} {S : MS} {A : AS} {rd cells slots : Nat} {H : Heap} {locs : List Loc} {ls : Array Slot} (h : LwW p s m meth c b L xs D cc md mc o cL sad sav i ad ov N C S A rd H locs ls) (hi7 : i + 7 ≤ L) (hrd : rd + 60000 < 2 ^ 30) (hcb : cells ≤ 500000) (hsb : slots ≤ 6000000) (hk : ∀ (ad1 : Nat → Nat → Nat) (ov1 : Nat → Int64) (N1 : Nat → Nat) (C1 : CS) (S1 : MS) (A1 : AS) (rd1 c1 z1 : Nat) (H1 : Heap) (locs1 : List Loc) (ls1 : Array Slot), LwW p s m meth c b L xs D cc md mc o cL sad sav i ad1 ov1 N1 C1 S1 A1 rd1 H1 locs1 ls1 → A.n ≤ A1.n → A.m ≤ A1.m → rd1 ≤ rd + 50000 → c1 ≤ 2 * (A1.n - A.n) + 3 * (A1.m - A.m) + 1 → z1 ≤ 23 * (A1.n - A.n) + 40 * (A1.m - A.m) + 6 → W p l e room_1 s m #[Value.ref b] below meth c H1 locs1 (cells + c1) (slots + z1) (lw_Z below #[Value.ref b] s) (F0 m 2391 ls1 [])) : W p l e room_1 s m #[Value.ref b] below meth c H locs cells slots (lw_Z below #[Value.ref b] s) (F0 m 2139 ls []) := by
  obtain ⟨⟨hx, hb, hr, hml, hown, hts, hX, hbl, hlocks, hL⟩, ⟨hev, hE, hN, hH⟩, ⟨hP, hK, hD, hS, hl⟩, hI⟩ := h
  have hNS : tx_NS (lA s) s := fun q cell hq hc => absurd (Array.getElem?_eq_some_iff.mp hc).1 (Nat.not_lt.mpr hq)
  have hA : ∀ q : Nat, s.heap.size ≤ q → lA s q := fun _ h => h
  have hbA : ¬ lA s b := Nat.not_le.mpr hbl
  have h11 : N 11 = 1 := hI.2.1.nn.2.2.2.2.2.2.2.2.2.2.2.1
  refine lv_aload_n hx hb d_law_2139 rfl (lv_at hl 3 rfl) ?_
  refine lv_aload_n hx hb d_law_2140 rfl (lv_at hl 4 rfl) ?_
  refine lv_iload hx hb d_law_2141 (lv_at hl 0 rfl) ?_
  refine lv_iconst (v := 1) hx hb d_law_2143 (by decide) ?_
  refine lv_iadd hx hb d_law_2144 ?_
  refine w_i (y := nI (i + 1)) (nI_add i 1) ?_
  refine va_sld hx hb hX hbl hbA hS (i := nI (i + 1)) (vp_in_nI (n := i + 1) (N := L) (by omega) (by omega)) d_law_2145 ?_
  refine w_i (y := xs (i + 1)) (by rw [cl_nI (by omega)]) ?_
  refine lv_aload_n hx hb d_law_2146 rfl (lv_at hl 1 rfl) ?_
  obtain ⟨N1, C1, ov1, kk, c1, z1, S1, bb, A1, rd1, e1, e2, e3, e4, hI1, e5, e6, e7, e8, e9⟩ := st_load (ov := ov) hI hrd (xs (i + 1))
  have hn1 := hI1.2.2.1.1.1
  have hm1 := hI1.2.2.1.1.2.1
  have hPh := p_l hP
  have hDh := d_l hD
  have hKh := hK.sub (tys' := cty cc ++ [(cL, .long)]) [0, 1, 2, 3, 4, 5, 6, 7] rfl
  have hFc := fr_all hDh hS hA
  refine va_calli (tx_runSW (As := [.ref (ad 11 0), .int (xs (i + 1)), .ref o]) (rest := []) ⟨hx, hb, hml, hown, hts⟩ (g_h_load l hfl D H.size (ad := ad) (cc := cc) (sad := sad) (sav := sav) (cL := cL) (a := o) e1) (cw_w 3 hts kw_1318 kw_1316 kw_1317 kw_0 rfl rfl (by decide +kernel) ⟨Nat.le_of_ble_eq_true rfl, Nat.le_of_ble_eq_true rfl⟩) ⟨h_blind, fun U hU hW => h_pre hU hW hPh hKh hDh hev hE hN hH hNS hS hFc⟩ rfl rfl hl.1 rfl (lv_room (Nat.le_of_ble_eq_true rfl)) d_law_2147 ⟨by show cells + c1 ≤ 601024; omega, by show slots + z1 ≤ 7293034; omega⟩) hS (fun q _ h => hFc q h) hFc (fun rz ad1 t H1 locs ht hvm hw hB hz1 hk1 hS => ?_)
  obtain ⟨hXt, hP1, -, hD1⟩ := hB
  rw [ht] at hP1
  obtain ⟨hP, hD⟩ := join_w hP hD hk1 hFc hP1 hD1
  refine w_i (y := kk) hw ?_
  have had : ad1 11 0 = ad 11 0 := hXt.2 11 0 (by rw [h11]; decide)
  rw [← had] at hl
  generalize H1 = H at hP hS ⊢
  refine W.cs (cells' := cells + c1) (slots' := slots + z1) rfl rfl ?_
  refine lv_istore (lv' := [(5, .int kk), (4, .int (nI i)), (3, .ref o), (2, .ref (md 100)), (1, .ref (ad1 11 0)), (0, .ref b)]) hx hb d_law_2150 hl (by decide) rfl (fun ls hl => ?_)
  refine lv_aload_n hx hb d_law_2152 rfl (lv_at hl 3 rfl) ?_
  refine lv_aload_n hx hb d_law_2153 rfl (lv_at hl 5 rfl) ?_
  refine lv_iload hx hb d_law_2154 (lv_at hl 1 rfl) ?_
  refine lv_iconst (v := 1) hx hb d_law_2156 (by decide) ?_
  refine lv_iadd hx hb d_law_2157 ?_
  refine w_i (y := nI (i + 1)) (nI_add i 1) ?_
  refine va_sld hx hb hX hbl hbA hS (i := nI (i + 1)) (vp_in_nI (n := i + 1) (N := L) (by omega) (by omega)) d_law_2158 ?_
  refine w_i (y := xs (i + 1)) (by rw [cl_nI (by omega)]) ?_
  have hPc := p_r hP
  have hDc := d_r hD
  have hKc := hK.sub (tys' := mty mc) [8, 9, 10, 11, 12] rfl
  have hFc := fr_all hDc hS hA
  refine va_calli (va_runV (As := [.int (xs (i + 1))]) (rest := []) ⟨hx, hb, hml, hown, hts⟩ (g_rload l D H.size (md := md) (mc := mc) e2) (cw_v 1 hts kw_1978 kw_1975 kw_1976 kw_1977 kw_11 rfl rfl (by decide +kernel) ⟨Nat.le_of_ble_eq_true rfl, Nat.le_of_ble_eq_true rfl⟩) ⟨g_blind, va_recv hKc hPc (ci := 12) (q0 := 0) rfl rfl, fun U hU hW => g_pre hU hW hPc hKc hDc⟩ rfl rfl hl.1 rfl (lv_room (Nat.le_of_ble_eq_true rfl)) d_law_2159 ⟨by show cells + c1 + 0 ≤ 601024; omega, by show slots + z1 + 0 ≤ 7293034; omega⟩) hS (fun q _ h => hFc q h) hFc (fun rb u t H1 locs ht hvm hw hB hz1 hk1 hS => ?_)
  obtain ⟨hP1, -, hD1⟩ := hB
  rw [ht] at hP1
  obtain ⟨hP, hD⟩ := join_r hP hD hk1 hFc hP1 hD1
  refine w_i (y := bb) hw ?_
  generalize H1 = H at hP hS ⊢
  refine W.cs (cells' := cells + c1) (slots' := slots + z1) rfl rfl ?_
  refine lv_istore (lv' := [(6, .int bb), (5, .int kk), (4, .int (nI i)), (3, .ref o), (2, .ref (md 100)), (1, .ref (ad1 11 0)), (0, .ref b)]) hx hb d_law_2162 hl (by decide) rfl (fun ls hl => ?_)
  refine lv_aload_n hx hb d_law_2164 rfl (lv_at hl 4 rfl) ?_
  have hPc := p_r hP
  have hDc := d_r hD
  have hKc := hK.sub (tys' := mty mc) [8, 9, 10, 11, 12] rfl
  have hFc := fr_all hDc hS hA
  refine va_calli (va_runV (As := []) (rest := []) ⟨hx, hb, hml, hown, hts⟩ (g_rthrown l D H.size (md := md) (mc := mc) (show m_rthrown S1 = some (S1, S1.i 0) from rfl)) (cw_v 0 hts kw_1618 kw_1615 kw_1616 kw_1617 kw_11 rfl rfl (by decide +kernel) ⟨Nat.le_of_ble_eq_true rfl, Nat.le_of_ble_eq_true rfl⟩) ⟨g_blind, va_recv hKc hPc (ci := 12) (q0 := 0) rfl rfl, fun U hU hW => g_pre hU hW hPc hKc hDc⟩ rfl rfl hl.1 rfl (lv_room (Nat.le_of_ble_eq_true rfl)) d_law_2165 ⟨by show cells + c1 + 0 ≤ 601024; omega, by show slots + z1 + 0 ≤ 7293034; omega⟩) hS (fun q _ h => hFc q h) hFc (fun rt u t H1 locs ht hvm hw hB hz1 hk1 hS => ?_)
  obtain ⟨hP1, -, hD1⟩ := hB
  rw [ht] at hP1
  obtain ⟨hP, hD⟩ := join_r hP hD hk1 hFc hP1 hD1
  refine w_i (y := kk) (hw.trans e3) ?_
  generalize H1 = H at hP hS ⊢
  refine W.cs (cells' := cells + c1) (slots' := slots + z1) rfl rfl ?_
  refine lv_iload hx hb d_law_2168 (lv_at hl 1 rfl) ?_
  refine lv_icmp_eq (tgt := 2175) hx hb d_law_2170 (by decide) (fun _ => ?_) (fun h => absurd rfl h)
  refine lv_iload hx hb d_law_2175 (lv_at hl 1 rfl) ?_
  refine lv_if_ne (tgt := 2192) hx hb d_law_2177 (by decide) (fun ck => ?_) (fun ck => ?_)
  · refine lv_goto (tgt := 2391) hx hb d_law_2192 (by decide) ?_
    exact hk ad1 ov1 N1 C1 S1 A1 rd1 c1 z1 H _ ls ⟨⟨hx, hb, hr, hml, hown, hts, hX, hbl, hlocks, hL⟩, ⟨hev, hE, hN, hH⟩, ⟨hP, hK, hD, hS, lv_sub hl [2, 3, 4, 5, 6] rfl⟩, hI1⟩ e5 e6 e7 e8 e9
  · refine lv_aload_n hx hb d_law_2180 rfl (lv_at hl 3 rfl) ?_
    refine lv_iconst (v := 0) hx hb d_law_2181 (by decide) ?_
    refine va_lald hx hb hK hP (cw ad1 cc N1 C1).length 7 at_mid rfl (i := 0) (vp_in_nI (n := 0) (N := 1) (by decide) (by decide)) d_law_2182 ?_
    refine w_l (y := ov1 0) rfl ?_
    refine lv_iload hx hb d_law_2183 (lv_at hl 0 rfl) ?_
    refine lv_i2l hx hb d_law_2185 rfl ?_
    refine w_l (y := ov1 0) (e4 ck).symm ?_
    refine W.lcmp hx hb d_law_2186 ?_
    refine w_i (y := 0) (by simp [lg_cmp]) ?_
    refine lv_if_eq (tgt := 2192) hx hb d_law_2187 (by decide) (fun _ => ?_) (fun h => absurd rfl h)
    refine lv_goto (tgt := 2391) hx hb d_law_2192 (by decide) ?_
    exact hk ad1 ov1 N1 C1 S1 A1 rd1 c1 z1 H _ ls ⟨⟨hx, hb, hr, hml, hown, hts, hX, hbl, hlocks, hL⟩, ⟨hev, hE, hN, hH⟩, ⟨hP, hK, hD, hS, lv_sub hl [2, 3, 4, 5, 6] rfl⟩, hI1⟩ e5 e6 e7 e8 e9
