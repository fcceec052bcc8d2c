theorem d_law_1296 : decode code 1296 = .ok (.aload_n 1, 1) := by decide +kernel
theorem d_law_1297 : decode code 1297 = .ok (.aload_n 0, 1) := by decide +kernel
theorem d_law_1298 : decode code 1298 = .ok (.iload 4, 2) := by decide +kernel
theorem d_law_1300 : decode code 1300 = .ok (.iconst 1, 1) := by decide +kernel
theorem d_law_1301 : decode code 1301 = .ok (.iadd, 1) := by decide +kernel
theorem d_law_1302 : decode code 1302 = .ok (.iaload, 1) := by decide +kernel
theorem d_law_1303 : decode code 1303 = .ok (.aload_n 0, 1) := by decide +kernel
theorem d_law_1304 : decode code 1304 = .ok (.iload 4, 2) := by decide +kernel
theorem d_law_1306 : decode code 1306 = .ok (.iconst 2, 1) := by decide +kernel
theorem d_law_1307 : decode code 1307 = .ok (.iadd, 1) := by decide +kernel
theorem d_law_1308 : decode code 1308 = .ok (.iaload, 1) := by decide +kernel
theorem d_law_1309 : decode code 1309 = .ok (.aload_n 3, 1) := by decide +kernel
theorem d_law_1310 : decode code 1310 = .ok (.invokestatic 165, 3) := by decide +kernel
theorem d_law_1313 : decode code 1313 = .ok (.istore 5, 2) := by decide +kernel
theorem d_law_1315 : decode code 1315 = .ok (.aload_n 2, 1) := by decide +kernel
theorem d_law_1316 : decode code 1316 = .ok (.aload_n 0, 1) := by decide +kernel
theorem d_law_1317 : decode code 1317 = .ok (.iload 4, 2) := by decide +kernel
theorem d_law_1319 : decode code 1319 = .ok (.iconst 1, 1) := by decide +kernel
theorem d_law_1320 : decode code 1320 = .ok (.iadd, 1) := by decide +kernel
theorem d_law_1321 : decode code 1321 = .ok (.iaload, 1) := by decide +kernel
theorem d_law_1322 : decode code 1322 = .ok (.aload_n 0, 1) := by decide +kernel
theorem d_law_1323 : decode code 1323 = .ok (.iload 4, 2) := by decide +kernel
theorem d_law_1325 : decode code 1325 = .ok (.iconst 2, 1) := by decide +kernel
theorem d_law_1326 : decode code 1326 = .ok (.iadd, 1) := by decide +kernel
theorem d_law_1327 : decode code 1327 = .ok (.iaload, 1) := by decide +kernel
theorem d_law_1328 : decode code 1328 = .ok (.invokevirtual 167, 3) := by decide +kernel
theorem d_law_1331 : decode code 1331 = .ok (.istore 6, 2) := by decide +kernel
theorem d_law_1333 : decode code 1333 = .ok (.aload_n 2, 1) := by decide +kernel
theorem d_law_1334 : decode code 1334 = .ok (.invokevirtual 120, 3) := by decide +kernel
theorem d_law_1337 : decode code 1337 = .ok (.iload 5, 2) := by decide +kernel
theorem d_law_1339 : decode code 1339 = .ok (.if_icmp .eq 5, 3) := by decide +kernel
theorem d_law_1344 : decode code 1344 = .ok (.iload 5, 2) := by decide +kernel
theorem d_law_1346 : decode code 1346 = .ok (.ifCond .ne 15, 3) := by decide +kernel
theorem d_law_1361 : decode code 1361 = .ok (.goto 1030, 3) := by decide +kernel
theorem d_law_1349 : decode code 1349 = .ok (.aload_n 3, 1) := by decide +kernel
theorem d_law_1350 : decode code 1350 = .ok (.iconst 0, 1) := by decide +kernel
theorem d_law_1351 : decode code 1351 = .ok (.laload, 1) := by decide +kernel
theorem d_law_1352 : decode code 1352 = .ok (.iload 6, 2) := by decide +kernel
theorem d_law_1354 : decode code 1354 = .ok (.i2l, 1) := by decide +kernel
theorem d_law_1355 : decode code 1355 = .ok (.lcmp, 1) := by decide +kernel
theorem d_law_1356 : decode code 1356 = .ok (.ifCond .eq 5, 3) := by decide +kernel
set_option maxHeartbeats 8000000 in
set_option maxRecDepth 100000 in
theorem law_k12 {p : Program} {e : Env} {s : State} {m : MethodId} {below : List Frame} {meth : Method} {c : Code} (l : Launch) (hfl : l.flags = flags0) {b L i : Nat} {xs : Nat → Int32} {D : va_G} {cc : Nat → ClassId} {md : Nat → Nat} {mc : Nat → ClassId} {o : Nat} {cL : ClassId} {sad sav : Nat → Nat} {ad : Nat → Nat → Nat} {ov : Nat → Int64} {N : Nat → Nat} {C : CS} {S : MS} {A : AS} {rd cells slots : Nat} {H : Heap} {locs : List Loc} {ls : Array Slot} (h : LwW p s m meth c b L xs D cc md mc o cL sad sav i ad ov N C S A rd H locs ls) (hi7 : i + 7 ≤ L) (hrd : rd + 60000 < 2 ^ 30) (hcb : cells ≤ 500000) (hsb : slots ≤ 6000000) (hk : ∀ (ad1 : Nat → Nat → Nat) (ov1 : Nat → Int64) (N1 : Nat → Nat) (C1 : CS) (S1 : MS) (A1 : AS) (rd1 c1 z1 : Nat) (H1 : Heap) (locs1 : List Loc) (ls1 : Array Slot), LwW p s m meth c b L xs D cc md mc o cL sad sav i ad1 ov1 N1 C1 S1 A1 rd1 H1 locs1 ls1 → A.n ≤ A1.n → A.m ≤ A1.m → rd1 ≤ rd + 50000 → c1 ≤ 2 * (A1.n - A.n) + 3 * (A1.m - A.m) + 1 → z1 ≤ 23 * (A1.n - A.n) + 40 * (A1.m - A.m) + 6 → W p l e room_1 s m #[Value.ref b] below meth c H1 locs1 (cells + c1) (slots + z1) (lw_Z below #[Value.ref b] s) (F0 m 2391 ls1 [])) : W p l e room_1 s m #[Value.ref b] below meth c H locs cells slots (lw_Z below #[Value.ref b] s) (F0 m 1296 ls []) := by
  obtain ⟨⟨hx, hb, hr, hml, hown, hts, hX, hbl, hlocks, hL⟩, ⟨hev, hE, hN, hH⟩, ⟨hP, hK, hD, hS, hl⟩, hI⟩ := h
  have hNS : tx_NS (lA s) s := fun q cell hq hc => absurd (Array.getElem?_eq_some_iff.mp hc).1 (Nat.not_lt.mpr hq)
  have hA : ∀ q : Nat, s.heap.size ≤ q → lA s q := fun _ h => h
  have hbA : ¬ lA s b := Nat.not_le.mpr hbl
  have h11 : N 11 = 1 := hI.2.1.nn.2.2.2.2.2.2.2.2.2.2.2.1
  refine lv_aload_n hx hb d_law_1296 rfl (lv_at hl 3 rfl) ?_
  refine lv_aload_n hx hb d_law_1297 rfl (lv_at hl 4 rfl) ?_
  refine lv_iload hx hb d_law_1298 (lv_at hl 0 rfl) ?_
  refine lv_iconst (v := 1) hx hb d_law_1300 (by decide) ?_
  refine lv_iadd hx hb d_law_1301 ?_
  refine w_i (y := nI (i + 1)) (nI_add i 1) ?_
  refine va_sld hx hb hX hbl hbA hS (i := nI (i + 1)) (vp_in_nI (n := i + 1) (N := L) (by omega) (by omega)) d_law_1302 ?_
  refine w_i (y := xs (i + 1)) (by rw [cl_nI (by omega)]) ?_
  refine lv_aload_n hx hb d_law_1303 rfl (lv_at hl 4 rfl) ?_
  refine lv_iload hx hb d_law_1304 (lv_at hl 0 rfl) ?_
  refine lv_iconst (v := 2) hx hb d_law_1306 (by decide) ?_
  refine lv_iadd hx hb d_law_1307 ?_
  refine w_i (y := nI (i + 2)) (nI_add i 2) ?_
  refine va_sld hx hb hX hbl hbA hS (i := nI (i + 2)) (vp_in_nI (n := i + 2) (N := L) (by omega) (by omega)) d_law_1308 ?_
  refine w_i (y := xs (i + 2)) (by rw [cl_nI (by omega)]) ?_
  refine lv_aload_n hx hb d_law_1309 rfl (lv_at hl 1 rfl) ?_
  obtain ⟨N1, C1, ov1, kk, c1, z1, S1, bb, A1, rd1, e1, e2, e3, e4, hI1, e5, e6, e7, e8, e9⟩ := st_join (ov := ov) hI hrd (xs (i + 1)) (xs (i + 2))
  have hn1 := hI1.2.2.1.1.1
  have hm1 := hI1.2.2.1.1.2.1
  have hPh := p_l hP
  have hDh := d_l hD
  have hKh := hK.sub (tys' := cty cc ++ [(cL, .long)]) [0, 1, 2, 3, 4, 5, 6, 7] rfl
  have hFc := fr_all hDh hS hA
  refine va_calli (tx_runSW (As := [.ref (ad 11 0), .int (xs (i + 1)), .int (xs (i + 2)), .ref o]) (rest := []) ⟨hx, hb, hml, hown, hts⟩ (g_h_join l hfl D H.size (ad := ad) (cc := cc) (sad := sad) (sav := sav) (cL := cL) (a := o) e1) (cw_w 4 hts kw_1106 kw_1104 kw_1105 kw_0 rfl rfl (by decide +kernel) ⟨Nat.le_of_ble_eq_true rfl, Nat.le_of_ble_eq_true rfl⟩) ⟨h_blind, fun U hU hW => h_pre hU hW hPh hKh hDh hev hE hN hH hNS hS hFc⟩ rfl rfl hl.1 rfl (lv_room (Nat.le_of_ble_eq_true rfl)) d_law_1310 ⟨by show cells + c1 ≤ 601024; omega, by show slots + z1 ≤ 7293034; omega⟩) hS (fun q _ h => hFc q h) hFc (fun rz ad1 t H1 locs ht hvm hw hB hz1 hk1 hS => ?_)
  obtain ⟨hXt, hP1, -, hD1⟩ := hB
  rw [ht] at hP1
  obtain ⟨hP, hD⟩ := join_w hP hD hk1 hFc hP1 hD1
  refine w_i (y := kk) hw ?_
  have had : ad1 11 0 = ad 11 0 := hXt.2 11 0 (by rw [h11]; decide)
  rw [← had] at hl
  generalize H1 = H at hP hS ⊢
  refine W.cs (cells' := cells + c1) (slots' := slots + z1) rfl rfl ?_
  refine lv_istore (lv' := [(5, .int kk), (4, .int (nI i)), (3, .ref o), (2, .ref (md 100)), (1, .ref (ad1 11 0)), (0, .ref b)]) hx hb d_law_1313 hl (by decide) rfl (fun ls hl => ?_)
  refine lv_aload_n hx hb d_law_1315 rfl (lv_at hl 3 rfl) ?_
  refine lv_aload_n hx hb d_law_1316 rfl (lv_at hl 5 rfl) ?_
  refine lv_iload hx hb d_law_1317 (lv_at hl 1 rfl) ?_
  refine lv_iconst (v := 1) hx hb d_law_1319 (by decide) ?_
  refine lv_iadd hx hb d_law_1320 ?_
  refine w_i (y := nI (i + 1)) (nI_add i 1) ?_
  refine va_sld hx hb hX hbl hbA hS (i := nI (i + 1)) (vp_in_nI (n := i + 1) (N := L) (by omega) (by omega)) d_law_1321 ?_
  refine w_i (y := xs (i + 1)) (by rw [cl_nI (by omega)]) ?_
  refine lv_aload_n hx hb d_law_1322 rfl (lv_at hl 5 rfl) ?_
  refine lv_iload hx hb d_law_1323 (lv_at hl 1 rfl) ?_
  refine lv_iconst (v := 2) hx hb d_law_1325 (by decide) ?_
  refine lv_iadd hx hb d_law_1326 ?_
  refine w_i (y := nI (i + 2)) (nI_add i 2) ?_
  refine va_sld hx hb hX hbl hbA hS (i := nI (i + 2)) (vp_in_nI (n := i + 2) (N := L) (by omega) (by omega)) d_law_1327 ?_
  refine w_i (y := xs (i + 2)) (by rw [cl_nI (by omega)]) ?_
  have hPc := p_r hP
  have hDc := d_r hD
  have hKc := hK.sub (tys' := mty mc) [8, 9, 10, 11, 12] rfl
  have hFc := fr_all hDc hS hA
  refine va_calli (va_runV (As := [.int (xs (i + 1)), .int (xs (i + 2))]) (rest := []) ⟨hx, hb, hml, hown, hts⟩ (g_rjoin l D H.size (md := md) (mc := mc) e2) (cw_v 2 hts kw_1847 kw_1844 kw_1845 kw_1846 kw_11 rfl rfl (by decide +kernel) ⟨Nat.le_of_ble_eq_true rfl, Nat.le_of_ble_eq_true rfl⟩) ⟨g_blind, va_recv hKc hPc (ci := 12) (q0 := 0) rfl rfl, fun U hU hW => g_pre hU hW hPc hKc hDc⟩ rfl rfl hl.1 rfl (lv_room (Nat.le_of_ble_eq_true rfl)) d_law_1328 ⟨by show cells + c1 + 0 ≤ 601024; omega, by show slots + z1 + 0 ≤ 7293034; omega⟩) hS (fun q _ h => hFc q h) hFc (fun rb u t H1 locs ht hvm hw hB hz1 hk1 hS => ?_)
  obtain ⟨hP1, -, hD1⟩ := hB
  rw [ht] at hP1
  obtain ⟨hP, hD⟩ := join_r hP hD hk1 hFc hP1 hD1
  refine w_i (y := bb) hw ?_
  generalize H1 = H at hP hS ⊢
  refine W.cs (cells' := cells + c1) (slots' := slots + z1) rfl rfl ?_
  refine lv_istore (lv' := [(6, .int bb), (5, .int kk), (4, .int (nI i)), (3, .ref o), (2, .ref (md 100)), (1, .ref (ad1 11 0)), (0, .ref b)]) hx hb d_law_1331 hl (by decide) rfl (fun ls hl => ?_)
  refine lv_aload_n hx hb d_law_1333 rfl (lv_at hl 4 rfl) ?_
  have hPc := p_r hP
  have hDc := d_r hD
  have hKc := hK.sub (tys' := mty mc) [8, 9, 10, 11, 12] rfl
  have hFc := fr_all hDc hS hA
  refine va_calli (va_runV (As := []) (rest := []) ⟨hx, hb, hml, hown, hts⟩ (g_rthrown l D H.size (md := md) (mc := mc) (show m_rthrown S1 = some (S1, S1.i 0) from rfl)) (cw_v 0 hts kw_1618 kw_1615 kw_1616 kw_1617 kw_11 rfl rfl (by decide +kernel) ⟨Nat.le_of_ble_eq_true rfl, Nat.le_of_ble_eq_true rfl⟩) ⟨g_blind, va_recv hKc hPc (ci := 12) (q0 := 0) rfl rfl, fun U hU hW => g_pre hU hW hPc hKc hDc⟩ rfl rfl hl.1 rfl (lv_room (Nat.le_of_ble_eq_true rfl)) d_law_1334 ⟨by show cells + c1 + 0 ≤ 601024; omega, by show slots + z1 + 0 ≤ 7293034; omega⟩) hS (fun q _ h => hFc q h) hFc (fun rt u t H1 locs ht hvm hw hB hz1 hk1 hS => ?_)
  obtain ⟨hP1, -, hD1⟩ := hB
  rw [ht] at hP1
  obtain ⟨hP, hD⟩ := join_r hP hD hk1 hFc hP1 hD1
  refine w_i (y := kk) (hw.trans e3) ?_
  generalize H1 = H at hP hS ⊢
  refine W.cs (cells' := cells + c1) (slots' := slots + z1) rfl rfl ?_
  refine lv_iload hx hb d_law_1337 (lv_at hl 1 rfl) ?_
  refine lv_icmp_eq (tgt := 1344) hx hb d_law_1339 (by decide) (fun _ => ?_) (fun h => absurd rfl h)
  refine lv_iload hx hb d_law_1344 (lv_at hl 1 rfl) ?_
  refine lv_if_ne (tgt := 1361) hx hb d_law_1346 (by decide) (fun ck => ?_) (fun ck => ?_)
  · refine lv_goto (tgt := 2391) hx hb d_law_1361 (by decide) ?_
    exact hk ad1 ov1 N1 C1 S1 A1 rd1 c1 z1 H _ ls ⟨⟨hx, hb, hr, hml, hown, hts, hX, hbl, hlocks, hL⟩, ⟨hev, hE, hN, hH⟩, ⟨hP, hK, hD, hS, lv_sub hl [2, 3, 4, 5, 6] rfl⟩, hI1⟩ e5 e6 e7 e8 e9
  · refine lv_aload_n hx hb d_law_1349 rfl (lv_at hl 3 rfl) ?_
    refine lv_iconst (v := 0) hx hb d_law_1350 (by decide) ?_
    refine va_lald hx hb hK hP (cw ad1 cc N1 C1).length 7 at_mid rfl (i := 0) (vp_in_nI (n := 0) (N := 1) (by decide) (by decide)) d_law_1351 ?_
    refine w_l (y := ov1 0) rfl ?_
    refine lv_iload hx hb d_law_1352 (lv_at hl 0 rfl) ?_
    refine lv_i2l hx hb d_law_1354 rfl ?_
    refine w_l (y := ov1 0) (e4 ck).symm ?_
    refine W.lcmp hx hb d_law_1355 ?_
    refine w_i (y := 0) (by simp [lg_cmp]) ?_
    refine lv_if_eq (tgt := 1361) hx hb d_law_1356 (by decide) (fun _ => ?_) (fun h => absurd rfl h)
    refine lv_goto (tgt := 2391) hx hb d_law_1361 (by decide) ?_
    exact hk ad1 ov1 N1 C1 S1 A1 rd1 c1 z1 H _ ls ⟨⟨hx, hb, hr, hml, hown, hts, hX, hbl, hlocks, hL⟩, ⟨hev, hE, hN, hH⟩, ⟨hP, hK, hD, hS, lv_sub hl [2, 3, 4, 5, 6] rfl⟩, hI1⟩ e5 e6 e7 e8 e9
theorem d_law_1364 : decode code 1364 = .ok (.aload_n 1, 1) := by decide +kernel
theorem d_law_1365 : decode code 1365 = .ok (.aload_n 0, 1) := by decide +kernel
theorem d_law_1366 : decode code 1366 = .ok (.iload 4, 2) := by decide +kernel
theorem d_law_1368 : decode code 1368 = .ok (.iconst 1, 1) := by decide +kernel
theorem d_law_1369 : decode code 1369 = .ok (.iadd, 1) := by decide +kernel
theorem d_law_1370 : decode code 1370 = .ok (.iaload, 1) := by decide +kernel
theorem d_law_1371 : decode code 1371 = .ok (.aload_n 0, 1) := by decide +kernel
theorem d_law_1372 : decode code 1372 = .ok (.iload 4, 2) := by decide +kernel
theorem d_law_1374 : decode code 1374 = .ok (.iconst 2, 1) := by decide +kernel
theorem d_law_1375 : decode code 1375 = .ok (.iadd, 1) := by decide +kernel
theorem d_law_1376 : decode code 1376 = .ok (.iaload, 1) := by decide +kernel
theorem d_law_1377 : decode code 1377 = .ok (.aload_n 0, 1) := by decide +kernel
theorem d_law_1378 : decode code 1378 = .ok (.iload 4, 2) := by decide +kernel
theorem d_law_1380 : decode code 1380 = .ok (.iconst 3, 1) := by decide +kernel
theorem d_law_1381 : decode code 1381 = .ok (.iadd, 1) := by decide +kernel
theorem d_law_1382 : decode code 1382 = .ok (.iaload, 1) := by decide +kernel
theorem d_law_1383 : decode code 1383 = .ok (.aload_n 3, 1) := by decide +kernel
theorem d_law_1384 : decode code 1384 = .ok (.invokestatic 168, 3) := by decide +kernel
theorem d_law_1387 : decode code 1387 = .ok (.istore 5, 2) := by decide +kernel
theorem d_law_1389 : decode code 1389 = .ok (.aload_n 2, 1) := by decide +kernel
theorem d_law_1390 : decode code 1390 = .ok (.aload_n 0, 1) := by decide +kernel
theorem d_law_1391 : decode code 1391 = .ok (.iload 4, 2) := by decide +kernel
theorem d_law_1393 : decode code 1393 = .ok (.iconst 1, 1) := by decide +kernel
theorem d_law_1394 : decode code 1394 = .ok (.iadd, 1) := by decide +kernel
theorem d_law_1395 : decode code 1395 = .ok (.iaload, 1) := by decide +kernel
theorem d_law_1396 : decode code 1396 = .ok (.aload_n 0, 1) := by decide +kernel
theorem d_law_1397 : decode code 1397 = .ok (.iload 4, 2) := by decide +kernel
theorem d_law_1399 : decode code 1399 = .ok (.iconst 2, 1) := by decide +kernel
theorem d_law_1400 : decode code 1400 = .ok (.iadd, 1) := by decide +kernel
theorem d_law_1401 : decode code 1401 = .ok (.iaload, 1) := by decide +kernel
theorem d_law_1402 : decode code 1402 = .ok (.aload_n 0, 1) := by decide +kernel
theorem d_law_1403 : decode code 1403 = .ok (.iload 4, 2) := by decide +kernel
theorem d_law_1405 : decode code 1405 = .ok (.iconst 3, 1) := by decide +kernel
theorem d_law_1406 : decode code 1406 = .ok (.iadd, 1) := by decide +kernel
theorem d_law_1407 : decode code 1407 = .ok (.iaload, 1) := by decide +kernel
theorem d_law_1408 : decode code 1408 = .ok (.invokevirtual 170, 3) := by decide +kernel
theorem d_law_1411 : decode code 1411 = .ok (.istore 6, 2) := by decide +kernel
theorem d_law_1413 : decode code 1413 = .ok (.aload_n 2, 1) := by decide +kernel
theorem d_law_1414 : decode code 1414 = .ok (.invokevirtual 120, 3) := by decide +kernel
theorem d_law_1417 : decode code 1417 = .ok (.iload 5, 2) := by decide +kernel
theorem d_law_1419 : decode code 1419 = .ok (.if_icmp .eq 5, 3) := by decide +kernel
theorem d_law_1424 : decode code 1424 = .ok (.iload 5, 2) := by decide +kernel
theorem d_law_1426 : decode code 1426 = .ok (.ifCond .ne 15, 3) := by decide +kernel
theorem d_law_1441 : decode code 1441 = .ok (.goto 950, 3) := by decide +kernel
theorem d_law_1429 : decode code 1429 = .ok (.aload_n 3, 1) := by decide +kernel
theorem d_law_1430 : decode code 1430 = .ok (.iconst 0, 1) := by decide +kernel
theorem d_law_1431 : decode code 1431 = .ok (.laload, 1) := by decide +kernel
theorem d_law_1432 : decode code 1432 = .ok (.iload 6, 2) := by decide +kernel
theorem d_law_1434 : decode code 1434 = .ok (.i2l, 1) := by decide +kernel
theorem d_law_1435 : decode code 1435 = .ok (.lcmp, 1) := by decide +kernel
theorem d_law_1436 : decode code 1436 = .ok (.ifCond .eq 5, 3) := by decide +kernel
set_option maxHeartbeats 8000000 in
set_option maxRecDepth 100000 in
theorem law_k13 {p : Program} {e : Env} {s : State} {m : MethodId} {below : List Frame} {meth : Method} {c : Code} (l : Launch) (hfl : l.flags = flags0) {b L i : Nat} {xs : Nat → Int32} {D : va_G} {cc : Nat → ClassId} {md : Nat → Nat} {mc : Nat → ClassId} {o : Nat} {cL : ClassId} {sad sav : Nat → Nat} {ad : Nat → Nat → Nat} {ov : Nat → Int64} {N : Nat → Nat} {C : CS} {S : MS} {A : AS} {rd cells slots : Nat} {H : Heap} {locs : List Loc} {ls : Array Slot} (h : LwW p s m meth c b L xs D cc md mc o cL sad sav i ad ov N C S A rd H locs ls) (hi7 : i + 7 ≤ L) (hrd : rd + 60000 < 2 ^ 30) (hcb : cells ≤ 500000) (hsb : slots ≤ 6000000) (hk : ∀ (ad1 : Nat → Nat → Nat) (ov1 : Nat → Int64) (N1 : Nat → Nat) (C1 : CS) (S1 : MS) (A1 : AS) (rd1 c1 z1 : Nat) (H1 : Heap) (locs1 : List Loc) (ls1 : Array Slot), LwW p s m meth c b L xs D cc md mc o cL sad sav i ad1 ov1 N1 C1 S1 A1 rd1 H1 locs1 ls1 → A.n ≤ A1.n → A.m ≤ A1.m → rd1 ≤ rd + 50000 → c1 ≤ 2 * (A1.n - A.n) + 3 * (A1.m - A.m) + 1 → z1 ≤ 23 * (A1.n - A.n) + 40 * (A1.m - A.m) + 6 → W p l e room_1 s m #[Value.ref b] below meth c H1 locs1 (cells + c1) (slots + z1) (lw_Z below #[Value.ref b] s) (F0 m 2391 ls1 [])) : W p l e room_1 s m #[Value.ref b] below meth c H locs cells slots (lw_Z below #[Value.ref b] s) (F0 m 1364 ls []) := by
  obtain ⟨⟨hx, hb, hr, hml, hown, hts, hX, hbl, hlocks, hL⟩, ⟨hev, hE, hN, hH⟩, ⟨hP, hK, hD, hS, hl⟩, hI⟩ := h
  have hNS : tx_NS (lA s) s := fun q cell hq hc => absurd (Array.getElem?_eq_some_iff.mp hc).1 (Nat.not_lt.mpr hq)
  have hA : ∀ q : Nat, s.heap.size ≤ q → lA s q := fun _ h => h
  have hbA : ¬ lA s b := Nat.not_le.mpr hbl
  have h11 : N 11 = 1 := hI.2.1.nn.2.2.2.2.2.2.2.2.2.2.2.1
  refine lv_aload_n hx hb d_law_1364 rfl (lv_at hl 3 rfl) ?_
  refine lv_aload_n hx hb d_law_1365 rfl (lv_at hl 4 rfl) ?_
  refine lv_iload hx hb d_law_1366 (lv_at hl 0 rfl) ?_
  refine lv_iconst (v := 1) hx hb d_law_1368 (by decide) ?_
  refine lv_iadd hx hb d_law_1369 ?_
  refine w_i (y := nI (i + 1)) (nI_add i 1) ?_
  refine va_sld hx hb hX hbl hbA hS (i := nI (i + 1)) (vp_in_nI (n := i + 1) (N := L) (by omega) (by omega)) d_law_1370 ?_
  refine w_i (y := xs (i + 1)) (by rw [cl_nI (by omega)]) ?_
  refine lv_aload_n hx hb d_law_1371 rfl (lv_at hl 4 rfl) ?_
  refine lv_iload hx hb d_law_1372 (lv_at hl 0 rfl) ?_
  refine lv_iconst (v := 2) hx hb d_law_1374 (by decide) ?_
  refine lv_iadd hx hb d_law_1375 ?_
  refine w_i (y := nI (i + 2)) (nI_add i 2) ?_
  refine va_sld hx hb hX hbl hbA hS (i := nI (i + 2)) (vp_in_nI (n := i + 2) (N := L) (by omega) (by omega)) d_law_1376 ?_
  refine w_i (y := xs (i + 2)) (by rw [cl_nI (by omega)]) ?_
  refine lv_aload_n hx hb d_law_1377 rfl (lv_at hl 4 rfl) ?_
  refine lv_iload hx hb d_law_1378 (lv_at hl 0 rfl) ?_
  refine lv_iconst (v := 3) hx hb d_law_1380 (by decide) ?_
  refine lv_iadd hx hb d_law_1381 ?_
  refine w_i (y := nI (i + 3)) (nI_add i 3) ?_
  refine va_sld hx hb hX hbl hbA hS (i := nI (i + 3)) (vp_in_nI (n := i + 3) (N := L) (by omega) (by omega)) d_law_1382 ?_
  refine w_i (y := xs (i + 3)) (by rw [cl_nI (by omega)]) ?_
  refine lv_aload_n hx hb d_law_1383 rfl (lv_at hl 1 rfl) ?_
  obtain ⟨N1, C1, ov1, kk, c1, z1, S1, bb, A1, rd1, e1, e2, e3, e4, hI1, e5, e6, e7, e8, e9⟩ := st_look (ov := ov) hI hrd (xs (i + 1)) (xs (i + 2)) (xs (i + 3))
  have hn1 := hI1.2.2.1.1.1
  have hm1 := hI1.2.2.1.1.2.1
  have hPh := p_l hP
  have hDh := d_l hD
  have hKh := hK.sub (tys' := cty cc ++ [(cL, .long)]) [0, 1, 2, 3, 4, 5, 6, 7] rfl
  have hFc := fr_all hDh hS hA
  refine va_calli (tx_runSW (As := [.ref (ad 11 0), .int (xs (i + 1)), .int (xs (i + 2)), .int (xs (i + 3)), .ref o]) (rest := []) ⟨hx, hb, hml, hown, hts⟩ (g_h_look l hfl D H.size (ad := ad) (cc := cc) (sad := sad) (sav := sav) (cL := cL) (a := o) e1) (cw_w 5 hts kw_1113 kw_1111 kw_1112 kw_0 rfl rfl (by decide +kernel) ⟨Nat.le_of_ble_eq_true rfl, Nat.le_of_ble_eq_true rfl⟩) ⟨h_blind, fun U hU hW => h_pre hU hW hPh hKh hDh hev hE hN hH hNS hS hFc⟩ rfl rfl hl.1 rfl (lv_room (Nat.le_of_ble_eq_true rfl)) d_law_1384 ⟨by show cells + c1 ≤ 601024; omega, by show slots + z1 ≤ 7293034; omega⟩) hS (fun q _ h => hFc q h) hFc (fun rz ad1 t H1 locs ht hvm hw hB hz1 hk1 hS => ?_)
  obtain ⟨hXt, hP1, -, hD1⟩ := hB
  rw [ht] at hP1
  obtain ⟨hP, hD⟩ := join_w hP hD hk1 hFc hP1 hD1
  refine w_i (y := kk) hw ?_
  have had : ad1 11 0 = ad 11 0 := hXt.2 11 0 (by rw [h11]; decide)
  rw [← had] at hl
  generalize H1 = H at hP hS ⊢
  refine W.cs (cells' := cells + c1) (slots' := slots + z1) rfl rfl ?_
  refine lv_istore (lv' := [(5, .int kk), (4, .int (nI i)), (3, .ref o), (2, .ref (md 100)), (1, .ref (ad1 11 0)), (0, .ref b)]) hx hb d_law_1387 hl (by decide) rfl (fun ls hl => ?_)
  refine lv_aload_n hx hb d_law_1389 rfl (lv_at hl 3 rfl) ?_
  refine lv_aload_n hx hb d_law_1390 rfl (lv_at hl 5 rfl) ?_
  refine lv_iload hx hb d_law_1391 (lv_at hl 1 rfl) ?_
  refine lv_iconst (v := 1) hx hb d_law_1393 (by decide) ?_
  refine lv_iadd hx hb d_law_1394 ?_
  refine w_i (y := nI (i + 1)) (nI_add i 1) ?_
  refine va_sld hx hb hX hbl hbA hS (i := nI (i + 1)) (vp_in_nI (n := i + 1) (N := L) (by omega) (by omega)) d_law_1395 ?_
  refine w_i (y := xs (i + 1)) (by rw [cl_nI (by omega)]) ?_
  refine lv_aload_n hx hb d_law_1396 rfl (lv_at hl 5 rfl) ?_
  refine lv_iload hx hb d_law_1397 (lv_at hl 1 rfl) ?_
  refine lv_iconst (v := 2) hx hb d_law_1399 (by decide) ?_
  refine lv_iadd hx hb d_law_1400 ?_
  refine w_i (y := nI (i + 2)) (nI_add i 2) ?_
  refine va_sld hx hb hX hbl hbA hS (i := nI (i + 2)) (vp_in_nI (n := i + 2) (N := L) (by omega) (by omega)) d_law_1401 ?_
  refine w_i (y := xs (i + 2)) (by rw [cl_nI (by omega)]) ?_
  refine lv_aload_n hx hb d_law_1402 rfl (lv_at hl 5 rfl) ?_
  refine lv_iload hx hb d_law_1403 (lv_at hl 1 rfl) ?_
  refine lv_iconst (v := 3) hx hb d_law_1405 (by decide) ?_
  refine lv_iadd hx hb d_law_1406 ?_
  refine w_i (y := nI (i + 3)) (nI_add i 3) ?_
  refine va_sld hx hb hX hbl hbA hS (i := nI (i + 3)) (vp_in_nI (n := i + 3) (N := L) (by omega) (by omega)) d_law_1407 ?_
  refine w_i (y := xs (i + 3)) (by rw [cl_nI (by omega)]) ?_
  have hPc := p_r hP
  have hDc := d_r hD
  have hKc := hK.sub (tys' := mty mc) [8, 9, 10, 11, 12] rfl
  have hFc := fr_all hDc hS hA
  refine va_calli (va_runV (As := [.int (xs (i + 1)), .int (xs (i + 2)), .int (xs (i + 3))]) (rest := []) ⟨hx, hb, hml, hown, hts⟩ (g_rlook l D H.size (md := md) (mc := mc) e2) (cw_v 3 hts kw_1851 kw_1848 kw_1849 kw_1850 kw_11 rfl rfl (by decide +kernel) ⟨Nat.le_of_ble_eq_true rfl, Nat.le_of_ble_eq_true rfl⟩) ⟨g_blind, va_recv hKc hPc (ci := 12) (q0 := 0) rfl rfl, fun U hU hW => g_pre hU hW hPc hKc hDc⟩ rfl rfl hl.1 rfl (lv_room (Nat.le_of_ble_eq_true rfl)) d_law_1408 ⟨by show cells + c1 + 0 ≤ 601024; omega, by show slots + z1 + 0 ≤ 7293034; omega⟩) hS (fun q _ h => hFc q h) hFc (fun rb u t H1 locs ht hvm hw hB hz1 hk1 hS => ?_)
  obtain ⟨hP1, -, hD1⟩ := hB
  rw [ht] at hP1
  obtain ⟨hP, hD⟩ := join_r hP hD hk1 hFc hP1 hD1
  refine w_i (y := bb) hw ?_
  generalize H1 = H at hP hS ⊢
  refine W.cs (cells' := cells + c1) (slots' := slots + z1) rfl rfl ?_
  refine lv_istore (lv' := [(6, .int bb), (5, .int kk), (4, .int (nI i)), (3, .ref o), (2, .ref (md 100)), (1, .ref (ad1 11 0)), (0, .ref b)]) hx hb d_law_1411 hl (by decide) rfl (fun ls hl => ?_)
  refine lv_aload_n hx hb d_law_1413 rfl (lv_at hl 4 rfl) ?_
  have hPc := p_r hP
  have hDc := d_r hD
  have hKc := hK.sub (tys' := mty mc) [8, 9, 10, 11, 12] rfl
  have hFc := fr_all hDc hS hA
  refine va_calli (va_runV (As := []) (rest := []) ⟨hx, hb, hml, hown, hts⟩ (g_rthrown l D H.size (md := md) (mc := mc) (show m_rthrown S1 = some (S1, S1.i 0) from rfl)) (cw_v 0 hts kw_1618 kw_1615 kw_1616 kw_1617 kw_11 rfl rfl (by decide +kernel) ⟨Nat.le_of_ble_eq_true rfl, Nat.le_of_ble_eq_true rfl⟩) ⟨g_blind, va_recv hKc hPc (ci := 12) (q0 := 0) rfl rfl, fun U hU hW => g_pre hU hW hPc hKc hDc⟩ rfl rfl hl.1 rfl (lv_room (Nat.le_of_ble_eq_true rfl)) d_law_1414 ⟨by show cells + c1 + 0 ≤ 601024; omega, by show slots + z1 + 0 ≤ 7293034; omega⟩) hS (fun q _ h => hFc q h) hFc (fun rt u t H1 locs ht hvm hw hB hz1 hk1 hS => ?_)
  obtain ⟨hP1, -, hD1⟩ := hB
  rw [ht] at hP1
  obtain ⟨hP, hD⟩ := join_r hP hD hk1 hFc hP1 hD1
  refine w_i (y := kk) (hw.trans e3) ?_
  generalize H1 = H at hP hS ⊢
  refine W.cs (cells' := cells + c1) (slots' := slots + z1) rfl rfl ?_
  refine lv_iload hx hb d_law_1417 (lv_at hl 1 rfl) ?_
  refine lv_icmp_eq (tgt := 1424) hx hb d_law_1419 (by decide) (fun _ => ?_) (fun h => absurd rfl h)
  refine lv_iload hx hb d_law_1424 (lv_at hl 1 rfl) ?_
  refine lv_if_ne (tgt := 1441) hx hb d_law_1426 (by decide) (fun ck => ?_) (fun ck => ?_)
  · refine lv_goto (tgt := 2391) hx hb d_law_1441 (by decide) ?_
    exact hk ad1 ov1 N1 C1 S1 A1 rd1 c1 z1 H _ ls ⟨⟨hx, hb, hr, hml, hown, hts, hX, hbl, hlocks, hL⟩, ⟨hev, hE, hN, hH⟩, ⟨hP, hK, hD, hS, lv_sub hl [2, 3, 4, 5, 6] rfl⟩, hI1⟩ e5 e6 e7 e8 e9
  · refine lv_aload_n hx hb d_law_1429 rfl (lv_at hl 3 rfl) ?_
    refine lv_iconst (v := 0) hx hb d_law_1430 (by decide) ?_
    refine va_lald hx hb hK hP (cw ad1 cc N1 C1).length 7 at_mid rfl (i := 0) (vp_in_nI (n := 0) (N := 1) (by decide) (by decide)) d_law_1431 ?_
    refine w_l (y := ov1 0) rfl ?_
    refine lv_iload hx hb d_law_1432 (lv_at hl 0 rfl) ?_
    refine lv_i2l hx hb d_law_1434 rfl ?_
    refine w_l (y := ov1 0) (e4 ck).symm ?_
    refine W.lcmp hx hb d_law_1435 ?_
    refine w_i (y := 0) (by simp [lg_cmp]) ?_
    refine lv_if_eq (tgt := 1441) hx hb d_law_1436 (by decide) (fun _ => ?_) (fun h => absurd rfl h)
    refine lv_goto (tgt := 2391) hx hb d_law_1441 (by decide) ?_
    exact hk ad1 ov1 N1 C1 S1 A1 rd1 c1 z1 H _ ls ⟨⟨hx, hb, hr, hml, hown, hts, hX, hbl, hlocks, hL⟩, ⟨hev, hE, hN, hH⟩, ⟨hP, hK, hD, hS, lv_sub hl [2, 3, 4, 5, 6] rfl⟩, hI1⟩ e5 e6 e7 e8 e9
theorem d_law_1444 : decode code 1444 = .ok (.aload_n 1, 1) := by decide +kernel
theorem d_law_1445 : decode code 1445 = .ok (.aload_n 0, 1) := by decide +kernel
theorem d_law_1446 : decode code 1446 = .ok (.iload 4, 2) := by decide +kernel
theorem d_law_1448 : decode code 1448 = .ok (.iconst 1, 1) := by decide +kernel
theorem d_law_1449 : decode code 1449 = .ok (.iadd, 1) := by decide +kernel
theorem d_law_1450 : decode code 1450 = .ok (.iaload, 1) := by decide +kernel
theorem d_law_1451 : decode code 1451 = .ok (.aload_n 0, 1) := by decide +kernel
theorem d_law_1452 : decode code 1452 = .ok (.iload 4, 2) := by decide +kernel
theorem d_law_1454 : decode code 1454 = .ok (.iconst 2, 1) := by decide +kernel
theorem d_law_1455 : decode code 1455 = .ok (.iadd, 1) := by decide +kernel
theorem d_law_1456 : decode code 1456 = .ok (.iaload, 1) := by decide +kernel
theorem d_law_1457 : decode code 1457 = .ok (.aload_n 0, 1) := by decide +kernel
theorem d_law_1458 : decode code 1458 = .ok (.iload 4, 2) := by decide +kernel
theorem d_law_1460 : decode code 1460 = .ok (.iconst 3, 1) := by decide +kernel
theorem d_law_1461 : decode code 1461 = .ok (.iadd, 1) := by decide +kernel
theorem d_law_1462 : decode code 1462 = .ok (.iaload, 1) := by decide +kernel
theorem d_law_1463 : decode code 1463 = .ok (.aload_n 3, 1) := by decide +kernel
theorem d_law_1464 : decode code 1464 = .ok (.invokestatic 171, 3) := by decide +kernel
theorem d_law_1467 : decode code 1467 = .ok (.istore 5, 2) := by decide +kernel
theorem d_law_1469 : decode code 1469 = .ok (.aload_n 2, 1) := by decide +kernel
theorem d_law_1470 : decode code 1470 = .ok (.aload_n 0, 1) := by decide +kernel
theorem d_law_1471 : decode code 1471 = .ok (.iload 4, 2) := by decide +kernel
theorem d_law_1473 : decode code 1473 = .ok (.iconst 1, 1) := by decide +kernel
theorem d_law_1474 : decode code 1474 = .ok (.iadd, 1) := by decide +kernel
theorem d_law_1475 : decode code 1475 = .ok (.iaload, 1) := by decide +kernel
theorem d_law_1476 : decode code 1476 = .ok (.aload_n 0, 1) := by decide +kernel
theorem d_law_1477 : decode code 1477 = .ok (.iload 4, 2) := by decide +kernel
theorem d_law_1479 : decode code 1479 = .ok (.iconst 2, 1) := by decide +kernel
theorem d_law_1480 : decode code 1480 = .ok (.iadd, 1) := by decide +kernel
theorem d_law_1481 : decode code 1481 = .ok (.iaload, 1) := by decide +kernel
theorem d_law_1482 : decode code 1482 = .ok (.aload_n 0, 1) := by decide +kernel
theorem d_law_1483 : decode code 1483 = .ok (.iload 4, 2) := by decide +kernel
theorem d_law_1485 : decode code 1485 = .ok (.iconst 3, 1) := by decide +kernel
theorem d_law_1486 : decode code 1486 = .ok (.iadd, 1) := by decide +kernel
theorem d_law_1487 : decode code 1487 = .ok (.iaload, 1) := by decide +kernel
theorem d_law_1488 : decode code 1488 = .ok (.invokevirtual 173, 3) := by decide +kernel
theorem d_law_1491 : decode code 1491 = .ok (.istore 6, 2) := by decide +kernel
theorem d_law_1493 : decode code 1493 = .ok (.aload_n 2, 1) := by decide +kernel
theorem d_law_1494 : decode code 1494 = .ok (.invokevirtual 120, 3) := by decide +kernel
theorem d_law_1497 : decode code 1497 = .ok (.iload 5, 2) := by decide +kernel
theorem d_law_1499 : decode code 1499 = .ok (.if_icmp .eq 5, 3) := by decide +kernel
theorem d_law_1504 : decode code 1504 = .ok (.iload 5, 2) := by decide +kernel
theorem d_law_1506 : decode code 1506 = .ok (.ifCond .ne 15, 3) := by decide +kernel
theorem d_law_1521 : decode code 1521 = .ok (.goto 870, 3) := by decide +kernel
theorem d_law_1509 : decode code 1509 = .ok (.aload_n 3, 1) := by decide +kernel
theorem d_law_1510 : decode code 1510 = .ok (.iconst 0, 1) := by decide +kernel
theorem d_law_1511 : decode code 1511 = .ok (.laload, 1) := by decide +kernel
theorem d_law_1512 : decode code 1512 = .ok (.iload 6, 2) := by decide +kernel
theorem d_law_1514 : decode code 1514 = .ok (.i2l, 1) := by decide +kernel
theorem d_law_1515 : decode code 1515 = .ok (.lcmp, 1) := by decide +kernel
theorem d_law_1516 : decode code 1516 = .ok (.ifCond .eq 5, 3) := by decide +kernel
set_option maxHeartbeats 8000000 in
set_option maxRecDepth 100000 in
theorem law_k14 {p : Program} {e : Env} {s : State} {m : MethodId} {below : List Frame} {meth : Method} {c : Code} (l : Launch) (hfl : l.flags = flags0) {b L i : Nat} {xs : Nat → Int32} {D : va_G} {cc : Nat → ClassId} {md : Nat → Nat} {mc : Nat → ClassId} {o : Nat} {cL : ClassId} {sad sav : Nat → Nat} {ad : Nat → Nat → Nat} {ov : Nat → Int64} {N : Nat → Nat} {C : CS} {S : MS} {A : AS} {rd cells slots : Nat} {H : Heap} {locs : List Loc} {ls : Array Slot} (h : LwW p s m meth c b L xs D cc md mc o cL sad sav i ad ov N C S A rd H locs ls) (hi7 : i + 7 ≤ L) (hrd : rd + 60000 < 2 ^ 30) (hcb : cells ≤ 500000) (hsb : slots ≤ 6000000) (hk : ∀ (ad1 : Nat → Nat → Nat) (ov1 : Nat → Int64) (N1 : Nat → Nat) (C1 : CS) (S1 : MS) (A1 : AS) (rd1 c1 z1 : Nat) (H1 : Heap) (locs1 : List Loc) (ls1 : Array Slot), LwW p s m meth c b L xs D cc md mc o cL sad sav i ad1 ov1 N1 C1 S1 A1 rd1 H1 locs1 ls1 → A.n ≤ A1.n → A.m ≤ A1.m → rd1 ≤ rd + 50000 → c1 ≤ 2 * (A1.n - A.n) + 3 * (A1.m - A.m) + 1 → z1 ≤ 23 * (A1.n - A.n) + 40 * (A1.m - A.m) + 6 → W p l e room_1 s m #[Value.ref b] below meth c H1 locs1 (cells + c1) (slots + z1) (lw_Z below #[Value.ref b] s) (F0 m 2391 ls1 [])) : W p l e room_1 s m #[Value.ref b] below meth c H locs cells slots (lw_Z below #[Value.ref b] s) (F0 m 1444 ls []) := by
  obtain ⟨⟨hx, hb, hr, hml, hown, hts, hX, hbl, hlocks, hL⟩, ⟨hev, hE, hN, hH⟩, ⟨hP, hK, hD, hS, hl⟩, hI⟩ := h
  have hNS : tx_NS (lA s) s := fun q cell hq hc => absurd (Array.getElem?_eq_some_iff.mp hc).1 (Nat.not_lt.mpr hq)
  have hA : ∀ q : Nat, s.heap.size ≤ q → lA s q := fun _ h => h
  have hbA : ¬ lA s b := Nat.not_le.mpr hbl
  have h11 : N 11 = 1 := hI.2.1.nn.2.2.2.2.2.2.2.2.2.2.2.1
  refine lv_aload_n hx hb d_law_1444 rfl (lv_at hl 3 rfl) ?_
  refine lv_aload_n hx hb d_law_1445 rfl (lv_at hl 4 rfl) ?_
  refine lv_iload hx hb d_law_1446 (lv_at hl 0 rfl) ?_
  refine lv_iconst (v := 1) hx hb d_law_1448 (by decide) ?_
  refine lv_iadd hx hb d_law_1449 ?_
  refine w_i (y := nI (i + 1)) (nI_add i 1) ?_
  refine va_sld hx hb hX hbl hbA hS (i := nI (i + 1)) (vp_in_nI (n := i + 1) (N := L) (by omega) (by omega)) d_law_1450 ?_
  refine w_i (y := xs (i + 1)) (by rw [cl_nI (by omega)]) ?_
  refine lv_aload_n hx hb d_law_1451 rfl (lv_at hl 4 rfl) ?_
  refine lv_iload hx hb d_law_1452 (lv_at hl 0 rfl) ?_
  refine lv_iconst (v := 2) hx hb d_law_1454 (by decide) ?_
  refine lv_iadd hx hb d_law_1455 ?_
  refine w_i (y := nI (i + 2)) (nI_add i 2) ?_
  refine va_sld hx hb hX hbl hbA hS (i := nI (i + 2)) (vp_in_nI (n := i + 2) (N := L) (by omega) (by omega)) d_law_1456 ?_
  refine w_i (y := xs (i + 2)) (by rw [cl_nI (by omega)]) ?_
  refine lv_aload_n hx hb d_law_1457 rfl (lv_at hl 4 rfl) ?_
  refine lv_iload hx hb d_law_1458 (lv_at hl 0 rfl) ?_
  refine lv_iconst (v := 3) hx hb d_law_1460 (by decide) ?_
  refine lv_iadd hx hb d_law_1461 ?_
  refine w_i (y := nI (i + 3)) (nI_add i 3) ?_
  refine va_sld hx hb hX hbl hbA hS (i := nI (i + 3)) (vp_in_nI (n := i + 3) (N := L) (by omega) (by omega)) d_law_1462 ?_
  refine w_i (y := xs (i + 3)) (by rw [cl_nI (by omega)]) ?_
  refine lv_aload_n hx hb d_law_1463 rfl (lv_at hl 1 rfl) ?_
  obtain ⟨N1, C1, ov1, kk, c1, z1, S1, bb, A1, rd1, e1, e2, e3, e4, hI1, e5, e6, e7, e8, e9⟩ := st_object (ov := ov) hI hrd (xs (i + 1)) (xs (i + 2)) (xs (i + 3))
  have hn1 := hI1.2.2.1.1.1
  have hm1 := hI1.2.2.1.1.2.1
  have hPh := p_l hP
  have hDh := d_l hD
  have hKh := hK.sub (tys' := cty cc ++ [(cL, .long)]) [0, 1, 2, 3, 4, 5, 6, 7] rfl
  have hFc := fr_all hDh hS hA
  refine va_calli (tx_runSW (As := [.ref (ad 11 0), .int (xs (i + 1)), .int (xs (i + 2)), .int (xs (i + 3)), .ref o]) (rest := []) ⟨hx, hb, hml, hown, hts⟩ (g_h_object l hfl D H.size (ad := ad) (cc := cc) (sad := sad) (sav := sav) (cL := cL) (a := o) e1) (cw_w 5 hts kw_1124 kw_1122 kw_1123 kw_0 rfl rfl (by decide +kernel) ⟨Nat.le_of_ble_eq_true rfl, Nat.le_of_ble_eq_true rfl⟩) ⟨h_blind, fun U hU hW => h_pre hU hW hPh hKh hDh hev hE hN hH hNS hS hFc⟩ rfl rfl hl.1 rfl (lv_room (Nat.le_of_ble_eq_true rfl)) d_law_1464 ⟨by show cells + c1 ≤ 601024; omega, by show slots + z1 ≤ 7293034; omega⟩) hS (fun q _ h => hFc q h) hFc (fun rz ad1 t H1 locs ht hvm hw hB hz1 hk1 hS => ?_)
  obtain ⟨hXt, hP1, -, hD1⟩ := hB
  rw [ht] at hP1
  obtain ⟨hP, hD⟩ := join_w hP hD hk1 hFc hP1 hD1
  refine w_i (y := kk) hw ?_
  have had : ad1 11 0 = ad 11 0 := hXt.2 11 0 (by rw [h11]; decide)
  rw [← had] at hl
  generalize H1 = H at hP hS ⊢
  refine W.cs (cells' := cells + c1) (slots' := slots + z1) rfl rfl ?_
  refine lv_istore (lv' := [(5, .int kk), (4, .int (nI i)), (3, .ref o), (2, .ref (md 100)), (1, .ref (ad1 11 0)), (0, .ref b)]) hx hb d_law_1467 hl (by decide) rfl (fun ls hl => ?_)
  refine lv_aload_n hx hb d_law_1469 rfl (lv_at hl 3 rfl) ?_
  refine lv_aload_n hx hb d_law_1470 rfl (lv_at hl 5 rfl) ?_
  refine lv_iload hx hb d_law_1471 (lv_at hl 1 rfl) ?_
  refine lv_iconst (v := 1) hx hb d_law_1473 (by decide) ?_
  refine lv_iadd hx hb d_law_1474 ?_
  refine w_i (y := nI (i + 1)) (nI_add i 1) ?_
  refine va_sld hx hb hX hbl hbA hS (i := nI (i + 1)) (vp_in_nI (n := i + 1) (N := L) (by omega) (by omega)) d_law_1475 ?_
  refine w_i (y := xs (i + 1)) (by rw [cl_nI (by omega)]) ?_
  refine lv_aload_n hx hb d_law_1476 rfl (lv_at hl 5 rfl) ?_
  refine lv_iload hx hb d_law_1477 (lv_at hl 1 rfl) ?_
  refine lv_iconst (v := 2) hx hb d_law_1479 (by decide) ?_
  refine lv_iadd hx hb d_law_1480 ?_
  refine w_i (y := nI (i + 2)) (nI_add i 2) ?_
  refine va_sld hx hb hX hbl hbA hS (i := nI (i + 2)) (vp_in_nI (n := i + 2) (N := L) (by omega) (by omega)) d_law_1481 ?_
  refine w_i (y := xs (i + 2)) (by rw [cl_nI (by omega)]) ?_
  refine lv_aload_n hx hb d_law_1482 rfl (lv_at hl 5 rfl) ?_
  refine lv_iload hx hb d_law_1483 (lv_at hl 1 rfl) ?_
  refine lv_iconst (v := 3) hx hb d_law_1485 (by decide) ?_
  refine lv_iadd hx hb d_law_1486 ?_
  refine w_i (y := nI (i + 3)) (nI_add i 3) ?_
  refine va_sld hx hb hX hbl hbA hS (i := nI (i + 3)) (vp_in_nI (n := i + 3) (N := L) (by omega) (by omega)) d_law_1487 ?_
  refine w_i (y := xs (i + 3)) (by rw [cl_nI (by omega)]) ?_
  have hPc := p_r hP
  have hDc := d_r hD
  have hKc := hK.sub (tys' := mty mc) [8, 9, 10, 11, 12] rfl
  have hFc := fr_all hDc hS hA
  refine va_calli (va_runV (As := [.int (xs (i + 1)), .int (xs (i + 2)), .int (xs (i + 3))]) (rest := []) ⟨hx, hb, hml, hown, hts⟩ (g_robject l D H.size (md := md) (mc := mc) e2) (cw_v 3 hts kw_1859 kw_1856 kw_1857 kw_1858 kw_11 rfl rfl (by decide +kernel) ⟨Nat.le_of_ble_eq_true rfl, Nat.le_of_ble_eq_true rfl⟩) ⟨g_blind, va_recv hKc hPc (ci := 12) (q0 := 0) rfl rfl, fun U hU hW => g_pre hU hW hPc hKc hDc⟩ rfl rfl hl.1 rfl (lv_room (Nat.le_of_ble_eq_true rfl)) d_law_1488 ⟨by show cells + c1 + 0 ≤ 601024; omega, by show slots + z1 + 0 ≤ 7293034; omega⟩) hS (fun q _ h => hFc q h) hFc (fun rb u t H1 locs ht hvm hw hB hz1 hk1 hS => ?_)
  obtain ⟨hP1, -, hD1⟩ := hB
  rw [ht] at hP1
  obtain ⟨hP, hD⟩ := join_r hP hD hk1 hFc hP1 hD1
  refine w_i (y := bb) hw ?_
  generalize H1 = H at hP hS ⊢
  refine W.cs (cells' := cells + c1) (slots' := slots + z1) rfl rfl ?_
  refine lv_istore (lv' := [(6, .int bb), (5, .int kk), (4, .int (nI i)), (3, .ref o), (2, .ref (md 100)), (1, .ref (ad1 11 0)), (0, .ref b)]) hx hb d_law_1491 hl (by decide) rfl (fun ls hl => ?_)
  refine lv_aload_n hx hb d_law_1493 rfl (lv_at hl 4 rfl) ?_
  have hPc := p_r hP
  have hDc := d_r hD
  have hKc := hK.sub (tys' := mty mc) [8, 9, 10, 11, 12] rfl
  have hFc := fr_all hDc hS hA
  refine va_calli (va_runV (As := []) (rest := []) ⟨hx, hb, hml, hown, hts⟩ (g_rthrown l D H.size (md := md) (mc := mc) (show m_rthrown S1 = some (S1, S1.i 0) from rfl)) (cw_v 0 hts kw_1618 kw_1615 kw_1616 kw_1617 kw_11 rfl rfl (by decide +kernel) ⟨Nat.le_of_ble_eq_true rfl, Nat.le_of_ble_eq_true rfl⟩) ⟨g_blind, va_recv hKc hPc (ci := 12) (q0 := 0) rfl rfl, fun U hU hW => g_pre hU hW hPc hKc hDc⟩ rfl rfl hl.1 rfl (lv_room (Nat.le_of_ble_eq_true rfl)) d_law_1494 ⟨by show cells + c1 + 0 ≤ 601024; omega, by show slots + z1 + 0 ≤ 7293034; omega⟩) hS (fun q _ h => hFc q h) hFc (fun rt u t H1 locs ht hvm hw hB hz1 hk1 hS => ?_)
  obtain ⟨hP1, -, hD1⟩ := hB
  rw [ht] at hP1
  obtain ⟨hP, hD⟩ := join_r hP hD hk1 hFc hP1 hD1
  refine w_i (y := kk) (hw.trans e3) ?_
  generalize H1 = H at hP hS ⊢
  refine W.cs (cells' := cells + c1) (slots' := slots + z1) rfl rfl ?_
  refine lv_iload hx hb d_law_1497 (lv_at hl 1 rfl) ?_
  refine lv_icmp_eq (tgt := 1504) hx hb d_law_1499 (by decide) (fun _ => ?_) (fun h => absurd rfl h)
  refine lv_iload hx hb d_law_1504 (lv_at hl 1 rfl) ?_
  refine lv_if_ne (tgt := 1521) hx hb d_law_1506 (by decide) (fun ck => ?_) (fun ck => ?_)
  · refine lv_goto (tgt := 2391) hx hb d_law_1521 (by decide) ?_
    exact hk ad1 ov1 N1 C1 S1 A1 rd1 c1 z1 H _ ls ⟨⟨hx, hb, hr, hml, hown, hts, hX, hbl, hlocks, hL⟩, ⟨hev, hE, hN, hH⟩, ⟨hP, hK, hD, hS, lv_sub hl [2, 3, 4, 5, 6] rfl⟩, hI1⟩ e5 e6 e7 e8 e9
  · refine lv_aload_n hx hb d_law_1509 rfl (lv_at hl 3 rfl) ?_
    refine lv_iconst (v := 0) hx hb d_law_1510 (by decide) ?_
    refine va_lald hx hb hK hP (cw ad1 cc N1 C1).length 7 at_mid rfl (i := 0) (vp_in_nI (n := 0) (N := 1) (by decide) (by decide)) d_law_1511 ?_
    refine w_l (y := ov1 0) rfl ?_
    refine lv_iload hx hb d_law_1512 (lv_at hl 0 rfl) ?_
    refine lv_i2l hx hb d_law_1514 rfl ?_
    refine w_l (y := ov1 0) (e4 ck).symm ?_
    refine W.lcmp hx hb d_law_1515 ?_
    refine w_i (y := 0) (by simp [lg_cmp]) ?_
    refine lv_if_eq (tgt := 1521) hx hb d_law_1516 (by decide) (fun _ => ?_) (fun h => absurd rfl h)
    refine lv_goto (tgt := 2391) hx hb d_law_1521 (by decide) ?_
    exact hk ad1 ov1 N1 C1 S1 A1 rd1 c1 z1 H _ ls ⟨⟨hx, hb, hr, hml, hown, hts, hX, hbl, hlocks, hL⟩, ⟨hev, hE, hN, hH⟩, ⟨hP, hK, hD, hS, lv_sub hl [2, 3, 4, 5, 6] rfl⟩, hI1⟩ e5 e6 e7 e8 e9
theorem d_law_1524 : decode code 1524 = .ok (.aload_n 1, 1) := by decide +kernel
theorem d_law_1525 : decode code 1525 = .ok (.aload_n 0, 1) := by decide +kernel
theorem d_law_1526 : decode code 1526 = .ok (.iload 4, 2) := by decide +kernel
theorem d_law_1528 : decode code 1528 = .ok (.iconst 1, 1) := by decide +kernel
theorem d_law_1529 : decode code 1529 = .ok (.iadd, 1) := by decide +kernel
theorem d_law_1530 : decode code 1530 = .ok (.iaload, 1) := by decide +kernel
theorem d_law_1531 : decode code 1531 = .ok (.aload_n 0, 1) := by decide +kernel
theorem d_law_1532 : decode code 1532 = .ok (.iload 4, 2) := by decide +kernel
theorem d_law_1534 : decode code 1534 = .ok (.iconst 2, 1) := by decide +kernel
theorem d_law_1535 : decode code 1535 = .ok (.iadd, 1) := by decide +kernel
theorem d_law_1536 : decode code 1536 = .ok (.iaload, 1) := by decide +kernel
theorem d_law_1537 : decode code 1537 = .ok (.aload_n 0, 1) := by decide +kernel
theorem d_law_1538 : decode code 1538 = .ok (.iload 4, 2) := by decide +kernel
theorem d_law_1540 : decode code 1540 = .ok (.iconst 3, 1) := by decide +kernel
theorem d_law_1541 : decode code 1541 = .ok (.iadd, 1) := by decide +kernel
theorem d_law_1542 : decode code 1542 = .ok (.iaload, 1) := by decide +kernel
theorem d_law_1543 : decode code 1543 = .ok (.aload_n 0, 1) := by decide +kernel
theorem d_law_1544 : decode code 1544 = .ok (.iload 4, 2) := by decide +kernel
theorem d_law_1546 : decode code 1546 = .ok (.iconst 4, 1) := by decide +kernel
theorem d_law_1547 : decode code 1547 = .ok (.iadd, 1) := by decide +kernel
theorem d_law_1548 : decode code 1548 = .ok (.iaload, 1) := by decide +kernel
theorem d_law_1549 : decode code 1549 = .ok (.aload_n 3, 1) := by decide +kernel
theorem d_law_1550 : decode code 1550 = .ok (.invokestatic 174, 3) := by decide +kernel
theorem d_law_1553 : decode code 1553 = .ok (.istore 5, 2) := by decide +kernel
theorem d_law_1555 : decode code 1555 = .ok (.aload_n 2, 1) := by decide +kernel
theorem d_law_1556 : decode code 1556 = .ok (.aload_n 0, 1) := by decide +kernel
theorem d_law_1557 : decode code 1557 = .ok (.iload 4, 2) := by decide +kernel
theorem d_law_1559 : decode code 1559 = .ok (.iconst 1, 1) := by decide +kernel
theorem d_law_1560 : decode code 1560 = .ok (.iadd, 1) := by decide +kernel
theorem d_law_1561 : decode code 1561 = .ok (.iaload, 1) := by decide +kernel
theorem d_law_1562 : decode code 1562 = .ok (.aload_n 0, 1) := by decide +kernel
theorem d_law_1563 : decode code 1563 = .ok (.iload 4, 2) := by decide +kernel
theorem d_law_1565 : decode code 1565 = .ok (.iconst 2, 1) := by decide +kernel
theorem d_law_1566 : decode code 1566 = .ok (.iadd, 1) := by decide +kernel
theorem d_law_1567 : decode code 1567 = .ok (.iaload, 1) := by decide +kernel
theorem d_law_1568 : decode code 1568 = .ok (.aload_n 0, 1) := by decide +kernel
theorem d_law_1569 : decode code 1569 = .ok (.iload 4, 2) := by decide +kernel
theorem d_law_1571 : decode code 1571 = .ok (.iconst 3, 1) := by decide +kernel
theorem d_law_1572 : decode code 1572 = .ok (.iadd, 1) := by decide +kernel
theorem d_law_1573 : decode code 1573 = .ok (.iaload, 1) := by decide +kernel
theorem d_law_1574 : decode code 1574 = .ok (.aload_n 0, 1) := by decide +kernel
theorem d_law_1575 : decode code 1575 = .ok (.iload 4, 2) := by decide +kernel
theorem d_law_1577 : decode code 1577 = .ok (.iconst 4, 1) := by decide +kernel
theorem d_law_1578 : decode code 1578 = .ok (.iadd, 1) := by decide +kernel
theorem d_law_1579 : decode code 1579 = .ok (.iaload, 1) := by decide +kernel
theorem d_law_1580 : decode code 1580 = .ok (.invokevirtual 176, 3) := by decide +kernel
theorem d_law_1583 : decode code 1583 = .ok (.istore 6, 2) := by decide +kernel
theorem d_law_1585 : decode code 1585 = .ok (.aload_n 2, 1) := by decide +kernel
theorem d_law_1586 : decode code 1586 = .ok (.invokevirtual 120, 3) := by decide +kernel
theorem d_law_1589 : decode code 1589 = .ok (.iload 5, 2) := by decide +kernel
theorem d_law_1591 : decode code 1591 = .ok (.if_icmp .eq 5, 3) := by decide +kernel
theorem d_law_1596 : decode code 1596 = .ok (.iload 5, 2) := by decide +kernel
theorem d_law_1598 : decode code 1598 = .ok (.ifCond .ne 15, 3) := by decide +kernel
theorem d_law_1613 : decode code 1613 = .ok (.goto 778, 3) := by decide +kernel
theorem d_law_1601 : decode code 1601 = .ok (.aload_n 3, 1) := by decide +kernel
theorem d_law_1602 : decode code 1602 = .ok (.iconst 0, 1) := by decide +kernel
theorem d_law_1603 : decode code 1603 = .ok (.laload, 1) := by decide +kernel
theorem d_law_1604 : decode code 1604 = .ok (.iload 6, 2) := by decide +kernel
theorem d_law_1606 : decode code 1606 = .ok (.i2l, 1) := by decide +kernel
theorem d_law_1607 : decode code 1607 = .ok (.lcmp, 1) := by decide +kernel
theorem d_law_1608 : decode code 1608 = .ok (.ifCond .eq 5, 3) := by decide +kernel
set_option maxHeartbeats 8000000 in
set_option maxRecDepth 100000 in
theorem law_k15 {p : Program} {e : Env} {s : State} {m : MethodId} {below : List Frame} {meth : Method} {c : Code} (l : Launch) (hfl : l.flags = flags0) {b L i : Nat} {xs : Nat → Int32} {D : va_G} {cc : Nat → ClassId} {md : Nat → Nat} {mc : Nat → ClassId} {o : Nat} {cL : ClassId} {sad sav : Nat → Nat} {ad : Nat → Nat → Nat} {ov : Nat → Int64} {N : Nat → Nat} {C : CS} {S : MS} {A : AS} {rd cells slots : Nat} {H : Heap} {locs : List Loc} {ls : Array Slot} (h : LwW p s m meth c b L xs D cc md mc o cL sad sav i ad ov N C S A rd H locs ls) (hi7 : i + 7 ≤ L) (hrd : rd + 60000 < 2 ^ 30) (hcb : cells ≤ 500000) (hsb : slots ≤ 6000000) (hk : ∀ (ad1 : Nat → Nat → Nat) (ov1 : Nat → Int64) (N1 : Nat → Nat) (C1 : CS) (S1 : MS) (A1 : AS) (rd1 c1 z1 : Nat) (H1 : Heap) (locs1 : List Loc) (ls1 : Array Slot), LwW p s m meth c b L xs D cc md mc o cL sad sav i ad1 ov1 N1 C1 S1 A1 rd1 H1 locs1 ls1 → A.n ≤ A1.n → A.m ≤ A1.m → rd1 ≤ rd + 50000 → c1 ≤ 2 * (A1.n - A.n) + 3 * (A1.m - A.m) + 1 → z1 ≤ 23 * (A1.n - A.n) + 40 * (A1.m - A.m) + 6 → W p l e room_1 s m #[Value.ref b] below meth c H1 locs1 (cells + c1) (slots + z1) (lw_Z below #[Value.ref b] s) (F0 m 2391 ls1 [])) : W p l e room_1 s m #[Value.ref b] below meth c H locs cells slots (lw_Z below #[Value.ref b] s) (F0 m 1524 ls []) := by
  obtain ⟨⟨hx, hb, hr, hml, hown, hts, hX, hbl, hlocks, hL⟩, ⟨hev, hE, hN, hH⟩, ⟨hP, hK, hD, hS, hl⟩, hI⟩ := h
  have hNS : tx_NS (lA s) s := fun q cell hq hc => absurd (Array.getElem?_eq_some_iff.mp hc).1 (Nat.not_lt.mpr hq)
  have hA : ∀ q : Nat, s.heap.size ≤ q → lA s q := fun _ h => h
  have hbA : ¬ lA s b := Nat.not_le.mpr hbl
  have h11 : N 11 = 1 := hI.2.1.nn.2.2.2.2.2.2.2.2.2.2.2.1
  refine lv_aload_n hx hb d_law_1524 rfl (lv_at hl 3 rfl) ?_
  refine lv_aload_n hx hb d_law_1525 rfl (lv_at hl 4 rfl) ?_
  refine lv_iload hx hb d_law_1526 (lv_at hl 0 rfl) ?_
  refine lv_iconst (v := 1) hx hb d_law_1528 (by decide) ?_
  refine lv_iadd hx hb d_law_1529 ?_
  refine w_i (y := nI (i + 1)) (nI_add i 1) ?_
  refine va_sld hx hb hX hbl hbA hS (i := nI (i + 1)) (vp_in_nI (n := i + 1) (N := L) (by omega) (by omega)) d_law_1530 ?_
  refine w_i (y := xs (i + 1)) (by rw [cl_nI (by omega)]) ?_
  refine lv_aload_n hx hb d_law_1531 rfl (lv_at hl 4 rfl) ?_
  refine lv_iload hx hb d_law_1532 (lv_at hl 0 rfl) ?_
  refine lv_iconst (v := 2) hx hb d_law_1534 (by decide) ?_
  refine lv_iadd hx hb d_law_1535 ?_
  refine w_i (y := nI (i + 2)) (nI_add i 2) ?_
  refine va_sld hx hb hX hbl hbA hS (i := nI (i + 2)) (vp_in_nI (n := i + 2) (N := L) (by omega) (by omega)) d_law_1536 ?_
  refine w_i (y := xs (i + 2)) (by rw [cl_nI (by omega)]) ?_
  refine lv_aload_n hx hb d_law_1537 rfl (lv_at hl 4 rfl) ?_
  refine lv_iload hx hb d_law_1538 (lv_at hl 0 rfl) ?_
  refine lv_iconst (v := 3) hx hb d_law_1540 (by decide) ?_
  refine lv_iadd hx hb d_law_1541 ?_
  refine w_i (y := nI (i + 3)) (nI_add i 3) ?_
  refine va_sld hx hb hX hbl hbA hS (i := nI (i + 3)) (vp_in_nI (n := i + 3) (N := L) (by omega) (by omega)) d_law_1542 ?_
  refine w_i (y := xs (i + 3)) (by rw [cl_nI (by omega)]) ?_
  refine lv_aload_n hx hb d_law_1543 rfl (lv_at hl 4 rfl) ?_
  refine lv_iload hx hb d_law_1544 (lv_at hl 0 rfl) ?_
  refine lv_iconst (v := 4) hx hb d_law_1546 (by decide) ?_
  refine lv_iadd hx hb d_law_1547 ?_
  refine w_i (y := nI (i + 4)) (nI_add i 4) ?_
  refine va_sld hx hb hX hbl hbA hS (i := nI (i + 4)) (vp_in_nI (n := i + 4) (N := L) (by omega) (by omega)) d_law_1548 ?_
  refine w_i (y := xs (i + 4)) (by rw [cl_nI (by omega)]) ?_
  refine lv_aload_n hx hb d_law_1549 rfl (lv_at hl 1 rfl) ?_
  obtain ⟨N1, C1, ov1, kk, c1, z1, S1, bb, A1, rd1, e1, e2, e3, e4, hI1, e5, e6, e7, e8, e9⟩ := st_key (ov := ov) hI hrd (xs (i + 1)) (xs (i + 2)) (xs (i + 3)) (xs (i + 4))
  have hn1 := hI1.2.2.1.1.1
  have hm1 := hI1.2.2.1.1.2.1
  have hPh := p_l hP
  have hDh := d_l hD
  have hKh := hK.sub (tys' := cty cc ++ [(cL, .long)]) [0, 1, 2, 3, 4, 5, 6, 7] rfl
  have hFc := fr_all hDh hS hA
  refine va_calli (tx_runSW (As := [.ref (ad 11 0), .int (xs (i + 1)), .int (xs (i + 2)), .int (xs (i + 3)), .int (xs (i + 4)), .ref o]) (rest := []) ⟨hx, hb, hml, hown, hts⟩ (g_h_key l hfl D H.size (ad := ad) (cc := cc) (sad := sad) (sav := sav) (cL := cL) (a := o) e1) (cw_w 6 hts kw_1131 kw_1129 kw_1130 kw_0 rfl rfl (by decide +kernel) ⟨Nat.le_of_ble_eq_true rfl, Nat.le_of_ble_eq_true rfl⟩) ⟨h_blind, fun U hU hW => h_pre hU hW hPh hKh hDh hev hE hN hH hNS hS hFc⟩ rfl rfl hl.1 rfl (lv_room (Nat.le_of_ble_eq_true rfl)) d_law_1550 ⟨by show cells + c1 ≤ 601024; omega, by show slots + z1 ≤ 7293034; omega⟩) hS (fun q _ h => hFc q h) hFc (fun rz ad1 t H1 locs ht hvm hw hB hz1 hk1 hS => ?_)
  obtain ⟨hXt, hP1, -, hD1⟩ := hB
  rw [ht] at hP1
  obtain ⟨hP, hD⟩ := join_w hP hD hk1 hFc hP1 hD1
  refine w_i (y := kk) hw ?_
  have had : ad1 11 0 = ad 11 0 := hXt.2 11 0 (by rw [h11]; decide)
  rw [← had] at hl
  generalize H1 = H at hP hS ⊢
  refine W.cs (cells' := cells + c1) (slots' := slots + z1) rfl rfl ?_
  refine lv_istore (lv' := [(5, .int kk), (4, .int (nI i)), (3, .ref o), (2, .ref (md 100)), (1, .ref (ad1 11 0)), (0, .ref b)]) hx hb d_law_1553 hl (by decide) rfl (fun ls hl => ?_)
  refine lv_aload_n hx hb d_law_1555 rfl (lv_at hl 3 rfl) ?_
  refine lv_aload_n hx hb d_law_1556 rfl (lv_at hl 5 rfl) ?_
  refine lv_iload hx hb d_law_1557 (lv_at hl 1 rfl) ?_
  refine lv_iconst (v := 1) hx hb d_law_1559 (by decide) ?_
  refine lv_iadd hx hb d_law_1560 ?_
  refine w_i (y := nI (i + 1)) (nI_add i 1) ?_
  refine va_sld hx hb hX hbl hbA hS (i := nI (i + 1)) (vp_in_nI (n := i + 1) (N := L) (by omega) (by omega)) d_law_1561 ?_
  refine w_i (y := xs (i + 1)) (by rw [cl_nI (by omega)]) ?_
  refine lv_aload_n hx hb d_law_1562 rfl (lv_at hl 5 rfl) ?_
  refine lv_iload hx hb d_law_1563 (lv_at hl 1 rfl) ?_
  refine lv_iconst (v := 2) hx hb d_law_1565 (by decide) ?_
  refine lv_iadd hx hb d_law_1566 ?_
  refine w_i (y := nI (i + 2)) (nI_add i 2) ?_
  refine va_sld hx hb hX hbl hbA hS (i := nI (i + 2)) (vp_in_nI (n := i + 2) (N := L) (by omega) (by omega)) d_law_1567 ?_
  refine w_i (y := xs (i + 2)) (by rw [cl_nI (by omega)]) ?_
  refine lv_aload_n hx hb d_law_1568 rfl (lv_at hl 5 rfl) ?_
  refine lv_iload hx hb d_law_1569 (lv_at hl 1 rfl) ?_
  refine lv_iconst (v := 3) hx hb d_law_1571 (by decide) ?_
  refine lv_iadd hx hb d_law_1572 ?_
  refine w_i (y := nI (i + 3)) (nI_add i 3) ?_
  refine va_sld hx hb hX hbl hbA hS (i := nI (i + 3)) (vp_in_nI (n := i + 3) (N := L) (by omega) (by omega)) d_law_1573 ?_
  refine w_i (y := xs (i + 3)) (by rw [cl_nI (by omega)]) ?_
  refine lv_aload_n hx hb d_law_1574 rfl (lv_at hl 5 rfl) ?_
  refine lv_iload hx hb d_law_1575 (lv_at hl 1 rfl) ?_
  refine lv_iconst (v := 4) hx hb d_law_1577 (by decide) ?_
  refine lv_iadd hx hb d_law_1578 ?_
  refine w_i (y := nI (i + 4)) (nI_add i 4) ?_
  refine va_sld hx hb hX hbl hbA hS (i := nI (i + 4)) (vp_in_nI (n := i + 4) (N := L) (by omega) (by omega)) d_law_1579 ?_
  refine w_i (y := xs (i + 4)) (by rw [cl_nI (by omega)]) ?_
  have hPc := p_r hP
  have hDc := d_r hD
  have hKc := hK.sub (tys' := mty mc) [8, 9, 10, 11, 12] rfl
  have hFc := fr_all hDc hS hA
  refine va_calli (va_runV (As := [.int (xs (i + 1)), .int (xs (i + 2)), .int (xs (i + 3)), .int (xs (i + 4))]) (rest := []) ⟨hx, hb, hml, hown, hts⟩ (g_rkey l D H.size (md := md) (mc := mc) e2) (cw_v 4 hts kw_1871 kw_1868 kw_1869 kw_1870 kw_11 rfl rfl (by decide +kernel) ⟨Nat.le_of_ble_eq_true rfl, Nat.le_of_ble_eq_true rfl⟩) ⟨g_blind, va_recv hKc hPc (ci := 12) (q0 := 0) rfl rfl, fun U hU hW => g_pre hU hW hPc hKc hDc⟩ rfl rfl hl.1 rfl (lv_room (Nat.le_of_ble_eq_true rfl)) d_law_1580 ⟨by show cells + c1 + 0 ≤ 601024; omega, by show slots + z1 + 0 ≤ 7293034; omega⟩) hS (fun q _ h => hFc q h) hFc (fun rb u t H1 locs ht hvm hw hB hz1 hk1 hS => ?_)
  obtain ⟨hP1, -, hD1⟩ := hB
  rw [ht] at hP1
  obtain ⟨hP, hD⟩ := join_r hP hD hk1 hFc hP1 hD1
  refine w_i (y := bb) hw ?_
  generalize H1 = H at hP hS ⊢
  refine W.cs (cells' := cells + c1) (slots' := slots + z1) rfl rfl ?_
  refine lv_istore (lv' := [(6, .int bb), (5, .int kk), (4, .int (nI i)), (3, .ref o), (2, .ref (md 100)), (1, .ref (ad1 11 0)), (0, .ref b)]) hx hb d_law_1583 hl (by decide) rfl (fun ls hl => ?_)
  refine lv_aload_n hx hb d_law_1585 rfl (lv_at hl 4 rfl) ?_
  have hPc := p_r hP
  have hDc := d_r hD
  have hKc := hK.sub (tys' := mty mc) [8, 9, 10, 11, 12] rfl
  have hFc := fr_all hDc hS hA
  refine va_calli (va_runV (As := []) (rest := []) ⟨hx, hb, hml, hown, hts⟩ (g_rthrown l D H.size (md := md) (mc := mc) (show m_rthrown S1 = some (S1, S1.i 0) from rfl)) (cw_v 0 hts kw_1618 kw_1615 kw_1616 kw_1617 kw_11 rfl rfl (by decide +kernel) ⟨Nat.le_of_ble_eq_true rfl, Nat.le_of_ble_eq_true rfl⟩) ⟨g_blind, va_recv hKc hPc (ci := 12) (q0 := 0) rfl rfl, fun U hU hW => g_pre hU hW hPc hKc hDc⟩ rfl rfl hl.1 rfl (lv_room (Nat.le_of_ble_eq_true rfl)) d_law_1586 ⟨by show cells + c1 + 0 ≤ 601024; omega, by show slots + z1 + 0 ≤ 7293034; omega⟩) hS (fun q _ h => hFc q h) hFc (fun rt u t H1 locs ht hvm hw hB hz1 hk1 hS => ?_)
  obtain ⟨hP1, -, hD1⟩ := hB
  rw [ht] at hP1
  obtain ⟨hP, hD⟩ := join_r hP hD hk1 hFc hP1 hD1
  refine w_i (y := kk) (hw.trans e3) ?_
  generalize H1 = H at hP hS ⊢
  refine W.cs (cells' := cells + c1) (slots' := slots + z1) rfl rfl ?_
  refine lv_iload hx hb d_law_1589 (lv_at hl 1 rfl) ?_
  refine lv_icmp_eq (tgt := 1596) hx hb d_law_1591 (by decide) (fun _ => ?_) (fun h => absurd rfl h)
  refine lv_iload hx hb d_law_1596 (lv_at hl 1 rfl) ?_
  refine lv_if_ne (tgt := 1613) hx hb d_law_1598 (by decide) (fun ck => ?_) (fun ck => ?_)
  · refine lv_goto (tgt := 2391) hx hb d_law_1613 (by decide) ?_
    exact hk ad1 ov1 N1 C1 S1 A1 rd1 c1 z1 H _ ls ⟨⟨hx, hb, hr, hml, hown, hts, hX, hbl, hlocks, hL⟩, ⟨hev, hE, hN, hH⟩, ⟨hP, hK, hD, hS, lv_sub hl [2, 3, 4, 5, 6] rfl⟩, hI1⟩ e5 e6 e7 e8 e9
  · refine lv_aload_n hx hb d_law_1601 rfl (lv_at hl 3 rfl) ?_
    refine lv_iconst (v := 0) hx hb d_law_1602 (by decide) ?_
    refine va_lald hx hb hK hP (cw ad1 cc N1 C1).length 7 at_mid rfl (i := 0) (vp_in_nI (n := 0) (N := 1) (by decide) (by decide)) d_law_1603 ?_
    refine w_l (y := ov1 0) rfl ?_
    refine lv_iload hx hb d_law_1604 (lv_at hl 0 rfl) ?_
    refine lv_i2l hx hb d_law_1606 rfl ?_
    refine w_l (y := ov1 0) (e4 ck).symm ?_
    refine W.lcmp hx hb d_law_1607 ?_
    refine w_i (y := 0) (by simp [lg_cmp]) ?_
    refine lv_if_eq (tgt := 1613) hx hb d_law_1608 (by decide) (fun _ => ?_) (fun h => absurd rfl h)
    refine lv_goto (tgt := 2391) hx hb d_law_1613 (by decide) ?_
    exact hk ad1 ov1 N1 C1 S1 A1 rd1 c1 z1 H _ ls ⟨⟨hx, hb, hr, hml, hown, hts, hX, hbl, hlocks, hL⟩, ⟨hev, hE, hN, hH⟩, ⟨hP, hK, hD, hS, lv_sub hl [2, 3, 4, 5, 6] rfl⟩, hI1⟩ e5 e6 e7 e8 e9
