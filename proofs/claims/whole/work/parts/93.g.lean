theorem d_law_2195 : decode code 2195 = .ok (.aload_n 1, 1) := by decide +kernel
theorem d_law_2196 : decode code 2196 = .ok (.aload_n 0, 1) := by decide +kernel
theorem d_law_2197 : decode code 2197 = .ok (.iload 4, 2) := by decide +kernel
theorem d_law_2199 : decode code 2199 = .ok (.iconst 1, 1) := by decide +kernel
theorem d_law_2200 : decode code 2200 = .ok (.iadd, 1) := by decide +kernel
theorem d_law_2201 : decode code 2201 = .ok (.iaload, 1) := by decide +kernel
theorem d_law_2202 : decode code 2202 = .ok (.aload_n 0, 1) := by decide +kernel
theorem d_law_2203 : decode code 2203 = .ok (.iload 4, 2) := by decide +kernel
theorem d_law_2205 : decode code 2205 = .ok (.iconst 2, 1) := by decide +kernel
theorem d_law_2206 : decode code 2206 = .ok (.iadd, 1) := by decide +kernel
theorem d_law_2207 : decode code 2207 = .ok (.iaload, 1) := by decide +kernel
theorem d_law_2208 : decode code 2208 = .ok (.invokestatic 201, 3) := by decide +kernel
theorem d_law_2211 : decode code 2211 = .ok (.istore 5, 2) := by decide +kernel
theorem d_law_2213 : decode code 2213 = .ok (.aload_n 2, 1) := by decide +kernel
theorem d_law_2214 : decode code 2214 = .ok (.aload_n 0, 1) := by decide +kernel
theorem d_law_2215 : decode code 2215 = .ok (.iload 4, 2) := by decide +kernel
theorem d_law_2217 : decode code 2217 = .ok (.iconst 1, 1) := by decide +kernel
theorem d_law_2218 : decode code 2218 = .ok (.iadd, 1) := by decide +kernel
theorem d_law_2219 : decode code 2219 = .ok (.iaload, 1) := by decide +kernel
theorem d_law_2220 : decode code 2220 = .ok (.aload_n 0, 1) := by decide +kernel
theorem d_law_2221 : decode code 2221 = .ok (.iload 4, 2) := by decide +kernel
theorem d_law_2223 : decode code 2223 = .ok (.iconst 2, 1) := by decide +kernel
theorem d_law_2224 : decode code 2224 = .ok (.iadd, 1) := by decide +kernel
theorem d_law_2225 : decode code 2225 = .ok (.iaload, 1) := by decide +kernel
theorem d_law_2226 : decode code 2226 = .ok (.invokevirtual 204, 3) := by decide +kernel
theorem d_law_2229 : decode code 2229 = .ok (.aload_n 2, 1) := by decide +kernel
theorem d_law_2230 : decode code 2230 = .ok (.invokevirtual 120, 3) := by decide +kernel
theorem d_law_2233 : decode code 2233 = .ok (.iload 5, 2) := by decide +kernel
theorem d_law_2235 : decode code 2235 = .ok (.if_icmp .eq 5, 3) := by decide +kernel
theorem d_law_2240 : decode code 2240 = .ok (.goto 151, 3) := by decide +kernel
set_option maxHeartbeats 8000000 in
set_option maxRecDepth 100000 in
theorem law_k24 {p : Program} {e : Env} {s : State} {m : MethodId} {below : List Frame} {meth : Method} {c : Code} (l : Launch) (hfl : l.flags = flags0) {b L i : Nat} {xs : Nat → Int32} {D : va_G} {cc : Nat → ClassId} {md : Nat → Nat} {mc : Nat → ClassId} {o : Nat} {cL : ClassId} {sad sav : Nat → Nat} {ad : Nat → Nat → Nat} {ov : Nat → Int64} {N : Nat → Nat} {C : CS} {S : MS} {A : AS} {rd cells slots : Nat} {H : Heap} {locs : List Loc} {ls : Array Slot} (h : LwW p s m meth c b L xs D cc md mc o cL sad sav i ad ov N C S A rd H locs ls) (hi7 : i + 7 ≤ L) (hrd : rd + 60000 < 2 ^ 30) (hcb : cells ≤ 500000) (hsb : slots ≤ 6000000) (hk : ∀ (ad1 : Nat → Nat → Nat) (ov1 : Nat → Int64) (N1 : Nat → Nat) (C1 : CS) (S1 : MS) (A1 : AS) (rd1 c1 z1 : Nat) (H1 : Heap) (locs1 : List Loc) (ls1 : Array Slot), LwW p s m meth c b L xs D cc md mc o cL sad sav i ad1 ov1 N1 C1 S1 A1 rd1 H1 locs1 ls1 → A.n ≤ A1.n → A.m ≤ A1.m → rd1 ≤ rd + 50000 → c1 ≤ 2 * (A1.n - A.n) + 3 * (A1.m - A.m) + 1 → z1 ≤ 23 * (A1.n - A.n) + 40 * (A1.m - A.m) + 6 → W p l e room_1 s m #[Value.ref b] below meth c H1 locs1 (cells + c1) (slots + z1) (lw_Z below #[Value.ref b] s) (F0 m 2391 ls1 [])) : W p l e room_1 s m #[Value.ref b] below meth c H locs cells slots (lw_Z below #[Value.ref b] s) (F0 m 2195 ls []) := by
  obtain ⟨⟨hx, hb, hr, hml, hown, hts, hX, hbl, hlocks, hL⟩, ⟨hev, hE, hN, hH⟩, ⟨hP, hK, hD, hS, hl⟩, hI⟩ := h
  have hNS : tx_NS (lA s) s := fun q cell hq hc => absurd (Array.getElem?_eq_some_iff.mp hc).1 (Nat.not_lt.mpr hq)
  have hA : ∀ q : Nat, s.heap.size ≤ q → lA s q := fun _ h => h
  have hbA : ¬ lA s b := Nat.not_le.mpr hbl
  have h11 : N 11 = 1 := hI.2.1.nn.2.2.2.2.2.2.2.2.2.2.2.1
  refine lv_aload_n hx hb d_law_2195 rfl (lv_at hl 3 rfl) ?_
  refine lv_aload_n hx hb d_law_2196 rfl (lv_at hl 4 rfl) ?_
  refine lv_iload hx hb d_law_2197 (lv_at hl 0 rfl) ?_
  refine lv_iconst (v := 1) hx hb d_law_2199 (by decide) ?_
  refine lv_iadd hx hb d_law_2200 ?_
  refine w_i (y := nI (i + 1)) (nI_add i 1) ?_
  refine va_sld hx hb hX hbl hbA hS (i := nI (i + 1)) (vp_in_nI (n := i + 1) (N := L) (by omega) (by omega)) d_law_2201 ?_
  refine w_i (y := xs (i + 1)) (by rw [cl_nI (by omega)]) ?_
  refine lv_aload_n hx hb d_law_2202 rfl (lv_at hl 4 rfl) ?_
  refine lv_iload hx hb d_law_2203 (lv_at hl 0 rfl) ?_
  refine lv_iconst (v := 2) hx hb d_law_2205 (by decide) ?_
  refine lv_iadd hx hb d_law_2206 ?_
  refine w_i (y := nI (i + 2)) (nI_add i 2) ?_
  refine va_sld hx hb hX hbl hbA hS (i := nI (i + 2)) (vp_in_nI (n := i + 2) (N := L) (by omega) (by omega)) d_law_2207 ?_
  refine w_i (y := xs (i + 2)) (by rw [cl_nI (by omega)]) ?_
  obtain ⟨N1, C1, ov1, kk, c1, z1, S1, bb, A1, rd1, e1, e2, e3, e4, hI1, e5, e6, e7, e8, e9⟩ := st_harm (ov := ov) hI hrd (xs (i + 1)) (xs (i + 2))
  have hn1 := hI1.2.2.1.1.1
  have hm1 := hI1.2.2.1.1.2.1
  have e2 := map_u e2
  have hPh := p_l hP
  have hDh := d_l hD
  have hKh := hK.sub (tys' := cty cc ++ [(cL, .long)]) [0, 1, 2, 3, 4, 5, 6, 7] rfl
  have hFc := fr_all hDh hS hA
  refine va_calli (tx_runSW (As := [.ref (ad 11 0), .int (xs (i + 1)), .int (xs (i + 2))]) (rest := []) ⟨hx, hb, hml, hown, hts⟩ (g_h_harm l hfl D H.size (ad := ad) (cc := cc) (sad := sad) (sav := sav) (cL := cL) (a := o) e1) (cw_w 3 hts kw_1349 kw_1347 kw_1348 kw_0 rfl rfl (by decide +kernel) ⟨Nat.le_of_ble_eq_true rfl, Nat.le_of_ble_eq_true rfl⟩) ⟨h_blind, fun U hU hW => h_pre hU hW hPh hKh hDh hev hE hN hH hNS hS hFc⟩ rfl rfl hl.1 rfl (lv_room (Nat.le_of_ble_eq_true rfl)) d_law_2208 ⟨by show cells + c1 ≤ 601024; omega, by show slots + z1 ≤ 7293034; omega⟩) hS (fun q _ h => hFc q h) hFc (fun rz ad1 t H1 locs ht hvm hw hB hz1 hk1 hS => ?_)
  obtain ⟨hXt, hP1, -, hD1⟩ := hB
  rw [ht] at hP1
  obtain ⟨hP, hD⟩ := join_w hP hD hk1 hFc hP1 hD1
  refine w_i (y := kk) hw ?_
  have had : ad1 11 0 = ad 11 0 := hXt.2 11 0 (by rw [h11]; decide)
  rw [← had] at hl
  generalize H1 = H at hP hS ⊢
  refine W.cs (cells' := cells + c1) (slots' := slots + z1) rfl rfl ?_
  refine lv_istore (lv' := [(5, .int kk), (4, .int (nI i)), (3, .ref o), (2, .ref (md 100)), (1, .ref (ad1 11 0)), (0, .ref b)]) hx hb d_law_2211 hl (by decide) rfl (fun ls hl => ?_)
  refine lv_aload_n hx hb d_law_2213 rfl (lv_at hl 3 rfl) ?_
  refine lv_aload_n hx hb d_law_2214 rfl (lv_at hl 5 rfl) ?_
  refine lv_iload hx hb d_law_2215 (lv_at hl 1 rfl) ?_
  refine lv_iconst (v := 1) hx hb d_law_2217 (by decide) ?_
  refine lv_iadd hx hb d_law_2218 ?_
  refine w_i (y := nI (i + 1)) (nI_add i 1) ?_
  refine va_sld hx hb hX hbl hbA hS (i := nI (i + 1)) (vp_in_nI (n := i + 1) (N := L) (by omega) (by omega)) d_law_2219 ?_
  refine w_i (y := xs (i + 1)) (by rw [cl_nI (by omega)]) ?_
  refine lv_aload_n hx hb d_law_2220 rfl (lv_at hl 5 rfl) ?_
  refine lv_iload hx hb d_law_2221 (lv_at hl 1 rfl) ?_
  refine lv_iconst (v := 2) hx hb d_law_2223 (by decide) ?_
  refine lv_iadd hx hb d_law_2224 ?_
  refine w_i (y := nI (i + 2)) (nI_add i 2) ?_
  refine va_sld hx hb hX hbl hbA hS (i := nI (i + 2)) (vp_in_nI (n := i + 2) (N := L) (by omega) (by omega)) d_law_2225 ?_
  refine w_i (y := xs (i + 2)) (by rw [cl_nI (by omega)]) ?_
  have hPc := p_r hP
  have hDc := d_r hD
  have hKc := hK.sub (tys' := mty mc) [8, 9, 10, 11, 12] rfl
  have hFc := fr_all hDc hS hA
  refine va_callv (va_runV (As := [.int (xs (i + 1)), .int (xs (i + 2))]) (rest := []) ⟨hx, hb, hml, hown, hts⟩ (g_rharm l D H.size (md := md) (mc := mc) e2) (cw_v 2 hts kw_1994 kw_1991 kw_1992 kw_1993 kw_11 rfl rfl (by decide +kernel) ⟨Nat.le_of_ble_eq_true rfl, Nat.le_of_ble_eq_true rfl⟩) ⟨g_blind, va_recv hKc hPc (ci := 12) (q0 := 0) rfl rfl, fun U hU hW => g_pre hU hW hPc hKc hDc⟩ rfl rfl hl.1 rfl (lv_room (Nat.le_of_ble_eq_true rfl)) d_law_2226 ⟨by show cells + c1 + 0 ≤ 601024; omega, by show slots + z1 + 0 ≤ 7293034; omega⟩) hS (fun q _ h => hFc q h) hFc (fun u t H1 locs ht hvm hw hB hz1 hk1 hS => ?_)
  obtain ⟨hP1, -, hD1⟩ := hB
  rw [ht] at hP1
  obtain ⟨hP, hD⟩ := join_r hP hD hk1 hFc hP1 hD1
  generalize H1 = H at hP hS ⊢
  refine W.cs (cells' := cells + c1) (slots' := slots + z1) rfl rfl ?_
  refine lv_aload_n hx hb d_law_2229 rfl (lv_at hl 3 rfl) ?_
  have hPc := p_r hP
  have hDc := d_r hD
  have hKc := hK.sub (tys' := mty mc) [8, 9, 10, 11, 12] rfl
  have hFc := fr_all hDc hS hA
  refine va_calli (va_runV (As := []) (rest := []) ⟨hx, hb, hml, hown, hts⟩ (g_rthrown l D H.size (md := md) (mc := mc) (show m_rthrown S1 = some (S1, S1.i 0) from rfl)) (cw_v 0 hts kw_1618 kw_1615 kw_1616 kw_1617 kw_11 rfl rfl (by decide +kernel) ⟨Nat.le_of_ble_eq_true rfl, Nat.le_of_ble_eq_true rfl⟩) ⟨g_blind, va_recv hKc hPc (ci := 12) (q0 := 0) rfl rfl, fun U hU hW => g_pre hU hW hPc hKc hDc⟩ rfl rfl hl.1 rfl (lv_room (Nat.le_of_ble_eq_true rfl)) d_law_2230 ⟨by show cells + c1 + 0 ≤ 601024; omega, by show slots + z1 + 0 ≤ 7293034; omega⟩) hS (fun q _ h => hFc q h) hFc (fun rt u t H1 locs ht hvm hw hB hz1 hk1 hS => ?_)
  obtain ⟨hP1, -, hD1⟩ := hB
  rw [ht] at hP1
  obtain ⟨hP, hD⟩ := join_r hP hD hk1 hFc hP1 hD1
  refine w_i (y := kk) (hw.trans e3) ?_
  generalize H1 = H at hP hS ⊢
  refine W.cs (cells' := cells + c1) (slots' := slots + z1) rfl rfl ?_
  refine lv_iload hx hb d_law_2233 (lv_at hl 0 rfl) ?_
  refine lv_icmp_eq (tgt := 2240) hx hb d_law_2235 (by decide) (fun _ => ?_) (fun h => absurd rfl h)
  refine lv_goto (tgt := 2391) hx hb d_law_2240 (by decide) ?_
  exact hk ad1 ov1 N1 C1 S1 A1 rd1 c1 z1 H _ ls ⟨⟨hx, hb, hr, hml, hown, hts, hX, hbl, hlocks, hL⟩, ⟨hev, hE, hN, hH⟩, ⟨hP, hK, hD, hS, lv_sub hl [1, 2, 3, 4, 5] rfl⟩, hI1⟩ e5 e6 e7 e8 e9
theorem d_law_2243 : decode code 2243 = .ok (.aload_n 1, 1) := by decide +kernel
theorem d_law_2244 : decode code 2244 = .ok (.aload_n 0, 1) := by decide +kernel
theorem d_law_2245 : decode code 2245 = .ok (.iload 4, 2) := by decide +kernel
theorem d_law_2247 : decode code 2247 = .ok (.iconst 1, 1) := by decide +kernel
theorem d_law_2248 : decode code 2248 = .ok (.iadd, 1) := by decide +kernel
theorem d_law_2249 : decode code 2249 = .ok (.iaload, 1) := by decide +kernel
theorem d_law_2250 : decode code 2250 = .ok (.aload_n 3, 1) := by decide +kernel
theorem d_law_2251 : decode code 2251 = .ok (.invokestatic 205, 3) := by decide +kernel
theorem d_law_2254 : decode code 2254 = .ok (.istore 5, 2) := by decide +kernel
theorem d_law_2256 : decode code 2256 = .ok (.aload_n 2, 1) := by decide +kernel
theorem d_law_2257 : decode code 2257 = .ok (.aload_n 0, 1) := by decide +kernel
theorem d_law_2258 : decode code 2258 = .ok (.iload 4, 2) := by decide +kernel
theorem d_law_2260 : decode code 2260 = .ok (.iconst 1, 1) := by decide +kernel
theorem d_law_2261 : decode code 2261 = .ok (.iadd, 1) := by decide +kernel
theorem d_law_2262 : decode code 2262 = .ok (.iaload, 1) := by decide +kernel
theorem d_law_2263 : decode code 2263 = .ok (.invokevirtual 207, 3) := by decide +kernel
theorem d_law_2266 : decode code 2266 = .ok (.lstore 6, 2) := by decide +kernel
theorem d_law_2268 : decode code 2268 = .ok (.aload_n 2, 1) := by decide +kernel
theorem d_law_2269 : decode code 2269 = .ok (.invokevirtual 120, 3) := by decide +kernel
theorem d_law_2272 : decode code 2272 = .ok (.iload 5, 2) := by decide +kernel
theorem d_law_2274 : decode code 2274 = .ok (.if_icmp .eq 5, 3) := by decide +kernel
theorem d_law_2279 : decode code 2279 = .ok (.iload 5, 2) := by decide +kernel
theorem d_law_2281 : decode code 2281 = .ok (.ifCond .ne 14, 3) := by decide +kernel
theorem d_law_2295 : decode code 2295 = .ok (.goto 96, 3) := by decide +kernel
theorem d_law_2284 : decode code 2284 = .ok (.aload_n 3, 1) := by decide +kernel
theorem d_law_2285 : decode code 2285 = .ok (.iconst 0, 1) := by decide +kernel
theorem d_law_2286 : decode code 2286 = .ok (.laload, 1) := by decide +kernel
theorem d_law_2287 : decode code 2287 = .ok (.lload 6, 2) := by decide +kernel
theorem d_law_2289 : decode code 2289 = .ok (.lcmp, 1) := by decide +kernel
theorem d_law_2290 : decode code 2290 = .ok (.ifCond .eq 5, 3) := by decide +kernel
set_option maxHeartbeats 8000000 in
set_option maxRecDepth 100000 in
theorem law_k25 {p : Program} {e : Env} {s : State} {m : MethodId} {below : List Frame} {meth : Method} {c : Code} (l : Launch) (hfl : l.flags = flags0) {b L i : Nat} {xs : Nat → Int32} {D : va_G} {cc : Nat → ClassId} {md : Nat → Nat} {mc : Nat → ClassId} {o : Nat} {cL : ClassId} {sad sav : Nat → Nat} {ad : Nat → Nat → Nat} {ov : Nat → Int64} {N : Nat → Nat} {C : CS} {S : MS} {A : AS} {rd cells slots : Nat} {H : Heap} {locs : List Loc} {ls : Array Slot} (h : LwW p s m meth c b L xs D cc md mc o cL sad sav i ad ov N C S A rd H locs ls) (hi7 : i + 7 ≤ L) (hrd : rd + 60000 < 2 ^ 30) (hcb : cells ≤ 500000) (hsb : slots ≤ 6000000) (hk : ∀ (ad1 : Nat → Nat → Nat) (ov1 : Nat → Int64) (N1 : Nat → Nat) (C1 : CS) (S1 : MS) (A1 : AS) (rd1 c1 z1 : Nat) (H1 : Heap) (locs1 : List Loc) (ls1 : Array Slot), LwW p s m meth c b L xs D cc md mc o cL sad sav i ad1 ov1 N1 C1 S1 A1 rd1 H1 locs1 ls1 → A.n ≤ A1.n → A.m ≤ A1.m → rd1 ≤ rd + 50000 → c1 ≤ 2 * (A1.n - A.n) + 3 * (A1.m - A.m) + 1 → z1 ≤ 23 * (A1.n - A.n) + 40 * (A1.m - A.m) + 6 → W p l e room_1 s m #[Value.ref b] below meth c H1 locs1 (cells + c1) (slots + z1) (lw_Z below #[Value.ref b] s) (F0 m 2391 ls1 [])) : W p l e room_1 s m #[Value.ref b] below meth c H locs cells slots (lw_Z below #[Value.ref b] s) (F0 m 2243 ls []) := by
  obtain ⟨⟨hx, hb, hr, hml, hown, hts, hX, hbl, hlocks, hL⟩, ⟨hev, hE, hN, hH⟩, ⟨hP, hK, hD, hS, hl⟩, hI⟩ := h
  have hNS : tx_NS (lA s) s := fun q cell hq hc => absurd (Array.getElem?_eq_some_iff.mp hc).1 (Nat.not_lt.mpr hq)
  have hA : ∀ q : Nat, s.heap.size ≤ q → lA s q := fun _ h => h
  have hbA : ¬ lA s b := Nat.not_le.mpr hbl
  have h11 : N 11 = 1 := hI.2.1.nn.2.2.2.2.2.2.2.2.2.2.2.1
  refine lv_aload_n hx hb d_law_2243 rfl (lv_at hl 3 rfl) ?_
  refine lv_aload_n hx hb d_law_2244 rfl (lv_at hl 4 rfl) ?_
  refine lv_iload hx hb d_law_2245 (lv_at hl 0 rfl) ?_
  refine lv_iconst (v := 1) hx hb d_law_2247 (by decide) ?_
  refine lv_iadd hx hb d_law_2248 ?_
  refine w_i (y := nI (i + 1)) (nI_add i 1) ?_
  refine va_sld hx hb hX hbl hbA hS (i := nI (i + 1)) (vp_in_nI (n := i + 1) (N := L) (by omega) (by omega)) d_law_2249 ?_
  refine w_i (y := xs (i + 1)) (by rw [cl_nI (by omega)]) ?_
  refine lv_aload_n hx hb d_law_2250 rfl (lv_at hl 1 rfl) ?_
  obtain ⟨N1, C1, ov1, kk, c1, z1, S1, bb, A1, rd1, e1, e2, e3, e4, hI1, e5, e6, e7, e8, e9⟩ := st_out (ov := ov) hI hrd (xs (i + 1))
  have hn1 := hI1.2.2.1.1.1
  have hm1 := hI1.2.2.1.1.2.1
  have hPh := p_l hP
  have hDh := d_l hD
  have hKh := hK.sub (tys' := cty cc ++ [(cL, .long)]) [0, 1, 2, 3, 4, 5, 6, 7] rfl
  have hFc := fr_all hDh hS hA
  refine va_calli (tx_runSW (As := [.ref (ad 11 0), .int (xs (i + 1)), .ref o]) (rest := []) ⟨hx, hb, hml, hown, hts⟩ (g_h_out l hfl D H.size (ad := ad) (cc := cc) (sad := sad) (sav := sav) (cL := cL) (a := o) e1) (cw_w 3 hts kw_1356 kw_1354 kw_1355 kw_0 rfl rfl (by decide +kernel) ⟨Nat.le_of_ble_eq_true rfl, Nat.le_of_ble_eq_true rfl⟩) ⟨h_blind, fun U hU hW => h_pre hU hW hPh hKh hDh hev hE hN hH hNS hS hFc⟩ rfl rfl hl.1 rfl (lv_room (Nat.le_of_ble_eq_true rfl)) d_law_2251 ⟨by show cells + c1 ≤ 601024; omega, by show slots + z1 ≤ 7293034; omega⟩) hS (fun q _ h => hFc q h) hFc (fun rz ad1 t H1 locs ht hvm hw hB hz1 hk1 hS => ?_)
  obtain ⟨hXt, hP1, -, hD1⟩ := hB
  rw [ht] at hP1
  obtain ⟨hP, hD⟩ := join_w hP hD hk1 hFc hP1 hD1
  refine w_i (y := kk) hw ?_
  have had : ad1 11 0 = ad 11 0 := hXt.2 11 0 (by rw [h11]; decide)
  rw [← had] at hl
  generalize H1 = H at hP hS ⊢
  refine W.cs (cells' := cells + c1) (slots' := slots + z1) rfl rfl ?_
  refine lv_istore (lv' := [(5, .int kk), (4, .int (nI i)), (3, .ref o), (2, .ref (md 100)), (1, .ref (ad1 11 0)), (0, .ref b)]) hx hb d_law_2254 hl (by decide) rfl (fun ls hl => ?_)
  refine lv_aload_n hx hb d_law_2256 rfl (lv_at hl 3 rfl) ?_
  refine lv_aload_n hx hb d_law_2257 rfl (lv_at hl 5 rfl) ?_
  refine lv_iload hx hb d_law_2258 (lv_at hl 1 rfl) ?_
  refine lv_iconst (v := 1) hx hb d_law_2260 (by decide) ?_
  refine lv_iadd hx hb d_law_2261 ?_
  refine w_i (y := nI (i + 1)) (nI_add i 1) ?_
  refine va_sld hx hb hX hbl hbA hS (i := nI (i + 1)) (vp_in_nI (n := i + 1) (N := L) (by omega) (by omega)) d_law_2262 ?_
  refine w_i (y := xs (i + 1)) (by rw [cl_nI (by omega)]) ?_
  have hPc := p_r hP
  have hDc := d_r hD
  have hKc := hK.sub (tys' := mty mc) [8, 9, 10, 11, 12] rfl
  have hFc := fr_all hDc hS hA
  refine va_calll (va_runV (As := [.int (xs (i + 1))]) (rest := []) ⟨hx, hb, hml, hown, hts⟩ (g_rout l D H.size (md := md) (mc := mc) e2) (cw_v 1 hts kw_1998 kw_1995 kw_1996 kw_1997 kw_11 rfl rfl (by decide +kernel) ⟨Nat.le_of_ble_eq_true rfl, Nat.le_of_ble_eq_true rfl⟩) ⟨g_blind, va_recv hKc hPc (ci := 12) (q0 := 0) rfl rfl, fun U hU hW => g_pre hU hW hPc hKc hDc⟩ rfl rfl hl.1 rfl (lv_room (Nat.le_of_ble_eq_true rfl)) d_law_2263 ⟨by show cells + c1 + 0 ≤ 601024; omega, by show slots + z1 + 0 ≤ 7293034; omega⟩) hS (fun q _ h => hFc q h) hFc (fun rb u t H1 locs ht hvm hw hB hz1 hk1 hS => ?_)
  obtain ⟨hP1, -, hD1⟩ := hB
  rw [ht] at hP1
  obtain ⟨hP, hD⟩ := join_r hP hD hk1 hFc hP1 hD1
  refine w_l (y := bb) hw ?_
  generalize H1 = H at hP hS ⊢
  refine W.cs (cells' := cells + c1) (slots' := slots + z1) rfl rfl ?_
  refine lv_lstore (lv' := [(6, .long bb), (5, .int kk), (4, .int (nI i)), (3, .ref o), (2, .ref (md 100)), (1, .ref (ad1 11 0)), (0, .ref b)]) hx hb d_law_2266 hl (by decide) rfl (fun ls hl => ?_)
  refine lv_aload_n hx hb d_law_2268 rfl (lv_at hl 4 rfl) ?_
  have hPc := p_r hP
  have hDc := d_r hD
  have hKc := hK.sub (tys' := mty mc) [8, 9, 10, 11, 12] rfl
  have hFc := fr_all hDc hS hA
  refine va_calli (va_runV (As := []) (rest := []) ⟨hx, hb, hml, hown, hts⟩ (g_rthrown l D H.size (md := md) (mc := mc) (show m_rthrown S1 = some (S1, S1.i 0) from rfl)) (cw_v 0 hts kw_1618 kw_1615 kw_1616 kw_1617 kw_11 rfl rfl (by decide +kernel) ⟨Nat.le_of_ble_eq_true rfl, Nat.le_of_ble_eq_true rfl⟩) ⟨g_blind, va_recv hKc hPc (ci := 12) (q0 := 0) rfl rfl, fun U hU hW => g_pre hU hW hPc hKc hDc⟩ rfl rfl hl.1 rfl (lv_room (Nat.le_of_ble_eq_true rfl)) d_law_2269 ⟨by show cells + c1 + 0 ≤ 601024; omega, by show slots + z1 + 0 ≤ 7293034; omega⟩) hS (fun q _ h => hFc q h) hFc (fun rt u t H1 locs ht hvm hw hB hz1 hk1 hS => ?_)
  obtain ⟨hP1, -, hD1⟩ := hB
  rw [ht] at hP1
  obtain ⟨hP, hD⟩ := join_r hP hD hk1 hFc hP1 hD1
  refine w_i (y := kk) (hw.trans e3) ?_
  generalize H1 = H at hP hS ⊢
  refine W.cs (cells' := cells + c1) (slots' := slots + z1) rfl rfl ?_
  refine lv_iload hx hb d_law_2272 (lv_at hl 1 rfl) ?_
  refine lv_icmp_eq (tgt := 2279) hx hb d_law_2274 (by decide) (fun _ => ?_) (fun h => absurd rfl h)
  refine lv_iload hx hb d_law_2279 (lv_at hl 1 rfl) ?_
  refine lv_if_ne (tgt := 2295) hx hb d_law_2281 (by decide) (fun ck => ?_) (fun ck => ?_)
  · refine lv_goto (tgt := 2391) hx hb d_law_2295 (by decide) ?_
    exact hk ad1 ov1 N1 C1 S1 A1 rd1 c1 z1 H _ ls ⟨⟨hx, hb, hr, hml, hown, hts, hX, hbl, hlocks, hL⟩, ⟨hev, hE, hN, hH⟩, ⟨hP, hK, hD, hS, lv_sub hl [2, 3, 4, 5, 6] rfl⟩, hI1⟩ e5 e6 e7 e8 e9
  · refine lv_aload_n hx hb d_law_2284 rfl (lv_at hl 3 rfl) ?_
    refine lv_iconst (v := 0) hx hb d_law_2285 (by decide) ?_
    refine va_lald hx hb hK hP (cw ad1 cc N1 C1).length 7 at_mid rfl (i := 0) (vp_in_nI (n := 0) (N := 1) (by decide) (by decide)) d_law_2286 ?_
    refine w_l (y := ov1 0) rfl ?_
    refine lv_lload hx hb d_law_2287 (lv_at hl 0 rfl) ?_
    refine w_l (y := ov1 0) (e4 ck).symm ?_
    refine W.lcmp hx hb d_law_2289 ?_
    refine w_i (y := 0) (by simp [lg_cmp]) ?_
    refine lv_if_eq (tgt := 2295) hx hb d_law_2290 (by decide) (fun _ => ?_) (fun h => absurd rfl h)
    refine lv_goto (tgt := 2391) hx hb d_law_2295 (by decide) ?_
    exact hk ad1 ov1 N1 C1 S1 A1 rd1 c1 z1 H _ ls ⟨⟨hx, hb, hr, hml, hown, hts, hX, hbl, hlocks, hL⟩, ⟨hev, hE, hN, hH⟩, ⟨hP, hK, hD, hS, lv_sub hl [2, 3, 4, 5, 6] rfl⟩, hI1⟩ e5 e6 e7 e8 e9
theorem d_law_2298 : decode code 2298 = .ok (.aload_n 1, 1) := by decide +kernel
theorem d_law_2299 : decode code 2299 = .ok (.aload_n 0, 1) := by decide +kernel
theorem d_law_2300 : decode code 2300 = .ok (.iload 4, 2) := by decide +kernel
theorem d_law_2302 : decode code 2302 = .ok (.iconst 1, 1) := by decide +kernel
theorem d_law_2303 : decode code 2303 = .ok (.iadd, 1) := by decide +kernel
theorem d_law_2304 : decode code 2304 = .ok (.iaload, 1) := by decide +kernel
theorem d_law_2305 : decode code 2305 = .ok (.aload_n 0, 1) := by decide +kernel
theorem d_law_2306 : decode code 2306 = .ok (.iload 4, 2) := by decide +kernel
theorem d_law_2308 : decode code 2308 = .ok (.iconst 2, 1) := by decide +kernel
theorem d_law_2309 : decode code 2309 = .ok (.iadd, 1) := by decide +kernel
theorem d_law_2310 : decode code 2310 = .ok (.iaload, 1) := by decide +kernel
theorem d_law_2311 : decode code 2311 = .ok (.aload_n 3, 1) := by decide +kernel
theorem d_law_2312 : decode code 2312 = .ok (.invokestatic 208, 3) := by decide +kernel
theorem d_law_2315 : decode code 2315 = .ok (.istore 5, 2) := by decide +kernel
theorem d_law_2317 : decode code 2317 = .ok (.aload_n 2, 1) := by decide +kernel
theorem d_law_2318 : decode code 2318 = .ok (.aload_n 0, 1) := by decide +kernel
theorem d_law_2319 : decode code 2319 = .ok (.iload 4, 2) := by decide +kernel
theorem d_law_2321 : decode code 2321 = .ok (.iconst 1, 1) := by decide +kernel
theorem d_law_2322 : decode code 2322 = .ok (.iadd, 1) := by decide +kernel
theorem d_law_2323 : decode code 2323 = .ok (.iaload, 1) := by decide +kernel
theorem d_law_2324 : decode code 2324 = .ok (.aload_n 0, 1) := by decide +kernel
theorem d_law_2325 : decode code 2325 = .ok (.iload 4, 2) := by decide +kernel
theorem d_law_2327 : decode code 2327 = .ok (.iconst 2, 1) := by decide +kernel
theorem d_law_2328 : decode code 2328 = .ok (.iadd, 1) := by decide +kernel
theorem d_law_2329 : decode code 2329 = .ok (.iaload, 1) := by decide +kernel
theorem d_law_2330 : decode code 2330 = .ok (.invokevirtual 210, 3) := by decide +kernel
theorem d_law_2333 : decode code 2333 = .ok (.istore 6, 2) := by decide +kernel
theorem d_law_2335 : decode code 2335 = .ok (.aload_n 2, 1) := by decide +kernel
theorem d_law_2336 : decode code 2336 = .ok (.invokevirtual 120, 3) := by decide +kernel
theorem d_law_2339 : decode code 2339 = .ok (.iload 5, 2) := by decide +kernel
theorem d_law_2341 : decode code 2341 = .ok (.if_icmp .eq 5, 3) := by decide +kernel
theorem d_law_2346 : decode code 2346 = .ok (.iload 5, 2) := by decide +kernel
theorem d_law_2348 : decode code 2348 = .ok (.ifCond .ne 15, 3) := by decide +kernel
theorem d_law_2363 : decode code 2363 = .ok (.goto 28, 3) := by decide +kernel
theorem d_law_2351 : decode code 2351 = .ok (.aload_n 3, 1) := by decide +kernel
theorem d_law_2352 : decode code 2352 = .ok (.iconst 0, 1) := by decide +kernel
theorem d_law_2353 : decode code 2353 = .ok (.laload, 1) := by decide +kernel
theorem d_law_2354 : decode code 2354 = .ok (.iload 6, 2) := by decide +kernel
theorem d_law_2356 : decode code 2356 = .ok (.i2l, 1) := by decide +kernel
theorem d_law_2357 : decode code 2357 = .ok (.lcmp, 1) := by decide +kernel
theorem d_law_2358 : decode code 2358 = .ok (.ifCond .eq 5, 3) := by decide +kernel
set_option maxHeartbeats 8000000 in
set_option maxRecDepth 100000 in
theorem law_k26 {p : Program} {e : Env} {s : State} {m : MethodId} {below : List Frame} {meth : Method} {c : Code} (l : Launch) (hfl : l.flags = flags0) {b L i : Nat} {xs : Nat → Int32} {D : va_G} {cc : Nat → ClassId} {md : Nat → Nat} {mc : Nat → ClassId} {o : Nat} {cL : ClassId} {sad sav : Nat → Nat} {ad : Nat → Nat → Nat} {ov : Nat → Int64} {N : Nat → Nat} {C : CS} {S : MS} {A : AS} {rd cells slots : Nat} {H : Heap} {locs : List Loc} {ls : Array Slot} (h : LwW p s m meth c b L xs D cc md mc o cL sad sav i ad ov N C S A rd H locs ls) (hi7 : i + 7 ≤ L) (hrd : rd + 60000 < 2 ^ 30) (hcb : cells ≤ 500000) (hsb : slots ≤ 6000000) (hk : ∀ (ad1 : Nat → Nat → Nat) (ov1 : Nat → Int64) (N1 : Nat → Nat) (C1 : CS) (S1 : MS) (A1 : AS) (rd1 c1 z1 : Nat) (H1 : Heap) (locs1 : List Loc) (ls1 : Array Slot), LwW p s m meth c b L xs D cc md mc o cL sad sav i ad1 ov1 N1 C1 S1 A1 rd1 H1 locs1 ls1 → A.n ≤ A1.n → A.m ≤ A1.m → rd1 ≤ rd + 50000 → c1 ≤ 2 * (A1.n - A.n) + 3 * (A1.m - A.m) + 1 → z1 ≤ 23 * (A1.n - A.n) + 40 * (A1.m - A.m) + 6 → W p l e room_1 s m #[Value.ref b] below meth c H1 locs1 (cells + c1) (slots + z1) (lw_Z below #[Value.ref b] s) (F0 m 2391 ls1 [])) : W p l e room_1 s m #[Value.ref b] below meth c H locs cells slots (lw_Z below #[Value.ref b] s) (F0 m 2298 ls []) := by
  obtain ⟨⟨hx, hb, hr, hml, hown, hts, hX, hbl, hlocks, hL⟩, ⟨hev, hE, hN, hH⟩, ⟨hP, hK, hD, hS, hl⟩, hI⟩ := h
  have hNS : tx_NS (lA s) s := fun q cell hq hc => absurd (Array.getElem?_eq_some_iff.mp hc).1 (Nat.not_lt.mpr hq)
  have hA : ∀ q : Nat, s.heap.size ≤ q → lA s q := fun _ h => h
  have hbA : ¬ lA s b := Nat.not_le.mpr hbl
  have h11 : N 11 = 1 := hI.2.1.nn.2.2.2.2.2.2.2.2.2.2.2.1
  refine lv_aload_n hx hb d_law_2298 rfl (lv_at hl 3 rfl) ?_
  refine lv_aload_n hx hb d_law_2299 rfl (lv_at hl 4 rfl) ?_
  refine lv_iload hx hb d_law_2300 (lv_at hl 0 rfl) ?_
  refine lv_iconst (v := 1) hx hb d_law_2302 (by decide) ?_
  refine lv_iadd hx hb d_law_2303 ?_
  refine w_i (y := nI (i + 1)) (nI_add i 1) ?_
  refine va_sld hx hb hX hbl hbA hS (i := nI (i + 1)) (vp_in_nI (n := i + 1) (N := L) (by omega) (by omega)) d_law_2304 ?_
  refine w_i (y := xs (i + 1)) (by rw [cl_nI (by omega)]) ?_
  refine lv_aload_n hx hb d_law_2305 rfl (lv_at hl 4 rfl) ?_
  refine lv_iload hx hb d_law_2306 (lv_at hl 0 rfl) ?_
  refine lv_iconst (v := 2) hx hb d_law_2308 (by decide) ?_
  refine lv_iadd hx hb d_law_2309 ?_
  refine w_i (y := nI (i + 2)) (nI_add i 2) ?_
  refine va_sld hx hb hX hbl hbA hS (i := nI (i + 2)) (vp_in_nI (n := i + 2) (N := L) (by omega) (by omega)) d_law_2310 ?_
  refine w_i (y := xs (i + 2)) (by rw [cl_nI (by omega)]) ?_
  refine lv_aload_n hx hb d_law_2311 rfl (lv_at hl 1 rfl) ?_
  obtain ⟨N1, C1, ov1, kk, c1, z1, S1, bb, A1, rd1, e1, e2, e3, e4, hI1, e5, e6, e7, e8, e9⟩ := st_count (ov := ov) hI hrd (xs (i + 1)) (xs (i + 2))
  have hn1 := hI1.2.2.1.1.1
  have hm1 := hI1.2.2.1.1.2.1
  have hPh := p_l hP
  have hDh := d_l hD
  have hKh := hK.sub (tys' := cty cc ++ [(cL, .long)]) [0, 1, 2, 3, 4, 5, 6, 7] rfl
  have hFc := fr_all hDh hS hA
  refine va_calli (tx_runSW (As := [.ref (ad 11 0), .int (xs (i + 1)), .int (xs (i + 2)), .ref o]) (rest := []) ⟨hx, hb, hml, hown, hts⟩ (g_h_count l hfl D H.size (ad := ad) (cc := cc) (sad := sad) (sav := sav) (cL := cL) (a := o) e1) (cw_w 4 hts kw_1364 kw_1362 kw_1363 kw_0 rfl rfl (by decide +kernel) ⟨Nat.le_of_ble_eq_true rfl, Nat.le_of_ble_eq_true rfl⟩) ⟨h_blind, fun U hU hW => h_pre hU hW hPh hKh hDh hev hE hN hH hNS hS hFc⟩ rfl rfl hl.1 rfl (lv_room (Nat.le_of_ble_eq_true rfl)) d_law_2312 ⟨by show cells + c1 ≤ 601024; omega, by show slots + z1 ≤ 7293034; omega⟩) hS (fun q _ h => hFc q h) hFc (fun rz ad1 t H1 locs ht hvm hw hB hz1 hk1 hS => ?_)
  obtain ⟨hXt, hP1, -, hD1⟩ := hB
  rw [ht] at hP1
  obtain ⟨hP, hD⟩ := join_w hP hD hk1 hFc hP1 hD1
  refine w_i (y := kk) hw ?_
  have had : ad1 11 0 = ad 11 0 := hXt.2 11 0 (by rw [h11]; decide)
  rw [← had] at hl
  generalize H1 = H at hP hS ⊢
  refine W.cs (cells' := cells + c1) (slots' := slots + z1) rfl rfl ?_
  refine lv_istore (lv' := [(5, .int kk), (4, .int (nI i)), (3, .ref o), (2, .ref (md 100)), (1, .ref (ad1 11 0)), (0, .ref b)]) hx hb d_law_2315 hl (by decide) rfl (fun ls hl => ?_)
  refine lv_aload_n hx hb d_law_2317 rfl (lv_at hl 3 rfl) ?_
  refine lv_aload_n hx hb d_law_2318 rfl (lv_at hl 5 rfl) ?_
  refine lv_iload hx hb d_law_2319 (lv_at hl 1 rfl) ?_
  refine lv_iconst (v := 1) hx hb d_law_2321 (by decide) ?_
  refine lv_iadd hx hb d_law_2322 ?_
  refine w_i (y := nI (i + 1)) (nI_add i 1) ?_
  refine va_sld hx hb hX hbl hbA hS (i := nI (i + 1)) (vp_in_nI (n := i + 1) (N := L) (by omega) (by omega)) d_law_2323 ?_
  refine w_i (y := xs (i + 1)) (by rw [cl_nI (by omega)]) ?_
  refine lv_aload_n hx hb d_law_2324 rfl (lv_at hl 5 rfl) ?_
  refine lv_iload hx hb d_law_2325 (lv_at hl 1 rfl) ?_
  refine lv_iconst (v := 2) hx hb d_law_2327 (by decide) ?_
  refine lv_iadd hx hb d_law_2328 ?_
  refine w_i (y := nI (i + 2)) (nI_add i 2) ?_
  refine va_sld hx hb hX hbl hbA hS (i := nI (i + 2)) (vp_in_nI (n := i + 2) (N := L) (by omega) (by omega)) d_law_2329 ?_
  refine w_i (y := xs (i + 2)) (by rw [cl_nI (by omega)]) ?_
  have hPc := p_r hP
  have hDc := d_r hD
  have hKc := hK.sub (tys' := mty mc) [8, 9, 10, 11, 12] rfl
  have hFc := fr_all hDc hS hA
  refine va_calli (va_runV (As := [.int (xs (i + 1)), .int (xs (i + 2))]) (rest := []) ⟨hx, hb, hml, hown, hts⟩ (g_rcount l D H.size (md := md) (mc := mc) e2) (cw_v 2 hts kw_2002 kw_1999 kw_2000 kw_2001 kw_11 rfl rfl (by decide +kernel) ⟨Nat.le_of_ble_eq_true rfl, Nat.le_of_ble_eq_true rfl⟩) ⟨g_blind, va_recv hKc hPc (ci := 12) (q0 := 0) rfl rfl, fun U hU hW => g_pre hU hW hPc hKc hDc⟩ rfl rfl hl.1 rfl (lv_room (Nat.le_of_ble_eq_true rfl)) d_law_2330 ⟨by show cells + c1 + 0 ≤ 601024; omega, by show slots + z1 + 0 ≤ 7293034; omega⟩) hS (fun q _ h => hFc q h) hFc (fun rb u t H1 locs ht hvm hw hB hz1 hk1 hS => ?_)
  obtain ⟨hP1, -, hD1⟩ := hB
  rw [ht] at hP1
  obtain ⟨hP, hD⟩ := join_r hP hD hk1 hFc hP1 hD1
  refine w_i (y := bb) hw ?_
  generalize H1 = H at hP hS ⊢
  refine W.cs (cells' := cells + c1) (slots' := slots + z1) rfl rfl ?_
  refine lv_istore (lv' := [(6, .int bb), (5, .int kk), (4, .int (nI i)), (3, .ref o), (2, .ref (md 100)), (1, .ref (ad1 11 0)), (0, .ref b)]) hx hb d_law_2333 hl (by decide) rfl (fun ls hl => ?_)
  refine lv_aload_n hx hb d_law_2335 rfl (lv_at hl 4 rfl) ?_
  have hPc := p_r hP
  have hDc := d_r hD
  have hKc := hK.sub (tys' := mty mc) [8, 9, 10, 11, 12] rfl
  have hFc := fr_all hDc hS hA
  refine va_calli (va_runV (As := []) (rest := []) ⟨hx, hb, hml, hown, hts⟩ (g_rthrown l D H.size (md := md) (mc := mc) (show m_rthrown S1 = some (S1, S1.i 0) from rfl)) (cw_v 0 hts kw_1618 kw_1615 kw_1616 kw_1617 kw_11 rfl rfl (by decide +kernel) ⟨Nat.le_of_ble_eq_true rfl, Nat.le_of_ble_eq_true rfl⟩) ⟨g_blind, va_recv hKc hPc (ci := 12) (q0 := 0) rfl rfl, fun U hU hW => g_pre hU hW hPc hKc hDc⟩ rfl rfl hl.1 rfl (lv_room (Nat.le_of_ble_eq_true rfl)) d_law_2336 ⟨by show cells + c1 + 0 ≤ 601024; omega, by show slots + z1 + 0 ≤ 7293034; omega⟩) hS (fun q _ h => hFc q h) hFc (fun rt u t H1 locs ht hvm hw hB hz1 hk1 hS => ?_)
  obtain ⟨hP1, -, hD1⟩ := hB
  rw [ht] at hP1
  obtain ⟨hP, hD⟩ := join_r hP hD hk1 hFc hP1 hD1
  refine w_i (y := kk) (hw.trans e3) ?_
  generalize H1 = H at hP hS ⊢
  refine W.cs (cells' := cells + c1) (slots' := slots + z1) rfl rfl ?_
  refine lv_iload hx hb d_law_2339 (lv_at hl 1 rfl) ?_
  refine lv_icmp_eq (tgt := 2346) hx hb d_law_2341 (by decide) (fun _ => ?_) (fun h => absurd rfl h)
  refine lv_iload hx hb d_law_2346 (lv_at hl 1 rfl) ?_
  refine lv_if_ne (tgt := 2363) hx hb d_law_2348 (by decide) (fun ck => ?_) (fun ck => ?_)
  · refine lv_goto (tgt := 2391) hx hb d_law_2363 (by decide) ?_
    exact hk ad1 ov1 N1 C1 S1 A1 rd1 c1 z1 H _ ls ⟨⟨hx, hb, hr, hml, hown, hts, hX, hbl, hlocks, hL⟩, ⟨hev, hE, hN, hH⟩, ⟨hP, hK, hD, hS, lv_sub hl [2, 3, 4, 5, 6] rfl⟩, hI1⟩ e5 e6 e7 e8 e9
  · refine lv_aload_n hx hb d_law_2351 rfl (lv_at hl 3 rfl) ?_
    refine lv_iconst (v := 0) hx hb d_law_2352 (by decide) ?_
    refine va_lald hx hb hK hP (cw ad1 cc N1 C1).length 7 at_mid rfl (i := 0) (vp_in_nI (n := 0) (N := 1) (by decide) (by decide)) d_law_2353 ?_
    refine w_l (y := ov1 0) rfl ?_
    refine lv_iload hx hb d_law_2354 (lv_at hl 0 rfl) ?_
    refine lv_i2l hx hb d_law_2356 rfl ?_
    refine w_l (y := ov1 0) (e4 ck).symm ?_
    refine W.lcmp hx hb d_law_2357 ?_
    refine w_i (y := 0) (by simp [lg_cmp]) ?_
    refine lv_if_eq (tgt := 2363) hx hb d_law_2358 (by decide) (fun _ => ?_) (fun h => absurd rfl h)
    refine lv_goto (tgt := 2391) hx hb d_law_2363 (by decide) ?_
    exact hk ad1 ov1 N1 C1 S1 A1 rd1 c1 z1 H _ ls ⟨⟨hx, hb, hr, hml, hown, hts, hX, hbl, hlocks, hL⟩, ⟨hev, hE, hN, hH⟩, ⟨hP, hK, hD, hS, lv_sub hl [2, 3, 4, 5, 6] rfl⟩, hI1⟩ e5 e6 e7 e8 e9
theorem d_law_2366 : decode code 2366 = .ok (.aload_n 1, 1) := by decide +kernel
theorem d_law_2367 : decode code 2367 = .ok (.aload_n 0, 1) := by decide +kernel
theorem d_law_2368 : decode code 2368 = .ok (.iload 4, 2) := by decide +kernel
theorem d_law_2370 : decode code 2370 = .ok (.iconst 1, 1) := by decide +kernel
theorem d_law_2371 : decode code 2371 = .ok (.iadd, 1) := by decide +kernel
theorem d_law_2372 : decode code 2372 = .ok (.iaload, 1) := by decide +kernel
theorem d_law_2373 : decode code 2373 = .ok (.invokevirtual 211, 3) := by decide +kernel
theorem d_law_2376 : decode code 2376 = .ok (.aload_n 2, 1) := by decide +kernel
theorem d_law_2377 : decode code 2377 = .ok (.aload_n 0, 1) := by decide +kernel
theorem d_law_2378 : decode code 2378 = .ok (.iload 4, 2) := by decide +kernel
theorem d_law_2380 : decode code 2380 = .ok (.iconst 1, 1) := by decide +kernel
theorem d_law_2381 : decode code 2381 = .ok (.iadd, 1) := by decide +kernel
theorem d_law_2382 : decode code 2382 = .ok (.iaload, 1) := by decide +kernel
theorem d_law_2383 : decode code 2383 = .ok (.invokevirtual 214, 3) := by decide +kernel
theorem d_law_2386 : decode code 2386 = .ok (.if_icmp .eq 5, 3) := by decide +kernel
set_option maxHeartbeats 8000000 in
set_option maxRecDepth 100000 in
theorem law_k27 {p : Program} {e : Env} {s : State} {m : MethodId} {below : List Frame} {meth : Method} {c : Code} (l : Launch) (hfl : l.flags = flags0) {b L i : Nat} {xs : Nat → Int32} {D : va_G} {cc : Nat → ClassId} {md : Nat → Nat} {mc : Nat → ClassId} {o : Nat} {cL : ClassId} {sad sav : Nat → Nat} {ad : Nat → Nat → Nat} {ov : Nat → Int64} {N : Nat → Nat} {C : CS} {S : MS} {A : AS} {rd cells slots : Nat} {H : Heap} {locs : List Loc} {ls : Array Slot} (h : LwW p s m meth c b L xs D cc md mc o cL sad sav i ad ov N C S A rd H locs ls) (hi7 : i + 7 ≤ L) (hrd : rd + 60000 < 2 ^ 30) (hcb : cells ≤ 500000) (hsb : slots ≤ 6000000) (hk : ∀ (ad1 : Nat → Nat → Nat) (ov1 : Nat → Int64) (N1 : Nat → Nat) (C1 : CS) (S1 : MS) (A1 : AS) (rd1 c1 z1 : Nat) (H1 : Heap) (locs1 : List Loc) (ls1 : Array Slot), LwW p s m meth c b L xs D cc md mc o cL sad sav i ad1 ov1 N1 C1 S1 A1 rd1 H1 locs1 ls1 → A.n ≤ A1.n → A.m ≤ A1.m → rd1 ≤ rd + 50000 → c1 ≤ 2 * (A1.n - A.n) + 3 * (A1.m - A.m) + 1 → z1 ≤ 23 * (A1.n - A.n) + 40 * (A1.m - A.m) + 6 → W p l e room_1 s m #[Value.ref b] below meth c H1 locs1 (cells + c1) (slots + z1) (lw_Z below #[Value.ref b] s) (F0 m 2391 ls1 [])) : W p l e room_1 s m #[Value.ref b] below meth c H locs cells slots (lw_Z below #[Value.ref b] s) (F0 m 2366 ls []) := by
  obtain ⟨⟨hx, hb, hr, hml, hown, hts, hX, hbl, hlocks, hL⟩, ⟨hev, hE, hN, hH⟩, ⟨hP, hK, hD, hS, hl⟩, hI⟩ := h
  have hNS : tx_NS (lA s) s := fun q cell hq hc => absurd (Array.getElem?_eq_some_iff.mp hc).1 (Nat.not_lt.mpr hq)
  have hA : ∀ q : Nat, s.heap.size ≤ q → lA s q := fun _ h => h
  have hbA : ¬ lA s b := Nat.not_le.mpr hbl
  have h11 : N 11 = 1 := hI.2.1.nn.2.2.2.2.2.2.2.2.2.2.2.1
  refine lv_aload_n hx hb d_law_2366 rfl (lv_at hl 3 rfl) ?_
  refine lv_aload_n hx hb d_law_2367 rfl (lv_at hl 4 rfl) ?_
  refine lv_iload hx hb d_law_2368 (lv_at hl 0 rfl) ?_
  refine lv_iconst (v := 1) hx hb d_law_2370 (by decide) ?_
  refine lv_iadd hx hb d_law_2371 ?_
  refine w_i (y := nI (i + 1)) (nI_add i 1) ?_
  refine va_sld hx hb hX hbl hbA hS (i := nI (i + 1)) (vp_in_nI (n := i + 1) (N := L) (by omega) (by omega)) d_law_2372 ?_
  refine w_i (y := xs (i + 1)) (by rw [cl_nI (by omega)]) ?_
  obtain ⟨vt, S1, e1, e2, e3, hI1⟩ := call_told hI (xs (i + 1))
  have hP := as_P hP
  have hD := as_D hD
  have hPh := p_l hP
  have hDh := d_l hD
  have hKh := hK.sub (tys' := cty cc) [0, 1, 2, 3, 4, 5, 6] rfl
  have hFc := fr_all hDh hS hA
  refine va_calli (va_runV (As := [.int (xs (i + 1))]) (rest := []) ⟨hx, hb, hml, hown, hts⟩ (g_cJT_told l D H.size (ad := ad) (cc := cc) (sad := sad) (sav := sav) e1) (cw_v 1 hts kw_464 kw_461 kw_462 kw_463 kw_1 rfl rfl (by decide +kernel) ⟨Nat.le_of_ble_eq_true rfl, Nat.le_of_ble_eq_true rfl⟩) ⟨c_blind, va_recv hKh hPh (ci := 11) (q0 := cPos N 11 0) rfl (cw_obj (k := 11) (by decide) (by rw [h11]; decide)), fun U hU hW => c_pre hU hW hPh hKh hDh hev hE hN hNS hS hFc⟩ rfl rfl hl.1 rfl (lv_room (Nat.le_of_ble_eq_true rfl)) d_law_2373 ⟨by show cells + 0 ≤ 601024; omega, by show slots + 0 ≤ 7293034; omega⟩) hS (fun q _ h => hFc q h) hFc (fun rz u t H1 locs ht hvm hw hB hz1 hk1 hS => ?_)
  obtain ⟨hP1, -, hD1⟩ := hB
  rw [ht] at hP1
  obtain ⟨hP, hD⟩ := join_w hP hD hk1 hFc hP1 hD1
  refine w_i (y := vt) hw ?_
  have hP := sa_P hP
  have hD := sa_D hD
  generalize H1 = H at hP hS ⊢
  refine W.cs (cells' := cells) (slots' := slots) rfl rfl ?_
  refine lv_aload_n hx hb d_law_2376 rfl (lv_at hl 2 rfl) ?_
  refine lv_aload_n hx hb d_law_2377 rfl (lv_at hl 4 rfl) ?_
  refine lv_iload hx hb d_law_2378 (lv_at hl 0 rfl) ?_
  refine lv_iconst (v := 1) hx hb d_law_2380 (by decide) ?_
  refine lv_iadd hx hb d_law_2381 ?_
  refine w_i (y := nI (i + 1)) (nI_add i 1) ?_
  refine va_sld hx hb hX hbl hbA hS (i := nI (i + 1)) (vp_in_nI (n := i + 1) (N := L) (by omega) (by omega)) d_law_2382 ?_
  refine w_i (y := xs (i + 1)) (by rw [cl_nI (by omega)]) ?_
  have hPc := p_r hP
  have hDc := d_r hD
  have hKc := hK.sub (tys' := mty mc) [8, 9, 10, 11, 12] rfl
  have hFc := fr_all hDc hS hA
  refine va_calli (va_runV (As := [.int (xs (i + 1))]) (rest := [.int vt]) ⟨hx, hb, hml, hown, hts⟩ (g_rtold l D H.size (md := md) (mc := mc) e2) (cw_v 1 hts kw_2006 kw_2003 kw_2004 kw_2005 kw_11 rfl rfl (by decide +kernel) ⟨Nat.le_of_ble_eq_true rfl, Nat.le_of_ble_eq_true rfl⟩) ⟨g_blind, va_recv hKc hPc (ci := 12) (q0 := 0) rfl rfl, fun U hU hW => g_pre hU hW hPc hKc hDc⟩ rfl rfl hl.1 rfl (lv_room (Nat.le_of_ble_eq_true rfl)) d_law_2383 ⟨by show cells + 0 ≤ 601024; omega, by show slots + 0 ≤ 7293034; omega⟩) hS (fun q _ h => hFc q h) hFc (fun rb u t H1 locs ht hvm hw hB hz1 hk1 hS => ?_)
  obtain ⟨hP1, -, hD1⟩ := hB
  rw [ht] at hP1
  obtain ⟨hP, hD⟩ := join_r hP hD hk1 hFc hP1 hD1
  refine w_i (y := vt) hw ?_
  generalize H1 = H at hP hS ⊢
  refine W.cs (cells' := cells + 0) (slots' := slots + 0) rfl rfl ?_
  refine lv_icmp_eq (tgt := 2391) hx hb d_law_2386 (by decide) (fun _ => ?_) (fun h => absurd rfl h)
  exact hk ad ov N C S1 A rd 0 0 H _ ls ⟨⟨hx, hb, hr, hml, hown, hts, hX, hbl, hlocks, hL⟩, ⟨hev, hE, hN, hH⟩, ⟨hP, hK, hD, hS, hl⟩, hI1⟩ (Nat.le_refl _) (Nat.le_refl _) (by omega) (by omega) (by omega)
