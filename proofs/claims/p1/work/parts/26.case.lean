theorem d_law_2195 : decode code 2195 = .ok (.aload_n 1, 1) := by decide +kernel
theorem d_law_2196 : decode code 2196 = .ok (.aload_n 0, 1) := by decide +kernel
theorem d_law_2197 : decode code 2197 = .ok (.iload 4, 2) := by decide +kernel
theorem d_law_2199 : decode code 2199 = .ok (.iconst 1, 1) := by decide +kernel
theorem d_law_2200 : decode code 2200 = .ok (.iadd, 1) := by decide +kernel
theorem d_law_2201 : decode code 2201 = .ok (.iaload, 1) := by decide +kernel
theorem d_law_2202 : decode code 2202 = .ok (.aload_n 0, 1) := by decide +kernel
theorem d_law_2203 : decode code 2203 = .ok (.iload 4, 2) := by decide +kernel
theorem d_law_2205 : decode code 2205 = .ok (.iconst 2, 1) := by decide +kernel
theorem d_law_2206 : decode code 2206 = .ok (.iadd, 1) := by decide +kernel
theorem d_law_2207 : decode code 2207 = .ok (.iaload, 1) := by decide +kernel
theorem d_law_2208 : decode code 2208 = .ok (.invokestatic 201, 3) := by decide +kernel
theorem d_law_2211 : decode code 2211 = .ok (.istore 5, 2) := by decide +kernel
theorem d_law_2213 : decode code 2213 = .ok (.aload_n 2, 1) := by decide +kernel
theorem d_law_2214 : decode code 2214 = .ok (.aload_n 0, 1) := by decide +kernel
theorem d_law_2215 : decode code 2215 = .ok (.iload 4, 2) := by decide +kernel
theorem d_law_2217 : decode code 2217 = .ok (.iconst 1, 1) := by decide +kernel
theorem d_law_2218 : decode code 2218 = .ok (.iadd, 1) := by decide +kernel
theorem d_law_2219 : decode code 2219 = .ok (.iaload, 1) := by decide +kernel
theorem d_law_2220 : decode code 2220 = .ok (.aload_n 0, 1) := by decide +kernel
theorem d_law_2221 : decode code 2221 = .ok (.iload 4, 2) := by decide +kernel
theorem d_law_2223 : decode code 2223 = .ok (.iconst 2, 1) := by decide +kernel
theorem d_law_2224 : decode code 2224 = .ok (.iadd, 1) := by decide +kernel
theorem d_law_2225 : decode code 2225 = .ok (.iaload, 1) := by decide +kernel
theorem d_law_2226 : decode code 2226 = .ok (.invokevirtual 204, 3) := by decide +kernel
theorem d_law_2229 : decode code 2229 = .ok (.aload_n 2, 1) := by decide +kernel
theorem d_law_2230 : decode code 2230 = .ok (.invokevirtual 120, 3) := by decide +kernel
theorem d_law_2233 : decode code 2233 = .ok (.iload 5, 2) := by decide +kernel
theorem d_law_2235 : decode code 2235 = .ok (.if_icmp .eq 5, 3) := by decide +kernel
theorem d_law_2240 : decode code 2240 = .ok (.goto 151, 3) := by decide +kernel
set_option maxHeartbeats 4000000 in
set_option maxRecDepth 100000 in
theorem law_c24 {p : Program} {e : Env} {s : State} {m : MethodId} {below : List Frame} {meth : Method} {c : Code} (l : Launch) (hfl : l.flags = flags0) {b : Nat} {xs : Nat → Int32} {D : va_G} {ad : Nat → Nat} {ac : Nat → ClassId} {md : Nat → Nat} {mc : Nat → ClassId} {o : Nat} {H : Heap} {locs : List Loc} {ls : Array Slot} (h : LwS p s m meth c b 7 xs D ad ac md mc o H locs ls) : W p l e room_1 s m #[Value.ref b] below meth c H locs 636 1394874 (lw_Z below #[Value.ref b] s) (F0 m 2195 ls []) := by
  obtain ⟨hx, hb, hr, hml, hown, hts, hX, hbl, hlocks, hev, hP, hK, hD, hS, hl⟩ := h
  have hNS : tx_NS (lA s) s := fun q cell hq hc => absurd (Array.getElem?_eq_some_iff.mp hc).1 (Nat.not_lt.mpr hq)
  have hA : ∀ q : Nat, s.heap.size ≤ q → lA s q := fun _ h => h
  have hT : ∀ q : Nat, lA s q → s.heap.size ≤ q := fun _ h => h
  have hbA : ¬ lA s b := Nat.not_le.mpr hbl
  generalize lA s = A at hev hD hS hNS hA hT hbA
  refine lv_aload_n hx hb d_law_2195 rfl (lv_at hl 3 rfl) ?_
  refine lv_aload_n hx hb d_law_2196 rfl (lv_at hl 4 rfl) ?_
  refine lv_iload hx hb d_law_2197 (lv_at hl 0 rfl) ?_
  refine lv_iconst (v := 1) hx hb d_law_2199 (by decide) ?_
  refine lv_iadd hx hb d_law_2200 ?_
  refine w_i (y := 1) (by decide) ?_
  refine va_sld hx hb hX hbl hbA hS (i := 1) (vp_in_nI (n := 1) (N := 7) (by decide) (by decide)) d_law_2201 ?_
  refine w_i (y := xs 1) rfl ?_
  refine lv_aload_n hx hb d_law_2202 rfl (lv_at hl 4 rfl) ?_
  refine lv_iload hx hb d_law_2203 (lv_at hl 0 rfl) ?_
  refine lv_iconst (v := 2) hx hb d_law_2205 (by decide) ?_
  refine lv_iadd hx hb d_law_2206 ?_
  refine w_i (y := 2) (by decide) ?_
  refine va_sld hx hb hX hbl hbA hS (i := 2) (vp_in_nI (n := 2) (N := 7) (by decide) (by decide)) d_law_2207 ?_
  refine w_i (y := xs 2) rfl ?_
  have hPh := p_l hP
  have hDh := d_l hD
  have hKh := hK.sub (tys' := fxT ac) [0, 1, 2, 3, 4, 5, 6, 7] rfl
  have hFc := fr_all hDh hS hA
  refine va_calli (tx_runSW (As := [.ref (ad 0), .int (xs 1), .int (xs 2)]) (rest := []) ⟨hx, hb, hml, hown, hts⟩ (h_harm l hfl D ad ac (fun _ => 0) o (fun _ => 0) H.size (xs 1) (xs 2)) (cw_w 3 hts kw_1349 kw_1347 kw_1348 kw_0 rfl rfl (by decide +kernel) ⟨Nat.le_of_ble_eq_true rfl, Nat.le_of_ble_eq_true rfl⟩) ⟨h_blind, fun U hU hW => h_pre hU hW hPh hKh hDh hev hNS hS hFc⟩ rfl rfl hl.1 rfl (lv_room (Nat.le_of_ble_eq_true rfl)) d_law_2208 ⟨Nat.le_of_ble_eq_true rfl, Nat.le_of_ble_eq_true rfl⟩) hS (fun q _ h => hFc q h) hFc (fun rz u t H1 locs ht hvm hw hB hz1 hk1 hS => ?_)
  obtain ⟨hP1, -, -⟩ := hB
  rw [ht] at hP1
  obtain ⟨hw1, hw2⟩ := hw
  subst hw1
  have hP := hP1.app (p_keep hP hD hk1)
  have hD := d_oc hD (e' := .inl (ac 7, 1, .inr (.inl u)))
  generalize H1 = H at hP hS ⊢
  have hP : va_P D cls [(o, .inl (ac 7, 1, .inr (.inl u))), (md 100, .inr (12, [.int 0, .ref (md 1), .ref (md 2), .ref (md 3), .int 0, .int 0, .int 0, .int 0, .ref (md 8), .ref (md 9), .ref (md 10), .ref (md 11), .ref (md 12), .ref (md 13), .ref (md 14), .ref (md 15), .ref (md 16), .ref (md 17), .ref (md 18), .ref (md 19), .ref (md 20), .ref (md 21), .ref (md 22), .int 0, .ref (md 24), .int 0, .ref (md 26), .int 0, .ref (md 28), .ref (md 29), .ref (md 30), .ref (md 31), .ref (md 32), .ref (md 33), .int 0, .int 0, .ref (md 36), .ref (md 37), .ref (md 38), .ref (md 39), .ref (md 40), .int 0, .int (-1), .int 0, .ref (md 44), .ref (md 45), .ref (md 46), .int 0, .ref (md 48), .ref (md 49), .int 0, .ref (md 51), .int 0, .ref (md 53), .ref (md 54), .ref (md 55), .ref (md 56), .ref (md 57), .ref (md 58), .ref (md 59), .ref (md 60), .ref (md 61), .ref (md 62), .ref (md 63), .int 0, .int 0, .int 0, .int 0, .int 0, .int 0, .ref (md 70), .int 0, .ref (md 72), .int 0, .int 400000, .int 0, .int 0])), (md 39, .inl (mc 0, 8, .inl (fun _ => -1))), (md 1, .inl (mc 1, 8300, .inl (fun _ => 0))), (md 40, .inl (mc 1, 800000, .inl (fun _ => 0))), (md 72, .inl (mc 0, 12010, .inl (fun _ => 0)))] H := hP
  have hD : va_D A [(o, .inl (ac 7, 1, .inr (.inl u))), (md 100, .inr (12, [.int 0, .ref (md 1), .ref (md 2), .ref (md 3), .int 0, .int 0, .int 0, .int 0, .ref (md 8), .ref (md 9), .ref (md 10), .ref (md 11), .ref (md 12), .ref (md 13), .ref (md 14), .ref (md 15), .ref (md 16), .ref (md 17), .ref (md 18), .ref (md 19), .ref (md 20), .ref (md 21), .ref (md 22), .int 0, .ref (md 24), .int 0, .ref (md 26), .int 0, .ref (md 28), .ref (md 29), .ref (md 30), .ref (md 31), .ref (md 32), .ref (md 33), .int 0, .int 0, .ref (md 36), .ref (md 37), .ref (md 38), .ref (md 39), .ref (md 40), .int 0, .int (-1), .int 0, .ref (md 44), .ref (md 45), .ref (md 46), .int 0, .ref (md 48), .ref (md 49), .int 0, .ref (md 51), .int 0, .ref (md 53), .ref (md 54), .ref (md 55), .ref (md 56), .ref (md 57), .ref (md 58), .ref (md 59), .ref (md 60), .ref (md 61), .ref (md 62), .ref (md 63), .int 0, .int 0, .int 0, .int 0, .int 0, .int 0, .ref (md 70), .int 0, .ref (md 72), .int 0, .int 400000, .int 0, .int 0])), (md 39, .inl (mc 0, 8, .inl (fun _ => -1))), (md 1, .inl (mc 1, 8300, .inl (fun _ => 0))), (md 40, .inl (mc 1, 800000, .inl (fun _ => 0))), (md 72, .inl (mc 0, 12010, .inl (fun _ => 0)))] := hD
  refine W.cs (cells' := 637) (slots' := 1394880) rfl rfl ?_
  refine lv_istore (lv' := [(5, .int (k_har (xs 2))), (4, .int 0), (3, .ref o), (2, .ref (md 100)), (1, .ref (ad 0)), (0, .ref b)]) hx hb d_law_2211 hl (by decide) rfl (fun ls hl => ?_)
  refine lv_aload_n hx hb d_law_2213 rfl (lv_at hl 3 rfl) ?_
  refine lv_aload_n hx hb d_law_2214 rfl (lv_at hl 5 rfl) ?_
  refine lv_iload hx hb d_law_2215 (lv_at hl 1 rfl) ?_
  refine lv_iconst (v := 1) hx hb d_law_2217 (by decide) ?_
  refine lv_iadd hx hb d_law_2218 ?_
  refine w_i (y := 1) (by decide) ?_
  refine va_sld hx hb hX hbl hbA hS (i := 1) (vp_in_nI (n := 1) (N := 7) (by decide) (by decide)) d_law_2219 ?_
  refine w_i (y := xs 1) rfl ?_
  refine lv_aload_n hx hb d_law_2220 rfl (lv_at hl 5 rfl) ?_
  refine lv_iload hx hb d_law_2221 (lv_at hl 1 rfl) ?_
  refine lv_iconst (v := 2) hx hb d_law_2223 (by decide) ?_
  refine lv_iadd hx hb d_law_2224 ?_
  refine w_i (y := 2) (by decide) ?_
  refine va_sld hx hb hX hbl hbA hS (i := 2) (vp_in_nI (n := 2) (N := 7) (by decide) (by decide)) d_law_2225 ?_
  refine w_i (y := xs 2) rfl ?_
  have hPc := hP.sub (ws' := [(md 100, .inr (12, [.int 0, .ref (md 1), .ref (md 2), .ref (md 3), .int 0, .int 0, .int 0, .int 0, .ref (md 8), .ref (md 9), .ref (md 10), .ref (md 11), .ref (md 12), .ref (md 13), .ref (md 14), .ref (md 15), .ref (md 16), .ref (md 17), .ref (md 18), .ref (md 19), .ref (md 20), .ref (md 21), .ref (md 22), .int 0, .ref (md 24), .int 0, .ref (md 26), .int 0, .ref (md 28), .ref (md 29), .ref (md 30), .ref (md 31), .ref (md 32), .ref (md 33), .int 0, .int 0, .ref (md 36), .ref (md 37), .ref (md 38), .ref (md 39), .ref (md 40), .int 0, .int (-1), .int 0, .ref (md 44), .ref (md 45), .ref (md 46), .int 0, .ref (md 48), .ref (md 49), .int 0, .ref (md 51), .int 0, .ref (md 53), .ref (md 54), .ref (md 55), .ref (md 56), .ref (md 57), .ref (md 58), .ref (md 59), .ref (md 60), .ref (md 61), .ref (md 62), .ref (md 63), .int 0, .int 0, .int 0, .int 0, .int 0, .int 0, .ref (md 70), .int 0, .ref (md 72), .int 0, .int 400000, .int 0, .int 0]))]) [1] rfl
  have hDc := hD.sub (ws' := [(md 100, .inr (12, [.int 0, .ref (md 1), .ref (md 2), .ref (md 3), .int 0, .int 0, .int 0, .int 0, .ref (md 8), .ref (md 9), .ref (md 10), .ref (md 11), .ref (md 12), .ref (md 13), .ref (md 14), .ref (md 15), .ref (md 16), .ref (md 17), .ref (md 18), .ref (md 19), .ref (md 20), .ref (md 21), .ref (md 22), .int 0, .ref (md 24), .int 0, .ref (md 26), .int 0, .ref (md 28), .ref (md 29), .ref (md 30), .ref (md 31), .ref (md 32), .ref (md 33), .int 0, .int 0, .ref (md 36), .ref (md 37), .ref (md 38), .ref (md 39), .ref (md 40), .int 0, .int (-1), .int 0, .ref (md 44), .ref (md 45), .ref (md 46), .int 0, .ref (md 48), .ref (md 49), .int 0, .ref (md 51), .int 0, .ref (md 53), .ref (md 54), .ref (md 55), .ref (md 56), .ref (md 57), .ref (md 58), .ref (md 59), .ref (md 60), .ref (md 61), .ref (md 62), .ref (md 63), .int 0, .int 0, .int 0, .int 0, .int 0, .int 0, .ref (md 70), .int 0, .ref (md 72), .int 0, .int 400000, .int 0, .int 0]))]) [1] (by decide) rfl
  have hKc := hK.sub (tys' := []) [] rfl
  have hFc := va_free (wc := [(md 100, .inr (12, [.int 0, .ref (md 1), .ref (md 2), .ref (md 3), .int 0, .int 0, .int 0, .int 0, .ref (md 8), .ref (md 9), .ref (md 10), .ref (md 11), .ref (md 12), .ref (md 13), .ref (md 14), .ref (md 15), .ref (md 16), .ref (md 17), .ref (md 18), .ref (md 19), .ref (md 20), .ref (md 21), .ref (md 22), .int 0, .ref (md 24), .int 0, .ref (md 26), .int 0, .ref (md 28), .ref (md 29), .ref (md 30), .ref (md 31), .ref (md 32), .ref (md 33), .int 0, .int 0, .ref (md 36), .ref (md 37), .ref (md 38), .ref (md 39), .ref (md 40), .int 0, .int (-1), .int 0, .ref (md 44), .ref (md 45), .ref (md 46), .int 0, .ref (md 48), .ref (md 49), .int 0, .ref (md 51), .int 0, .ref (md 53), .ref (md 54), .ref (md 55), .ref (md 56), .ref (md 57), .ref (md 58), .ref (md 59), .ref (md 60), .ref (md 61), .ref (md 62), .ref (md 63), .int 0, .int 0, .int 0, .int 0, .int 0, .int 0, .ref (md 70), .int 0, .ref (md 72), .int 0, .int 400000, .int 0, .int 0]))]) hD hS hA [1] rfl
  refine va_callv (va_runV (As := [.int (xs 1), .int (xs 2)]) (rest := []) ⟨hx, hb, hml, hown, hts⟩ (g_p_harm l D H.size md mc (xs 1) (xs 2)) (cw_v 2 hts kw_1994 kw_1991 kw_1992 kw_1993 kw_11 rfl rfl (by decide +kernel) ⟨Nat.le_of_ble_eq_true rfl, Nat.le_of_ble_eq_true rfl⟩) ⟨g_blind, va_recv hKc hPc (ci := 12) (q0 := 0) rfl rfl, fun U hU hW => g_pre hU hW hPc hKc hDc⟩ rfl rfl hl.1 rfl (lv_room (Nat.le_of_ble_eq_true rfl)) d_law_2226 ⟨Nat.le_of_ble_eq_true rfl, Nat.le_of_ble_eq_true rfl⟩) hS (fun q _ h => hFc q h) hFc (fun u_2 t H1 locs ht hvm hw hB hz1 hk1 hS => ?_)
  obtain ⟨hP1, hK1, hD1⟩ := hB
  rw [ht] at hP1
  have hK1 := va_K.moved hvm.symm hK1
  obtain ⟨hP, hD⟩ := va_join (wr := [(o, .inl (ac 7, 1, .inr (.inl u))), (md 39, .inl (mc 0, 8, .inl (fun _ => -1))), (md 1, .inl (mc 1, 8300, .inl (fun _ => 0))), (md 40, .inl (mc 1, 800000, .inl (fun _ => 0))), (md 72, .inl (mc 0, 12010, .inl (fun _ => 0)))]) (w1 := [(md 100, .inr (12, .int (k_har (xs 2)) :: u_2))]) hP hD [1] [0, 2, 3, 4, 5] rfl rfl (by decide) (by decide) hk1 hFc hP1 hD1
  generalize H1 = H at hP hS ⊢
  have hP : va_P D cls [(o, .inl (ac 7, 1, .inr (.inl u))), (md 39, .inl (mc 0, 8, .inl (fun _ => -1))), (md 1, .inl (mc 1, 8300, .inl (fun _ => 0))), (md 40, .inl (mc 1, 800000, .inl (fun _ => 0))), (md 72, .inl (mc 0, 12010, .inl (fun _ => 0))), (md 100, .inr (12, .int (k_har (xs 2)) :: u_2))] H := hP
  have hD : va_D A [(o, .inl (ac 7, 1, .inr (.inl u))), (md 39, .inl (mc 0, 8, .inl (fun _ => -1))), (md 1, .inl (mc 1, 8300, .inl (fun _ => 0))), (md 40, .inl (mc 1, 800000, .inl (fun _ => 0))), (md 72, .inl (mc 0, 12010, .inl (fun _ => 0))), (md 100, .inr (12, .int (k_har (xs 2)) :: u_2))] := hD
  refine W.cs (cells' := 637) (slots' := 1394880) rfl rfl ?_
  have hwm := hw
  refine lv_aload_n hx hb d_law_2229 rfl (lv_at hl 3 rfl) ?_
  have hPc := hP.sub (ws' := [(md 100, .inr (12, .int (k_har (xs 2)) :: u_2))]) [5] rfl
  have hDc := hD.sub (ws' := [(md 100, .inr (12, .int (k_har (xs 2)) :: u_2))]) [5] (by decide) rfl
  have hKc := hK.sub (tys' := []) [] rfl
  have hFc := va_free (wc := [(md 100, .inr (12, .int (k_har (xs 2)) :: u_2))]) hD hS hA [5] rfl
  refine va_calli (va_runV (As := []) (rest := []) ⟨hx, hb, hml, hown, hts⟩ (g_thr l D H.size md mc (k_har (xs 2)) u_2) (cw_v 0 hts kw_1618 kw_1615 kw_1616 kw_1617 kw_11 rfl rfl (by decide +kernel) ⟨Nat.le_of_ble_eq_true rfl, Nat.le_of_ble_eq_true rfl⟩) ⟨g_blind, va_recv hKc hPc (ci := 12) (q0 := 0) rfl rfl, fun U hU hW => g_pre hU hW hPc hKc hDc⟩ rfl rfl hl.1 rfl (lv_room (Nat.le_of_ble_eq_true rfl)) d_law_2230 ⟨Nat.le_of_ble_eq_true rfl, Nat.le_of_ble_eq_true rfl⟩) hS (fun q _ h => hFc q h) hFc (fun r_3 u_4 t H1 locs ht hvm hw hB hz1 hk1 hS => ?_)
  obtain ⟨⟩ := u_4
  obtain ⟨hP1, hK1, hD1⟩ := hB
  rw [ht] at hP1
  have hK1 := va_K.moved hvm.symm hK1
  obtain ⟨hP, hD⟩ := va_join (wr := [(o, .inl (ac 7, 1, .inr (.inl u))), (md 39, .inl (mc 0, 8, .inl (fun _ => -1))), (md 1, .inl (mc 1, 8300, .inl (fun _ => 0))), (md 40, .inl (mc 1, 800000, .inl (fun _ => 0))), (md 72, .inl (mc 0, 12010, .inl (fun _ => 0)))]) (w1 := [(md 100, .inr (12, .int (k_har (xs 2)) :: u_2))]) hP hD [5] [0, 1, 2, 3, 4] rfl rfl (by decide) (by decide) hk1 hFc hP1 hD1
  generalize H1 = H at hP hS ⊢
  have hP : va_P D cls [(o, .inl (ac 7, 1, .inr (.inl u))), (md 39, .inl (mc 0, 8, .inl (fun _ => -1))), (md 1, .inl (mc 1, 8300, .inl (fun _ => 0))), (md 40, .inl (mc 1, 800000, .inl (fun _ => 0))), (md 72, .inl (mc 0, 12010, .inl (fun _ => 0))), (md 100, .inr (12, .int (k_har (xs 2)) :: u_2))] H := hP
  have hD : va_D A [(o, .inl (ac 7, 1, .inr (.inl u))), (md 39, .inl (mc 0, 8, .inl (fun _ => -1))), (md 1, .inl (mc 1, 8300, .inl (fun _ => 0))), (md 40, .inl (mc 1, 800000, .inl (fun _ => 0))), (md 72, .inl (mc 0, 12010, .inl (fun _ => 0))), (md 100, .inr (12, .int (k_har (xs 2)) :: u_2))] := hD
  refine W.cs (cells' := 637) (slots' := 1394880) rfl rfl ?_
  subst hw
  refine lv_iload hx hb d_law_2233 (lv_at hl 0 rfl) ?_
  refine lv_icmp_eq (tgt := 2240) hx hb d_law_2235 (by decide) (fun _ => ?_) (fun h => absurd rfl h)
  refine lv_goto (tgt := 2391) hx hb d_law_2240 (by decide) ?_
  exact law_tail l hx hb hr hlocks hX hbl hbA hT hS (lv_sub hl [1, 5] rfl) (by decide) (by decide)
theorem d_law_2243 : decode code 2243 = .ok (.aload_n 1, 1) := by decide +kernel
theorem d_law_2244 : decode code 2244 = .ok (.aload_n 0, 1) := by decide +kernel
theorem d_law_2245 : decode code 2245 = .ok (.iload 4, 2) := by decide +kernel
theorem d_law_2247 : decode code 2247 = .ok (.iconst 1, 1) := by decide +kernel
theorem d_law_2248 : decode code 2248 = .ok (.iadd, 1) := by decide +kernel
theorem d_law_2249 : decode code 2249 = .ok (.iaload, 1) := by decide +kernel
theorem d_law_2250 : decode code 2250 = .ok (.aload_n 3, 1) := by decide +kernel
theorem d_law_2251 : decode code 2251 = .ok (.invokestatic 205, 3) := by decide +kernel
theorem d_law_2254 : decode code 2254 = .ok (.istore 5, 2) := by decide +kernel
theorem d_law_2256 : decode code 2256 = .ok (.aload_n 2, 1) := by decide +kernel
theorem d_law_2257 : decode code 2257 = .ok (.aload_n 0, 1) := by decide +kernel
theorem d_law_2258 : decode code 2258 = .ok (.iload 4, 2) := by decide +kernel
theorem d_law_2260 : decode code 2260 = .ok (.iconst 1, 1) := by decide +kernel
theorem d_law_2261 : decode code 2261 = .ok (.iadd, 1) := by decide +kernel
theorem d_law_2262 : decode code 2262 = .ok (.iaload, 1) := by decide +kernel
theorem d_law_2263 : decode code 2263 = .ok (.invokevirtual 207, 3) := by decide +kernel
theorem d_law_2266 : decode code 2266 = .ok (.lstore 6, 2) := by decide +kernel
theorem d_law_2268 : decode code 2268 = .ok (.aload_n 2, 1) := by decide +kernel
theorem d_law_2269 : decode code 2269 = .ok (.invokevirtual 120, 3) := by decide +kernel
theorem d_law_2272 : decode code 2272 = .ok (.iload 5, 2) := by decide +kernel
theorem d_law_2274 : decode code 2274 = .ok (.if_icmp .eq 5, 3) := by decide +kernel
theorem d_law_2279 : decode code 2279 = .ok (.iload 5, 2) := by decide +kernel
theorem d_law_2281 : decode code 2281 = .ok (.ifCond .ne 14, 3) := by decide +kernel
theorem d_law_2295 : decode code 2295 = .ok (.goto 96, 3) := by decide +kernel
theorem d_law_2284 : decode code 2284 = .ok (.aload_n 3, 1) := by decide +kernel
theorem d_law_2285 : decode code 2285 = .ok (.iconst 0, 1) := by decide +kernel
theorem d_law_2286 : decode code 2286 = .ok (.laload, 1) := by decide +kernel
theorem d_law_2287 : decode code 2287 = .ok (.lload 6, 2) := by decide +kernel
theorem d_law_2289 : decode code 2289 = .ok (.lcmp, 1) := by decide +kernel
theorem d_law_2290 : decode code 2290 = .ok (.ifCond .eq 5, 3) := by decide +kernel
set_option maxHeartbeats 4000000 in
set_option maxRecDepth 100000 in
theorem law_c25 {p : Program} {e : Env} {s : State} {m : MethodId} {below : List Frame} {meth : Method} {c : Code} (l : Launch) (hfl : l.flags = flags0) {b : Nat} {xs : Nat → Int32} {D : va_G} {ad : Nat → Nat} {ac : Nat → ClassId} {md : Nat → Nat} {mc : Nat → ClassId} {o : Nat} {H : Heap} {locs : List Loc} {ls : Array Slot} (h : LwS p s m meth c b 7 xs D ad ac md mc o H locs ls) : W p l e room_1 s m #[Value.ref b] below meth c H locs 636 1394874 (lw_Z below #[Value.ref b] s) (F0 m 2243 ls []) := by
  obtain ⟨hx, hb, hr, hml, hown, hts, hX, hbl, hlocks, hev, hP, hK, hD, hS, hl⟩ := h
  have hNS : tx_NS (lA s) s := fun q cell hq hc => absurd (Array.getElem?_eq_some_iff.mp hc).1 (Nat.not_lt.mpr hq)
  have hA : ∀ q : Nat, s.heap.size ≤ q → lA s q := fun _ h => h
  have hT : ∀ q : Nat, lA s q → s.heap.size ≤ q := fun _ h => h
  have hbA : ¬ lA s b := Nat.not_le.mpr hbl
  generalize lA s = A at hev hD hS hNS hA hT hbA
  refine lv_aload_n hx hb d_law_2243 rfl (lv_at hl 3 rfl) ?_
  refine lv_aload_n hx hb d_law_2244 rfl (lv_at hl 4 rfl) ?_
  refine lv_iload hx hb d_law_2245 (lv_at hl 0 rfl) ?_
  refine lv_iconst (v := 1) hx hb d_law_2247 (by decide) ?_
  refine lv_iadd hx hb d_law_2248 ?_
  refine w_i (y := 1) (by decide) ?_
  refine va_sld hx hb hX hbl hbA hS (i := 1) (vp_in_nI (n := 1) (N := 7) (by decide) (by decide)) d_law_2249 ?_
  refine w_i (y := xs 1) rfl ?_
  refine lv_aload_n hx hb d_law_2250 rfl (lv_at hl 1 rfl) ?_
  have hPh := p_l hP
  have hDh := d_l hD
  have hKh := hK.sub (tys' := fxT ac) [0, 1, 2, 3, 4, 5, 6, 7] rfl
  have hFc := fr_all hDh hS hA
  refine va_calli (tx_runSW (As := [.ref (ad 0), .int (xs 1), .ref o]) (rest := []) ⟨hx, hb, hml, hown, hts⟩ (h_out l hfl D ad ac (fun _ => 0) o (fun _ => 0) H.size (xs 1)) (cw_w 3 hts kw_1356 kw_1354 kw_1355 kw_0 rfl rfl (by decide +kernel) ⟨Nat.le_of_ble_eq_true rfl, Nat.le_of_ble_eq_true rfl⟩) ⟨h_blind, fun U hU hW => h_pre hU hW hPh hKh hDh hev hNS hS hFc⟩ rfl rfl hl.1 rfl (lv_room (Nat.le_of_ble_eq_true rfl)) d_law_2251 ⟨Nat.le_of_ble_eq_true rfl, Nat.le_of_ble_eq_true rfl⟩) hS (fun q _ h => hFc q h) hFc (fun rz u t H1 locs ht hvm hw hB hz1 hk1 hS => ?_)
  obtain ⟨hP1, -, -⟩ := hB
  rw [ht] at hP1
  obtain ⟨hw1, hw2⟩ := hw
  subst hw1
  have hP := hP1.app (p_keep hP hD hk1)
  have hD := d_oc hD (e' := .inl (ac 7, 1, .inr (.inl u)))
  generalize H1 = H at hP hS ⊢
  have hP : va_P D cls [(o, .inl (ac 7, 1, .inr (.inl u))), (md 100, .inr (12, [.int 0, .ref (md 1), .ref (md 2), .ref (md 3), .int 0, .int 0, .int 0, .int 0, .ref (md 8), .ref (md 9), .ref (md 10), .ref (md 11), .ref (md 12), .ref (md 13), .ref (md 14), .ref (md 15), .ref (md 16), .ref (md 17), .ref (md 18), .ref (md 19), .ref (md 20), .ref (md 21), .ref (md 22), .int 0, .ref (md 24), .int 0, .ref (md 26), .int 0, .ref (md 28), .ref (md 29), .ref (md 30), .ref (md 31), .ref (md 32), .ref (md 33), .int 0, .int 0, .ref (md 36), .ref (md 37), .ref (md 38), .ref (md 39), .ref (md 40), .int 0, .int (-1), .int 0, .ref (md 44), .ref (md 45), .ref (md 46), .int 0, .ref (md 48), .ref (md 49), .int 0, .ref (md 51), .int 0, .ref (md 53), .ref (md 54), .ref (md 55), .ref (md 56), .ref (md 57), .ref (md 58), .ref (md 59), .ref (md 60), .ref (md 61), .ref (md 62), .ref (md 63), .int 0, .int 0, .int 0, .int 0, .int 0, .int 0, .ref (md 70), .int 0, .ref (md 72), .int 0, .int 400000, .int 0, .int 0])), (md 39, .inl (mc 0, 8, .inl (fun _ => -1))), (md 1, .inl (mc 1, 8300, .inl (fun _ => 0))), (md 40, .inl (mc 1, 800000, .inl (fun _ => 0))), (md 72, .inl (mc 0, 12010, .inl (fun _ => 0)))] H := hP
  have hD : va_D A [(o, .inl (ac 7, 1, .inr (.inl u))), (md 100, .inr (12, [.int 0, .ref (md 1), .ref (md 2), .ref (md 3), .int 0, .int 0, .int 0, .int 0, .ref (md 8), .ref (md 9), .ref (md 10), .ref (md 11), .ref (md 12), .ref (md 13), .ref (md 14), .ref (md 15), .ref (md 16), .ref (md 17), .ref (md 18), .ref (md 19), .ref (md 20), .ref (md 21), .ref (md 22), .int 0, .ref (md 24), .int 0, .ref (md 26), .int 0, .ref (md 28), .ref (md 29), .ref (md 30), .ref (md 31), .ref (md 32), .ref (md 33), .int 0, .int 0, .ref (md 36), .ref (md 37), .ref (md 38), .ref (md 39), .ref (md 40), .int 0, .int (-1), .int 0, .ref (md 44), .ref (md 45), .ref (md 46), .int 0, .ref (md 48), .ref (md 49), .int 0, .ref (md 51), .int 0, .ref (md 53), .ref (md 54), .ref (md 55), .ref (md 56), .ref (md 57), .ref (md 58), .ref (md 59), .ref (md 60), .ref (md 61), .ref (md 62), .ref (md 63), .int 0, .int 0, .int 0, .int 0, .int 0, .int 0, .ref (md 70), .int 0, .ref (md 72), .int 0, .int 400000, .int 0, .int 0])), (md 39, .inl (mc 0, 8, .inl (fun _ => -1))), (md 1, .inl (mc 1, 8300, .inl (fun _ => 0))), (md 40, .inl (mc 1, 800000, .inl (fun _ => 0))), (md 72, .inl (mc 0, 12010, .inl (fun _ => 0)))] := hD
  refine W.cs (cells' := 637) (slots' := 1394880) rfl rfl ?_
  refine lv_istore (lv' := [(5, .int (k_out (xs 1))), (4, .int 0), (3, .ref o), (2, .ref (md 100)), (1, .ref (ad 0)), (0, .ref b)]) hx hb d_law_2254 hl (by decide) rfl (fun ls hl => ?_)
  refine lv_aload_n hx hb d_law_2256 rfl (lv_at hl 3 rfl) ?_
  refine lv_aload_n hx hb d_law_2257 rfl (lv_at hl 5 rfl) ?_
  refine lv_iload hx hb d_law_2258 (lv_at hl 1 rfl) ?_
  refine lv_iconst (v := 1) hx hb d_law_2260 (by decide) ?_
  refine lv_iadd hx hb d_law_2261 ?_
  refine w_i (y := 1) (by decide) ?_
  refine va_sld hx hb hX hbl hbA hS (i := 1) (vp_in_nI (n := 1) (N := 7) (by decide) (by decide)) d_law_2262 ?_
  refine w_i (y := xs 1) rfl ?_
  have hPc := hP.sub (ws' := [(md 100, .inr (12, [.int 0, .ref (md 1), .ref (md 2), .ref (md 3), .int 0, .int 0, .int 0, .int 0, .ref (md 8), .ref (md 9), .ref (md 10), .ref (md 11), .ref (md 12), .ref (md 13), .ref (md 14), .ref (md 15), .ref (md 16), .ref (md 17), .ref (md 18), .ref (md 19), .ref (md 20), .ref (md 21), .ref (md 22), .int 0, .ref (md 24), .int 0, .ref (md 26), .int 0, .ref (md 28), .ref (md 29), .ref (md 30), .ref (md 31), .ref (md 32), .ref (md 33), .int 0, .int 0, .ref (md 36), .ref (md 37), .ref (md 38), .ref (md 39), .ref (md 40), .int 0, .int (-1), .int 0, .ref (md 44), .ref (md 45), .ref (md 46), .int 0, .ref (md 48), .ref (md 49), .int 0, .ref (md 51), .int 0, .ref (md 53), .ref (md 54), .ref (md 55), .ref (md 56), .ref (md 57), .ref (md 58), .ref (md 59), .ref (md 60), .ref (md 61), .ref (md 62), .ref (md 63), .int 0, .int 0, .int 0, .int 0, .int 0, .int 0, .ref (md 70), .int 0, .ref (md 72), .int 0, .int 400000, .int 0, .int 0]))]) [1] rfl
  have hDc := hD.sub (ws' := [(md 100, .inr (12, [.int 0, .ref (md 1), .ref (md 2), .ref (md 3), .int 0, .int 0, .int 0, .int 0, .ref (md 8), .ref (md 9), .ref (md 10), .ref (md 11), .ref (md 12), .ref (md 13), .ref (md 14), .ref (md 15), .ref (md 16), .ref (md 17), .ref (md 18), .ref (md 19), .ref (md 20), .ref (md 21), .ref (md 22), .int 0, .ref (md 24), .int 0, .ref (md 26), .int 0, .ref (md 28), .ref (md 29), .ref (md 30), .ref (md 31), .ref (md 32), .ref (md 33), .int 0, .int 0, .ref (md 36), .ref (md 37), .ref (md 38), .ref (md 39), .ref (md 40), .int 0, .int (-1), .int 0, .ref (md 44), .ref (md 45), .ref (md 46), .int 0, .ref (md 48), .ref (md 49), .int 0, .ref (md 51), .int 0, .ref (md 53), .ref (md 54), .ref (md 55), .ref (md 56), .ref (md 57), .ref (md 58), .ref (md 59), .ref (md 60), .ref (md 61), .ref (md 62), .ref (md 63), .int 0, .int 0, .int 0, .int 0, .int 0, .int 0, .ref (md 70), .int 0, .ref (md 72), .int 0, .int 400000, .int 0, .int 0]))]) [1] (by decide) rfl
  have hKc := hK.sub (tys' := []) [] rfl
  have hFc := va_free (wc := [(md 100, .inr (12, [.int 0, .ref (md 1), .ref (md 2), .ref (md 3), .int 0, .int 0, .int 0, .int 0, .ref (md 8), .ref (md 9), .ref (md 10), .ref (md 11), .ref (md 12), .ref (md 13), .ref (md 14), .ref (md 15), .ref (md 16), .ref (md 17), .ref (md 18), .ref (md 19), .ref (md 20), .ref (md 21), .ref (md 22), .int 0, .ref (md 24), .int 0, .ref (md 26), .int 0, .ref (md 28), .ref (md 29), .ref (md 30), .ref (md 31), .ref (md 32), .ref (md 33), .int 0, .int 0, .ref (md 36), .ref (md 37), .ref (md 38), .ref (md 39), .ref (md 40), .int 0, .int (-1), .int 0, .ref (md 44), .ref (md 45), .ref (md 46), .int 0, .ref (md 48), .ref (md 49), .int 0, .ref (md 51), .int 0, .ref (md 53), .ref (md 54), .ref (md 55), .ref (md 56), .ref (md 57), .ref (md 58), .ref (md 59), .ref (md 60), .ref (md 61), .ref (md 62), .ref (md 63), .int 0, .int 0, .int 0, .int 0, .int 0, .int 0, .ref (md 70), .int 0, .ref (md 72), .int 0, .int 400000, .int 0, .int 0]))]) hD hS hA [1] rfl
  refine va_calll (va_runV (As := [.int (xs 1)]) (rest := []) ⟨hx, hb, hml, hown, hts⟩ (g_p_out l D H.size md mc (xs 1)) (cw_v 1 hts kw_1998 kw_1995 kw_1996 kw_1997 kw_11 rfl rfl (by decide +kernel) ⟨Nat.le_of_ble_eq_true rfl, Nat.le_of_ble_eq_true rfl⟩) ⟨g_blind, va_recv hKc hPc (ci := 12) (q0 := 0) rfl rfl, fun U hU hW => g_pre hU hW hPc hKc hDc⟩ rfl rfl hl.1 rfl (lv_room (Nat.le_of_ble_eq_true rfl)) d_law_2263 ⟨Nat.le_of_ble_eq_true rfl, Nat.le_of_ble_eq_true rfl⟩) hS (fun q _ h => hFc q h) hFc (fun r_1 u_2 t H1 locs ht hvm hw hB hz1 hk1 hS => ?_)
  obtain ⟨hP1, hK1, hD1⟩ := hB
  rw [ht] at hP1
  have hK1 := va_K.moved hvm.symm hK1
  obtain ⟨hP, hD⟩ := va_join (wr := [(o, .inl (ac 7, 1, .inr (.inl u))), (md 39, .inl (mc 0, 8, .inl (fun _ => -1))), (md 1, .inl (mc 1, 8300, .inl (fun _ => 0))), (md 40, .inl (mc 1, 800000, .inl (fun _ => 0))), (md 72, .inl (mc 0, 12010, .inl (fun _ => 0)))]) (w1 := [(md 100, .inr (12, .int (k_out (xs 1)) :: u_2))]) hP hD [1] [0, 2, 3, 4, 5] rfl rfl (by decide) (by decide) hk1 hFc hP1 hD1
  generalize H1 = H at hP hS ⊢
  have hP : va_P D cls [(o, .inl (ac 7, 1, .inr (.inl u))), (md 39, .inl (mc 0, 8, .inl (fun _ => -1))), (md 1, .inl (mc 1, 8300, .inl (fun _ => 0))), (md 40, .inl (mc 1, 800000, .inl (fun _ => 0))), (md 72, .inl (mc 0, 12010, .inl (fun _ => 0))), (md 100, .inr (12, .int (k_out (xs 1)) :: u_2))] H := hP
  have hD : va_D A [(o, .inl (ac 7, 1, .inr (.inl u))), (md 39, .inl (mc 0, 8, .inl (fun _ => -1))), (md 1, .inl (mc 1, 8300, .inl (fun _ => 0))), (md 40, .inl (mc 1, 800000, .inl (fun _ => 0))), (md 72, .inl (mc 0, 12010, .inl (fun _ => 0))), (md 100, .inr (12, .int (k_out (xs 1)) :: u_2))] := hD
  refine W.cs (cells' := 637) (slots' := 1394880) rfl rfl ?_
  have hwm := hw
  refine lv_lstore (lv' := [(6, .long r_1), (5, .int (k_out (xs 1))), (4, .int 0), (3, .ref o), (2, .ref (md 100)), (1, .ref (ad 0)), (0, .ref b)]) hx hb d_law_2266 hl (by decide) rfl (fun ls hl => ?_)
  refine lv_aload_n hx hb d_law_2268 rfl (lv_at hl 4 rfl) ?_
  have hPc := hP.sub (ws' := [(md 100, .inr (12, .int (k_out (xs 1)) :: u_2))]) [5] rfl
  have hDc := hD.sub (ws' := [(md 100, .inr (12, .int (k_out (xs 1)) :: u_2))]) [5] (by decide) rfl
  have hKc := hK.sub (tys' := []) [] rfl
  have hFc := va_free (wc := [(md 100, .inr (12, .int (k_out (xs 1)) :: u_2))]) hD hS hA [5] rfl
  refine va_calli (va_runV (As := []) (rest := []) ⟨hx, hb, hml, hown, hts⟩ (g_thr l D H.size md mc (k_out (xs 1)) u_2) (cw_v 0 hts kw_1618 kw_1615 kw_1616 kw_1617 kw_11 rfl rfl (by decide +kernel) ⟨Nat.le_of_ble_eq_true rfl, Nat.le_of_ble_eq_true rfl⟩) ⟨g_blind, va_recv hKc hPc (ci := 12) (q0 := 0) rfl rfl, fun U hU hW => g_pre hU hW hPc hKc hDc⟩ rfl rfl hl.1 rfl (lv_room (Nat.le_of_ble_eq_true rfl)) d_law_2269 ⟨Nat.le_of_ble_eq_true rfl, Nat.le_of_ble_eq_true rfl⟩) hS (fun q _ h => hFc q h) hFc (fun r_3 u_4 t H1 locs ht hvm hw hB hz1 hk1 hS => ?_)
  obtain ⟨⟩ := u_4
  obtain ⟨hP1, hK1, hD1⟩ := hB
  rw [ht] at hP1
  have hK1 := va_K.moved hvm.symm hK1
  obtain ⟨hP, hD⟩ := va_join (wr := [(o, .inl (ac 7, 1, .inr (.inl u))), (md 39, .inl (mc 0, 8, .inl (fun _ => -1))), (md 1, .inl (mc 1, 8300, .inl (fun _ => 0))), (md 40, .inl (mc 1, 800000, .inl (fun _ => 0))), (md 72, .inl (mc 0, 12010, .inl (fun _ => 0)))]) (w1 := [(md 100, .inr (12, .int (k_out (xs 1)) :: u_2))]) hP hD [5] [0, 1, 2, 3, 4] rfl rfl (by decide) (by decide) hk1 hFc hP1 hD1
  generalize H1 = H at hP hS ⊢
  have hP : va_P D cls [(o, .inl (ac 7, 1, .inr (.inl u))), (md 39, .inl (mc 0, 8, .inl (fun _ => -1))), (md 1, .inl (mc 1, 8300, .inl (fun _ => 0))), (md 40, .inl (mc 1, 800000, .inl (fun _ => 0))), (md 72, .inl (mc 0, 12010, .inl (fun _ => 0))), (md 100, .inr (12, .int (k_out (xs 1)) :: u_2))] H := hP
  have hD : va_D A [(o, .inl (ac 7, 1, .inr (.inl u))), (md 39, .inl (mc 0, 8, .inl (fun _ => -1))), (md 1, .inl (mc 1, 8300, .inl (fun _ => 0))), (md 40, .inl (mc 1, 800000, .inl (fun _ => 0))), (md 72, .inl (mc 0, 12010, .inl (fun _ => 0))), (md 100, .inr (12, .int (k_out (xs 1)) :: u_2))] := hD
  refine W.cs (cells' := 637) (slots' := 1394880) rfl rfl ?_
  subst hw
  refine lv_iload hx hb d_law_2272 (lv_at hl 1 rfl) ?_
  refine lv_icmp_eq (tgt := 2279) hx hb d_law_2274 (by decide) (fun _ => ?_) (fun h => absurd rfl h)
  refine lv_iload hx hb d_law_2279 (lv_at hl 1 rfl) ?_
  refine lv_if_ne (tgt := 2295) hx hb d_law_2281 (by decide) (fun c_5 => ?_) (fun c_5 => ?_)
  · refine lv_goto (tgt := 2391) hx hb d_law_2295 (by decide) ?_
    exact law_tail l hx hb hr hlocks hX hbl hbA hT hS (lv_sub hl [2, 6] rfl) (by decide) (by decide)
  · refine lv_aload_n hx hb d_law_2284 rfl (lv_at hl 3 rfl) ?_
    refine lv_iconst (v := 0) hx hb d_law_2285 (by decide) ?_
    refine va_lald hx hb hK hP 0 7 rfl rfl (i := 0) (vp_in_nI (n := 0) (N := 1) (by decide) (by decide)) d_law_2286 ?_
    refine w_l (y := 0) (hw2 c_5) ?_
    refine lv_lload hx hb d_law_2287 (lv_at hl 0 rfl) ?_
    refine w_l (y := 0) (hwm c_5) ?_
    refine W.lcmp hx hb d_law_2289 ?_
    refine w_i (y := 0) (by simp [lg_cmp]) ?_
    refine lv_if_eq (tgt := 2295) hx hb d_law_2290 (by decide) (fun _ => ?_) (fun h => absurd h (by decide))
    refine lv_goto (tgt := 2391) hx hb d_law_2295 (by decide) ?_
    exact law_tail l hx hb hr hlocks hX hbl hbA hT hS (lv_sub hl [2, 6] rfl) (by decide) (by decide)
theorem d_law_2298 : decode code 2298 = .ok (.aload_n 1, 1) := by decide +kernel
theorem d_law_2299 : decode code 2299 = .ok (.aload_n 0, 1) := by decide +kernel
theorem d_law_2300 : decode code 2300 = .ok (.iload 4, 2) := by decide +kernel
theorem d_law_2302 : decode code 2302 = .ok (.iconst 1, 1) := by decide +kernel
theorem d_law_2303 : decode code 2303 = .ok (.iadd, 1) := by decide +kernel
theorem d_law_2304 : decode code 2304 = .ok (.iaload, 1) := by decide +kernel
theorem d_law_2305 : decode code 2305 = .ok (.aload_n 0, 1) := by decide +kernel
theorem d_law_2306 : decode code 2306 = .ok (.iload 4, 2) := by decide +kernel
theorem d_law_2308 : decode code 2308 = .ok (.iconst 2, 1) := by decide +kernel
theorem d_law_2309 : decode code 2309 = .ok (.iadd, 1) := by decide +kernel
theorem d_law_2310 : decode code 2310 = .ok (.iaload, 1) := by decide +kernel
theorem d_law_2311 : decode code 2311 = .ok (.aload_n 3, 1) := by decide +kernel
theorem d_law_2312 : decode code 2312 = .ok (.invokestatic 208, 3) := by decide +kernel
theorem d_law_2315 : decode code 2315 = .ok (.istore 5, 2) := by decide +kernel
theorem d_law_2317 : decode code 2317 = .ok (.aload_n 2, 1) := by decide +kernel
theorem d_law_2318 : decode code 2318 = .ok (.aload_n 0, 1) := by decide +kernel
theorem d_law_2319 : decode code 2319 = .ok (.iload 4, 2) := by decide +kernel
theorem d_law_2321 : decode code 2321 = .ok (.iconst 1, 1) := by decide +kernel
theorem d_law_2322 : decode code 2322 = .ok (.iadd, 1) := by decide +kernel
theorem d_law_2323 : decode code 2323 = .ok (.iaload, 1) := by decide +kernel
theorem d_law_2324 : decode code 2324 = .ok (.aload_n 0, 1) := by decide +kernel
theorem d_law_2325 : decode code 2325 = .ok (.iload 4, 2) := by decide +kernel
theorem d_law_2327 : decode code 2327 = .ok (.iconst 2, 1) := by decide +kernel
theorem d_law_2328 : decode code 2328 = .ok (.iadd, 1) := by decide +kernel
theorem d_law_2329 : decode code 2329 = .ok (.iaload, 1) := by decide +kernel
theorem d_law_2330 : decode code 2330 = .ok (.invokevirtual 210, 3) := by decide +kernel
theorem d_law_2333 : decode code 2333 = .ok (.istore 6, 2) := by decide +kernel
theorem d_law_2335 : decode code 2335 = .ok (.aload_n 2, 1) := by decide +kernel
theorem d_law_2336 : decode code 2336 = .ok (.invokevirtual 120, 3) := by decide +kernel
theorem d_law_2339 : decode code 2339 = .ok (.iload 5, 2) := by decide +kernel
theorem d_law_2341 : decode code 2341 = .ok (.if_icmp .eq 5, 3) := by decide +kernel
theorem d_law_2346 : decode code 2346 = .ok (.iload 5, 2) := by decide +kernel
theorem d_law_2348 : decode code 2348 = .ok (.ifCond .ne 15, 3) := by decide +kernel
theorem d_law_2363 : decode code 2363 = .ok (.goto 28, 3) := by decide +kernel
theorem d_law_2351 : decode code 2351 = .ok (.aload_n 3, 1) := by decide +kernel
theorem d_law_2352 : decode code 2352 = .ok (.iconst 0, 1) := by decide +kernel
theorem d_law_2353 : decode code 2353 = .ok (.laload, 1) := by decide +kernel
theorem d_law_2354 : decode code 2354 = .ok (.iload 6, 2) := by decide +kernel
theorem d_law_2356 : decode code 2356 = .ok (.i2l, 1) := by decide +kernel
theorem d_law_2357 : decode code 2357 = .ok (.lcmp, 1) := by decide +kernel
theorem d_law_2358 : decode code 2358 = .ok (.ifCond .eq 5, 3) := by decide +kernel
set_option maxHeartbeats 4000000 in
set_option maxRecDepth 100000 in
theorem law_c26 {p : Program} {e : Env} {s : State} {m : MethodId} {below : List Frame} {meth : Method} {c : Code} (l : Launch) (hfl : l.flags = flags0) {b : Nat} {xs : Nat → Int32} {D : va_G} {ad : Nat → Nat} {ac : Nat → ClassId} {md : Nat → Nat} {mc : Nat → ClassId} {o : Nat} {H : Heap} {locs : List Loc} {ls : Array Slot} (h : LwS p s m meth c b 7 xs D ad ac md mc o H locs ls) : W p l e room_1 s m #[Value.ref b] below meth c H locs 636 1394874 (lw_Z below #[Value.ref b] s) (F0 m 2298 ls []) := by
  obtain ⟨hx, hb, hr, hml, hown, hts, hX, hbl, hlocks, hev, hP, hK, hD, hS, hl⟩ := h
  have hNS : tx_NS (lA s) s := fun q cell hq hc => absurd (Array.getElem?_eq_some_iff.mp hc).1 (Nat.not_lt.mpr hq)
  have hA : ∀ q : Nat, s.heap.size ≤ q → lA s q := fun _ h => h
  have hT : ∀ q : Nat, lA s q → s.heap.size ≤ q := fun _ h => h
  have hbA : ¬ lA s b := Nat.not_le.mpr hbl
  generalize lA s = A at hev hD hS hNS hA hT hbA
  refine lv_aload_n hx hb d_law_2298 rfl (lv_at hl 3 rfl) ?_
  refine lv_aload_n hx hb d_law_2299 rfl (lv_at hl 4 rfl) ?_
  refine lv_iload hx hb d_law_2300 (lv_at hl 0 rfl) ?_
  refine lv_iconst (v := 1) hx hb d_law_2302 (by decide) ?_
  refine lv_iadd hx hb d_law_2303 ?_
  refine w_i (y := 1) (by decide) ?_
  refine va_sld hx hb hX hbl hbA hS (i := 1) (vp_in_nI (n := 1) (N := 7) (by decide) (by decide)) d_law_2304 ?_
  refine w_i (y := xs 1) rfl ?_
  refine lv_aload_n hx hb d_law_2305 rfl (lv_at hl 4 rfl) ?_
  refine lv_iload hx hb d_law_2306 (lv_at hl 0 rfl) ?_
  refine lv_iconst (v := 2) hx hb d_law_2308 (by decide) ?_
  refine lv_iadd hx hb d_law_2309 ?_
  refine w_i (y := 2) (by decide) ?_
  refine va_sld hx hb hX hbl hbA hS (i := 2) (vp_in_nI (n := 2) (N := 7) (by decide) (by decide)) d_law_2310 ?_
  refine w_i (y := xs 2) rfl ?_
  refine lv_aload_n hx hb d_law_2311 rfl (lv_at hl 1 rfl) ?_
  have hPh := p_l hP
  have hDh := d_l hD
  have hKh := hK.sub (tys' := fxT ac) [0, 1, 2, 3, 4, 5, 6, 7] rfl
  have hFc := fr_all hDh hS hA
  refine va_calli (tx_runSW (As := [.ref (ad 0), .int (xs 1), .int (xs 2), .ref o]) (rest := []) ⟨hx, hb, hml, hown, hts⟩ (h_count l hfl D ad ac (fun _ => 0) o (fun _ => 0) H.size (xs 1) (xs 2)) (cw_w 4 hts kw_1364 kw_1362 kw_1363 kw_0 rfl rfl (by decide +kernel) ⟨Nat.le_of_ble_eq_true rfl, Nat.le_of_ble_eq_true rfl⟩) ⟨h_blind, fun U hU hW => h_pre hU hW hPh hKh hDh hev hNS hS hFc⟩ rfl rfl hl.1 rfl (lv_room (Nat.le_of_ble_eq_true rfl)) d_law_2312 ⟨Nat.le_of_ble_eq_true rfl, Nat.le_of_ble_eq_true rfl⟩) hS (fun q _ h => hFc q h) hFc (fun rz u t H1 locs ht hvm hw hB hz1 hk1 hS => ?_)
  obtain ⟨hP1, -, -⟩ := hB
  rw [ht] at hP1
  obtain ⟨hw1, hw2⟩ := hw
  subst hw1
  have hP := hP1.app (p_keep hP hD hk1)
  have hD := d_oc hD (e' := .inl (ac 7, 1, .inr (.inl u)))
  generalize H1 = H at hP hS ⊢
  have hP : va_P D cls [(o, .inl (ac 7, 1, .inr (.inl u))), (md 100, .inr (12, [.int 0, .ref (md 1), .ref (md 2), .ref (md 3), .int 0, .int 0, .int 0, .int 0, .ref (md 8), .ref (md 9), .ref (md 10), .ref (md 11), .ref (md 12), .ref (md 13), .ref (md 14), .ref (md 15), .ref (md 16), .ref (md 17), .ref (md 18), .ref (md 19), .ref (md 20), .ref (md 21), .ref (md 22), .int 0, .ref (md 24), .int 0, .ref (md 26), .int 0, .ref (md 28), .ref (md 29), .ref (md 30), .ref (md 31), .ref (md 32), .ref (md 33), .int 0, .int 0, .ref (md 36), .ref (md 37), .ref (md 38), .ref (md 39), .ref (md 40), .int 0, .int (-1), .int 0, .ref (md 44), .ref (md 45), .ref (md 46), .int 0, .ref (md 48), .ref (md 49), .int 0, .ref (md 51), .int 0, .ref (md 53), .ref (md 54), .ref (md 55), .ref (md 56), .ref (md 57), .ref (md 58), .ref (md 59), .ref (md 60), .ref (md 61), .ref (md 62), .ref (md 63), .int 0, .int 0, .int 0, .int 0, .int 0, .int 0, .ref (md 70), .int 0, .ref (md 72), .int 0, .int 400000, .int 0, .int 0])), (md 39, .inl (mc 0, 8, .inl (fun _ => -1))), (md 1, .inl (mc 1, 8300, .inl (fun _ => 0))), (md 40, .inl (mc 1, 800000, .inl (fun _ => 0))), (md 72, .inl (mc 0, 12010, .inl (fun _ => 0)))] H := hP
  have hD : va_D A [(o, .inl (ac 7, 1, .inr (.inl u))), (md 100, .inr (12, [.int 0, .ref (md 1), .ref (md 2), .ref (md 3), .int 0, .int 0, .int 0, .int 0, .ref (md 8), .ref (md 9), .ref (md 10), .ref (md 11), .ref (md 12), .ref (md 13), .ref (md 14), .ref (md 15), .ref (md 16), .ref (md 17), .ref (md 18), .ref (md 19), .ref (md 20), .ref (md 21), .ref (md 22), .int 0, .ref (md 24), .int 0, .ref (md 26), .int 0, .ref (md 28), .ref (md 29), .ref (md 30), .ref (md 31), .ref (md 32), .ref (md 33), .int 0, .int 0, .ref (md 36), .ref (md 37), .ref (md 38), .ref (md 39), .ref (md 40), .int 0, .int (-1), .int 0, .ref (md 44), .ref (md 45), .ref (md 46), .int 0, .ref (md 48), .ref (md 49), .int 0, .ref (md 51), .int 0, .ref (md 53), .ref (md 54), .ref (md 55), .ref (md 56), .ref (md 57), .ref (md 58), .ref (md 59), .ref (md 60), .ref (md 61), .ref (md 62), .ref (md 63), .int 0, .int 0, .int 0, .int 0, .int 0, .int 0, .ref (md 70), .int 0, .ref (md 72), .int 0, .int 400000, .int 0, .int 0])), (md 39, .inl (mc 0, 8, .inl (fun _ => -1))), (md 1, .inl (mc 1, 8300, .inl (fun _ => 0))), (md 40, .inl (mc 1, 800000, .inl (fun _ => 0))), (md 72, .inl (mc 0, 12010, .inl (fun _ => 0)))] := hD
  refine W.cs (cells' := 637) (slots' := 1394880) rfl rfl ?_
  refine lv_istore (lv' := [(5, .int (k_dro (xs 1))), (4, .int 0), (3, .ref o), (2, .ref (md 100)), (1, .ref (ad 0)), (0, .ref b)]) hx hb d_law_2315 hl (by decide) rfl (fun ls hl => ?_)
  refine lv_aload_n hx hb d_law_2317 rfl (lv_at hl 3 rfl) ?_
  refine lv_aload_n hx hb d_law_2318 rfl (lv_at hl 5 rfl) ?_
  refine lv_iload hx hb d_law_2319 (lv_at hl 1 rfl) ?_
  refine lv_iconst (v := 1) hx hb d_law_2321 (by decide) ?_
  refine lv_iadd hx hb d_law_2322 ?_
  refine w_i (y := 1) (by decide) ?_
  refine va_sld hx hb hX hbl hbA hS (i := 1) (vp_in_nI (n := 1) (N := 7) (by decide) (by decide)) d_law_2323 ?_
  refine w_i (y := xs 1) rfl ?_
  refine lv_aload_n hx hb d_law_2324 rfl (lv_at hl 5 rfl) ?_
  refine lv_iload hx hb d_law_2325 (lv_at hl 1 rfl) ?_
  refine lv_iconst (v := 2) hx hb d_law_2327 (by decide) ?_
  refine lv_iadd hx hb d_law_2328 ?_
  refine w_i (y := 2) (by decide) ?_
  refine va_sld hx hb hX hbl hbA hS (i := 2) (vp_in_nI (n := 2) (N := 7) (by decide) (by decide)) d_law_2329 ?_
  refine w_i (y := xs 2) rfl ?_
  have hPc := hP.sub (ws' := [(md 100, .inr (12, [.int 0, .ref (md 1), .ref (md 2), .ref (md 3), .int 0, .int 0, .int 0, .int 0, .ref (md 8), .ref (md 9), .ref (md 10), .ref (md 11), .ref (md 12), .ref (md 13), .ref (md 14), .ref (md 15), .ref (md 16), .ref (md 17), .ref (md 18), .ref (md 19), .ref (md 20), .ref (md 21), .ref (md 22), .int 0, .ref (md 24), .int 0, .ref (md 26), .int 0, .ref (md 28), .ref (md 29), .ref (md 30), .ref (md 31), .ref (md 32), .ref (md 33), .int 0, .int 0, .ref (md 36), .ref (md 37), .ref (md 38), .ref (md 39), .ref (md 40), .int 0, .int (-1), .int 0, .ref (md 44), .ref (md 45), .ref (md 46), .int 0, .ref (md 48), .ref (md 49), .int 0, .ref (md 51), .int 0, .ref (md 53), .ref (md 54), .ref (md 55), .ref (md 56), .ref (md 57), .ref (md 58), .ref (md 59), .ref (md 60), .ref (md 61), .ref (md 62), .ref (md 63), .int 0, .int 0, .int 0, .int 0, .int 0, .int 0, .ref (md 70), .int 0, .ref (md 72), .int 0, .int 400000, .int 0, .int 0]))]) [1] rfl
  have hDc := hD.sub (ws' := [(md 100, .inr (12, [.int 0, .ref (md 1), .ref (md 2), .ref (md 3), .int 0, .int 0, .int 0, .int 0, .ref (md 8), .ref (md 9), .ref (md 10), .ref (md 11), .ref (md 12), .ref (md 13), .ref (md 14), .ref (md 15), .ref (md 16), .ref (md 17), .ref (md 18), .ref (md 19), .ref (md 20), .ref (md 21), .ref (md 22), .int 0, .ref (md 24), .int 0, .ref (md 26), .int 0, .ref (md 28), .ref (md 29), .ref (md 30), .ref (md 31), .ref (md 32), .ref (md 33), .int 0, .int 0, .ref (md 36), .ref (md 37), .ref (md 38), .ref (md 39), .ref (md 40), .int 0, .int (-1), .int 0, .ref (md 44), .ref (md 45), .ref (md 46), .int 0, .ref (md 48), .ref (md 49), .int 0, .ref (md 51), .int 0, .ref (md 53), .ref (md 54), .ref (md 55), .ref (md 56), .ref (md 57), .ref (md 58), .ref (md 59), .ref (md 60), .ref (md 61), .ref (md 62), .ref (md 63), .int 0, .int 0, .int 0, .int 0, .int 0, .int 0, .ref (md 70), .int 0, .ref (md 72), .int 0, .int 400000, .int 0, .int 0]))]) [1] (by decide) rfl
  have hKc := hK.sub (tys' := []) [] rfl
  have hFc := va_free (wc := [(md 100, .inr (12, [.int 0, .ref (md 1), .ref (md 2), .ref (md 3), .int 0, .int 0, .int 0, .int 0, .ref (md 8), .ref (md 9), .ref (md 10), .ref (md 11), .ref (md 12), .ref (md 13), .ref (md 14), .ref (md 15), .ref (md 16), .ref (md 17), .ref (md 18), .ref (md 19), .ref (md 20), .ref (md 21), .ref (md 22), .int 0, .ref (md 24), .int 0, .ref (md 26), .int 0, .ref (md 28), .ref (md 29), .ref (md 30), .ref (md 31), .ref (md 32), .ref (md 33), .int 0, .int 0, .ref (md 36), .ref (md 37), .ref (md 38), .ref (md 39), .ref (md 40), .int 0, .int (-1), .int 0, .ref (md 44), .ref (md 45), .ref (md 46), .int 0, .ref (md 48), .ref (md 49), .int 0, .ref (md 51), .int 0, .ref (md 53), .ref (md 54), .ref (md 55), .ref (md 56), .ref (md 57), .ref (md 58), .ref (md 59), .ref (md 60), .ref (md 61), .ref (md 62), .ref (md 63), .int 0, .int 0, .int 0, .int 0, .int 0, .int 0, .ref (md 70), .int 0, .ref (md 72), .int 0, .int 400000, .int 0, .int 0]))]) hD hS hA [1] rfl
  refine va_calli (va_runV (As := [.int (xs 1), .int (xs 2)]) (rest := []) ⟨hx, hb, hml, hown, hts⟩ (g_p_count l D H.size md mc (xs 1) (xs 2)) (cw_v 2 hts kw_2002 kw_1999 kw_2000 kw_2001 kw_11 rfl rfl (by decide +kernel) ⟨Nat.le_of_ble_eq_true rfl, Nat.le_of_ble_eq_true rfl⟩) ⟨g_blind, va_recv hKc hPc (ci := 12) (q0 := 0) rfl rfl, fun U hU hW => g_pre hU hW hPc hKc hDc⟩ rfl rfl hl.1 rfl (lv_room (Nat.le_of_ble_eq_true rfl)) d_law_2330 ⟨Nat.le_of_ble_eq_true rfl, Nat.le_of_ble_eq_true rfl⟩) hS (fun q _ h => hFc q h) hFc (fun r_1 u_2 t H1 locs ht hvm hw hB hz1 hk1 hS => ?_)
  obtain ⟨hP1, hK1, hD1⟩ := hB
  rw [ht] at hP1
  have hK1 := va_K.moved hvm.symm hK1
  obtain ⟨hP, hD⟩ := va_join (wr := [(o, .inl (ac 7, 1, .inr (.inl u))), (md 39, .inl (mc 0, 8, .inl (fun _ => -1))), (md 1, .inl (mc 1, 8300, .inl (fun _ => 0))), (md 40, .inl (mc 1, 800000, .inl (fun _ => 0))), (md 72, .inl (mc 0, 12010, .inl (fun _ => 0)))]) (w1 := [(md 100, .inr (12, .int (k_dro (xs 1)) :: u_2))]) hP hD [1] [0, 2, 3, 4, 5] rfl rfl (by decide) (by decide) hk1 hFc hP1 hD1
  generalize H1 = H at hP hS ⊢
  have hP : va_P D cls [(o, .inl (ac 7, 1, .inr (.inl u))), (md 39, .inl (mc 0, 8, .inl (fun _ => -1))), (md 1, .inl (mc 1, 8300, .inl (fun _ => 0))), (md 40, .inl (mc 1, 800000, .inl (fun _ => 0))), (md 72, .inl (mc 0, 12010, .inl (fun _ => 0))), (md 100, .inr (12, .int (k_dro (xs 1)) :: u_2))] H := hP
  have hD : va_D A [(o, .inl (ac 7, 1, .inr (.inl u))), (md 39, .inl (mc 0, 8, .inl (fun _ => -1))), (md 1, .inl (mc 1, 8300, .inl (fun _ => 0))), (md 40, .inl (mc 1, 800000, .inl (fun _ => 0))), (md 72, .inl (mc 0, 12010, .inl (fun _ => 0))), (md 100, .inr (12, .int (k_dro (xs 1)) :: u_2))] := hD
  refine W.cs (cells' := 637) (slots' := 1394880) rfl rfl ?_
  have hwm := hw
  refine lv_istore (lv' := [(6, .int r_1), (5, .int (k_dro (xs 1))), (4, .int 0), (3, .ref o), (2, .ref (md 100)), (1, .ref (ad 0)), (0, .ref b)]) hx hb d_law_2333 hl (by decide) rfl (fun ls hl => ?_)
  refine lv_aload_n hx hb d_law_2335 rfl (lv_at hl 4 rfl) ?_
  have hPc := hP.sub (ws' := [(md 100, .inr (12, .int (k_dro (xs 1)) :: u_2))]) [5] rfl
  have hDc := hD.sub (ws' := [(md 100, .inr (12, .int (k_dro (xs 1)) :: u_2))]) [5] (by decide) rfl
  have hKc := hK.sub (tys' := []) [] rfl
  have hFc := va_free (wc := [(md 100, .inr (12, .int (k_dro (xs 1)) :: u_2))]) hD hS hA [5] rfl
  refine va_calli (va_runV (As := []) (rest := []) ⟨hx, hb, hml, hown, hts⟩ (g_thr l D H.size md mc (k_dro (xs 1)) u_2) (cw_v 0 hts kw_1618 kw_1615 kw_1616 kw_1617 kw_11 rfl rfl (by decide +kernel) ⟨Nat.le_of_ble_eq_true rfl, Nat.le_of_ble_eq_true rfl⟩) ⟨g_blind, va_recv hKc hPc (ci := 12) (q0 := 0) rfl rfl, fun U hU hW => g_pre hU hW hPc hKc hDc⟩ rfl rfl hl.1 rfl (lv_room (Nat.le_of_ble_eq_true rfl)) d_law_2336 ⟨Nat.le_of_ble_eq_true rfl, Nat.le_of_ble_eq_true rfl⟩) hS (fun q _ h => hFc q h) hFc (fun r_3 u_4 t H1 locs ht hvm hw hB hz1 hk1 hS => ?_)
  obtain ⟨⟩ := u_4
  obtain ⟨hP1, hK1, hD1⟩ := hB
  rw [ht] at hP1
  have hK1 := va_K.moved hvm.symm hK1
  obtain ⟨hP, hD⟩ := va_join (wr := [(o, .inl (ac 7, 1, .inr (.inl u))), (md 39, .inl (mc 0, 8, .inl (fun _ => -1))), (md 1, .inl (mc 1, 8300, .inl (fun _ => 0))), (md 40, .inl (mc 1, 800000, .inl (fun _ => 0))), (md 72, .inl (mc 0, 12010, .inl (fun _ => 0)))]) (w1 := [(md 100, .inr (12, .int (k_dro (xs 1)) :: u_2))]) hP hD [5] [0, 1, 2, 3, 4] rfl rfl (by decide) (by decide) hk1 hFc hP1 hD1
  generalize H1 = H at hP hS ⊢
  have hP : va_P D cls [(o, .inl (ac 7, 1, .inr (.inl u))), (md 39, .inl (mc 0, 8, .inl (fun _ => -1))), (md 1, .inl (mc 1, 8300, .inl (fun _ => 0))), (md 40, .inl (mc 1, 800000, .inl (fun _ => 0))), (md 72, .inl (mc 0, 12010, .inl (fun _ => 0))), (md 100, .inr (12, .int (k_dro (xs 1)) :: u_2))] H := hP
  have hD : va_D A [(o, .inl (ac 7, 1, .inr (.inl u))), (md 39, .inl (mc 0, 8, .inl (fun _ => -1))), (md 1, .inl (mc 1, 8300, .inl (fun _ => 0))), (md 40, .inl (mc 1, 800000, .inl (fun _ => 0))), (md 72, .inl (mc 0, 12010, .inl (fun _ => 0))), (md 100, .inr (12, .int (k_dro (xs 1)) :: u_2))] := hD
  refine W.cs (cells' := 637) (slots' := 1394880) rfl rfl ?_
  subst hw
  refine lv_iload hx hb d_law_2339 (lv_at hl 1 rfl) ?_
  refine lv_icmp_eq (tgt := 2346) hx hb d_law_2341 (by decide) (fun _ => ?_) (fun h => absurd rfl h)
  refine lv_iload hx hb d_law_2346 (lv_at hl 1 rfl) ?_
  refine lv_if_ne (tgt := 2363) hx hb d_law_2348 (by decide) (fun c_5 => ?_) (fun c_5 => ?_)
  · refine lv_goto (tgt := 2391) hx hb d_law_2363 (by decide) ?_
    exact law_tail l hx hb hr hlocks hX hbl hbA hT hS (lv_sub hl [2, 6] rfl) (by decide) (by decide)
  · refine lv_aload_n hx hb d_law_2351 rfl (lv_at hl 3 rfl) ?_
    refine lv_iconst (v := 0) hx hb d_law_2352 (by decide) ?_
    refine va_lald hx hb hK hP 0 7 rfl rfl (i := 0) (vp_in_nI (n := 0) (N := 1) (by decide) (by decide)) d_law_2353 ?_
    refine w_l (y := ((v_cou2 (xs 2)).toInt64)) (hw2 c_5) ?_
    refine lv_iload hx hb d_law_2354 (lv_at hl 0 rfl) ?_
    refine lv_i2l hx hb d_law_2356 rfl ?_
    refine w_l (y := ((v_cou2 (xs 2)).toInt64)) (by first | (rw [hwm c_5]; done) | (rw [hwm c_5]; rfl) | (rw [hwm c_5]; decide)) ?_
    refine W.lcmp hx hb d_law_2357 ?_
    refine w_i (y := 0) (by simp [lg_cmp]) ?_
    refine lv_if_eq (tgt := 2363) hx hb d_law_2358 (by decide) (fun _ => ?_) (fun h => absurd h (by decide))
    refine lv_goto (tgt := 2391) hx hb d_law_2363 (by decide) ?_
    exact law_tail l hx hb hr hlocks hX hbl hbA hT hS (lv_sub hl [2, 6] rfl) (by decide) (by decide)
theorem d_law_2366 : decode code 2366 = .ok (.aload_n 1, 1) := by decide +kernel
theorem d_law_2367 : decode code 2367 = .ok (.aload_n 0, 1) := by decide +kernel
theorem d_law_2368 : decode code 2368 = .ok (.iload 4, 2) := by decide +kernel
theorem d_law_2370 : decode code 2370 = .ok (.iconst 1, 1) := by decide +kernel
theorem d_law_2371 : decode code 2371 = .ok (.iadd, 1) := by decide +kernel
theorem d_law_2372 : decode code 2372 = .ok (.iaload, 1) := by decide +kernel
theorem d_law_2373 : decode code 2373 = .ok (.invokevirtual 211, 3) := by decide +kernel
theorem d_law_2376 : decode code 2376 = .ok (.aload_n 2, 1) := by decide +kernel
theorem d_law_2377 : decode code 2377 = .ok (.aload_n 0, 1) := by decide +kernel
theorem d_law_2378 : decode code 2378 = .ok (.iload 4, 2) := by decide +kernel
theorem d_law_2380 : decode code 2380 = .ok (.iconst 1, 1) := by decide +kernel
theorem d_law_2381 : decode code 2381 = .ok (.iadd, 1) := by decide +kernel
theorem d_law_2382 : decode code 2382 = .ok (.iaload, 1) := by decide +kernel
theorem d_law_2383 : decode code 2383 = .ok (.invokevirtual 214, 3) := by decide +kernel
theorem d_law_2386 : decode code 2386 = .ok (.if_icmp .eq 5, 3) := by decide +kernel
set_option maxHeartbeats 4000000 in
set_option maxRecDepth 100000 in
theorem law_c27 {p : Program} {e : Env} {s : State} {m : MethodId} {below : List Frame} {meth : Method} {c : Code} (l : Launch) (hfl : l.flags = flags0) {b : Nat} {xs : Nat → Int32} {D : va_G} {ad : Nat → Nat} {ac : Nat → ClassId} {md : Nat → Nat} {mc : Nat → ClassId} {o : Nat} {H : Heap} {locs : List Loc} {ls : Array Slot} (h : LwS p s m meth c b 7 xs D ad ac md mc o H locs ls) : W p l e room_1 s m #[Value.ref b] below meth c H locs 636 1394874 (lw_Z below #[Value.ref b] s) (F0 m 2366 ls []) := by
  obtain ⟨hx, hb, hr, hml, hown, hts, hX, hbl, hlocks, hev, hP, hK, hD, hS, hl⟩ := h
  have hNS : tx_NS (lA s) s := fun q cell hq hc => absurd (Array.getElem?_eq_some_iff.mp hc).1 (Nat.not_lt.mpr hq)
  have hA : ∀ q : Nat, s.heap.size ≤ q → lA s q := fun _ h => h
  have hT : ∀ q : Nat, lA s q → s.heap.size ≤ q := fun _ h => h
  have hbA : ¬ lA s b := Nat.not_le.mpr hbl
  generalize lA s = A at hev hD hS hNS hA hT hbA
  refine lv_aload_n hx hb d_law_2366 rfl (lv_at hl 3 rfl) ?_
  refine lv_aload_n hx hb d_law_2367 rfl (lv_at hl 4 rfl) ?_
  refine lv_iload hx hb d_law_2368 (lv_at hl 0 rfl) ?_
  refine lv_iconst (v := 1) hx hb d_law_2370 (by decide) ?_
  refine lv_iadd hx hb d_law_2371 ?_
  refine w_i (y := 1) (by decide) ?_
  refine va_sld hx hb hX hbl hbA hS (i := 1) (vp_in_nI (n := 1) (N := 7) (by decide) (by decide)) d_law_2372 ?_
  refine w_i (y := xs 1) rfl ?_
  have hPh := p_l (p_l hP)
  have hDh := d_l (d_l hD)
  have hKh := hK.sub (tys' := fxT ac) [0, 1, 2, 3, 4, 5, 6, 7] rfl
  have hFc := fr_all hDh hS hA
  refine va_calli (va_runV (As := [.int (xs 1)]) (rest := []) ⟨hx, hb, hml, hown, hts⟩ (c_told_0 l hfl D ad ac (fun _ => 0) H.size (xs 1)) (cw_v 1 hts kw_464 kw_461 kw_462 kw_463 kw_1 rfl rfl (by decide +kernel) ⟨Nat.le_of_ble_eq_true rfl, Nat.le_of_ble_eq_true rfl⟩) ⟨fx_blind, va_recv hKh hPh (ci := 11) (q0 := 0) rfl rfl, fun U hU hW => fx_pre hU hW hPh hKh hDh hev hNS hS hFc⟩ rfl rfl hl.1 rfl (lv_room (Nat.le_of_ble_eq_true rfl)) d_law_2373 ⟨Nat.le_of_ble_eq_true rfl, Nat.le_of_ble_eq_true rfl⟩) hS (fun q _ h => hFc q h) hFc (fun rz u t H1 locs ht hvm hw hB hz1 hk1 hS => ?_)
  subst hw
  have hP : va_P D cls (fxW ad ac (fun _ => 0) ++ ([oc ac o (fun _ => 0)] ++ mW md mc)) H := by rw [← List.append_assoc]; exact hP
  have hD : va_D A (fxW ad ac (fun _ => 0) ++ ([oc ac o (fun _ => 0)] ++ mW md mc)) := by rw [← List.append_assoc]; exact hD
  have hP := p_keep hP hD hk1
  have hD := d_r hD
  generalize H1 = H at hP hS ⊢
  have hP : va_P D cls [(o, .inl (ac 7, 1, .inr (.inl (fun _ => 0)))), (md 100, .inr (12, [.int 0, .ref (md 1), .ref (md 2), .ref (md 3), .int 0, .int 0, .int 0, .int 0, .ref (md 8), .ref (md 9), .ref (md 10), .ref (md 11), .ref (md 12), .ref (md 13), .ref (md 14), .ref (md 15), .ref (md 16), .ref (md 17), .ref (md 18), .ref (md 19), .ref (md 20), .ref (md 21), .ref (md 22), .int 0, .ref (md 24), .int 0, .ref (md 26), .int 0, .ref (md 28), .ref (md 29), .ref (md 30), .ref (md 31), .ref (md 32), .ref (md 33), .int 0, .int 0, .ref (md 36), .ref (md 37), .ref (md 38), .ref (md 39), .ref (md 40), .int 0, .int (-1), .int 0, .ref (md 44), .ref (md 45), .ref (md 46), .int 0, .ref (md 48), .ref (md 49), .int 0, .ref (md 51), .int 0, .ref (md 53), .ref (md 54), .ref (md 55), .ref (md 56), .ref (md 57), .ref (md 58), .ref (md 59), .ref (md 60), .ref (md 61), .ref (md 62), .ref (md 63), .int 0, .int 0, .int 0, .int 0, .int 0, .int 0, .ref (md 70), .int 0, .ref (md 72), .int 0, .int 400000, .int 0, .int 0])), (md 39, .inl (mc 0, 8, .inl (fun _ => -1))), (md 1, .inl (mc 1, 8300, .inl (fun _ => 0))), (md 40, .inl (mc 1, 800000, .inl (fun _ => 0))), (md 72, .inl (mc 0, 12010, .inl (fun _ => 0)))] H := hP
  have hD : va_D A [(o, .inl (ac 7, 1, .inr (.inl (fun _ => 0)))), (md 100, .inr (12, [.int 0, .ref (md 1), .ref (md 2), .ref (md 3), .int 0, .int 0, .int 0, .int 0, .ref (md 8), .ref (md 9), .ref (md 10), .ref (md 11), .ref (md 12), .ref (md 13), .ref (md 14), .ref (md 15), .ref (md 16), .ref (md 17), .ref (md 18), .ref (md 19), .ref (md 20), .ref (md 21), .ref (md 22), .int 0, .ref (md 24), .int 0, .ref (md 26), .int 0, .ref (md 28), .ref (md 29), .ref (md 30), .ref (md 31), .ref (md 32), .ref (md 33), .int 0, .int 0, .ref (md 36), .ref (md 37), .ref (md 38), .ref (md 39), .ref (md 40), .int 0, .int (-1), .int 0, .ref (md 44), .ref (md 45), .ref (md 46), .int 0, .ref (md 48), .ref (md 49), .int 0, .ref (md 51), .int 0, .ref (md 53), .ref (md 54), .ref (md 55), .ref (md 56), .ref (md 57), .ref (md 58), .ref (md 59), .ref (md 60), .ref (md 61), .ref (md 62), .ref (md 63), .int 0, .int 0, .int 0, .int 0, .int 0, .int 0, .ref (md 70), .int 0, .ref (md 72), .int 0, .int 400000, .int 0, .int 0])), (md 39, .inl (mc 0, 8, .inl (fun _ => -1))), (md 1, .inl (mc 1, 8300, .inl (fun _ => 0))), (md 40, .inl (mc 1, 800000, .inl (fun _ => 0))), (md 72, .inl (mc 0, 12010, .inl (fun _ => 0)))] := hD
  refine W.cs (cells' := 636) (slots' := 1394874) rfl rfl ?_
  refine lv_aload_n hx hb d_law_2376 rfl (lv_at hl 2 rfl) ?_
  refine lv_aload_n hx hb d_law_2377 rfl (lv_at hl 4 rfl) ?_
  refine lv_iload hx hb d_law_2378 (lv_at hl 0 rfl) ?_
  refine lv_iconst (v := 1) hx hb d_law_2380 (by decide) ?_
  refine lv_iadd hx hb d_law_2381 ?_
  refine w_i (y := 1) (by decide) ?_
  refine va_sld hx hb hX hbl hbA hS (i := 1) (vp_in_nI (n := 1) (N := 7) (by decide) (by decide)) d_law_2382 ?_
  refine w_i (y := xs 1) rfl ?_
  have hPc := hP.sub (ws' := [(md 100, .inr (12, [.int 0, .ref (md 1), .ref (md 2), .ref (md 3), .int 0, .int 0, .int 0, .int 0, .ref (md 8), .ref (md 9), .ref (md 10), .ref (md 11), .ref (md 12), .ref (md 13), .ref (md 14), .ref (md 15), .ref (md 16), .ref (md 17), .ref (md 18), .ref (md 19), .ref (md 20), .ref (md 21), .ref (md 22), .int 0, .ref (md 24), .int 0, .ref (md 26), .int 0, .ref (md 28), .ref (md 29), .ref (md 30), .ref (md 31), .ref (md 32), .ref (md 33), .int 0, .int 0, .ref (md 36), .ref (md 37), .ref (md 38), .ref (md 39), .ref (md 40), .int 0, .int (-1), .int 0, .ref (md 44), .ref (md 45), .ref (md 46), .int 0, .ref (md 48), .ref (md 49), .int 0, .ref (md 51), .int 0, .ref (md 53), .ref (md 54), .ref (md 55), .ref (md 56), .ref (md 57), .ref (md 58), .ref (md 59), .ref (md 60), .ref (md 61), .ref (md 62), .ref (md 63), .int 0, .int 0, .int 0, .int 0, .int 0, .int 0, .ref (md 70), .int 0, .ref (md 72), .int 0, .int 400000, .int 0, .int 0]))]) [1] rfl
  have hDc := hD.sub (ws' := [(md 100, .inr (12, [.int 0, .ref (md 1), .ref (md 2), .ref (md 3), .int 0, .int 0, .int 0, .int 0, .ref (md 8), .ref (md 9), .ref (md 10), .ref (md 11), .ref (md 12), .ref (md 13), .ref (md 14), .ref (md 15), .ref (md 16), .ref (md 17), .ref (md 18), .ref (md 19), .ref (md 20), .ref (md 21), .ref (md 22), .int 0, .ref (md 24), .int 0, .ref (md 26), .int 0, .ref (md 28), .ref (md 29), .ref (md 30), .ref (md 31), .ref (md 32), .ref (md 33), .int 0, .int 0, .ref (md 36), .ref (md 37), .ref (md 38), .ref (md 39), .ref (md 40), .int 0, .int (-1), .int 0, .ref (md 44), .ref (md 45), .ref (md 46), .int 0, .ref (md 48), .ref (md 49), .int 0, .ref (md 51), .int 0, .ref (md 53), .ref (md 54), .ref (md 55), .ref (md 56), .ref (md 57), .ref (md 58), .ref (md 59), .ref (md 60), .ref (md 61), .ref (md 62), .ref (md 63), .int 0, .int 0, .int 0, .int 0, .int 0, .int 0, .ref (md 70), .int 0, .ref (md 72), .int 0, .int 400000, .int 0, .int 0]))]) [1] (by decide) rfl
  have hKc := hK.sub (tys' := []) [] rfl
  have hFc := va_free (wc := [(md 100, .inr (12, [.int 0, .ref (md 1), .ref (md 2), .ref (md 3), .int 0, .int 0, .int 0, .int 0, .ref (md 8), .ref (md 9), .ref (md 10), .ref (md 11), .ref (md 12), .ref (md 13), .ref (md 14), .ref (md 15), .ref (md 16), .ref (md 17), .ref (md 18), .ref (md 19), .ref (md 20), .ref (md 21), .ref (md 22), .int 0, .ref (md 24), .int 0, .ref (md 26), .int 0, .ref (md 28), .ref (md 29), .ref (md 30), .ref (md 31), .ref (md 32), .ref (md 33), .int 0, .int 0, .ref (md 36), .ref (md 37), .ref (md 38), .ref (md 39), .ref (md 40), .int 0, .int (-1), .int 0, .ref (md 44), .ref (md 45), .ref (md 46), .int 0, .ref (md 48), .ref (md 49), .int 0, .ref (md 51), .int 0, .ref (md 53), .ref (md 54), .ref (md 55), .ref (md 56), .ref (md 57), .ref (md 58), .ref (md 59), .ref (md 60), .ref (md 61), .ref (md 62), .ref (md 63), .int 0, .int 0, .int 0, .int 0, .int 0, .int 0, .ref (md 70), .int 0, .ref (md 72), .int 0, .int 400000, .int 0, .int 0]))]) hD hS hA [1] rfl
  refine va_calli (va_runV (As := [.int (xs 1)]) (rest := [.int (v_to2 (xs 1))]) ⟨hx, hb, hml, hown, hts⟩ (g_p_told l D H.size md mc (xs 1)) (cw_v 1 hts kw_2006 kw_2003 kw_2004 kw_2005 kw_11 rfl rfl (by decide +kernel) ⟨Nat.le_of_ble_eq_true rfl, Nat.le_of_ble_eq_true rfl⟩) ⟨g_blind, va_recv hKc hPc (ci := 12) (q0 := 0) rfl rfl, fun U hU hW => g_pre hU hW hPc hKc hDc⟩ rfl rfl hl.1 rfl (lv_room (Nat.le_of_ble_eq_true rfl)) d_law_2383 ⟨Nat.le_of_ble_eq_true rfl, Nat.le_of_ble_eq_true rfl⟩) hS (fun q _ h => hFc q h) hFc (fun r_1 u_2 t H1 locs ht hvm hw hB hz1 hk1 hS => ?_)
  obtain ⟨hP1, hK1, hD1⟩ := hB
  rw [ht] at hP1
  have hK1 := va_K.moved hvm.symm hK1
  obtain ⟨hP, hD⟩ := va_join (wr := [(o, .inl (ac 7, 1, .inr (.inl (fun _ => 0)))), (md 39, .inl (mc 0, 8, .inl (fun _ => -1))), (md 1, .inl (mc 1, 8300, .inl (fun _ => 0))), (md 40, .inl (mc 1, 800000, .inl (fun _ => 0))), (md 72, .inl (mc 0, 12010, .inl (fun _ => 0)))]) (w1 := [(md 100, .inr (12, .int 0 :: u_2))]) hP hD [1] [0, 2, 3, 4, 5] rfl rfl (by decide) (by decide) hk1 hFc hP1 hD1
  generalize H1 = H at hP hS ⊢
  have hP : va_P D cls [(o, .inl (ac 7, 1, .inr (.inl (fun _ => 0)))), (md 39, .inl (mc 0, 8, .inl (fun _ => -1))), (md 1, .inl (mc 1, 8300, .inl (fun _ => 0))), (md 40, .inl (mc 1, 800000, .inl (fun _ => 0))), (md 72, .inl (mc 0, 12010, .inl (fun _ => 0))), (md 100, .inr (12, .int 0 :: u_2))] H := hP
  have hD : va_D A [(o, .inl (ac 7, 1, .inr (.inl (fun _ => 0)))), (md 39, .inl (mc 0, 8, .inl (fun _ => -1))), (md 1, .inl (mc 1, 8300, .inl (fun _ => 0))), (md 40, .inl (mc 1, 800000, .inl (fun _ => 0))), (md 72, .inl (mc 0, 12010, .inl (fun _ => 0))), (md 100, .inr (12, .int 0 :: u_2))] := hD
  refine W.cs (cells' := 636) (slots' := 1394874) rfl rfl ?_
  have hwm := hw
  refine w_i (y := v_to2 (xs 1)) (hwm rfl) ?_
  refine lv_icmp_eq (tgt := 2391) hx hb d_law_2386 (by decide) (fun _ => ?_) (fun h => absurd rfl h)
  exact law_tail l hx hb hr hlocks hX hbl hbA hT hS (lv_sub hl [0, 4] rfl) (by decide) (by decide)
