theorem d_law_1204 : decode code 1204 = .ok (.aload_n 1, 1) := by decide +kernel
theorem d_law_1205 : decode code 1205 = .ok (.aload_n 0, 1) := by decide +kernel
theorem d_law_1206 : decode code 1206 = .ok (.iload 4, 2) := by decide +kernel
theorem d_law_1208 : decode code 1208 = .ok (.iconst 1, 1) := by decide +kernel
theorem d_law_1209 : decode code 1209 = .ok (.iadd, 1) := by decide +kernel
theorem d_law_1210 : decode code 1210 = .ok (.iaload, 1) := by decide +kernel
theorem d_law_1211 : decode code 1211 = .ok (.aload_n 0, 1) := by decide +kernel
theorem d_law_1212 : decode code 1212 = .ok (.iload 4, 2) := by decide +kernel
theorem d_law_1214 : decode code 1214 = .ok (.iconst 2, 1) := by decide +kernel
theorem d_law_1215 : decode code 1215 = .ok (.iadd, 1) := by decide +kernel
theorem d_law_1216 : decode code 1216 = .ok (.iaload, 1) := by decide +kernel
theorem d_law_1217 : decode code 1217 = .ok (.aload_n 0, 1) := by decide +kernel
theorem d_law_1218 : decode code 1218 = .ok (.iload 4, 2) := by decide +kernel
theorem d_law_1220 : decode code 1220 = .ok (.iconst 3, 1) := by decide +kernel
theorem d_law_1221 : decode code 1221 = .ok (.iadd, 1) := by decide +kernel
theorem d_law_1222 : decode code 1222 = .ok (.iaload, 1) := by decide +kernel
theorem d_law_1223 : decode code 1223 = .ok (.aload_n 0, 1) := by decide +kernel
theorem d_law_1224 : decode code 1224 = .ok (.iload 4, 2) := by decide +kernel
theorem d_law_1226 : decode code 1226 = .ok (.iconst 4, 1) := by decide +kernel
theorem d_law_1227 : decode code 1227 = .ok (.iadd, 1) := by decide +kernel
theorem d_law_1228 : decode code 1228 = .ok (.iaload, 1) := by decide +kernel
theorem d_law_1229 : decode code 1229 = .ok (.aload_n 3, 1) := by decide +kernel
theorem d_law_1230 : decode code 1230 = .ok (.invokestatic 162, 3) := by decide +kernel
theorem d_law_1233 : decode code 1233 = .ok (.istore 5, 2) := by decide +kernel
theorem d_law_1235 : decode code 1235 = .ok (.aload_n 2, 1) := by decide +kernel
theorem d_law_1236 : decode code 1236 = .ok (.aload_n 0, 1) := by decide +kernel
theorem d_law_1237 : decode code 1237 = .ok (.iload 4, 2) := by decide +kernel
theorem d_law_1239 : decode code 1239 = .ok (.iconst 1, 1) := by decide +kernel
theorem d_law_1240 : decode code 1240 = .ok (.iadd, 1) := by decide +kernel
theorem d_law_1241 : decode code 1241 = .ok (.iaload, 1) := by decide +kernel
theorem d_law_1242 : decode code 1242 = .ok (.aload_n 0, 1) := by decide +kernel
theorem d_law_1243 : decode code 1243 = .ok (.iload 4, 2) := by decide +kernel
theorem d_law_1245 : decode code 1245 = .ok (.iconst 2, 1) := by decide +kernel
theorem d_law_1246 : decode code 1246 = .ok (.iadd, 1) := by decide +kernel
theorem d_law_1247 : decode code 1247 = .ok (.iaload, 1) := by decide +kernel
theorem d_law_1248 : decode code 1248 = .ok (.aload_n 0, 1) := by decide +kernel
theorem d_law_1249 : decode code 1249 = .ok (.iload 4, 2) := by decide +kernel
theorem d_law_1251 : decode code 1251 = .ok (.iconst 3, 1) := by decide +kernel
theorem d_law_1252 : decode code 1252 = .ok (.iadd, 1) := by decide +kernel
theorem d_law_1253 : decode code 1253 = .ok (.iaload, 1) := by decide +kernel
theorem d_law_1254 : decode code 1254 = .ok (.aload_n 0, 1) := by decide +kernel
theorem d_law_1255 : decode code 1255 = .ok (.iload 4, 2) := by decide +kernel
theorem d_law_1257 : decode code 1257 = .ok (.iconst 4, 1) := by decide +kernel
theorem d_law_1258 : decode code 1258 = .ok (.iadd, 1) := by decide +kernel
theorem d_law_1259 : decode code 1259 = .ok (.iaload, 1) := by decide +kernel
theorem d_law_1260 : decode code 1260 = .ok (.invokevirtual 164, 3) := by decide +kernel
theorem d_law_1263 : decode code 1263 = .ok (.istore 6, 2) := by decide +kernel
theorem d_law_1265 : decode code 1265 = .ok (.aload_n 2, 1) := by decide +kernel
theorem d_law_1266 : decode code 1266 = .ok (.invokevirtual 120, 3) := by decide +kernel
theorem d_law_1269 : decode code 1269 = .ok (.iload 5, 2) := by decide +kernel
theorem d_law_1271 : decode code 1271 = .ok (.if_icmp .eq 5, 3) := by decide +kernel
theorem d_law_1276 : decode code 1276 = .ok (.iload 5, 2) := by decide +kernel
theorem d_law_1278 : decode code 1278 = .ok (.ifCond .ne 15, 3) := by decide +kernel
theorem d_law_1293 : decode code 1293 = .ok (.goto 1098, 3) := by decide +kernel
theorem d_law_1281 : decode code 1281 = .ok (.aload_n 3, 1) := by decide +kernel
theorem d_law_1282 : decode code 1282 = .ok (.iconst 0, 1) := by decide +kernel
theorem d_law_1283 : decode code 1283 = .ok (.laload, 1) := by decide +kernel
theorem d_law_1284 : decode code 1284 = .ok (.iload 6, 2) := by decide +kernel
theorem d_law_1286 : decode code 1286 = .ok (.i2l, 1) := by decide +kernel
theorem d_law_1287 : decode code 1287 = .ok (.lcmp, 1) := by decide +kernel
theorem d_law_1288 : decode code 1288 = .ok (.ifCond .eq 5, 3) := by decide +kernel
set_option maxHeartbeats 4000000 in
set_option maxRecDepth 100000 in
theorem law_c11 {p : Program} {e : Env} {s : State} {m : MethodId} {below : List Frame} {meth : Method} {c : Code} (l : Launch) (hfl : l.flags = flags0) {b : Nat} {xs : Nat → Int32} {D : va_G} {ad : Nat → Nat} {ac : Nat → ClassId} {md : Nat → Nat} {mc : Nat → ClassId} {o : Nat} {H : Heap} {locs : List Loc} {ls : Array Slot} (h : LwS p s m meth c b 7 xs D ad ac md mc o H locs ls) : W p l e room_1 s m #[Value.ref b] below meth c H locs 636 1394874 (lw_Z below #[Value.ref b] s) (F0 m 1204 ls []) := by
  obtain ⟨hx, hb, hr, hml, hown, hts, hX, hbl, hlocks, hev, hP, hK, hD, hS, hl⟩ := h
  have hNS : tx_NS (lA s) s := fun q cell hq hc => absurd (Array.getElem?_eq_some_iff.mp hc).1 (Nat.not_lt.mpr hq)
  have hA : ∀ q : Nat, s.heap.size ≤ q → lA s q := fun _ h => h
  have hT : ∀ q : Nat, lA s q → s.heap.size ≤ q := fun _ h => h
  have hbA : ¬ lA s b := Nat.not_le.mpr hbl
  generalize lA s = A at hev hD hS hNS hA hT hbA
  refine lv_aload_n hx hb d_law_1204 rfl (lv_at hl 3 rfl) ?_
  refine lv_aload_n hx hb d_law_1205 rfl (lv_at hl 4 rfl) ?_
  refine lv_iload hx hb d_law_1206 (lv_at hl 0 rfl) ?_
  refine lv_iconst (v := 1) hx hb d_law_1208 (by decide) ?_
  refine lv_iadd hx hb d_law_1209 ?_
  refine w_i (y := 1) (by decide) ?_
  refine va_sld hx hb hX hbl hbA hS (i := 1) (vp_in_nI (n := 1) (N := 7) (by decide) (by decide)) d_law_1210 ?_
  refine w_i (y := xs 1) rfl ?_
  refine lv_aload_n hx hb d_law_1211 rfl (lv_at hl 4 rfl) ?_
  refine lv_iload hx hb d_law_1212 (lv_at hl 0 rfl) ?_
  refine lv_iconst (v := 2) hx hb d_law_1214 (by decide) ?_
  refine lv_iadd hx hb d_law_1215 ?_
  refine w_i (y := 2) (by decide) ?_
  refine va_sld hx hb hX hbl hbA hS (i := 2) (vp_in_nI (n := 2) (N := 7) (by decide) (by decide)) d_law_1216 ?_
  refine w_i (y := xs 2) rfl ?_
  refine lv_aload_n hx hb d_law_1217 rfl (lv_at hl 4 rfl) ?_
  refine lv_iload hx hb d_law_1218 (lv_at hl 0 rfl) ?_
  refine lv_iconst (v := 3) hx hb d_law_1220 (by decide) ?_
  refine lv_iadd hx hb d_law_1221 ?_
  refine w_i (y := 3) (by decide) ?_
  refine va_sld hx hb hX hbl hbA hS (i := 3) (vp_in_nI (n := 3) (N := 7) (by decide) (by decide)) d_law_1222 ?_
  refine w_i (y := xs 3) rfl ?_
  refine lv_aload_n hx hb d_law_1223 rfl (lv_at hl 4 rfl) ?_
  refine lv_iload hx hb d_law_1224 (lv_at hl 0 rfl) ?_
  refine lv_iconst (v := 4) hx hb d_law_1226 (by decide) ?_
  refine lv_iadd hx hb d_law_1227 ?_
  refine w_i (y := 4) (by decide) ?_
  refine va_sld hx hb hX hbl hbA hS (i := 4) (vp_in_nI (n := 4) (N := 7) (by decide) (by decide)) d_law_1228 ?_
  refine w_i (y := xs 4) rfl ?_
  refine lv_aload_n hx hb d_law_1229 rfl (lv_at hl 1 rfl) ?_
  have hPh := p_l hP
  have hDh := d_l hD
  have hKh := hK.sub (tys' := fxT ac) [0, 1, 2, 3, 4, 5, 6, 7] rfl
  have hFc := fr_all hDh hS hA
  refine va_calli (tx_runSW (As := [.ref (ad 0), .int (xs 1), .int (xs 2), .int (xs 3), .int (xs 4), .ref o]) (rest := []) ⟨hx, hb, hml, hown, hts⟩ (h_send l hfl D ad ac (fun _ => 0) o (fun _ => 0) H.size (xs 1) (xs 2) (xs 3) (xs 4)) (cw_w 6 hts kw_1071 kw_1069 kw_1070 kw_0 rfl rfl (by decide +kernel) ⟨Nat.le_of_ble_eq_true rfl, Nat.le_of_ble_eq_true rfl⟩) ⟨h_blind, fun U hU hW => h_pre hU hW hPh hKh hDh hev hNS hS hFc⟩ rfl rfl hl.1 rfl (lv_room (Nat.le_of_ble_eq_true rfl)) d_law_1230 ⟨Nat.le_of_ble_eq_true rfl, Nat.le_of_ble_eq_true rfl⟩) hS (fun q _ h => hFc q h) hFc (fun rz u t H1 locs ht hvm hw hB hz1 hk1 hS => ?_)
  obtain ⟨hP1, -, -⟩ := hB
  rw [ht] at hP1
  obtain ⟨hw1, hw2⟩ := hw
  subst hw1
  have hP := hP1.app (p_keep hP hD hk1)
  have hD := d_oc hD (e' := .inl (ac 7, 1, .inr (.inl u)))
  generalize H1 = H at hP hS ⊢
  have hP : va_P D cls [(o, .inl (ac 7, 1, .inr (.inl u))), (md 100, .inr (12, [.int 0, .ref (md 1), .ref (md 2), .ref (md 3), .int 0, .int 0, .int 0, .int 0, .ref (md 8), .ref (md 9), .ref (md 10), .ref (md 11), .ref (md 12), .ref (md 13), .ref (md 14), .ref (md 15), .ref (md 16), .ref (md 17), .ref (md 18), .ref (md 19), .ref (md 20), .ref (md 21), .ref (md 22), .int 0, .ref (md 24), .int 0, .ref (md 26), .int 0, .ref (md 28), .ref (md 29), .ref (md 30), .ref (md 31), .ref (md 32), .ref (md 33), .int 0, .int 0, .ref (md 36), .ref (md 37), .ref (md 38), .ref (md 39), .ref (md 40), .int 0, .int (-1), .int 0, .ref (md 44), .ref (md 45), .ref (md 46), .int 0, .ref (md 48), .ref (md 49), .int 0, .ref (md 51), .int 0, .ref (md 53), .ref (md 54), .ref (md 55), .ref (md 56), .ref (md 57), .ref (md 58), .ref (md 59), .ref (md 60), .ref (md 61), .ref (md 62), .ref (md 63), .int 0, .int 0, .int 0, .int 0, .int 0, .int 0, .ref (md 70), .int 0, .ref (md 72), .int 0, .int 400000, .int 0, .int 0])), (md 39, .inl (mc 0, 8, .inl (fun _ => -1))), (md 1, .inl (mc 1, 8300, .inl (fun _ => 0))), (md 40, .inl (mc 1, 800000, .inl (fun _ => 0))), (md 72, .inl (mc 0, 12010, .inl (fun _ => 0)))] H := hP
  have hD : va_D A [(o, .inl (ac 7, 1, .inr (.inl u))), (md 100, .inr (12, [.int 0, .ref (md 1), .ref (md 2), .ref (md 3), .int 0, .int 0, .int 0, .int 0, .ref (md 8), .ref (md 9), .ref (md 10), .ref (md 11), .ref (md 12), .ref (md 13), .ref (md 14), .ref (md 15), .ref (md 16), .ref (md 17), .ref (md 18), .ref (md 19), .ref (md 20), .ref (md 21), .ref (md 22), .int 0, .ref (md 24), .int 0, .ref (md 26), .int 0, .ref (md 28), .ref (md 29), .ref (md 30), .ref (md 31), .ref (md 32), .ref (md 33), .int 0, .int 0, .ref (md 36), .ref (md 37), .ref (md 38), .ref (md 39), .ref (md 40), .int 0, .int (-1), .int 0, .ref (md 44), .ref (md 45), .ref (md 46), .int 0, .ref (md 48), .ref (md 49), .int 0, .ref (md 51), .int 0, .ref (md 53), .ref (md 54), .ref (md 55), .ref (md 56), .ref (md 57), .ref (md 58), .ref (md 59), .ref (md 60), .ref (md 61), .ref (md 62), .ref (md 63), .int 0, .int 0, .int 0, .int 0, .int 0, .int 0, .ref (md 70), .int 0, .ref (md 72), .int 0, .int 400000, .int 0, .int 0])), (md 39, .inl (mc 0, 8, .inl (fun _ => -1))), (md 1, .inl (mc 1, 8300, .inl (fun _ => 0))), (md 40, .inl (mc 1, 800000, .inl (fun _ => 0))), (md 72, .inl (mc 0, 12010, .inl (fun _ => 0)))] := hD
  refine W.cs (cells' := 637) (slots' := 1394880) rfl rfl ?_
  refine lv_istore (lv' := [(5, .int (k_sen (xs 1) (xs 2) (xs 3))), (4, .int 0), (3, .ref o), (2, .ref (md 100)), (1, .ref (ad 0)), (0, .ref b)]) hx hb d_law_1233 hl (by decide) rfl (fun ls hl => ?_)
  refine lv_aload_n hx hb d_law_1235 rfl (lv_at hl 3 rfl) ?_
  refine lv_aload_n hx hb d_law_1236 rfl (lv_at hl 5 rfl) ?_
  refine lv_iload hx hb d_law_1237 (lv_at hl 1 rfl) ?_
  refine lv_iconst (v := 1) hx hb d_law_1239 (by decide) ?_
  refine lv_iadd hx hb d_law_1240 ?_
  refine w_i (y := 1) (by decide) ?_
  refine va_sld hx hb hX hbl hbA hS (i := 1) (vp_in_nI (n := 1) (N := 7) (by decide) (by decide)) d_law_1241 ?_
  refine w_i (y := xs 1) rfl ?_
  refine lv_aload_n hx hb d_law_1242 rfl (lv_at hl 5 rfl) ?_
  refine lv_iload hx hb d_law_1243 (lv_at hl 1 rfl) ?_
  refine lv_iconst (v := 2) hx hb d_law_1245 (by decide) ?_
  refine lv_iadd hx hb d_law_1246 ?_
  refine w_i (y := 2) (by decide) ?_
  refine va_sld hx hb hX hbl hbA hS (i := 2) (vp_in_nI (n := 2) (N := 7) (by decide) (by decide)) d_law_1247 ?_
  refine w_i (y := xs 2) rfl ?_
  refine lv_aload_n hx hb d_law_1248 rfl (lv_at hl 5 rfl) ?_
  refine lv_iload hx hb d_law_1249 (lv_at hl 1 rfl) ?_
  refine lv_iconst (v := 3) hx hb d_law_1251 (by decide) ?_
  refine lv_iadd hx hb d_law_1252 ?_
  refine w_i (y := 3) (by decide) ?_
  refine va_sld hx hb hX hbl hbA hS (i := 3) (vp_in_nI (n := 3) (N := 7) (by decide) (by decide)) d_law_1253 ?_
  refine w_i (y := xs 3) rfl ?_
  refine lv_aload_n hx hb d_law_1254 rfl (lv_at hl 5 rfl) ?_
  refine lv_iload hx hb d_law_1255 (lv_at hl 1 rfl) ?_
  refine lv_iconst (v := 4) hx hb d_law_1257 (by decide) ?_
  refine lv_iadd hx hb d_law_1258 ?_
  refine w_i (y := 4) (by decide) ?_
  refine va_sld hx hb hX hbl hbA hS (i := 4) (vp_in_nI (n := 4) (N := 7) (by decide) (by decide)) d_law_1259 ?_
  refine w_i (y := xs 4) rfl ?_
  have hPc := hP.sub (ws' := [(md 100, .inr (12, [.int 0, .ref (md 1), .ref (md 2), .ref (md 3), .int 0, .int 0, .int 0, .int 0, .ref (md 8), .ref (md 9), .ref (md 10), .ref (md 11), .ref (md 12), .ref (md 13), .ref (md 14), .ref (md 15), .ref (md 16), .ref (md 17), .ref (md 18), .ref (md 19), .ref (md 20), .ref (md 21), .ref (md 22), .int 0, .ref (md 24), .int 0, .ref (md 26), .int 0, .ref (md 28), .ref (md 29), .ref (md 30), .ref (md 31), .ref (md 32), .ref (md 33), .int 0, .int 0, .ref (md 36), .ref (md 37), .ref (md 38), .ref (md 39), .ref (md 40), .int 0, .int (-1), .int 0, .ref (md 44), .ref (md 45), .ref (md 46), .int 0, .ref (md 48), .ref (md 49), .int 0, .ref (md 51), .int 0, .ref (md 53), .ref (md 54), .ref (md 55), .ref (md 56), .ref (md 57), .ref (md 58), .ref (md 59), .ref (md 60), .ref (md 61), .ref (md 62), .ref (md 63), .int 0, .int 0, .int 0, .int 0, .int 0, .int 0, .ref (md 70), .int 0, .ref (md 72), .int 0, .int 400000, .int 0, .int 0]))]) [1] rfl
  have hDc := hD.sub (ws' := [(md 100, .inr (12, [.int 0, .ref (md 1), .ref (md 2), .ref (md 3), .int 0, .int 0, .int 0, .int 0, .ref (md 8), .ref (md 9), .ref (md 10), .ref (md 11), .ref (md 12), .ref (md 13), .ref (md 14), .ref (md 15), .ref (md 16), .ref (md 17), .ref (md 18), .ref (md 19), .ref (md 20), .ref (md 21), .ref (md 22), .int 0, .ref (md 24), .int 0, .ref (md 26), .int 0, .ref (md 28), .ref (md 29), .ref (md 30), .ref (md 31), .ref (md 32), .ref (md 33), .int 0, .int 0, .ref (md 36), .ref (md 37), .ref (md 38), .ref (md 39), .ref (md 40), .int 0, .int (-1), .int 0, .ref (md 44), .ref (md 45), .ref (md 46), .int 0, .ref (md 48), .ref (md 49), .int 0, .ref (md 51), .int 0, .ref (md 53), .ref (md 54), .ref (md 55), .ref (md 56), .ref (md 57), .ref (md 58), .ref (md 59), .ref (md 60), .ref (md 61), .ref (md 62), .ref (md 63), .int 0, .int 0, .int 0, .int 0, .int 0, .int 0, .ref (md 70), .int 0, .ref (md 72), .int 0, .int 400000, .int 0, .int 0]))]) [1] (by decide) rfl
  have hKc := hK.sub (tys' := []) [] rfl
  have hFc := va_free (wc := [(md 100, .inr (12, [.int 0, .ref (md 1), .ref (md 2), .ref (md 3), .int 0, .int 0, .int 0, .int 0, .ref (md 8), .ref (md 9), .ref (md 10), .ref (md 11), .ref (md 12), .ref (md 13), .ref (md 14), .ref (md 15), .ref (md 16), .ref (md 17), .ref (md 18), .ref (md 19), .ref (md 20), .ref (md 21), .ref (md 22), .int 0, .ref (md 24), .int 0, .ref (md 26), .int 0, .ref (md 28), .ref (md 29), .ref (md 30), .ref (md 31), .ref (md 32), .ref (md 33), .int 0, .int 0, .ref (md 36), .ref (md 37), .ref (md 38), .ref (md 39), .ref (md 40), .int 0, .int (-1), .int 0, .ref (md 44), .ref (md 45), .ref (md 46), .int 0, .ref (md 48), .ref (md 49), .int 0, .ref (md 51), .int 0, .ref (md 53), .ref (md 54), .ref (md 55), .ref (md 56), .ref (md 57), .ref (md 58), .ref (md 59), .ref (md 60), .ref (md 61), .ref (md 62), .ref (md 63), .int 0, .int 0, .int 0, .int 0, .int 0, .int 0, .ref (md 70), .int 0, .ref (md 72), .int 0, .int 400000, .int 0, .int 0]))]) hD hS hA [1] rfl
  refine va_calli (va_runV (As := [.int (xs 1), .int (xs 2), .int (xs 3), .int (xs 4)]) (rest := []) ⟨hx, hb, hml, hown, hts⟩ (g_p_send l D H.size md mc (xs 1) (xs 2) (xs 3) (xs 4)) (cw_v 4 hts kw_1831 kw_1828 kw_1829 kw_1830 kw_11 rfl rfl (by decide +kernel) ⟨Nat.le_of_ble_eq_true rfl, Nat.le_of_ble_eq_true rfl⟩) ⟨g_blind, va_recv hKc hPc (ci := 12) (q0 := 0) rfl rfl, fun U hU hW => g_pre hU hW hPc hKc hDc⟩ rfl rfl hl.1 rfl (lv_room (Nat.le_of_ble_eq_true rfl)) d_law_1260 ⟨Nat.le_of_ble_eq_true rfl, Nat.le_of_ble_eq_true rfl⟩) hS (fun q _ h => hFc q h) hFc (fun r_1 u_2 t H1 locs ht hvm hw hB hz1 hk1 hS => ?_)
  obtain ⟨hP1, hK1, hD1⟩ := hB
  rw [ht] at hP1
  have hK1 := va_K.moved hvm.symm hK1
  obtain ⟨hP, hD⟩ := va_join (wr := [(o, .inl (ac 7, 1, .inr (.inl u))), (md 39, .inl (mc 0, 8, .inl (fun _ => -1))), (md 1, .inl (mc 1, 8300, .inl (fun _ => 0))), (md 40, .inl (mc 1, 800000, .inl (fun _ => 0))), (md 72, .inl (mc 0, 12010, .inl (fun _ => 0)))]) (w1 := [(md 100, .inr (12, .int (k_sen (xs 1) (xs 2) (xs 3)) :: u_2))]) hP hD [1] [0, 2, 3, 4, 5] rfl rfl (by decide) (by decide) hk1 hFc hP1 hD1
  generalize H1 = H at hP hS ⊢
  have hP : va_P D cls [(o, .inl (ac 7, 1, .inr (.inl u))), (md 39, .inl (mc 0, 8, .inl (fun _ => -1))), (md 1, .inl (mc 1, 8300, .inl (fun _ => 0))), (md 40, .inl (mc 1, 800000, .inl (fun _ => 0))), (md 72, .inl (mc 0, 12010, .inl (fun _ => 0))), (md 100, .inr (12, .int (k_sen (xs 1) (xs 2) (xs 3)) :: u_2))] H := hP
  have hD : va_D A [(o, .inl (ac 7, 1, .inr (.inl u))), (md 39, .inl (mc 0, 8, .inl (fun _ => -1))), (md 1, .inl (mc 1, 8300, .inl (fun _ => 0))), (md 40, .inl (mc 1, 800000, .inl (fun _ => 0))), (md 72, .inl (mc 0, 12010, .inl (fun _ => 0))), (md 100, .inr (12, .int (k_sen (xs 1) (xs 2) (xs 3)) :: u_2))] := hD
  refine W.cs (cells' := 637) (slots' := 1394880) rfl rfl ?_
  have hwm := hw
  refine lv_istore (lv' := [(6, .int r_1), (5, .int (k_sen (xs 1) (xs 2) (xs 3))), (4, .int 0), (3, .ref o), (2, .ref (md 100)), (1, .ref (ad 0)), (0, .ref b)]) hx hb d_law_1263 hl (by decide) rfl (fun ls hl => ?_)
  refine lv_aload_n hx hb d_law_1265 rfl (lv_at hl 4 rfl) ?_
  have hPc := hP.sub (ws' := [(md 100, .inr (12, .int (k_sen (xs 1) (xs 2) (xs 3)) :: u_2))]) [5] rfl
  have hDc := hD.sub (ws' := [(md 100, .inr (12, .int (k_sen (xs 1) (xs 2) (xs 3)) :: u_2))]) [5] (by decide) rfl
  have hKc := hK.sub (tys' := []) [] rfl
  have hFc := va_free (wc := [(md 100, .inr (12, .int (k_sen (xs 1) (xs 2) (xs 3)) :: u_2))]) hD hS hA [5] rfl
  refine va_calli (va_runV (As := []) (rest := []) ⟨hx, hb, hml, hown, hts⟩ (g_thr l D H.size md mc (k_sen (xs 1) (xs 2) (xs 3)) u_2) (cw_v 0 hts kw_1618 kw_1615 kw_1616 kw_1617 kw_11 rfl rfl (by decide +kernel) ⟨Nat.le_of_ble_eq_true rfl, Nat.le_of_ble_eq_true rfl⟩) ⟨g_blind, va_recv hKc hPc (ci := 12) (q0 := 0) rfl rfl, fun U hU hW => g_pre hU hW hPc hKc hDc⟩ rfl rfl hl.1 rfl (lv_room (Nat.le_of_ble_eq_true rfl)) d_law_1266 ⟨Nat.le_of_ble_eq_true rfl, Nat.le_of_ble_eq_true rfl⟩) hS (fun q _ h => hFc q h) hFc (fun r_3 u_4 t H1 locs ht hvm hw hB hz1 hk1 hS => ?_)
  obtain ⟨⟩ := u_4
  obtain ⟨hP1, hK1, hD1⟩ := hB
  rw [ht] at hP1
  have hK1 := va_K.moved hvm.symm hK1
  obtain ⟨hP, hD⟩ := va_join (wr := [(o, .inl (ac 7, 1, .inr (.inl u))), (md 39, .inl (mc 0, 8, .inl (fun _ => -1))), (md 1, .inl (mc 1, 8300, .inl (fun _ => 0))), (md 40, .inl (mc 1, 800000, .inl (fun _ => 0))), (md 72, .inl (mc 0, 12010, .inl (fun _ => 0)))]) (w1 := [(md 100, .inr (12, .int (k_sen (xs 1) (xs 2) (xs 3)) :: u_2))]) hP hD [5] [0, 1, 2, 3, 4] rfl rfl (by decide) (by decide) hk1 hFc hP1 hD1
  generalize H1 = H at hP hS ⊢
  have hP : va_P D cls [(o, .inl (ac 7, 1, .inr (.inl u))), (md 39, .inl (mc 0, 8, .inl (fun _ => -1))), (md 1, .inl (mc 1, 8300, .inl (fun _ => 0))), (md 40, .inl (mc 1, 800000, .inl (fun _ => 0))), (md 72, .inl (mc 0, 12010, .inl (fun _ => 0))), (md 100, .inr (12, .int (k_sen (xs 1) (xs 2) (xs 3)) :: u_2))] H := hP
  have hD : va_D A [(o, .inl (ac 7, 1, .inr (.inl u))), (md 39, .inl (mc 0, 8, .inl (fun _ => -1))), (md 1, .inl (mc 1, 8300, .inl (fun _ => 0))), (md 40, .inl (mc 1, 800000, .inl (fun _ => 0))), (md 72, .inl (mc 0, 12010, .inl (fun _ => 0))), (md 100, .inr (12, .int (k_sen (xs 1) (xs 2) (xs 3)) :: u_2))] := hD
  refine W.cs (cells' := 637) (slots' := 1394880) rfl rfl ?_
  subst hw
  refine lv_iload hx hb d_law_1269 (lv_at hl 1 rfl) ?_
  refine lv_icmp_eq (tgt := 1276) hx hb d_law_1271 (by decide) (fun _ => ?_) (fun h => absurd rfl h)
  refine lv_iload hx hb d_law_1276 (lv_at hl 1 rfl) ?_
  refine lv_if_ne (tgt := 1293) hx hb d_law_1278 (by decide) (fun c_5 => ?_) (fun c_5 => ?_)
  · refine lv_goto (tgt := 2391) hx hb d_law_1293 (by decide) ?_
    exact law_tail l hx hb hr hlocks hX hbl hbA hT hS (lv_sub hl [2, 6] rfl) (by decide) (by decide)
  · refine lv_aload_n hx hb d_law_1281 rfl (lv_at hl 3 rfl) ?_
    refine lv_iconst (v := 0) hx hb d_law_1282 (by decide) ?_
    refine va_lald hx hb hK hP 0 7 rfl rfl (i := 0) (vp_in_nI (n := 0) (N := 1) (by decide) (by decide)) d_law_1283 ?_
    refine w_l (y := 0) (hw2 c_5) ?_
    refine lv_iload hx hb d_law_1284 (lv_at hl 0 rfl) ?_
    refine lv_i2l hx hb d_law_1286 rfl ?_
    refine w_l (y := 0) (by first | (rw [hwm c_5]; done) | (rw [hwm c_5]; rfl) | (rw [hwm c_5]; decide)) ?_
    refine W.lcmp hx hb d_law_1287 ?_
    refine w_i (y := 0) (by simp [lg_cmp]) ?_
    refine lv_if_eq (tgt := 1293) hx hb d_law_1288 (by decide) (fun _ => ?_) (fun h => absurd h (by decide))
    refine lv_goto (tgt := 2391) hx hb d_law_1293 (by decide) ?_
    exact law_tail l hx hb hr hlocks hX hbl hbA hT hS (lv_sub hl [2, 6] rfl) (by decide) (by decide)
theorem d_law_1296 : decode code 1296 = .ok (.aload_n 1, 1) := by decide +kernel
theorem d_law_1297 : decode code 1297 = .ok (.aload_n 0, 1) := by decide +kernel
theorem d_law_1298 : decode code 1298 = .ok (.iload 4, 2) := by decide +kernel
theorem d_law_1300 : decode code 1300 = .ok (.iconst 1, 1) := by decide +kernel
theorem d_law_1301 : decode code 1301 = .ok (.iadd, 1) := by decide +kernel
theorem d_law_1302 : decode code 1302 = .ok (.iaload, 1) := by decide +kernel
theorem d_law_1303 : decode code 1303 = .ok (.aload_n 0, 1) := by decide +kernel
theorem d_law_1304 : decode code 1304 = .ok (.iload 4, 2) := by decide +kernel
theorem d_law_1306 : decode code 1306 = .ok (.iconst 2, 1) := by decide +kernel
theorem d_law_1307 : decode code 1307 = .ok (.iadd, 1) := by decide +kernel
theorem d_law_1308 : decode code 1308 = .ok (.iaload, 1) := by decide +kernel
theorem d_law_1309 : decode code 1309 = .ok (.aload_n 3, 1) := by decide +kernel
theorem d_law_1310 : decode code 1310 = .ok (.invokestatic 165, 3) := by decide +kernel
theorem d_law_1313 : decode code 1313 = .ok (.istore 5, 2) := by decide +kernel
theorem d_law_1315 : decode code 1315 = .ok (.aload_n 2, 1) := by decide +kernel
theorem d_law_1316 : decode code 1316 = .ok (.aload_n 0, 1) := by decide +kernel
theorem d_law_1317 : decode code 1317 = .ok (.iload 4, 2) := by decide +kernel
theorem d_law_1319 : decode code 1319 = .ok (.iconst 1, 1) := by decide +kernel
theorem d_law_1320 : decode code 1320 = .ok (.iadd, 1) := by decide +kernel
theorem d_law_1321 : decode code 1321 = .ok (.iaload, 1) := by decide +kernel
theorem d_law_1322 : decode code 1322 = .ok (.aload_n 0, 1) := by decide +kernel
theorem d_law_1323 : decode code 1323 = .ok (.iload 4, 2) := by decide +kernel
theorem d_law_1325 : decode code 1325 = .ok (.iconst 2, 1) := by decide +kernel
theorem d_law_1326 : decode code 1326 = .ok (.iadd, 1) := by decide +kernel
theorem d_law_1327 : decode code 1327 = .ok (.iaload, 1) := by decide +kernel
theorem d_law_1328 : decode code 1328 = .ok (.invokevirtual 167, 3) := by decide +kernel
theorem d_law_1331 : decode code 1331 = .ok (.istore 6, 2) := by decide +kernel
theorem d_law_1333 : decode code 1333 = .ok (.aload_n 2, 1) := by decide +kernel
theorem d_law_1334 : decode code 1334 = .ok (.invokevirtual 120, 3) := by decide +kernel
theorem d_law_1337 : decode code 1337 = .ok (.iload 5, 2) := by decide +kernel
theorem d_law_1339 : decode code 1339 = .ok (.if_icmp .eq 5, 3) := by decide +kernel
theorem d_law_1344 : decode code 1344 = .ok (.iload 5, 2) := by decide +kernel
theorem d_law_1346 : decode code 1346 = .ok (.ifCond .ne 15, 3) := by decide +kernel
theorem d_law_1361 : decode code 1361 = .ok (.goto 1030, 3) := by decide +kernel
theorem d_law_1349 : decode code 1349 = .ok (.aload_n 3, 1) := by decide +kernel
theorem d_law_1350 : decode code 1350 = .ok (.iconst 0, 1) := by decide +kernel
theorem d_law_1351 : decode code 1351 = .ok (.laload, 1) := by decide +kernel
theorem d_law_1352 : decode code 1352 = .ok (.iload 6, 2) := by decide +kernel
theorem d_law_1354 : decode code 1354 = .ok (.i2l, 1) := by decide +kernel
theorem d_law_1355 : decode code 1355 = .ok (.lcmp, 1) := by decide +kernel
theorem d_law_1356 : decode code 1356 = .ok (.ifCond .eq 5, 3) := by decide +kernel
set_option maxHeartbeats 4000000 in
set_option maxRecDepth 100000 in
theorem law_c12 {p : Program} {e : Env} {s : State} {m : MethodId} {below : List Frame} {meth : Method} {c : Code} (l : Launch) (hfl : l.flags = flags0) {b : Nat} {xs : Nat → Int32} {D : va_G} {ad : Nat → Nat} {ac : Nat → ClassId} {md : Nat → Nat} {mc : Nat → ClassId} {o : Nat} {H : Heap} {locs : List Loc} {ls : Array Slot} (h : LwS p s m meth c b 7 xs D ad ac md mc o H locs ls) : W p l e room_1 s m #[Value.ref b] below meth c H locs 636 1394874 (lw_Z below #[Value.ref b] s) (F0 m 1296 ls []) := by
  obtain ⟨hx, hb, hr, hml, hown, hts, hX, hbl, hlocks, hev, hP, hK, hD, hS, hl⟩ := h
  have hNS : tx_NS (lA s) s := fun q cell hq hc => absurd (Array.getElem?_eq_some_iff.mp hc).1 (Nat.not_lt.mpr hq)
  have hA : ∀ q : Nat, s.heap.size ≤ q → lA s q := fun _ h => h
  have hT : ∀ q : Nat, lA s q → s.heap.size ≤ q := fun _ h => h
  have hbA : ¬ lA s b := Nat.not_le.mpr hbl
  generalize lA s = A at hev hD hS hNS hA hT hbA
  refine lv_aload_n hx hb d_law_1296 rfl (lv_at hl 3 rfl) ?_
  refine lv_aload_n hx hb d_law_1297 rfl (lv_at hl 4 rfl) ?_
  refine lv_iload hx hb d_law_1298 (lv_at hl 0 rfl) ?_
  refine lv_iconst (v := 1) hx hb d_law_1300 (by decide) ?_
  refine lv_iadd hx hb d_law_1301 ?_
  refine w_i (y := 1) (by decide) ?_
  refine va_sld hx hb hX hbl hbA hS (i := 1) (vp_in_nI (n := 1) (N := 7) (by decide) (by decide)) d_law_1302 ?_
  refine w_i (y := xs 1) rfl ?_
  refine lv_aload_n hx hb d_law_1303 rfl (lv_at hl 4 rfl) ?_
  refine lv_iload hx hb d_law_1304 (lv_at hl 0 rfl) ?_
  refine lv_iconst (v := 2) hx hb d_law_1306 (by decide) ?_
  refine lv_iadd hx hb d_law_1307 ?_
  refine w_i (y := 2) (by decide) ?_
  refine va_sld hx hb hX hbl hbA hS (i := 2) (vp_in_nI (n := 2) (N := 7) (by decide) (by decide)) d_law_1308 ?_
  refine w_i (y := xs 2) rfl ?_
  refine lv_aload_n hx hb d_law_1309 rfl (lv_at hl 1 rfl) ?_
  have hPh := p_l hP
  have hDh := d_l hD
  have hKh := hK.sub (tys' := fxT ac) [0, 1, 2, 3, 4, 5, 6, 7] rfl
  have hFc := fr_all hDh hS hA
  refine va_calli (tx_runSW (As := [.ref (ad 0), .int (xs 1), .int (xs 2), .ref o]) (rest := []) ⟨hx, hb, hml, hown, hts⟩ (h_join l hfl D ad ac (fun _ => 0) o (fun _ => 0) H.size (xs 1) (xs 2)) (cw_w 4 hts kw_1106 kw_1104 kw_1105 kw_0 rfl rfl (by decide +kernel) ⟨Nat.le_of_ble_eq_true rfl, Nat.le_of_ble_eq_true rfl⟩) ⟨h_blind, fun U hU hW => h_pre hU hW hPh hKh hDh hev hNS hS hFc⟩ rfl rfl hl.1 rfl (lv_room (Nat.le_of_ble_eq_true rfl)) d_law_1310 ⟨Nat.le_of_ble_eq_true rfl, Nat.le_of_ble_eq_true rfl⟩) hS (fun q _ h => hFc q h) hFc (fun rz u t H1 locs ht hvm hw hB hz1 hk1 hS => ?_)
  obtain ⟨hP1, -, -⟩ := hB
  rw [ht] at hP1
  obtain ⟨hw1, hw2⟩ := hw
  subst hw1
  have hP := hP1.app (p_keep hP hD hk1)
  have hD := d_oc hD (e' := .inl (ac 7, 1, .inr (.inl u)))
  generalize H1 = H at hP hS ⊢
  have hP : va_P D cls [(o, .inl (ac 7, 1, .inr (.inl u))), (md 100, .inr (12, [.int 0, .ref (md 1), .ref (md 2), .ref (md 3), .int 0, .int 0, .int 0, .int 0, .ref (md 8), .ref (md 9), .ref (md 10), .ref (md 11), .ref (md 12), .ref (md 13), .ref (md 14), .ref (md 15), .ref (md 16), .ref (md 17), .ref (md 18), .ref (md 19), .ref (md 20), .ref (md 21), .ref (md 22), .int 0, .ref (md 24), .int 0, .ref (md 26), .int 0, .ref (md 28), .ref (md 29), .ref (md 30), .ref (md 31), .ref (md 32), .ref (md 33), .int 0, .int 0, .ref (md 36), .ref (md 37), .ref (md 38), .ref (md 39), .ref (md 40), .int 0, .int (-1), .int 0, .ref (md 44), .ref (md 45), .ref (md 46), .int 0, .ref (md 48), .ref (md 49), .int 0, .ref (md 51), .int 0, .ref (md 53), .ref (md 54), .ref (md 55), .ref (md 56), .ref (md 57), .ref (md 58), .ref (md 59), .ref (md 60), .ref (md 61), .ref (md 62), .ref (md 63), .int 0, .int 0, .int 0, .int 0, .int 0, .int 0, .ref (md 70), .int 0, .ref (md 72), .int 0, .int 400000, .int 0, .int 0])), (md 39, .inl (mc 0, 8, .inl (fun _ => -1))), (md 1, .inl (mc 1, 8300, .inl (fun _ => 0))), (md 40, .inl (mc 1, 800000, .inl (fun _ => 0))), (md 72, .inl (mc 0, 12010, .inl (fun _ => 0)))] H := hP
  have hD : va_D A [(o, .inl (ac 7, 1, .inr (.inl u))), (md 100, .inr (12, [.int 0, .ref (md 1), .ref (md 2), .ref (md 3), .int 0, .int 0, .int 0, .int 0, .ref (md 8), .ref (md 9), .ref (md 10), .ref (md 11), .ref (md 12), .ref (md 13), .ref (md 14), .ref (md 15), .ref (md 16), .ref (md 17), .ref (md 18), .ref (md 19), .ref (md 20), .ref (md 21), .ref (md 22), .int 0, .ref (md 24), .int 0, .ref (md 26), .int 0, .ref (md 28), .ref (md 29), .ref (md 30), .ref (md 31), .ref (md 32), .ref (md 33), .int 0, .int 0, .ref (md 36), .ref (md 37), .ref (md 38), .ref (md 39), .ref (md 40), .int 0, .int (-1), .int 0, .ref (md 44), .ref (md 45), .ref (md 46), .int 0, .ref (md 48), .ref (md 49), .int 0, .ref (md 51), .int 0, .ref (md 53), .ref (md 54), .ref (md 55), .ref (md 56), .ref (md 57), .ref (md 58), .ref (md 59), .ref (md 60), .ref (md 61), .ref (md 62), .ref (md 63), .int 0, .int 0, .int 0, .int 0, .int 0, .int 0, .ref (md 70), .int 0, .ref (md 72), .int 0, .int 400000, .int 0, .int 0])), (md 39, .inl (mc 0, 8, .inl (fun _ => -1))), (md 1, .inl (mc 1, 8300, .inl (fun _ => 0))), (md 40, .inl (mc 1, 800000, .inl (fun _ => 0))), (md 72, .inl (mc 0, 12010, .inl (fun _ => 0)))] := hD
  refine W.cs (cells' := 637) (slots' := 1394880) rfl rfl ?_
  refine lv_istore (lv' := [(5, .int (k_joi (xs 1) (xs 2))), (4, .int 0), (3, .ref o), (2, .ref (md 100)), (1, .ref (ad 0)), (0, .ref b)]) hx hb d_law_1313 hl (by decide) rfl (fun ls hl => ?_)
  refine lv_aload_n hx hb d_law_1315 rfl (lv_at hl 3 rfl) ?_
  refine lv_aload_n hx hb d_law_1316 rfl (lv_at hl 5 rfl) ?_
  refine lv_iload hx hb d_law_1317 (lv_at hl 1 rfl) ?_
  refine lv_iconst (v := 1) hx hb d_law_1319 (by decide) ?_
  refine lv_iadd hx hb d_law_1320 ?_
  refine w_i (y := 1) (by decide) ?_
  refine va_sld hx hb hX hbl hbA hS (i := 1) (vp_in_nI (n := 1) (N := 7) (by decide) (by decide)) d_law_1321 ?_
  refine w_i (y := xs 1) rfl ?_
  refine lv_aload_n hx hb d_law_1322 rfl (lv_at hl 5 rfl) ?_
  refine lv_iload hx hb d_law_1323 (lv_at hl 1 rfl) ?_
  refine lv_iconst (v := 2) hx hb d_law_1325 (by decide) ?_
  refine lv_iadd hx hb d_law_1326 ?_
  refine w_i (y := 2) (by decide) ?_
  refine va_sld hx hb hX hbl hbA hS (i := 2) (vp_in_nI (n := 2) (N := 7) (by decide) (by decide)) d_law_1327 ?_
  refine w_i (y := xs 2) rfl ?_
  have hPc := hP.sub (ws' := [(md 100, .inr (12, [.int 0, .ref (md 1), .ref (md 2), .ref (md 3), .int 0, .int 0, .int 0, .int 0, .ref (md 8), .ref (md 9), .ref (md 10), .ref (md 11), .ref (md 12), .ref (md 13), .ref (md 14), .ref (md 15), .ref (md 16), .ref (md 17), .ref (md 18), .ref (md 19), .ref (md 20), .ref (md 21), .ref (md 22), .int 0, .ref (md 24), .int 0, .ref (md 26), .int 0, .ref (md 28), .ref (md 29), .ref (md 30), .ref (md 31), .ref (md 32), .ref (md 33), .int 0, .int 0, .ref (md 36), .ref (md 37), .ref (md 38), .ref (md 39), .ref (md 40), .int 0, .int (-1), .int 0, .ref (md 44), .ref (md 45), .ref (md 46), .int 0, .ref (md 48), .ref (md 49), .int 0, .ref (md 51), .int 0, .ref (md 53), .ref (md 54), .ref (md 55), .ref (md 56), .ref (md 57), .ref (md 58), .ref (md 59), .ref (md 60), .ref (md 61), .ref (md 62), .ref (md 63), .int 0, .int 0, .int 0, .int 0, .int 0, .int 0, .ref (md 70), .int 0, .ref (md 72), .int 0, .int 400000, .int 0, .int 0]))]) [1] rfl
  have hDc := hD.sub (ws' := [(md 100, .inr (12, [.int 0, .ref (md 1), .ref (md 2), .ref (md 3), .int 0, .int 0, .int 0, .int 0, .ref (md 8), .ref (md 9), .ref (md 10), .ref (md 11), .ref (md 12), .ref (md 13), .ref (md 14), .ref (md 15), .ref (md 16), .ref (md 17), .ref (md 18), .ref (md 19), .ref (md 20), .ref (md 21), .ref (md 22), .int 0, .ref (md 24), .int 0, .ref (md 26), .int 0, .ref (md 28), .ref (md 29), .ref (md 30), .ref (md 31), .ref (md 32), .ref (md 33), .int 0, .int 0, .ref (md 36), .ref (md 37), .ref (md 38), .ref (md 39), .ref (md 40), .int 0, .int (-1), .int 0, .ref (md 44), .ref (md 45), .ref (md 46), .int 0, .ref (md 48), .ref (md 49), .int 0, .ref (md 51), .int 0, .ref (md 53), .ref (md 54), .ref (md 55), .ref (md 56), .ref (md 57), .ref (md 58), .ref (md 59), .ref (md 60), .ref (md 61), .ref (md 62), .ref (md 63), .int 0, .int 0, .int 0, .int 0, .int 0, .int 0, .ref (md 70), .int 0, .ref (md 72), .int 0, .int 400000, .int 0, .int 0]))]) [1] (by decide) rfl
  have hKc := hK.sub (tys' := []) [] rfl
  have hFc := va_free (wc := [(md 100, .inr (12, [.int 0, .ref (md 1), .ref (md 2), .ref (md 3), .int 0, .int 0, .int 0, .int 0, .ref (md 8), .ref (md 9), .ref (md 10), .ref (md 11), .ref (md 12), .ref (md 13), .ref (md 14), .ref (md 15), .ref (md 16), .ref (md 17), .ref (md 18), .ref (md 19), .ref (md 20), .ref (md 21), .ref (md 22), .int 0, .ref (md 24), .int 0, .ref (md 26), .int 0, .ref (md 28), .ref (md 29), .ref (md 30), .ref (md 31), .ref (md 32), .ref (md 33), .int 0, .int 0, .ref (md 36), .ref (md 37), .ref (md 38), .ref (md 39), .ref (md 40), .int 0, .int (-1), .int 0, .ref (md 44), .ref (md 45), .ref (md 46), .int 0, .ref (md 48), .ref (md 49), .int 0, .ref (md 51), .int 0, .ref (md 53), .ref (md 54), .ref (md 55), .ref (md 56), .ref (md 57), .ref (md 58), .ref (md 59), .ref (md 60), .ref (md 61), .ref (md 62), .ref (md 63), .int 0, .int 0, .int 0, .int 0, .int 0, .int 0, .ref (md 70), .int 0, .ref (md 72), .int 0, .int 400000, .int 0, .int 0]))]) hD hS hA [1] rfl
  refine va_calli (va_runV (As := [.int (xs 1), .int (xs 2)]) (rest := []) ⟨hx, hb, hml, hown, hts⟩ (g_p_join l D H.size md mc (xs 1) (xs 2)) (cw_v 2 hts kw_1847 kw_1844 kw_1845 kw_1846 kw_11 rfl rfl (by decide +kernel) ⟨Nat.le_of_ble_eq_true rfl, Nat.le_of_ble_eq_true rfl⟩) ⟨g_blind, va_recv hKc hPc (ci := 12) (q0 := 0) rfl rfl, fun U hU hW => g_pre hU hW hPc hKc hDc⟩ rfl rfl hl.1 rfl (lv_room (Nat.le_of_ble_eq_true rfl)) d_law_1328 ⟨Nat.le_of_ble_eq_true rfl, Nat.le_of_ble_eq_true rfl⟩) hS (fun q _ h => hFc q h) hFc (fun r_1 u_2 t H1 locs ht hvm hw hB hz1 hk1 hS => ?_)
  obtain ⟨hP1, hK1, hD1⟩ := hB
  rw [ht] at hP1
  have hK1 := va_K.moved hvm.symm hK1
  obtain ⟨hP, hD⟩ := va_join (wr := [(o, .inl (ac 7, 1, .inr (.inl u))), (md 39, .inl (mc 0, 8, .inl (fun _ => -1))), (md 1, .inl (mc 1, 8300, .inl (fun _ => 0))), (md 40, .inl (mc 1, 800000, .inl (fun _ => 0))), (md 72, .inl (mc 0, 12010, .inl (fun _ => 0)))]) (w1 := [(md 100, .inr (12, .int (k_joi (xs 1) (xs 2)) :: u_2))]) hP hD [1] [0, 2, 3, 4, 5] rfl rfl (by decide) (by decide) hk1 hFc hP1 hD1
  generalize H1 = H at hP hS ⊢
  have hP : va_P D cls [(o, .inl (ac 7, 1, .inr (.inl u))), (md 39, .inl (mc 0, 8, .inl (fun _ => -1))), (md 1, .inl (mc 1, 8300, .inl (fun _ => 0))), (md 40, .inl (mc 1, 800000, .inl (fun _ => 0))), (md 72, .inl (mc 0, 12010, .inl (fun _ => 0))), (md 100, .inr (12, .int (k_joi (xs 1) (xs 2)) :: u_2))] H := hP
  have hD : va_D A [(o, .inl (ac 7, 1, .inr (.inl u))), (md 39, .inl (mc 0, 8, .inl (fun _ => -1))), (md 1, .inl (mc 1, 8300, .inl (fun _ => 0))), (md 40, .inl (mc 1, 800000, .inl (fun _ => 0))), (md 72, .inl (mc 0, 12010, .inl (fun _ => 0))), (md 100, .inr (12, .int (k_joi (xs 1) (xs 2)) :: u_2))] := hD
  refine W.cs (cells' := 637) (slots' := 1394880) rfl rfl ?_
  have hwm := hw
  refine lv_istore (lv' := [(6, .int r_1), (5, .int (k_joi (xs 1) (xs 2))), (4, .int 0), (3, .ref o), (2, .ref (md 100)), (1, .ref (ad 0)), (0, .ref b)]) hx hb d_law_1331 hl (by decide) rfl (fun ls hl => ?_)
  refine lv_aload_n hx hb d_law_1333 rfl (lv_at hl 4 rfl) ?_
  have hPc := hP.sub (ws' := [(md 100, .inr (12, .int (k_joi (xs 1) (xs 2)) :: u_2))]) [5] rfl
  have hDc := hD.sub (ws' := [(md 100, .inr (12, .int (k_joi (xs 1) (xs 2)) :: u_2))]) [5] (by decide) rfl
  have hKc := hK.sub (tys' := []) [] rfl
  have hFc := va_free (wc := [(md 100, .inr (12, .int (k_joi (xs 1) (xs 2)) :: u_2))]) hD hS hA [5] rfl
  refine va_calli (va_runV (As := []) (rest := []) ⟨hx, hb, hml, hown, hts⟩ (g_thr l D H.size md mc (k_joi (xs 1) (xs 2)) u_2) (cw_v 0 hts kw_1618 kw_1615 kw_1616 kw_1617 kw_11 rfl rfl (by decide +kernel) ⟨Nat.le_of_ble_eq_true rfl, Nat.le_of_ble_eq_true rfl⟩) ⟨g_blind, va_recv hKc hPc (ci := 12) (q0 := 0) rfl rfl, fun U hU hW => g_pre hU hW hPc hKc hDc⟩ rfl rfl hl.1 rfl (lv_room (Nat.le_of_ble_eq_true rfl)) d_law_1334 ⟨Nat.le_of_ble_eq_true rfl, Nat.le_of_ble_eq_true rfl⟩) hS (fun q _ h => hFc q h) hFc (fun r_3 u_4 t H1 locs ht hvm hw hB hz1 hk1 hS => ?_)
  obtain ⟨⟩ := u_4
  obtain ⟨hP1, hK1, hD1⟩ := hB
  rw [ht] at hP1
  have hK1 := va_K.moved hvm.symm hK1
  obtain ⟨hP, hD⟩ := va_join (wr := [(o, .inl (ac 7, 1, .inr (.inl u))), (md 39, .inl (mc 0, 8, .inl (fun _ => -1))), (md 1, .inl (mc 1, 8300, .inl (fun _ => 0))), (md 40, .inl (mc 1, 800000, .inl (fun _ => 0))), (md 72, .inl (mc 0, 12010, .inl (fun _ => 0)))]) (w1 := [(md 100, .inr (12, .int (k_joi (xs 1) (xs 2)) :: u_2))]) hP hD [5] [0, 1, 2, 3, 4] rfl rfl (by decide) (by decide) hk1 hFc hP1 hD1
  generalize H1 = H at hP hS ⊢
  have hP : va_P D cls [(o, .inl (ac 7, 1, .inr (.inl u))), (md 39, .inl (mc 0, 8, .inl (fun _ => -1))), (md 1, .inl (mc 1, 8300, .inl (fun _ => 0))), (md 40, .inl (mc 1, 800000, .inl (fun _ => 0))), (md 72, .inl (mc 0, 12010, .inl (fun _ => 0))), (md 100, .inr (12, .int (k_joi (xs 1) (xs 2)) :: u_2))] H := hP
  have hD : va_D A [(o, .inl (ac 7, 1, .inr (.inl u))), (md 39, .inl (mc 0, 8, .inl (fun _ => -1))), (md 1, .inl (mc 1, 8300, .inl (fun _ => 0))), (md 40, .inl (mc 1, 800000, .inl (fun _ => 0))), (md 72, .inl (mc 0, 12010, .inl (fun _ => 0))), (md 100, .inr (12, .int (k_joi (xs 1) (xs 2)) :: u_2))] := hD
  refine W.cs (cells' := 637) (slots' := 1394880) rfl rfl ?_
  subst hw
  refine lv_iload hx hb d_law_1337 (lv_at hl 1 rfl) ?_
  refine lv_icmp_eq (tgt := 1344) hx hb d_law_1339 (by decide) (fun _ => ?_) (fun h => absurd rfl h)
  refine lv_iload hx hb d_law_1344 (lv_at hl 1 rfl) ?_
  refine lv_if_ne (tgt := 1361) hx hb d_law_1346 (by decide) (fun c_5 => ?_) (fun c_5 => ?_)
  · refine lv_goto (tgt := 2391) hx hb d_law_1361 (by decide) ?_
    exact law_tail l hx hb hr hlocks hX hbl hbA hT hS (lv_sub hl [2, 6] rfl) (by decide) (by decide)
  · refine lv_aload_n hx hb d_law_1349 rfl (lv_at hl 3 rfl) ?_
    refine lv_iconst (v := 0) hx hb d_law_1350 (by decide) ?_
    refine va_lald hx hb hK hP 0 7 rfl rfl (i := 0) (vp_in_nI (n := 0) (N := 1) (by decide) (by decide)) d_law_1351 ?_
    refine w_l (y := 0) (hw2 c_5) ?_
    refine lv_iload hx hb d_law_1352 (lv_at hl 0 rfl) ?_
    refine lv_i2l hx hb d_law_1354 rfl ?_
    refine w_l (y := 0) (by first | (rw [hwm c_5]; done) | (rw [hwm c_5]; rfl) | (rw [hwm c_5]; decide)) ?_
    refine W.lcmp hx hb d_law_1355 ?_
    refine w_i (y := 0) (by simp [lg_cmp]) ?_
    refine lv_if_eq (tgt := 1361) hx hb d_law_1356 (by decide) (fun _ => ?_) (fun h => absurd h (by decide))
    refine lv_goto (tgt := 2391) hx hb d_law_1361 (by decide) ?_
    exact law_tail l hx hb hr hlocks hX hbl hbA hT hS (lv_sub hl [2, 6] rfl) (by decide) (by decide)
theorem d_law_1364 : decode code 1364 = .ok (.aload_n 1, 1) := by decide +kernel
theorem d_law_1365 : decode code 1365 = .ok (.aload_n 0, 1) := by decide +kernel
theorem d_law_1366 : decode code 1366 = .ok (.iload 4, 2) := by decide +kernel
theorem d_law_1368 : decode code 1368 = .ok (.iconst 1, 1) := by decide +kernel
theorem d_law_1369 : decode code 1369 = .ok (.iadd, 1) := by decide +kernel
theorem d_law_1370 : decode code 1370 = .ok (.iaload, 1) := by decide +kernel
theorem d_law_1371 : decode code 1371 = .ok (.aload_n 0, 1) := by decide +kernel
theorem d_law_1372 : decode code 1372 = .ok (.iload 4, 2) := by decide +kernel
theorem d_law_1374 : decode code 1374 = .ok (.iconst 2, 1) := by decide +kernel
theorem d_law_1375 : decode code 1375 = .ok (.iadd, 1) := by decide +kernel
theorem d_law_1376 : decode code 1376 = .ok (.iaload, 1) := by decide +kernel
theorem d_law_1377 : decode code 1377 = .ok (.aload_n 0, 1) := by decide +kernel
theorem d_law_1378 : decode code 1378 = .ok (.iload 4, 2) := by decide +kernel
theorem d_law_1380 : decode code 1380 = .ok (.iconst 3, 1) := by decide +kernel
theorem d_law_1381 : decode code 1381 = .ok (.iadd, 1) := by decide +kernel
theorem d_law_1382 : decode code 1382 = .ok (.iaload, 1) := by decide +kernel
theorem d_law_1383 : decode code 1383 = .ok (.aload_n 3, 1) := by decide +kernel
theorem d_law_1384 : decode code 1384 = .ok (.invokestatic 168, 3) := by decide +kernel
theorem d_law_1387 : decode code 1387 = .ok (.istore 5, 2) := by decide +kernel
theorem d_law_1389 : decode code 1389 = .ok (.aload_n 2, 1) := by decide +kernel
theorem d_law_1390 : decode code 1390 = .ok (.aload_n 0, 1) := by decide +kernel
theorem d_law_1391 : decode code 1391 = .ok (.iload 4, 2) := by decide +kernel
theorem d_law_1393 : decode code 1393 = .ok (.iconst 1, 1) := by decide +kernel
theorem d_law_1394 : decode code 1394 = .ok (.iadd, 1) := by decide +kernel
theorem d_law_1395 : decode code 1395 = .ok (.iaload, 1) := by decide +kernel
theorem d_law_1396 : decode code 1396 = .ok (.aload_n 0, 1) := by decide +kernel
theorem d_law_1397 : decode code 1397 = .ok (.iload 4, 2) := by decide +kernel
theorem d_law_1399 : decode code 1399 = .ok (.iconst 2, 1) := by decide +kernel
theorem d_law_1400 : decode code 1400 = .ok (.iadd, 1) := by decide +kernel
theorem d_law_1401 : decode code 1401 = .ok (.iaload, 1) := by decide +kernel
theorem d_law_1402 : decode code 1402 = .ok (.aload_n 0, 1) := by decide +kernel
theorem d_law_1403 : decode code 1403 = .ok (.iload 4, 2) := by decide +kernel
theorem d_law_1405 : decode code 1405 = .ok (.iconst 3, 1) := by decide +kernel
theorem d_law_1406 : decode code 1406 = .ok (.iadd, 1) := by decide +kernel
theorem d_law_1407 : decode code 1407 = .ok (.iaload, 1) := by decide +kernel
theorem d_law_1408 : decode code 1408 = .ok (.invokevirtual 170, 3) := by decide +kernel
theorem d_law_1411 : decode code 1411 = .ok (.istore 6, 2) := by decide +kernel
theorem d_law_1413 : decode code 1413 = .ok (.aload_n 2, 1) := by decide +kernel
theorem d_law_1414 : decode code 1414 = .ok (.invokevirtual 120, 3) := by decide +kernel
theorem d_law_1417 : decode code 1417 = .ok (.iload 5, 2) := by decide +kernel
theorem d_law_1419 : decode code 1419 = .ok (.if_icmp .eq 5, 3) := by decide +kernel
theorem d_law_1424 : decode code 1424 = .ok (.iload 5, 2) := by decide +kernel
theorem d_law_1426 : decode code 1426 = .ok (.ifCond .ne 15, 3) := by decide +kernel
theorem d_law_1441 : decode code 1441 = .ok (.goto 950, 3) := by decide +kernel
theorem d_law_1429 : decode code 1429 = .ok (.aload_n 3, 1) := by decide +kernel
theorem d_law_1430 : decode code 1430 = .ok (.iconst 0, 1) := by decide +kernel
theorem d_law_1431 : decode code 1431 = .ok (.laload, 1) := by decide +kernel
theorem d_law_1432 : decode code 1432 = .ok (.iload 6, 2) := by decide +kernel
theorem d_law_1434 : decode code 1434 = .ok (.i2l, 1) := by decide +kernel
theorem d_law_1435 : decode code 1435 = .ok (.lcmp, 1) := by decide +kernel
theorem d_law_1436 : decode code 1436 = .ok (.ifCond .eq 5, 3) := by decide +kernel
set_option maxHeartbeats 4000000 in
set_option maxRecDepth 100000 in
theorem law_c13 {p : Program} {e : Env} {s : State} {m : MethodId} {below : List Frame} {meth : Method} {c : Code} (l : Launch) (hfl : l.flags = flags0) {b : Nat} {xs : Nat → Int32} {D : va_G} {ad : Nat → Nat} {ac : Nat → ClassId} {md : Nat → Nat} {mc : Nat → ClassId} {o : Nat} {H : Heap} {locs : List Loc} {ls : Array Slot} (h : LwS p s m meth c b 7 xs D ad ac md mc o H locs ls) : W p l e room_1 s m #[Value.ref b] below meth c H locs 636 1394874 (lw_Z below #[Value.ref b] s) (F0 m 1364 ls []) := by
  obtain ⟨hx, hb, hr, hml, hown, hts, hX, hbl, hlocks, hev, hP, hK, hD, hS, hl⟩ := h
  have hNS : tx_NS (lA s) s := fun q cell hq hc => absurd (Array.getElem?_eq_some_iff.mp hc).1 (Nat.not_lt.mpr hq)
  have hA : ∀ q : Nat, s.heap.size ≤ q → lA s q := fun _ h => h
  have hT : ∀ q : Nat, lA s q → s.heap.size ≤ q := fun _ h => h
  have hbA : ¬ lA s b := Nat.not_le.mpr hbl
  generalize lA s = A at hev hD hS hNS hA hT hbA
  refine lv_aload_n hx hb d_law_1364 rfl (lv_at hl 3 rfl) ?_
  refine lv_aload_n hx hb d_law_1365 rfl (lv_at hl 4 rfl) ?_
  refine lv_iload hx hb d_law_1366 (lv_at hl 0 rfl) ?_
  refine lv_iconst (v := 1) hx hb d_law_1368 (by decide) ?_
  refine lv_iadd hx hb d_law_1369 ?_
  refine w_i (y := 1) (by decide) ?_
  refine va_sld hx hb hX hbl hbA hS (i := 1) (vp_in_nI (n := 1) (N := 7) (by decide) (by decide)) d_law_1370 ?_
  refine w_i (y := xs 1) rfl ?_
  refine lv_aload_n hx hb d_law_1371 rfl (lv_at hl 4 rfl) ?_
  refine lv_iload hx hb d_law_1372 (lv_at hl 0 rfl) ?_
  refine lv_iconst (v := 2) hx hb d_law_1374 (by decide) ?_
  refine lv_iadd hx hb d_law_1375 ?_
  refine w_i (y := 2) (by decide) ?_
  refine va_sld hx hb hX hbl hbA hS (i := 2) (vp_in_nI (n := 2) (N := 7) (by decide) (by decide)) d_law_1376 ?_
  refine w_i (y := xs 2) rfl ?_
  refine lv_aload_n hx hb d_law_1377 rfl (lv_at hl 4 rfl) ?_
  refine lv_iload hx hb d_law_1378 (lv_at hl 0 rfl) ?_
  refine lv_iconst (v := 3) hx hb d_law_1380 (by decide) ?_
  refine lv_iadd hx hb d_law_1381 ?_
  refine w_i (y := 3) (by decide) ?_
  refine va_sld hx hb hX hbl hbA hS (i := 3) (vp_in_nI (n := 3) (N := 7) (by decide) (by decide)) d_law_1382 ?_
  refine w_i (y := xs 3) rfl ?_
  refine lv_aload_n hx hb d_law_1383 rfl (lv_at hl 1 rfl) ?_
  have hPh := p_l hP
  have hDh := d_l hD
  have hKh := hK.sub (tys' := fxT ac) [0, 1, 2, 3, 4, 5, 6, 7] rfl
  have hFc := fr_all hDh hS hA
  refine va_calli (tx_runSW (As := [.ref (ad 0), .int (xs 1), .int (xs 2), .int (xs 3), .ref o]) (rest := []) ⟨hx, hb, hml, hown, hts⟩ (h_look l hfl D ad ac (fun _ => 0) o (fun _ => 0) H.size (xs 1) (xs 2) (xs 3)) (cw_w 5 hts kw_1113 kw_1111 kw_1112 kw_0 rfl rfl (by decide +kernel) ⟨Nat.le_of_ble_eq_true rfl, Nat.le_of_ble_eq_true rfl⟩) ⟨h_blind, fun U hU hW => h_pre hU hW hPh hKh hDh hev hNS hS hFc⟩ rfl rfl hl.1 rfl (lv_room (Nat.le_of_ble_eq_true rfl)) d_law_1384 ⟨Nat.le_of_ble_eq_true rfl, Nat.le_of_ble_eq_true rfl⟩) hS (fun q _ h => hFc q h) hFc (fun rz u t H1 locs ht hvm hw hB hz1 hk1 hS => ?_)
  obtain ⟨hP1, -, -⟩ := hB
  rw [ht] at hP1
  obtain ⟨hw1, hw2⟩ := hw
  subst hw1
  have hP := hP1.app (p_keep hP hD hk1)
  have hD := d_oc hD (e' := .inl (ac 7, 1, .inr (.inl u)))
  generalize H1 = H at hP hS ⊢
  have hP : va_P D cls [(o, .inl (ac 7, 1, .inr (.inl u))), (md 100, .inr (12, [.int 0, .ref (md 1), .ref (md 2), .ref (md 3), .int 0, .int 0, .int 0, .int 0, .ref (md 8), .ref (md 9), .ref (md 10), .ref (md 11), .ref (md 12), .ref (md 13), .ref (md 14), .ref (md 15), .ref (md 16), .ref (md 17), .ref (md 18), .ref (md 19), .ref (md 20), .ref (md 21), .ref (md 22), .int 0, .ref (md 24), .int 0, .ref (md 26), .int 0, .ref (md 28), .ref (md 29), .ref (md 30), .ref (md 31), .ref (md 32), .ref (md 33), .int 0, .int 0, .ref (md 36), .ref (md 37), .ref (md 38), .ref (md 39), .ref (md 40), .int 0, .int (-1), .int 0, .ref (md 44), .ref (md 45), .ref (md 46), .int 0, .ref (md 48), .ref (md 49), .int 0, .ref (md 51), .int 0, .ref (md 53), .ref (md 54), .ref (md 55), .ref (md 56), .ref (md 57), .ref (md 58), .ref (md 59), .ref (md 60), .ref (md 61), .ref (md 62), .ref (md 63), .int 0, .int 0, .int 0, .int 0, .int 0, .int 0, .ref (md 70), .int 0, .ref (md 72), .int 0, .int 400000, .int 0, .int 0])), (md 39, .inl (mc 0, 8, .inl (fun _ => -1))), (md 1, .inl (mc 1, 8300, .inl (fun _ => 0))), (md 40, .inl (mc 1, 800000, .inl (fun _ => 0))), (md 72, .inl (mc 0, 12010, .inl (fun _ => 0)))] H := hP
  have hD : va_D A [(o, .inl (ac 7, 1, .inr (.inl u))), (md 100, .inr (12, [.int 0, .ref (md 1), .ref (md 2), .ref (md 3), .int 0, .int 0, .int 0, .int 0, .ref (md 8), .ref (md 9), .ref (md 10), .ref (md 11), .ref (md 12), .ref (md 13), .ref (md 14), .ref (md 15), .ref (md 16), .ref (md 17), .ref (md 18), .ref (md 19), .ref (md 20), .ref (md 21), .ref (md 22), .int 0, .ref (md 24), .int 0, .ref (md 26), .int 0, .ref (md 28), .ref (md 29), .ref (md 30), .ref (md 31), .ref (md 32), .ref (md 33), .int 0, .int 0, .ref (md 36), .ref (md 37), .ref (md 38), .ref (md 39), .ref (md 40), .int 0, .int (-1), .int 0, .ref (md 44), .ref (md 45), .ref (md 46), .int 0, .ref (md 48), .ref (md 49), .int 0, .ref (md 51), .int 0, .ref (md 53), .ref (md 54), .ref (md 55), .ref (md 56), .ref (md 57), .ref (md 58), .ref (md 59), .ref (md 60), .ref (md 61), .ref (md 62), .ref (md 63), .int 0, .int 0, .int 0, .int 0, .int 0, .int 0, .ref (md 70), .int 0, .ref (md 72), .int 0, .int 400000, .int 0, .int 0])), (md 39, .inl (mc 0, 8, .inl (fun _ => -1))), (md 1, .inl (mc 1, 8300, .inl (fun _ => 0))), (md 40, .inl (mc 1, 800000, .inl (fun _ => 0))), (md 72, .inl (mc 0, 12010, .inl (fun _ => 0)))] := hD
  refine W.cs (cells' := 637) (slots' := 1394880) rfl rfl ?_
  refine lv_istore (lv' := [(5, .int (k_loo (xs 1) (xs 2))), (4, .int 0), (3, .ref o), (2, .ref (md 100)), (1, .ref (ad 0)), (0, .ref b)]) hx hb d_law_1387 hl (by decide) rfl (fun ls hl => ?_)
  refine lv_aload_n hx hb d_law_1389 rfl (lv_at hl 3 rfl) ?_
  refine lv_aload_n hx hb d_law_1390 rfl (lv_at hl 5 rfl) ?_
  refine lv_iload hx hb d_law_1391 (lv_at hl 1 rfl) ?_
  refine lv_iconst (v := 1) hx hb d_law_1393 (by decide) ?_
  refine lv_iadd hx hb d_law_1394 ?_
  refine w_i (y := 1) (by decide) ?_
  refine va_sld hx hb hX hbl hbA hS (i := 1) (vp_in_nI (n := 1) (N := 7) (by decide) (by decide)) d_law_1395 ?_
  refine w_i (y := xs 1) rfl ?_
  refine lv_aload_n hx hb d_law_1396 rfl (lv_at hl 5 rfl) ?_
  refine lv_iload hx hb d_law_1397 (lv_at hl 1 rfl) ?_
  refine lv_iconst (v := 2) hx hb d_law_1399 (by decide) ?_
  refine lv_iadd hx hb d_law_1400 ?_
  refine w_i (y := 2) (by decide) ?_
  refine va_sld hx hb hX hbl hbA hS (i := 2) (vp_in_nI (n := 2) (N := 7) (by decide) (by decide)) d_law_1401 ?_
  refine w_i (y := xs 2) rfl ?_
  refine lv_aload_n hx hb d_law_1402 rfl (lv_at hl 5 rfl) ?_
  refine lv_iload hx hb d_law_1403 (lv_at hl 1 rfl) ?_
  refine lv_iconst (v := 3) hx hb d_law_1405 (by decide) ?_
  refine lv_iadd hx hb d_law_1406 ?_
  refine w_i (y := 3) (by decide) ?_
  refine va_sld hx hb hX hbl hbA hS (i := 3) (vp_in_nI (n := 3) (N := 7) (by decide) (by decide)) d_law_1407 ?_
  refine w_i (y := xs 3) rfl ?_
  have hPc := hP.sub (ws' := [(md 100, .inr (12, [.int 0, .ref (md 1), .ref (md 2), .ref (md 3), .int 0, .int 0, .int 0, .int 0, .ref (md 8), .ref (md 9), .ref (md 10), .ref (md 11), .ref (md 12), .ref (md 13), .ref (md 14), .ref (md 15), .ref (md 16), .ref (md 17), .ref (md 18), .ref (md 19), .ref (md 20), .ref (md 21), .ref (md 22), .int 0, .ref (md 24), .int 0, .ref (md 26), .int 0, .ref (md 28), .ref (md 29), .ref (md 30), .ref (md 31), .ref (md 32), .ref (md 33), .int 0, .int 0, .ref (md 36), .ref (md 37), .ref (md 38), .ref (md 39), .ref (md 40), .int 0, .int (-1), .int 0, .ref (md 44), .ref (md 45), .ref (md 46), .int 0, .ref (md 48), .ref (md 49), .int 0, .ref (md 51), .int 0, .ref (md 53), .ref (md 54), .ref (md 55), .ref (md 56), .ref (md 57), .ref (md 58), .ref (md 59), .ref (md 60), .ref (md 61), .ref (md 62), .ref (md 63), .int 0, .int 0, .int 0, .int 0, .int 0, .int 0, .ref (md 70), .int 0, .ref (md 72), .int 0, .int 400000, .int 0, .int 0])), (md 39, .inl (mc 0, 8, .inl (fun _ => -1)))]) [1, 2] rfl
  have hDc := hD.sub (ws' := [(md 100, .inr (12, [.int 0, .ref (md 1), .ref (md 2), .ref (md 3), .int 0, .int 0, .int 0, .int 0, .ref (md 8), .ref (md 9), .ref (md 10), .ref (md 11), .ref (md 12), .ref (md 13), .ref (md 14), .ref (md 15), .ref (md 16), .ref (md 17), .ref (md 18), .ref (md 19), .ref (md 20), .ref (md 21), .ref (md 22), .int 0, .ref (md 24), .int 0, .ref (md 26), .int 0, .ref (md 28), .ref (md 29), .ref (md 30), .ref (md 31), .ref (md 32), .ref (md 33), .int 0, .int 0, .ref (md 36), .ref (md 37), .ref (md 38), .ref (md 39), .ref (md 40), .int 0, .int (-1), .int 0, .ref (md 44), .ref (md 45), .ref (md 46), .int 0, .ref (md 48), .ref (md 49), .int 0, .ref (md 51), .int 0, .ref (md 53), .ref (md 54), .ref (md 55), .ref (md 56), .ref (md 57), .ref (md 58), .ref (md 59), .ref (md 60), .ref (md 61), .ref (md 62), .ref (md 63), .int 0, .int 0, .int 0, .int 0, .int 0, .int 0, .ref (md 70), .int 0, .ref (md 72), .int 0, .int 400000, .int 0, .int 0])), (md 39, .inl (mc 0, 8, .inl (fun _ => -1)))]) [1, 2] (by decide) rfl
  have hKc := hK.sub (tys' := [(mc 0, .int)]) [8] rfl
  have hFc := va_free (wc := [(md 100, .inr (12, [.int 0, .ref (md 1), .ref (md 2), .ref (md 3), .int 0, .int 0, .int 0, .int 0, .ref (md 8), .ref (md 9), .ref (md 10), .ref (md 11), .ref (md 12), .ref (md 13), .ref (md 14), .ref (md 15), .ref (md 16), .ref (md 17), .ref (md 18), .ref (md 19), .ref (md 20), .ref (md 21), .ref (md 22), .int 0, .ref (md 24), .int 0, .ref (md 26), .int 0, .ref (md 28), .ref (md 29), .ref (md 30), .ref (md 31), .ref (md 32), .ref (md 33), .int 0, .int 0, .ref (md 36), .ref (md 37), .ref (md 38), .ref (md 39), .ref (md 40), .int 0, .int (-1), .int 0, .ref (md 44), .ref (md 45), .ref (md 46), .int 0, .ref (md 48), .ref (md 49), .int 0, .ref (md 51), .int 0, .ref (md 53), .ref (md 54), .ref (md 55), .ref (md 56), .ref (md 57), .ref (md 58), .ref (md 59), .ref (md 60), .ref (md 61), .ref (md 62), .ref (md 63), .int 0, .int 0, .int 0, .int 0, .int 0, .int 0, .ref (md 70), .int 0, .ref (md 72), .int 0, .int 400000, .int 0, .int 0])), (md 39, .inl (mc 0, 8, .inl (fun _ => -1)))]) hD hS hA [1, 2] rfl
  refine va_calli (va_runV (As := [.int (xs 1), .int (xs 2), .int (xs 3)]) (rest := []) ⟨hx, hb, hml, hown, hts⟩ (g_p_look l D H.size md mc (xs 1) (xs 2) (xs 3)) (cw_v 3 hts kw_1851 kw_1848 kw_1849 kw_1850 kw_11 rfl rfl (by decide +kernel) ⟨Nat.le_of_ble_eq_true rfl, Nat.le_of_ble_eq_true rfl⟩) ⟨g_blind, va_recv hKc hPc (ci := 12) (q0 := 0) rfl rfl, fun U hU hW => g_pre hU hW hPc hKc hDc⟩ rfl rfl hl.1 rfl (lv_room (Nat.le_of_ble_eq_true rfl)) d_law_1408 ⟨Nat.le_of_ble_eq_true rfl, Nat.le_of_ble_eq_true rfl⟩) hS (fun q _ h => hFc q h) hFc (fun r_1 u_2 t H1 locs ht hvm hw hB hz1 hk1 hS => ?_)
  obtain ⟨hP1, hK1, hD1⟩ := hB
  rw [ht] at hP1
  have hK1 := va_K.moved hvm.symm hK1
  obtain ⟨hP, hD⟩ := va_join (wr := [(o, .inl (ac 7, 1, .inr (.inl u))), (md 1, .inl (mc 1, 8300, .inl (fun _ => 0))), (md 40, .inl (mc 1, 800000, .inl (fun _ => 0))), (md 72, .inl (mc 0, 12010, .inl (fun _ => 0)))]) (w1 := [(md 100, .inr (12, .int (k_loo (xs 1) (xs 2)) :: u_2))]) hP hD [1, 2] [0, 3, 4, 5] rfl rfl (by decide) (by decide) hk1 hFc hP1 hD1
  generalize H1 = H at hP hS ⊢
  have hP : va_P D cls [(o, .inl (ac 7, 1, .inr (.inl u))), (md 1, .inl (mc 1, 8300, .inl (fun _ => 0))), (md 40, .inl (mc 1, 800000, .inl (fun _ => 0))), (md 72, .inl (mc 0, 12010, .inl (fun _ => 0))), (md 100, .inr (12, .int (k_loo (xs 1) (xs 2)) :: u_2))] H := hP
  have hD : va_D A [(o, .inl (ac 7, 1, .inr (.inl u))), (md 1, .inl (mc 1, 8300, .inl (fun _ => 0))), (md 40, .inl (mc 1, 800000, .inl (fun _ => 0))), (md 72, .inl (mc 0, 12010, .inl (fun _ => 0))), (md 100, .inr (12, .int (k_loo (xs 1) (xs 2)) :: u_2))] := hD
  refine W.cs (cells' := 637) (slots' := 1394880) rfl rfl ?_
  have hwm := hw
  refine lv_istore (lv' := [(6, .int r_1), (5, .int (k_loo (xs 1) (xs 2))), (4, .int 0), (3, .ref o), (2, .ref (md 100)), (1, .ref (ad 0)), (0, .ref b)]) hx hb d_law_1411 hl (by decide) rfl (fun ls hl => ?_)
  refine lv_aload_n hx hb d_law_1413 rfl (lv_at hl 4 rfl) ?_
  have hPc := hP.sub (ws' := [(md 100, .inr (12, .int (k_loo (xs 1) (xs 2)) :: u_2))]) [4] rfl
  have hDc := hD.sub (ws' := [(md 100, .inr (12, .int (k_loo (xs 1) (xs 2)) :: u_2))]) [4] (by decide) rfl
  have hKc := hK.sub (tys' := []) [] rfl
  have hFc := va_free (wc := [(md 100, .inr (12, .int (k_loo (xs 1) (xs 2)) :: u_2))]) hD hS hA [4] rfl
  refine va_calli (va_runV (As := []) (rest := []) ⟨hx, hb, hml, hown, hts⟩ (g_thr l D H.size md mc (k_loo (xs 1) (xs 2)) u_2) (cw_v 0 hts kw_1618 kw_1615 kw_1616 kw_1617 kw_11 rfl rfl (by decide +kernel) ⟨Nat.le_of_ble_eq_true rfl, Nat.le_of_ble_eq_true rfl⟩) ⟨g_blind, va_recv hKc hPc (ci := 12) (q0 := 0) rfl rfl, fun U hU hW => g_pre hU hW hPc hKc hDc⟩ rfl rfl hl.1 rfl (lv_room (Nat.le_of_ble_eq_true rfl)) d_law_1414 ⟨Nat.le_of_ble_eq_true rfl, Nat.le_of_ble_eq_true rfl⟩) hS (fun q _ h => hFc q h) hFc (fun r_3 u_4 t H1 locs ht hvm hw hB hz1 hk1 hS => ?_)
  obtain ⟨⟩ := u_4
  obtain ⟨hP1, hK1, hD1⟩ := hB
  rw [ht] at hP1
  have hK1 := va_K.moved hvm.symm hK1
  obtain ⟨hP, hD⟩ := va_join (wr := [(o, .inl (ac 7, 1, .inr (.inl u))), (md 1, .inl (mc 1, 8300, .inl (fun _ => 0))), (md 40, .inl (mc 1, 800000, .inl (fun _ => 0))), (md 72, .inl (mc 0, 12010, .inl (fun _ => 0)))]) (w1 := [(md 100, .inr (12, .int (k_loo (xs 1) (xs 2)) :: u_2))]) hP hD [4] [0, 1, 2, 3] rfl rfl (by decide) (by decide) hk1 hFc hP1 hD1
  generalize H1 = H at hP hS ⊢
  have hP : va_P D cls [(o, .inl (ac 7, 1, .inr (.inl u))), (md 1, .inl (mc 1, 8300, .inl (fun _ => 0))), (md 40, .inl (mc 1, 800000, .inl (fun _ => 0))), (md 72, .inl (mc 0, 12010, .inl (fun _ => 0))), (md 100, .inr (12, .int (k_loo (xs 1) (xs 2)) :: u_2))] H := hP
  have hD : va_D A [(o, .inl (ac 7, 1, .inr (.inl u))), (md 1, .inl (mc 1, 8300, .inl (fun _ => 0))), (md 40, .inl (mc 1, 800000, .inl (fun _ => 0))), (md 72, .inl (mc 0, 12010, .inl (fun _ => 0))), (md 100, .inr (12, .int (k_loo (xs 1) (xs 2)) :: u_2))] := hD
  refine W.cs (cells' := 637) (slots' := 1394880) rfl rfl ?_
  subst hw
  refine lv_iload hx hb d_law_1417 (lv_at hl 1 rfl) ?_
  refine lv_icmp_eq (tgt := 1424) hx hb d_law_1419 (by decide) (fun _ => ?_) (fun h => absurd rfl h)
  refine lv_iload hx hb d_law_1424 (lv_at hl 1 rfl) ?_
  refine lv_if_ne (tgt := 1441) hx hb d_law_1426 (by decide) (fun c_5 => ?_) (fun c_5 => ?_)
  · refine lv_goto (tgt := 2391) hx hb d_law_1441 (by decide) ?_
    exact law_tail l hx hb hr hlocks hX hbl hbA hT hS (lv_sub hl [2, 6] rfl) (by decide) (by decide)
  · refine lv_aload_n hx hb d_law_1429 rfl (lv_at hl 3 rfl) ?_
    refine lv_iconst (v := 0) hx hb d_law_1430 (by decide) ?_
    refine va_lald hx hb hK hP 0 7 rfl rfl (i := 0) (vp_in_nI (n := 0) (N := 1) (by decide) (by decide)) d_law_1431 ?_
    refine w_l (y := 0) (hw2 c_5) ?_
    refine lv_iload hx hb d_law_1432 (lv_at hl 0 rfl) ?_
    refine lv_i2l hx hb d_law_1434 rfl ?_
    refine w_l (y := 0) (by first | (rw [hwm c_5]; done) | (rw [hwm c_5]; rfl) | (rw [hwm c_5]; decide)) ?_
    refine W.lcmp hx hb d_law_1435 ?_
    refine w_i (y := 0) (by simp [lg_cmp]) ?_
    refine lv_if_eq (tgt := 1441) hx hb d_law_1436 (by decide) (fun _ => ?_) (fun h => absurd h (by decide))
    refine lv_goto (tgt := 2391) hx hb d_law_1441 (by decide) ?_
    exact law_tail l hx hb hr hlocks hX hbl hbA hT hS (lv_sub hl [2, 6] rfl) (by decide) (by decide)
theorem d_law_1444 : decode code 1444 = .ok (.aload_n 1, 1) := by decide +kernel
theorem d_law_1445 : decode code 1445 = .ok (.aload_n 0, 1) := by decide +kernel
theorem d_law_1446 : decode code 1446 = .ok (.iload 4, 2) := by decide +kernel
theorem d_law_1448 : decode code 1448 = .ok (.iconst 1, 1) := by decide +kernel
theorem d_law_1449 : decode code 1449 = .ok (.iadd, 1) := by decide +kernel
theorem d_law_1450 : decode code 1450 = .ok (.iaload, 1) := by decide +kernel
theorem d_law_1451 : decode code 1451 = .ok (.aload_n 0, 1) := by decide +kernel
theorem d_law_1452 : decode code 1452 = .ok (.iload 4, 2) := by decide +kernel
theorem d_law_1454 : decode code 1454 = .ok (.iconst 2, 1) := by decide +kernel
theorem d_law_1455 : decode code 1455 = .ok (.iadd, 1) := by decide +kernel
theorem d_law_1456 : decode code 1456 = .ok (.iaload, 1) := by decide +kernel
theorem d_law_1457 : decode code 1457 = .ok (.aload_n 0, 1) := by decide +kernel
theorem d_law_1458 : decode code 1458 = .ok (.iload 4, 2) := by decide +kernel
theorem d_law_1460 : decode code 1460 = .ok (.iconst 3, 1) := by decide +kernel
theorem d_law_1461 : decode code 1461 = .ok (.iadd, 1) := by decide +kernel
theorem d_law_1462 : decode code 1462 = .ok (.iaload, 1) := by decide +kernel
theorem d_law_1463 : decode code 1463 = .ok (.aload_n 3, 1) := by decide +kernel
theorem d_law_1464 : decode code 1464 = .ok (.invokestatic 171, 3) := by decide +kernel
theorem d_law_1467 : decode code 1467 = .ok (.istore 5, 2) := by decide +kernel
theorem d_law_1469 : decode code 1469 = .ok (.aload_n 2, 1) := by decide +kernel
theorem d_law_1470 : decode code 1470 = .ok (.aload_n 0, 1) := by decide +kernel
theorem d_law_1471 : decode code 1471 = .ok (.iload 4, 2) := by decide +kernel
theorem d_law_1473 : decode code 1473 = .ok (.iconst 1, 1) := by decide +kernel
theorem d_law_1474 : decode code 1474 = .ok (.iadd, 1) := by decide +kernel
theorem d_law_1475 : decode code 1475 = .ok (.iaload, 1) := by decide +kernel
theorem d_law_1476 : decode code 1476 = .ok (.aload_n 0, 1) := by decide +kernel
theorem d_law_1477 : decode code 1477 = .ok (.iload 4, 2) := by decide +kernel
theorem d_law_1479 : decode code 1479 = .ok (.iconst 2, 1) := by decide +kernel
theorem d_law_1480 : decode code 1480 = .ok (.iadd, 1) := by decide +kernel
theorem d_law_1481 : decode code 1481 = .ok (.iaload, 1) := by decide +kernel
theorem d_law_1482 : decode code 1482 = .ok (.aload_n 0, 1) := by decide +kernel
theorem d_law_1483 : decode code 1483 = .ok (.iload 4, 2) := by decide +kernel
theorem d_law_1485 : decode code 1485 = .ok (.iconst 3, 1) := by decide +kernel
theorem d_law_1486 : decode code 1486 = .ok (.iadd, 1) := by decide +kernel
theorem d_law_1487 : decode code 1487 = .ok (.iaload, 1) := by decide +kernel
theorem d_law_1488 : decode code 1488 = .ok (.invokevirtual 173, 3) := by decide +kernel
theorem d_law_1491 : decode code 1491 = .ok (.istore 6, 2) := by decide +kernel
theorem d_law_1493 : decode code 1493 = .ok (.aload_n 2, 1) := by decide +kernel
theorem d_law_1494 : decode code 1494 = .ok (.invokevirtual 120, 3) := by decide +kernel
theorem d_law_1497 : decode code 1497 = .ok (.iload 5, 2) := by decide +kernel
theorem d_law_1499 : decode code 1499 = .ok (.if_icmp .eq 5, 3) := by decide +kernel
theorem d_law_1504 : decode code 1504 = .ok (.iload 5, 2) := by decide +kernel
theorem d_law_1506 : decode code 1506 = .ok (.ifCond .ne 15, 3) := by decide +kernel
theorem d_law_1521 : decode code 1521 = .ok (.goto 870, 3) := by decide +kernel
theorem d_law_1509 : decode code 1509 = .ok (.aload_n 3, 1) := by decide +kernel
theorem d_law_1510 : decode code 1510 = .ok (.iconst 0, 1) := by decide +kernel
theorem d_law_1511 : decode code 1511 = .ok (.laload, 1) := by decide +kernel
theorem d_law_1512 : decode code 1512 = .ok (.iload 6, 2) := by decide +kernel
theorem d_law_1514 : decode code 1514 = .ok (.i2l, 1) := by decide +kernel
theorem d_law_1515 : decode code 1515 = .ok (.lcmp, 1) := by decide +kernel
theorem d_law_1516 : decode code 1516 = .ok (.ifCond .eq 5, 3) := by decide +kernel
set_option maxHeartbeats 4000000 in
set_option maxRecDepth 100000 in
theorem law_c14 {p : Program} {e : Env} {s : State} {m : MethodId} {below : List Frame} {meth : Method} {c : Code} (l : Launch) (hfl : l.flags = flags0) {b : Nat} {xs : Nat → Int32} {D : va_G} {ad : Nat → Nat} {ac : Nat → ClassId} {md : Nat → Nat} {mc : Nat → ClassId} {o : Nat} {H : Heap} {locs : List Loc} {ls : Array Slot} (h : LwS p s m meth c b 7 xs D ad ac md mc o H locs ls) : W p l e room_1 s m #[Value.ref b] below meth c H locs 636 1394874 (lw_Z below #[Value.ref b] s) (F0 m 1444 ls []) := by
  obtain ⟨hx, hb, hr, hml, hown, hts, hX, hbl, hlocks, hev, hP, hK, hD, hS, hl⟩ := h
  have hNS : tx_NS (lA s) s := fun q cell hq hc => absurd (Array.getElem?_eq_some_iff.mp hc).1 (Nat.not_lt.mpr hq)
  have hA : ∀ q : Nat, s.heap.size ≤ q → lA s q := fun _ h => h
  have hT : ∀ q : Nat, lA s q → s.heap.size ≤ q := fun _ h => h
  have hbA : ¬ lA s b := Nat.not_le.mpr hbl
  generalize lA s = A at hev hD hS hNS hA hT hbA
  refine lv_aload_n hx hb d_law_1444 rfl (lv_at hl 3 rfl) ?_
  refine lv_aload_n hx hb d_law_1445 rfl (lv_at hl 4 rfl) ?_
  refine lv_iload hx hb d_law_1446 (lv_at hl 0 rfl) ?_
  refine lv_iconst (v := 1) hx hb d_law_1448 (by decide) ?_
  refine lv_iadd hx hb d_law_1449 ?_
  refine w_i (y := 1) (by decide) ?_
  refine va_sld hx hb hX hbl hbA hS (i := 1) (vp_in_nI (n := 1) (N := 7) (by decide) (by decide)) d_law_1450 ?_
  refine w_i (y := xs 1) rfl ?_
  refine lv_aload_n hx hb d_law_1451 rfl (lv_at hl 4 rfl) ?_
  refine lv_iload hx hb d_law_1452 (lv_at hl 0 rfl) ?_
  refine lv_iconst (v := 2) hx hb d_law_1454 (by decide) ?_
  refine lv_iadd hx hb d_law_1455 ?_
  refine w_i (y := 2) (by decide) ?_
  refine va_sld hx hb hX hbl hbA hS (i := 2) (vp_in_nI (n := 2) (N := 7) (by decide) (by decide)) d_law_1456 ?_
  refine w_i (y := xs 2) rfl ?_
  refine lv_aload_n hx hb d_law_1457 rfl (lv_at hl 4 rfl) ?_
  refine lv_iload hx hb d_law_1458 (lv_at hl 0 rfl) ?_
  refine lv_iconst (v := 3) hx hb d_law_1460 (by decide) ?_
  refine lv_iadd hx hb d_law_1461 ?_
  refine w_i (y := 3) (by decide) ?_
  refine va_sld hx hb hX hbl hbA hS (i := 3) (vp_in_nI (n := 3) (N := 7) (by decide) (by decide)) d_law_1462 ?_
  refine w_i (y := xs 3) rfl ?_
  refine lv_aload_n hx hb d_law_1463 rfl (lv_at hl 1 rfl) ?_
  have hPh := p_l hP
  have hDh := d_l hD
  have hKh := hK.sub (tys' := fxT ac) [0, 1, 2, 3, 4, 5, 6, 7] rfl
  have hFc := fr_all hDh hS hA
  refine va_calli (tx_runSW (As := [.ref (ad 0), .int (xs 1), .int (xs 2), .int (xs 3), .ref o]) (rest := []) ⟨hx, hb, hml, hown, hts⟩ (h_object l hfl D ad ac (fun _ => 0) o (fun _ => 0) H.size (xs 1) (xs 2) (xs 3)) (cw_w 5 hts kw_1124 kw_1122 kw_1123 kw_0 rfl rfl (by decide +kernel) ⟨Nat.le_of_ble_eq_true rfl, Nat.le_of_ble_eq_true rfl⟩) ⟨h_blind, fun U hU hW => h_pre hU hW hPh hKh hDh hev hNS hS hFc⟩ rfl rfl hl.1 rfl (lv_room (Nat.le_of_ble_eq_true rfl)) d_law_1464 ⟨Nat.le_of_ble_eq_true rfl, Nat.le_of_ble_eq_true rfl⟩) hS (fun q _ h => hFc q h) hFc (fun rz u t H1 locs ht hvm hw hB hz1 hk1 hS => ?_)
  obtain ⟨hP1, -, -⟩ := hB
  rw [ht] at hP1
  obtain ⟨hw1, hw2⟩ := hw
  subst hw1
  have hP := hP1.app (p_keep hP hD hk1)
  have hD := d_oc hD (e' := .inl (ac 7, 1, .inr (.inl u)))
  generalize H1 = H at hP hS ⊢
  have hP : va_P D cls [(o, .inl (ac 7, 1, .inr (.inl u))), (md 100, .inr (12, [.int 0, .ref (md 1), .ref (md 2), .ref (md 3), .int 0, .int 0, .int 0, .int 0, .ref (md 8), .ref (md 9), .ref (md 10), .ref (md 11), .ref (md 12), .ref (md 13), .ref (md 14), .ref (md 15), .ref (md 16), .ref (md 17), .ref (md 18), .ref (md 19), .ref (md 20), .ref (md 21), .ref (md 22), .int 0, .ref (md 24), .int 0, .ref (md 26), .int 0, .ref (md 28), .ref (md 29), .ref (md 30), .ref (md 31), .ref (md 32), .ref (md 33), .int 0, .int 0, .ref (md 36), .ref (md 37), .ref (md 38), .ref (md 39), .ref (md 40), .int 0, .int (-1), .int 0, .ref (md 44), .ref (md 45), .ref (md 46), .int 0, .ref (md 48), .ref (md 49), .int 0, .ref (md 51), .int 0, .ref (md 53), .ref (md 54), .ref (md 55), .ref (md 56), .ref (md 57), .ref (md 58), .ref (md 59), .ref (md 60), .ref (md 61), .ref (md 62), .ref (md 63), .int 0, .int 0, .int 0, .int 0, .int 0, .int 0, .ref (md 70), .int 0, .ref (md 72), .int 0, .int 400000, .int 0, .int 0])), (md 39, .inl (mc 0, 8, .inl (fun _ => -1))), (md 1, .inl (mc 1, 8300, .inl (fun _ => 0))), (md 40, .inl (mc 1, 800000, .inl (fun _ => 0))), (md 72, .inl (mc 0, 12010, .inl (fun _ => 0)))] H := hP
  have hD : va_D A [(o, .inl (ac 7, 1, .inr (.inl u))), (md 100, .inr (12, [.int 0, .ref (md 1), .ref (md 2), .ref (md 3), .int 0, .int 0, .int 0, .int 0, .ref (md 8), .ref (md 9), .ref (md 10), .ref (md 11), .ref (md 12), .ref (md 13), .ref (md 14), .ref (md 15), .ref (md 16), .ref (md 17), .ref (md 18), .ref (md 19), .ref (md 20), .ref (md 21), .ref (md 22), .int 0, .ref (md 24), .int 0, .ref (md 26), .int 0, .ref (md 28), .ref (md 29), .ref (md 30), .ref (md 31), .ref (md 32), .ref (md 33), .int 0, .int 0, .ref (md 36), .ref (md 37), .ref (md 38), .ref (md 39), .ref (md 40), .int 0, .int (-1), .int 0, .ref (md 44), .ref (md 45), .ref (md 46), .int 0, .ref (md 48), .ref (md 49), .int 0, .ref (md 51), .int 0, .ref (md 53), .ref (md 54), .ref (md 55), .ref (md 56), .ref (md 57), .ref (md 58), .ref (md 59), .ref (md 60), .ref (md 61), .ref (md 62), .ref (md 63), .int 0, .int 0, .int 0, .int 0, .int 0, .int 0, .ref (md 70), .int 0, .ref (md 72), .int 0, .int 400000, .int 0, .int 0])), (md 39, .inl (mc 0, 8, .inl (fun _ => -1))), (md 1, .inl (mc 1, 8300, .inl (fun _ => 0))), (md 40, .inl (mc 1, 800000, .inl (fun _ => 0))), (md 72, .inl (mc 0, 12010, .inl (fun _ => 0)))] := hD
  refine W.cs (cells' := 637) (slots' := 1394880) rfl rfl ?_
  refine lv_istore (lv' := [(5, .int (k_obj (xs 1) (xs 2) (xs 3))), (4, .int 0), (3, .ref o), (2, .ref (md 100)), (1, .ref (ad 0)), (0, .ref b)]) hx hb d_law_1467 hl (by decide) rfl (fun ls hl => ?_)
  refine lv_aload_n hx hb d_law_1469 rfl (lv_at hl 3 rfl) ?_
  refine lv_aload_n hx hb d_law_1470 rfl (lv_at hl 5 rfl) ?_
  refine lv_iload hx hb d_law_1471 (lv_at hl 1 rfl) ?_
  refine lv_iconst (v := 1) hx hb d_law_1473 (by decide) ?_
  refine lv_iadd hx hb d_law_1474 ?_
  refine w_i (y := 1) (by decide) ?_
  refine va_sld hx hb hX hbl hbA hS (i := 1) (vp_in_nI (n := 1) (N := 7) (by decide) (by decide)) d_law_1475 ?_
  refine w_i (y := xs 1) rfl ?_
  refine lv_aload_n hx hb d_law_1476 rfl (lv_at hl 5 rfl) ?_
  refine lv_iload hx hb d_law_1477 (lv_at hl 1 rfl) ?_
  refine lv_iconst (v := 2) hx hb d_law_1479 (by decide) ?_
  refine lv_iadd hx hb d_law_1480 ?_
  refine w_i (y := 2) (by decide) ?_
  refine va_sld hx hb hX hbl hbA hS (i := 2) (vp_in_nI (n := 2) (N := 7) (by decide) (by decide)) d_law_1481 ?_
  refine w_i (y := xs 2) rfl ?_
  refine lv_aload_n hx hb d_law_1482 rfl (lv_at hl 5 rfl) ?_
  refine lv_iload hx hb d_law_1483 (lv_at hl 1 rfl) ?_
  refine lv_iconst (v := 3) hx hb d_law_1485 (by decide) ?_
  refine lv_iadd hx hb d_law_1486 ?_
  refine w_i (y := 3) (by decide) ?_
  refine va_sld hx hb hX hbl hbA hS (i := 3) (vp_in_nI (n := 3) (N := 7) (by decide) (by decide)) d_law_1487 ?_
  refine w_i (y := xs 3) rfl ?_
  have hPc := hP.sub (ws' := [(md 100, .inr (12, [.int 0, .ref (md 1), .ref (md 2), .ref (md 3), .int 0, .int 0, .int 0, .int 0, .ref (md 8), .ref (md 9), .ref (md 10), .ref (md 11), .ref (md 12), .ref (md 13), .ref (md 14), .ref (md 15), .ref (md 16), .ref (md 17), .ref (md 18), .ref (md 19), .ref (md 20), .ref (md 21), .ref (md 22), .int 0, .ref (md 24), .int 0, .ref (md 26), .int 0, .ref (md 28), .ref (md 29), .ref (md 30), .ref (md 31), .ref (md 32), .ref (md 33), .int 0, .int 0, .ref (md 36), .ref (md 37), .ref (md 38), .ref (md 39), .ref (md 40), .int 0, .int (-1), .int 0, .ref (md 44), .ref (md 45), .ref (md 46), .int 0, .ref (md 48), .ref (md 49), .int 0, .ref (md 51), .int 0, .ref (md 53), .ref (md 54), .ref (md 55), .ref (md 56), .ref (md 57), .ref (md 58), .ref (md 59), .ref (md 60), .ref (md 61), .ref (md 62), .ref (md 63), .int 0, .int 0, .int 0, .int 0, .int 0, .int 0, .ref (md 70), .int 0, .ref (md 72), .int 0, .int 400000, .int 0, .int 0]))]) [1] rfl
  have hDc := hD.sub (ws' := [(md 100, .inr (12, [.int 0, .ref (md 1), .ref (md 2), .ref (md 3), .int 0, .int 0, .int 0, .int 0, .ref (md 8), .ref (md 9), .ref (md 10), .ref (md 11), .ref (md 12), .ref (md 13), .ref (md 14), .ref (md 15), .ref (md 16), .ref (md 17), .ref (md 18), .ref (md 19), .ref (md 20), .ref (md 21), .ref (md 22), .int 0, .ref (md 24), .int 0, .ref (md 26), .int 0, .ref (md 28), .ref (md 29), .ref (md 30), .ref (md 31), .ref (md 32), .ref (md 33), .int 0, .int 0, .ref (md 36), .ref (md 37), .ref (md 38), .ref (md 39), .ref (md 40), .int 0, .int (-1), .int 0, .ref (md 44), .ref (md 45), .ref (md 46), .int 0, .ref (md 48), .ref (md 49), .int 0, .ref (md 51), .int 0, .ref (md 53), .ref (md 54), .ref (md 55), .ref (md 56), .ref (md 57), .ref (md 58), .ref (md 59), .ref (md 60), .ref (md 61), .ref (md 62), .ref (md 63), .int 0, .int 0, .int 0, .int 0, .int 0, .int 0, .ref (md 70), .int 0, .ref (md 72), .int 0, .int 400000, .int 0, .int 0]))]) [1] (by decide) rfl
  have hKc := hK.sub (tys' := []) [] rfl
  have hFc := va_free (wc := [(md 100, .inr (12, [.int 0, .ref (md 1), .ref (md 2), .ref (md 3), .int 0, .int 0, .int 0, .int 0, .ref (md 8), .ref (md 9), .ref (md 10), .ref (md 11), .ref (md 12), .ref (md 13), .ref (md 14), .ref (md 15), .ref (md 16), .ref (md 17), .ref (md 18), .ref (md 19), .ref (md 20), .ref (md 21), .ref (md 22), .int 0, .ref (md 24), .int 0, .ref (md 26), .int 0, .ref (md 28), .ref (md 29), .ref (md 30), .ref (md 31), .ref (md 32), .ref (md 33), .int 0, .int 0, .ref (md 36), .ref (md 37), .ref (md 38), .ref (md 39), .ref (md 40), .int 0, .int (-1), .int 0, .ref (md 44), .ref (md 45), .ref (md 46), .int 0, .ref (md 48), .ref (md 49), .int 0, .ref (md 51), .int 0, .ref (md 53), .ref (md 54), .ref (md 55), .ref (md 56), .ref (md 57), .ref (md 58), .ref (md 59), .ref (md 60), .ref (md 61), .ref (md 62), .ref (md 63), .int 0, .int 0, .int 0, .int 0, .int 0, .int 0, .ref (md 70), .int 0, .ref (md 72), .int 0, .int 400000, .int 0, .int 0]))]) hD hS hA [1] rfl
  refine va_calli (va_runV (As := [.int (xs 1), .int (xs 2), .int (xs 3)]) (rest := []) ⟨hx, hb, hml, hown, hts⟩ (g_p_object l D H.size md mc (xs 1) (xs 2) (xs 3)) (cw_v 3 hts kw_1859 kw_1856 kw_1857 kw_1858 kw_11 rfl rfl (by decide +kernel) ⟨Nat.le_of_ble_eq_true rfl, Nat.le_of_ble_eq_true rfl⟩) ⟨g_blind, va_recv hKc hPc (ci := 12) (q0 := 0) rfl rfl, fun U hU hW => g_pre hU hW hPc hKc hDc⟩ rfl rfl hl.1 rfl (lv_room (Nat.le_of_ble_eq_true rfl)) d_law_1488 ⟨Nat.le_of_ble_eq_true rfl, Nat.le_of_ble_eq_true rfl⟩) hS (fun q _ h => hFc q h) hFc (fun r_1 u_2 t H1 locs ht hvm hw hB hz1 hk1 hS => ?_)
  obtain ⟨hP1, hK1, hD1⟩ := hB
  rw [ht] at hP1
  have hK1 := va_K.moved hvm.symm hK1
  obtain ⟨hP, hD⟩ := va_join (wr := [(o, .inl (ac 7, 1, .inr (.inl u))), (md 39, .inl (mc 0, 8, .inl (fun _ => -1))), (md 1, .inl (mc 1, 8300, .inl (fun _ => 0))), (md 40, .inl (mc 1, 800000, .inl (fun _ => 0))), (md 72, .inl (mc 0, 12010, .inl (fun _ => 0)))]) (w1 := [(md 100, .inr (12, .int (k_obj (xs 1) (xs 2) (xs 3)) :: u_2))]) hP hD [1] [0, 2, 3, 4, 5] rfl rfl (by decide) (by decide) hk1 hFc hP1 hD1
  generalize H1 = H at hP hS ⊢
  have hP : va_P D cls [(o, .inl (ac 7, 1, .inr (.inl u))), (md 39, .inl (mc 0, 8, .inl (fun _ => -1))), (md 1, .inl (mc 1, 8300, .inl (fun _ => 0))), (md 40, .inl (mc 1, 800000, .inl (fun _ => 0))), (md 72, .inl (mc 0, 12010, .inl (fun _ => 0))), (md 100, .inr (12, .int (k_obj (xs 1) (xs 2) (xs 3)) :: u_2))] H := hP
  have hD : va_D A [(o, .inl (ac 7, 1, .inr (.inl u))), (md 39, .inl (mc 0, 8, .inl (fun _ => -1))), (md 1, .inl (mc 1, 8300, .inl (fun _ => 0))), (md 40, .inl (mc 1, 800000, .inl (fun _ => 0))), (md 72, .inl (mc 0, 12010, .inl (fun _ => 0))), (md 100, .inr (12, .int (k_obj (xs 1) (xs 2) (xs 3)) :: u_2))] := hD
  refine W.cs (cells' := 637) (slots' := 1394880) rfl rfl ?_
  have hwm := hw
  refine lv_istore (lv' := [(6, .int r_1), (5, .int (k_obj (xs 1) (xs 2) (xs 3))), (4, .int 0), (3, .ref o), (2, .ref (md 100)), (1, .ref (ad 0)), (0, .ref b)]) hx hb d_law_1491 hl (by decide) rfl (fun ls hl => ?_)
  refine lv_aload_n hx hb d_law_1493 rfl (lv_at hl 4 rfl) ?_
  have hPc := hP.sub (ws' := [(md 100, .inr (12, .int (k_obj (xs 1) (xs 2) (xs 3)) :: u_2))]) [5] rfl
  have hDc := hD.sub (ws' := [(md 100, .inr (12, .int (k_obj (xs 1) (xs 2) (xs 3)) :: u_2))]) [5] (by decide) rfl
  have hKc := hK.sub (tys' := []) [] rfl
  have hFc := va_free (wc := [(md 100, .inr (12, .int (k_obj (xs 1) (xs 2) (xs 3)) :: u_2))]) hD hS hA [5] rfl
  refine va_calli (va_runV (As := []) (rest := []) ⟨hx, hb, hml, hown, hts⟩ (g_thr l D H.size md mc (k_obj (xs 1) (xs 2) (xs 3)) u_2) (cw_v 0 hts kw_1618 kw_1615 kw_1616 kw_1617 kw_11 rfl rfl (by decide +kernel) ⟨Nat.le_of_ble_eq_true rfl, Nat.le_of_ble_eq_true rfl⟩) ⟨g_blind, va_recv hKc hPc (ci := 12) (q0 := 0) rfl rfl, fun U hU hW => g_pre hU hW hPc hKc hDc⟩ rfl rfl hl.1 rfl (lv_room (Nat.le_of_ble_eq_true rfl)) d_law_1494 ⟨Nat.le_of_ble_eq_true rfl, Nat.le_of_ble_eq_true rfl⟩) hS (fun q _ h => hFc q h) hFc (fun r_3 u_4 t H1 locs ht hvm hw hB hz1 hk1 hS => ?_)
  obtain ⟨⟩ := u_4
  obtain ⟨hP1, hK1, hD1⟩ := hB
  rw [ht] at hP1
  have hK1 := va_K.moved hvm.symm hK1
  obtain ⟨hP, hD⟩ := va_join (wr := [(o, .inl (ac 7, 1, .inr (.inl u))), (md 39, .inl (mc 0, 8, .inl (fun _ => -1))), (md 1, .inl (mc 1, 8300, .inl (fun _ => 0))), (md 40, .inl (mc 1, 800000, .inl (fun _ => 0))), (md 72, .inl (mc 0, 12010, .inl (fun _ => 0)))]) (w1 := [(md 100, .inr (12, .int (k_obj (xs 1) (xs 2) (xs 3)) :: u_2))]) hP hD [5] [0, 1, 2, 3, 4] rfl rfl (by decide) (by decide) hk1 hFc hP1 hD1
  generalize H1 = H at hP hS ⊢
  have hP : va_P D cls [(o, .inl (ac 7, 1, .inr (.inl u))), (md 39, .inl (mc 0, 8, .inl (fun _ => -1))), (md 1, .inl (mc 1, 8300, .inl (fun _ => 0))), (md 40, .inl (mc 1, 800000, .inl (fun _ => 0))), (md 72, .inl (mc 0, 12010, .inl (fun _ => 0))), (md 100, .inr (12, .int (k_obj (xs 1) (xs 2) (xs 3)) :: u_2))] H := hP
  have hD : va_D A [(o, .inl (ac 7, 1, .inr (.inl u))), (md 39, .inl (mc 0, 8, .inl (fun _ => -1))), (md 1, .inl (mc 1, 8300, .inl (fun _ => 0))), (md 40, .inl (mc 1, 800000, .inl (fun _ => 0))), (md 72, .inl (mc 0, 12010, .inl (fun _ => 0))), (md 100, .inr (12, .int (k_obj (xs 1) (xs 2) (xs 3)) :: u_2))] := hD
  refine W.cs (cells' := 637) (slots' := 1394880) rfl rfl ?_
  subst hw
  refine lv_iload hx hb d_law_1497 (lv_at hl 1 rfl) ?_
  refine lv_icmp_eq (tgt := 1504) hx hb d_law_1499 (by decide) (fun _ => ?_) (fun h => absurd rfl h)
  refine lv_iload hx hb d_law_1504 (lv_at hl 1 rfl) ?_
  refine lv_if_ne (tgt := 1521) hx hb d_law_1506 (by decide) (fun c_5 => ?_) (fun c_5 => ?_)
  · refine lv_goto (tgt := 2391) hx hb d_law_1521 (by decide) ?_
    exact law_tail l hx hb hr hlocks hX hbl hbA hT hS (lv_sub hl [2, 6] rfl) (by decide) (by decide)
  · refine lv_aload_n hx hb d_law_1509 rfl (lv_at hl 3 rfl) ?_
    refine lv_iconst (v := 0) hx hb d_law_1510 (by decide) ?_
    refine va_lald hx hb hK hP 0 7 rfl rfl (i := 0) (vp_in_nI (n := 0) (N := 1) (by decide) (by decide)) d_law_1511 ?_
    refine w_l (y := ((if (xs 3) = 0 then 6 else 0 : Int32).toInt64)) (hw2 c_5) ?_
    refine lv_iload hx hb d_law_1512 (lv_at hl 0 rfl) ?_
    refine lv_i2l hx hb d_law_1514 rfl ?_
    refine w_l (y := ((if (xs 3) = 0 then 6 else 0 : Int32).toInt64)) (by first | (rw [hwm c_5]; done) | (rw [hwm c_5]; rfl) | (rw [hwm c_5]; decide)) ?_
    refine W.lcmp hx hb d_law_1515 ?_
    refine w_i (y := 0) (by simp [lg_cmp]) ?_
    refine lv_if_eq (tgt := 1521) hx hb d_law_1516 (by decide) (fun _ => ?_) (fun h => absurd h (by decide))
    refine lv_goto (tgt := 2391) hx hb d_law_1521 (by decide) ?_
    exact law_tail l hx hb hr hlocks hX hbl hbA hT hS (lv_sub hl [2, 6] rfl) (by decide) (by decide)
theorem d_law_1524 : decode code 1524 = .ok (.aload_n 1, 1) := by decide +kernel
theorem d_law_1525 : decode code 1525 = .ok (.aload_n 0, 1) := by decide +kernel
theorem d_law_1526 : decode code 1526 = .ok (.iload 4, 2) := by decide +kernel
theorem d_law_1528 : decode code 1528 = .ok (.iconst 1, 1) := by decide +kernel
theorem d_law_1529 : decode code 1529 = .ok (.iadd, 1) := by decide +kernel
theorem d_law_1530 : decode code 1530 = .ok (.iaload, 1) := by decide +kernel
theorem d_law_1531 : decode code 1531 = .ok (.aload_n 0, 1) := by decide +kernel
theorem d_law_1532 : decode code 1532 = .ok (.iload 4, 2) := by decide +kernel
theorem d_law_1534 : decode code 1534 = .ok (.iconst 2, 1) := by decide +kernel
theorem d_law_1535 : decode code 1535 = .ok (.iadd, 1) := by decide +kernel
theorem d_law_1536 : decode code 1536 = .ok (.iaload, 1) := by decide +kernel
theorem d_law_1537 : decode code 1537 = .ok (.aload_n 0, 1) := by decide +kernel
theorem d_law_1538 : decode code 1538 = .ok (.iload 4, 2) := by decide +kernel
theorem d_law_1540 : decode code 1540 = .ok (.iconst 3, 1) := by decide +kernel
theorem d_law_1541 : decode code 1541 = .ok (.iadd, 1) := by decide +kernel
theorem d_law_1542 : decode code 1542 = .ok (.iaload, 1) := by decide +kernel
theorem d_law_1543 : decode code 1543 = .ok (.aload_n 0, 1) := by decide +kernel
theorem d_law_1544 : decode code 1544 = .ok (.iload 4, 2) := by decide +kernel
theorem d_law_1546 : decode code 1546 = .ok (.iconst 4, 1) := by decide +kernel
theorem d_law_1547 : decode code 1547 = .ok (.iadd, 1) := by decide +kernel
theorem d_law_1548 : decode code 1548 = .ok (.iaload, 1) := by decide +kernel
theorem d_law_1549 : decode code 1549 = .ok (.aload_n 3, 1) := by decide +kernel
theorem d_law_1550 : decode code 1550 = .ok (.invokestatic 174, 3) := by decide +kernel
theorem d_law_1553 : decode code 1553 = .ok (.istore 5, 2) := by decide +kernel
theorem d_law_1555 : decode code 1555 = .ok (.aload_n 2, 1) := by decide +kernel
theorem d_law_1556 : decode code 1556 = .ok (.aload_n 0, 1) := by decide +kernel
theorem d_law_1557 : decode code 1557 = .ok (.iload 4, 2) := by decide +kernel
theorem d_law_1559 : decode code 1559 = .ok (.iconst 1, 1) := by decide +kernel
theorem d_law_1560 : decode code 1560 = .ok (.iadd, 1) := by decide +kernel
theorem d_law_1561 : decode code 1561 = .ok (.iaload, 1) := by decide +kernel
theorem d_law_1562 : decode code 1562 = .ok (.aload_n 0, 1) := by decide +kernel
theorem d_law_1563 : decode code 1563 = .ok (.iload 4, 2) := by decide +kernel
theorem d_law_1565 : decode code 1565 = .ok (.iconst 2, 1) := by decide +kernel
theorem d_law_1566 : decode code 1566 = .ok (.iadd, 1) := by decide +kernel
theorem d_law_1567 : decode code 1567 = .ok (.iaload, 1) := by decide +kernel
theorem d_law_1568 : decode code 1568 = .ok (.aload_n 0, 1) := by decide +kernel
theorem d_law_1569 : decode code 1569 = .ok (.iload 4, 2) := by decide +kernel
theorem d_law_1571 : decode code 1571 = .ok (.iconst 3, 1) := by decide +kernel
theorem d_law_1572 : decode code 1572 = .ok (.iadd, 1) := by decide +kernel
theorem d_law_1573 : decode code 1573 = .ok (.iaload, 1) := by decide +kernel
theorem d_law_1574 : decode code 1574 = .ok (.aload_n 0, 1) := by decide +kernel
theorem d_law_1575 : decode code 1575 = .ok (.iload 4, 2) := by decide +kernel
theorem d_law_1577 : decode code 1577 = .ok (.iconst 4, 1) := by decide +kernel
theorem d_law_1578 : decode code 1578 = .ok (.iadd, 1) := by decide +kernel
theorem d_law_1579 : decode code 1579 = .ok (.iaload, 1) := by decide +kernel
theorem d_law_1580 : decode code 1580 = .ok (.invokevirtual 176, 3) := by decide +kernel
theorem d_law_1583 : decode code 1583 = .ok (.istore 6, 2) := by decide +kernel
theorem d_law_1585 : decode code 1585 = .ok (.aload_n 2, 1) := by decide +kernel
theorem d_law_1586 : decode code 1586 = .ok (.invokevirtual 120, 3) := by decide +kernel
theorem d_law_1589 : decode code 1589 = .ok (.iload 5, 2) := by decide +kernel
theorem d_law_1591 : decode code 1591 = .ok (.if_icmp .eq 5, 3) := by decide +kernel
theorem d_law_1596 : decode code 1596 = .ok (.iload 5, 2) := by decide +kernel
theorem d_law_1598 : decode code 1598 = .ok (.ifCond .ne 15, 3) := by decide +kernel
theorem d_law_1613 : decode code 1613 = .ok (.goto 778, 3) := by decide +kernel
theorem d_law_1601 : decode code 1601 = .ok (.aload_n 3, 1) := by decide +kernel
theorem d_law_1602 : decode code 1602 = .ok (.iconst 0, 1) := by decide +kernel
theorem d_law_1603 : decode code 1603 = .ok (.laload, 1) := by decide +kernel
theorem d_law_1604 : decode code 1604 = .ok (.iload 6, 2) := by decide +kernel
theorem d_law_1606 : decode code 1606 = .ok (.i2l, 1) := by decide +kernel
theorem d_law_1607 : decode code 1607 = .ok (.lcmp, 1) := by decide +kernel
theorem d_law_1608 : decode code 1608 = .ok (.ifCond .eq 5, 3) := by decide +kernel
set_option maxHeartbeats 4000000 in
set_option maxRecDepth 100000 in
theorem law_c15 {p : Program} {e : Env} {s : State} {m : MethodId} {below : List Frame} {meth : Method} {c : Code} (l : Launch) (hfl : l.flags = flags0) {b : Nat} {xs : Nat → Int32} {D : va_G} {ad : Nat → Nat} {ac : Nat → ClassId} {md : Nat → Nat} {mc : Nat → ClassId} {o : Nat} {H : Heap} {locs : List Loc} {ls : Array Slot} (h : LwS p s m meth c b 7 xs D ad ac md mc o H locs ls) : W p l e room_1 s m #[Value.ref b] below meth c H locs 636 1394874 (lw_Z below #[Value.ref b] s) (F0 m 1524 ls []) := by
  obtain ⟨hx, hb, hr, hml, hown, hts, hX, hbl, hlocks, hev, hP, hK, hD, hS, hl⟩ := h
  have hNS : tx_NS (lA s) s := fun q cell hq hc => absurd (Array.getElem?_eq_some_iff.mp hc).1 (Nat.not_lt.mpr hq)
  have hA : ∀ q : Nat, s.heap.size ≤ q → lA s q := fun _ h => h
  have hT : ∀ q : Nat, lA s q → s.heap.size ≤ q := fun _ h => h
  have hbA : ¬ lA s b := Nat.not_le.mpr hbl
  generalize lA s = A at hev hD hS hNS hA hT hbA
  refine lv_aload_n hx hb d_law_1524 rfl (lv_at hl 3 rfl) ?_
  refine lv_aload_n hx hb d_law_1525 rfl (lv_at hl 4 rfl) ?_
  refine lv_iload hx hb d_law_1526 (lv_at hl 0 rfl) ?_
  refine lv_iconst (v := 1) hx hb d_law_1528 (by decide) ?_
  refine lv_iadd hx hb d_law_1529 ?_
  refine w_i (y := 1) (by decide) ?_
  refine va_sld hx hb hX hbl hbA hS (i := 1) (vp_in_nI (n := 1) (N := 7) (by decide) (by decide)) d_law_1530 ?_
  refine w_i (y := xs 1) rfl ?_
  refine lv_aload_n hx hb d_law_1531 rfl (lv_at hl 4 rfl) ?_
  refine lv_iload hx hb d_law_1532 (lv_at hl 0 rfl) ?_
  refine lv_iconst (v := 2) hx hb d_law_1534 (by decide) ?_
  refine lv_iadd hx hb d_law_1535 ?_
  refine w_i (y := 2) (by decide) ?_
  refine va_sld hx hb hX hbl hbA hS (i := 2) (vp_in_nI (n := 2) (N := 7) (by decide) (by decide)) d_law_1536 ?_
  refine w_i (y := xs 2) rfl ?_
  refine lv_aload_n hx hb d_law_1537 rfl (lv_at hl 4 rfl) ?_
  refine lv_iload hx hb d_law_1538 (lv_at hl 0 rfl) ?_
  refine lv_iconst (v := 3) hx hb d_law_1540 (by decide) ?_
  refine lv_iadd hx hb d_law_1541 ?_
  refine w_i (y := 3) (by decide) ?_
  refine va_sld hx hb hX hbl hbA hS (i := 3) (vp_in_nI (n := 3) (N := 7) (by decide) (by decide)) d_law_1542 ?_
  refine w_i (y := xs 3) rfl ?_
  refine lv_aload_n hx hb d_law_1543 rfl (lv_at hl 4 rfl) ?_
  refine lv_iload hx hb d_law_1544 (lv_at hl 0 rfl) ?_
  refine lv_iconst (v := 4) hx hb d_law_1546 (by decide) ?_
  refine lv_iadd hx hb d_law_1547 ?_
  refine w_i (y := 4) (by decide) ?_
  refine va_sld hx hb hX hbl hbA hS (i := 4) (vp_in_nI (n := 4) (N := 7) (by decide) (by decide)) d_law_1548 ?_
  refine w_i (y := xs 4) rfl ?_
  refine lv_aload_n hx hb d_law_1549 rfl (lv_at hl 1 rfl) ?_
  have hPh := p_l hP
  have hDh := d_l hD
  have hKh := hK.sub (tys' := fxT ac) [0, 1, 2, 3, 4, 5, 6, 7] rfl
  have hFc := fr_all hDh hS hA
  refine va_calli (tx_runSW (As := [.ref (ad 0), .int (xs 1), .int (xs 2), .int (xs 3), .int (xs 4), .ref o]) (rest := []) ⟨hx, hb, hml, hown, hts⟩ (h_key l hfl D ad ac (fun _ => 0) o (fun _ => 0) H.size (xs 1) (xs 2) (xs 3) (xs 4)) (cw_w 6 hts kw_1131 kw_1129 kw_1130 kw_0 rfl rfl (by decide +kernel) ⟨Nat.le_of_ble_eq_true rfl, Nat.le_of_ble_eq_true rfl⟩) ⟨h_blind, fun U hU hW => h_pre hU hW hPh hKh hDh hev hNS hS hFc⟩ rfl rfl hl.1 rfl (lv_room (Nat.le_of_ble_eq_true rfl)) d_law_1550 ⟨Nat.le_of_ble_eq_true rfl, Nat.le_of_ble_eq_true rfl⟩) hS (fun q _ h => hFc q h) hFc (fun rz u t H1 locs ht hvm hw hB hz1 hk1 hS => ?_)
  obtain ⟨hP1, -, -⟩ := hB
  rw [ht] at hP1
  obtain ⟨hw1, hw2⟩ := hw
  subst hw1
  have hP := hP1.app (p_keep hP hD hk1)
  have hD := d_oc hD (e' := .inl (ac 7, 1, .inr (.inl u)))
  generalize H1 = H at hP hS ⊢
  have hP : va_P D cls [(o, .inl (ac 7, 1, .inr (.inl u))), (md 100, .inr (12, [.int 0, .ref (md 1), .ref (md 2), .ref (md 3), .int 0, .int 0, .int 0, .int 0, .ref (md 8), .ref (md 9), .ref (md 10), .ref (md 11), .ref (md 12), .ref (md 13), .ref (md 14), .ref (md 15), .ref (md 16), .ref (md 17), .ref (md 18), .ref (md 19), .ref (md 20), .ref (md 21), .ref (md 22), .int 0, .ref (md 24), .int 0, .ref (md 26), .int 0, .ref (md 28), .ref (md 29), .ref (md 30), .ref (md 31), .ref (md 32), .ref (md 33), .int 0, .int 0, .ref (md 36), .ref (md 37), .ref (md 38), .ref (md 39), .ref (md 40), .int 0, .int (-1), .int 0, .ref (md 44), .ref (md 45), .ref (md 46), .int 0, .ref (md 48), .ref (md 49), .int 0, .ref (md 51), .int 0, .ref (md 53), .ref (md 54), .ref (md 55), .ref (md 56), .ref (md 57), .ref (md 58), .ref (md 59), .ref (md 60), .ref (md 61), .ref (md 62), .ref (md 63), .int 0, .int 0, .int 0, .int 0, .int 0, .int 0, .ref (md 70), .int 0, .ref (md 72), .int 0, .int 400000, .int 0, .int 0])), (md 39, .inl (mc 0, 8, .inl (fun _ => -1))), (md 1, .inl (mc 1, 8300, .inl (fun _ => 0))), (md 40, .inl (mc 1, 800000, .inl (fun _ => 0))), (md 72, .inl (mc 0, 12010, .inl (fun _ => 0)))] H := hP
  have hD : va_D A [(o, .inl (ac 7, 1, .inr (.inl u))), (md 100, .inr (12, [.int 0, .ref (md 1), .ref (md 2), .ref (md 3), .int 0, .int 0, .int 0, .int 0, .ref (md 8), .ref (md 9), .ref (md 10), .ref (md 11), .ref (md 12), .ref (md 13), .ref (md 14), .ref (md 15), .ref (md 16), .ref (md 17), .ref (md 18), .ref (md 19), .ref (md 20), .ref (md 21), .ref (md 22), .int 0, .ref (md 24), .int 0, .ref (md 26), .int 0, .ref (md 28), .ref (md 29), .ref (md 30), .ref (md 31), .ref (md 32), .ref (md 33), .int 0, .int 0, .ref (md 36), .ref (md 37), .ref (md 38), .ref (md 39), .ref (md 40), .int 0, .int (-1), .int 0, .ref (md 44), .ref (md 45), .ref (md 46), .int 0, .ref (md 48), .ref (md 49), .int 0, .ref (md 51), .int 0, .ref (md 53), .ref (md 54), .ref (md 55), .ref (md 56), .ref (md 57), .ref (md 58), .ref (md 59), .ref (md 60), .ref (md 61), .ref (md 62), .ref (md 63), .int 0, .int 0, .int 0, .int 0, .int 0, .int 0, .ref (md 70), .int 0, .ref (md 72), .int 0, .int 400000, .int 0, .int 0])), (md 39, .inl (mc 0, 8, .inl (fun _ => -1))), (md 1, .inl (mc 1, 8300, .inl (fun _ => 0))), (md 40, .inl (mc 1, 800000, .inl (fun _ => 0))), (md 72, .inl (mc 0, 12010, .inl (fun _ => 0)))] := hD
  refine W.cs (cells' := 637) (slots' := 1394880) rfl rfl ?_
  refine lv_istore (lv' := [(5, .int (k_key (xs 1))), (4, .int 0), (3, .ref o), (2, .ref (md 100)), (1, .ref (ad 0)), (0, .ref b)]) hx hb d_law_1553 hl (by decide) rfl (fun ls hl => ?_)
  refine lv_aload_n hx hb d_law_1555 rfl (lv_at hl 3 rfl) ?_
  refine lv_aload_n hx hb d_law_1556 rfl (lv_at hl 5 rfl) ?_
  refine lv_iload hx hb d_law_1557 (lv_at hl 1 rfl) ?_
  refine lv_iconst (v := 1) hx hb d_law_1559 (by decide) ?_
  refine lv_iadd hx hb d_law_1560 ?_
  refine w_i (y := 1) (by decide) ?_
  refine va_sld hx hb hX hbl hbA hS (i := 1) (vp_in_nI (n := 1) (N := 7) (by decide) (by decide)) d_law_1561 ?_
  refine w_i (y := xs 1) rfl ?_
  refine lv_aload_n hx hb d_law_1562 rfl (lv_at hl 5 rfl) ?_
  refine lv_iload hx hb d_law_1563 (lv_at hl 1 rfl) ?_
  refine lv_iconst (v := 2) hx hb d_law_1565 (by decide) ?_
  refine lv_iadd hx hb d_law_1566 ?_
  refine w_i (y := 2) (by decide) ?_
  refine va_sld hx hb hX hbl hbA hS (i := 2) (vp_in_nI (n := 2) (N := 7) (by decide) (by decide)) d_law_1567 ?_
  refine w_i (y := xs 2) rfl ?_
  refine lv_aload_n hx hb d_law_1568 rfl (lv_at hl 5 rfl) ?_
  refine lv_iload hx hb d_law_1569 (lv_at hl 1 rfl) ?_
  refine lv_iconst (v := 3) hx hb d_law_1571 (by decide) ?_
  refine lv_iadd hx hb d_law_1572 ?_
  refine w_i (y := 3) (by decide) ?_
  refine va_sld hx hb hX hbl hbA hS (i := 3) (vp_in_nI (n := 3) (N := 7) (by decide) (by decide)) d_law_1573 ?_
  refine w_i (y := xs 3) rfl ?_
  refine lv_aload_n hx hb d_law_1574 rfl (lv_at hl 5 rfl) ?_
  refine lv_iload hx hb d_law_1575 (lv_at hl 1 rfl) ?_
  refine lv_iconst (v := 4) hx hb d_law_1577 (by decide) ?_
  refine lv_iadd hx hb d_law_1578 ?_
  refine w_i (y := 4) (by decide) ?_
  refine va_sld hx hb hX hbl hbA hS (i := 4) (vp_in_nI (n := 4) (N := 7) (by decide) (by decide)) d_law_1579 ?_
  refine w_i (y := xs 4) rfl ?_
  have hPc := hP.sub (ws' := [(md 100, .inr (12, [.int 0, .ref (md 1), .ref (md 2), .ref (md 3), .int 0, .int 0, .int 0, .int 0, .ref (md 8), .ref (md 9), .ref (md 10), .ref (md 11), .ref (md 12), .ref (md 13), .ref (md 14), .ref (md 15), .ref (md 16), .ref (md 17), .ref (md 18), .ref (md 19), .ref (md 20), .ref (md 21), .ref (md 22), .int 0, .ref (md 24), .int 0, .ref (md 26), .int 0, .ref (md 28), .ref (md 29), .ref (md 30), .ref (md 31), .ref (md 32), .ref (md 33), .int 0, .int 0, .ref (md 36), .ref (md 37), .ref (md 38), .ref (md 39), .ref (md 40), .int 0, .int (-1), .int 0, .ref (md 44), .ref (md 45), .ref (md 46), .int 0, .ref (md 48), .ref (md 49), .int 0, .ref (md 51), .int 0, .ref (md 53), .ref (md 54), .ref (md 55), .ref (md 56), .ref (md 57), .ref (md 58), .ref (md 59), .ref (md 60), .ref (md 61), .ref (md 62), .ref (md 63), .int 0, .int 0, .int 0, .int 0, .int 0, .int 0, .ref (md 70), .int 0, .ref (md 72), .int 0, .int 400000, .int 0, .int 0]))]) [1] rfl
  have hDc := hD.sub (ws' := [(md 100, .inr (12, [.int 0, .ref (md 1), .ref (md 2), .ref (md 3), .int 0, .int 0, .int 0, .int 0, .ref (md 8), .ref (md 9), .ref (md 10), .ref (md 11), .ref (md 12), .ref (md 13), .ref (md 14), .ref (md 15), .ref (md 16), .ref (md 17), .ref (md 18), .ref (md 19), .ref (md 20), .ref (md 21), .ref (md 22), .int 0, .ref (md 24), .int 0, .ref (md 26), .int 0, .ref (md 28), .ref (md 29), .ref (md 30), .ref (md 31), .ref (md 32), .ref (md 33), .int 0, .int 0, .ref (md 36), .ref (md 37), .ref (md 38), .ref (md 39), .ref (md 40), .int 0, .int (-1), .int 0, .ref (md 44), .ref (md 45), .ref (md 46), .int 0, .ref (md 48), .ref (md 49), .int 0, .ref (md 51), .int 0, .ref (md 53), .ref (md 54), .ref (md 55), .ref (md 56), .ref (md 57), .ref (md 58), .ref (md 59), .ref (md 60), .ref (md 61), .ref (md 62), .ref (md 63), .int 0, .int 0, .int 0, .int 0, .int 0, .int 0, .ref (md 70), .int 0, .ref (md 72), .int 0, .int 400000, .int 0, .int 0]))]) [1] (by decide) rfl
  have hKc := hK.sub (tys' := []) [] rfl
  have hFc := va_free (wc := [(md 100, .inr (12, [.int 0, .ref (md 1), .ref (md 2), .ref (md 3), .int 0, .int 0, .int 0, .int 0, .ref (md 8), .ref (md 9), .ref (md 10), .ref (md 11), .ref (md 12), .ref (md 13), .ref (md 14), .ref (md 15), .ref (md 16), .ref (md 17), .ref (md 18), .ref (md 19), .ref (md 20), .ref (md 21), .ref (md 22), .int 0, .ref (md 24), .int 0, .ref (md 26), .int 0, .ref (md 28), .ref (md 29), .ref (md 30), .ref (md 31), .ref (md 32), .ref (md 33), .int 0, .int 0, .ref (md 36), .ref (md 37), .ref (md 38), .ref (md 39), .ref (md 40), .int 0, .int (-1), .int 0, .ref (md 44), .ref (md 45), .ref (md 46), .int 0, .ref (md 48), .ref (md 49), .int 0, .ref (md 51), .int 0, .ref (md 53), .ref (md 54), .ref (md 55), .ref (md 56), .ref (md 57), .ref (md 58), .ref (md 59), .ref (md 60), .ref (md 61), .ref (md 62), .ref (md 63), .int 0, .int 0, .int 0, .int 0, .int 0, .int 0, .ref (md 70), .int 0, .ref (md 72), .int 0, .int 400000, .int 0, .int 0]))]) hD hS hA [1] rfl
  refine va_calli (va_runV (As := [.int (xs 1), .int (xs 2), .int (xs 3), .int (xs 4)]) (rest := []) ⟨hx, hb, hml, hown, hts⟩ (g_p_key l D H.size md mc (xs 1) (xs 2) (xs 3) (xs 4)) (cw_v 4 hts kw_1871 kw_1868 kw_1869 kw_1870 kw_11 rfl rfl (by decide +kernel) ⟨Nat.le_of_ble_eq_true rfl, Nat.le_of_ble_eq_true rfl⟩) ⟨g_blind, va_recv hKc hPc (ci := 12) (q0 := 0) rfl rfl, fun U hU hW => g_pre hU hW hPc hKc hDc⟩ rfl rfl hl.1 rfl (lv_room (Nat.le_of_ble_eq_true rfl)) d_law_1580 ⟨Nat.le_of_ble_eq_true rfl, Nat.le_of_ble_eq_true rfl⟩) hS (fun q _ h => hFc q h) hFc (fun r_1 u_2 t H1 locs ht hvm hw hB hz1 hk1 hS => ?_)
  obtain ⟨hP1, hK1, hD1⟩ := hB
  rw [ht] at hP1
  have hK1 := va_K.moved hvm.symm hK1
  obtain ⟨hP, hD⟩ := va_join (wr := [(o, .inl (ac 7, 1, .inr (.inl u))), (md 39, .inl (mc 0, 8, .inl (fun _ => -1))), (md 1, .inl (mc 1, 8300, .inl (fun _ => 0))), (md 40, .inl (mc 1, 800000, .inl (fun _ => 0))), (md 72, .inl (mc 0, 12010, .inl (fun _ => 0)))]) (w1 := [(md 100, .inr (12, .int (k_key (xs 1)) :: u_2))]) hP hD [1] [0, 2, 3, 4, 5] rfl rfl (by decide) (by decide) hk1 hFc hP1 hD1
  generalize H1 = H at hP hS ⊢
  have hP : va_P D cls [(o, .inl (ac 7, 1, .inr (.inl u))), (md 39, .inl (mc 0, 8, .inl (fun _ => -1))), (md 1, .inl (mc 1, 8300, .inl (fun _ => 0))), (md 40, .inl (mc 1, 800000, .inl (fun _ => 0))), (md 72, .inl (mc 0, 12010, .inl (fun _ => 0))), (md 100, .inr (12, .int (k_key (xs 1)) :: u_2))] H := hP
  have hD : va_D A [(o, .inl (ac 7, 1, .inr (.inl u))), (md 39, .inl (mc 0, 8, .inl (fun _ => -1))), (md 1, .inl (mc 1, 8300, .inl (fun _ => 0))), (md 40, .inl (mc 1, 800000, .inl (fun _ => 0))), (md 72, .inl (mc 0, 12010, .inl (fun _ => 0))), (md 100, .inr (12, .int (k_key (xs 1)) :: u_2))] := hD
  refine W.cs (cells' := 637) (slots' := 1394880) rfl rfl ?_
  have hwm := hw
  refine lv_istore (lv' := [(6, .int r_1), (5, .int (k_key (xs 1))), (4, .int 0), (3, .ref o), (2, .ref (md 100)), (1, .ref (ad 0)), (0, .ref b)]) hx hb d_law_1583 hl (by decide) rfl (fun ls hl => ?_)
  refine lv_aload_n hx hb d_law_1585 rfl (lv_at hl 4 rfl) ?_
  have hPc := hP.sub (ws' := [(md 100, .inr (12, .int (k_key (xs 1)) :: u_2))]) [5] rfl
  have hDc := hD.sub (ws' := [(md 100, .inr (12, .int (k_key (xs 1)) :: u_2))]) [5] (by decide) rfl
  have hKc := hK.sub (tys' := []) [] rfl
  have hFc := va_free (wc := [(md 100, .inr (12, .int (k_key (xs 1)) :: u_2))]) hD hS hA [5] rfl
  refine va_calli (va_runV (As := []) (rest := []) ⟨hx, hb, hml, hown, hts⟩ (g_thr l D H.size md mc (k_key (xs 1)) u_2) (cw_v 0 hts kw_1618 kw_1615 kw_1616 kw_1617 kw_11 rfl rfl (by decide +kernel) ⟨Nat.le_of_ble_eq_true rfl, Nat.le_of_ble_eq_true rfl⟩) ⟨g_blind, va_recv hKc hPc (ci := 12) (q0 := 0) rfl rfl, fun U hU hW => g_pre hU hW hPc hKc hDc⟩ rfl rfl hl.1 rfl (lv_room (Nat.le_of_ble_eq_true rfl)) d_law_1586 ⟨Nat.le_of_ble_eq_true rfl, Nat.le_of_ble_eq_true rfl⟩) hS (fun q _ h => hFc q h) hFc (fun r_3 u_4 t H1 locs ht hvm hw hB hz1 hk1 hS => ?_)
  obtain ⟨⟩ := u_4
  obtain ⟨hP1, hK1, hD1⟩ := hB
  rw [ht] at hP1
  have hK1 := va_K.moved hvm.symm hK1
  obtain ⟨hP, hD⟩ := va_join (wr := [(o, .inl (ac 7, 1, .inr (.inl u))), (md 39, .inl (mc 0, 8, .inl (fun _ => -1))), (md 1, .inl (mc 1, 8300, .inl (fun _ => 0))), (md 40, .inl (mc 1, 800000, .inl (fun _ => 0))), (md 72, .inl (mc 0, 12010, .inl (fun _ => 0)))]) (w1 := [(md 100, .inr (12, .int (k_key (xs 1)) :: u_2))]) hP hD [5] [0, 1, 2, 3, 4] rfl rfl (by decide) (by decide) hk1 hFc hP1 hD1
  generalize H1 = H at hP hS ⊢
  have hP : va_P D cls [(o, .inl (ac 7, 1, .inr (.inl u))), (md 39, .inl (mc 0, 8, .inl (fun _ => -1))), (md 1, .inl (mc 1, 8300, .inl (fun _ => 0))), (md 40, .inl (mc 1, 800000, .inl (fun _ => 0))), (md 72, .inl (mc 0, 12010, .inl (fun _ => 0))), (md 100, .inr (12, .int (k_key (xs 1)) :: u_2))] H := hP
  have hD : va_D A [(o, .inl (ac 7, 1, .inr (.inl u))), (md 39, .inl (mc 0, 8, .inl (fun _ => -1))), (md 1, .inl (mc 1, 8300, .inl (fun _ => 0))), (md 40, .inl (mc 1, 800000, .inl (fun _ => 0))), (md 72, .inl (mc 0, 12010, .inl (fun _ => 0))), (md 100, .inr (12, .int (k_key (xs 1)) :: u_2))] := hD
  refine W.cs (cells' := 637) (slots' := 1394880) rfl rfl ?_
  subst hw
  refine lv_iload hx hb d_law_1589 (lv_at hl 1 rfl) ?_
  refine lv_icmp_eq (tgt := 1596) hx hb d_law_1591 (by decide) (fun _ => ?_) (fun h => absurd rfl h)
  refine lv_iload hx hb d_law_1596 (lv_at hl 1 rfl) ?_
  refine lv_if_ne (tgt := 1613) hx hb d_law_1598 (by decide) (fun c_5 => ?_) (fun c_5 => ?_)
  · refine lv_goto (tgt := 2391) hx hb d_law_1613 (by decide) ?_
    exact law_tail l hx hb hr hlocks hX hbl hbA hT hS (lv_sub hl [2, 6] rfl) (by decide) (by decide)
  · refine lv_aload_n hx hb d_law_1601 rfl (lv_at hl 3 rfl) ?_
    refine lv_iconst (v := 0) hx hb d_law_1602 (by decide) ?_
    refine va_lald hx hb hK hP 0 7 rfl rfl (i := 0) (vp_in_nI (n := 0) (N := 1) (by decide) (by decide)) d_law_1603 ?_
    refine w_l (y := 0) (hw2 c_5) ?_
    refine lv_iload hx hb d_law_1604 (lv_at hl 0 rfl) ?_
    refine lv_i2l hx hb d_law_1606 rfl ?_
    refine w_l (y := 0) (by first | (rw [hwm c_5]; done) | (rw [hwm c_5]; rfl) | (rw [hwm c_5]; decide)) ?_
    refine W.lcmp hx hb d_law_1607 ?_
    refine w_i (y := 0) (by simp [lg_cmp]) ?_
    refine lv_if_eq (tgt := 1613) hx hb d_law_1608 (by decide) (fun _ => ?_) (fun h => absurd h (by decide))
    refine lv_goto (tgt := 2391) hx hb d_law_1613 (by decide) ?_
    exact law_tail l hx hb hr hlocks hX hbl hbA hT hS (lv_sub hl [2, 6] rfl) (by decide) (by decide)
theorem d_law_1616 : decode code 1616 = .ok (.aload_n 1, 1) := by decide +kernel
theorem d_law_1617 : decode code 1617 = .ok (.aload_n 0, 1) := by decide +kernel
theorem d_law_1618 : decode code 1618 = .ok (.iload 4, 2) := by decide +kernel
theorem d_law_1620 : decode code 1620 = .ok (.iconst 1, 1) := by decide +kernel
theorem d_law_1621 : decode code 1621 = .ok (.iadd, 1) := by decide +kernel
theorem d_law_1622 : decode code 1622 = .ok (.iaload, 1) := by decide +kernel
theorem d_law_1623 : decode code 1623 = .ok (.aload_n 0, 1) := by decide +kernel
theorem d_law_1624 : decode code 1624 = .ok (.iload 4, 2) := by decide +kernel
theorem d_law_1626 : decode code 1626 = .ok (.iconst 2, 1) := by decide +kernel
theorem d_law_1627 : decode code 1627 = .ok (.iadd, 1) := by decide +kernel
theorem d_law_1628 : decode code 1628 = .ok (.iaload, 1) := by decide +kernel
theorem d_law_1629 : decode code 1629 = .ok (.aload_n 0, 1) := by decide +kernel
theorem d_law_1630 : decode code 1630 = .ok (.iload 4, 2) := by decide +kernel
theorem d_law_1632 : decode code 1632 = .ok (.iconst 3, 1) := by decide +kernel
theorem d_law_1633 : decode code 1633 = .ok (.iadd, 1) := by decide +kernel
theorem d_law_1634 : decode code 1634 = .ok (.iaload, 1) := by decide +kernel
theorem d_law_1635 : decode code 1635 = .ok (.aload_n 0, 1) := by decide +kernel
theorem d_law_1636 : decode code 1636 = .ok (.iload 4, 2) := by decide +kernel
theorem d_law_1638 : decode code 1638 = .ok (.iconst 4, 1) := by decide +kernel
theorem d_law_1639 : decode code 1639 = .ok (.iadd, 1) := by decide +kernel
theorem d_law_1640 : decode code 1640 = .ok (.iaload, 1) := by decide +kernel
theorem d_law_1641 : decode code 1641 = .ok (.aload_n 0, 1) := by decide +kernel
theorem d_law_1642 : decode code 1642 = .ok (.iload 4, 2) := by decide +kernel
theorem d_law_1644 : decode code 1644 = .ok (.iconst 5, 1) := by decide +kernel
theorem d_law_1645 : decode code 1645 = .ok (.iadd, 1) := by decide +kernel
theorem d_law_1646 : decode code 1646 = .ok (.iaload, 1) := by decide +kernel
theorem d_law_1647 : decode code 1647 = .ok (.aload_n 3, 1) := by decide +kernel
theorem d_law_1648 : decode code 1648 = .ok (.invokestatic 177, 3) := by decide +kernel
theorem d_law_1651 : decode code 1651 = .ok (.istore 5, 2) := by decide +kernel
theorem d_law_1653 : decode code 1653 = .ok (.aload_n 2, 1) := by decide +kernel
theorem d_law_1654 : decode code 1654 = .ok (.aload_n 0, 1) := by decide +kernel
theorem d_law_1655 : decode code 1655 = .ok (.iload 4, 2) := by decide +kernel
theorem d_law_1657 : decode code 1657 = .ok (.iconst 1, 1) := by decide +kernel
theorem d_law_1658 : decode code 1658 = .ok (.iadd, 1) := by decide +kernel
theorem d_law_1659 : decode code 1659 = .ok (.iaload, 1) := by decide +kernel
theorem d_law_1660 : decode code 1660 = .ok (.aload_n 0, 1) := by decide +kernel
theorem d_law_1661 : decode code 1661 = .ok (.iload 4, 2) := by decide +kernel
theorem d_law_1663 : decode code 1663 = .ok (.iconst 2, 1) := by decide +kernel
theorem d_law_1664 : decode code 1664 = .ok (.iadd, 1) := by decide +kernel
theorem d_law_1665 : decode code 1665 = .ok (.iaload, 1) := by decide +kernel
theorem d_law_1666 : decode code 1666 = .ok (.aload_n 0, 1) := by decide +kernel
theorem d_law_1667 : decode code 1667 = .ok (.iload 4, 2) := by decide +kernel
theorem d_law_1669 : decode code 1669 = .ok (.iconst 3, 1) := by decide +kernel
theorem d_law_1670 : decode code 1670 = .ok (.iadd, 1) := by decide +kernel
theorem d_law_1671 : decode code 1671 = .ok (.iaload, 1) := by decide +kernel
theorem d_law_1672 : decode code 1672 = .ok (.aload_n 0, 1) := by decide +kernel
theorem d_law_1673 : decode code 1673 = .ok (.iload 4, 2) := by decide +kernel
theorem d_law_1675 : decode code 1675 = .ok (.iconst 4, 1) := by decide +kernel
theorem d_law_1676 : decode code 1676 = .ok (.iadd, 1) := by decide +kernel
theorem d_law_1677 : decode code 1677 = .ok (.iaload, 1) := by decide +kernel
theorem d_law_1678 : decode code 1678 = .ok (.aload_n 0, 1) := by decide +kernel
theorem d_law_1679 : decode code 1679 = .ok (.iload 4, 2) := by decide +kernel
theorem d_law_1681 : decode code 1681 = .ok (.iconst 5, 1) := by decide +kernel
theorem d_law_1682 : decode code 1682 = .ok (.iadd, 1) := by decide +kernel
theorem d_law_1683 : decode code 1683 = .ok (.iaload, 1) := by decide +kernel
theorem d_law_1684 : decode code 1684 = .ok (.invokevirtual 179, 3) := by decide +kernel
theorem d_law_1687 : decode code 1687 = .ok (.lstore 6, 2) := by decide +kernel
theorem d_law_1689 : decode code 1689 = .ok (.aload_n 2, 1) := by decide +kernel
theorem d_law_1690 : decode code 1690 = .ok (.invokevirtual 120, 3) := by decide +kernel
theorem d_law_1693 : decode code 1693 = .ok (.iload 5, 2) := by decide +kernel
theorem d_law_1695 : decode code 1695 = .ok (.if_icmp .eq 5, 3) := by decide +kernel
theorem d_law_1700 : decode code 1700 = .ok (.iload 5, 2) := by decide +kernel
theorem d_law_1702 : decode code 1702 = .ok (.ifCond .ne 14, 3) := by decide +kernel
theorem d_law_1716 : decode code 1716 = .ok (.goto 675, 3) := by decide +kernel
theorem d_law_1705 : decode code 1705 = .ok (.aload_n 3, 1) := by decide +kernel
theorem d_law_1706 : decode code 1706 = .ok (.iconst 0, 1) := by decide +kernel
theorem d_law_1707 : decode code 1707 = .ok (.laload, 1) := by decide +kernel
theorem d_law_1708 : decode code 1708 = .ok (.lload 6, 2) := by decide +kernel
theorem d_law_1710 : decode code 1710 = .ok (.lcmp, 1) := by decide +kernel
theorem d_law_1711 : decode code 1711 = .ok (.ifCond .eq 5, 3) := by decide +kernel
set_option maxHeartbeats 4000000 in
set_option maxRecDepth 100000 in
theorem law_c16 {p : Program} {e : Env} {s : State} {m : MethodId} {below : List Frame} {meth : Method} {c : Code} (l : Launch) (hfl : l.flags = flags0) {b : Nat} {xs : Nat → Int32} {D : va_G} {ad : Nat → Nat} {ac : Nat → ClassId} {md : Nat → Nat} {mc : Nat → ClassId} {o : Nat} {H : Heap} {locs : List Loc} {ls : Array Slot} (h : LwS p s m meth c b 7 xs D ad ac md mc o H locs ls) : W p l e room_1 s m #[Value.ref b] below meth c H locs 636 1394874 (lw_Z below #[Value.ref b] s) (F0 m 1616 ls []) := by
  obtain ⟨hx, hb, hr, hml, hown, hts, hX, hbl, hlocks, hev, hP, hK, hD, hS, hl⟩ := h
  have hNS : tx_NS (lA s) s := fun q cell hq hc => absurd (Array.getElem?_eq_some_iff.mp hc).1 (Nat.not_lt.mpr hq)
  have hA : ∀ q : Nat, s.heap.size ≤ q → lA s q := fun _ h => h
  have hT : ∀ q : Nat, lA s q → s.heap.size ≤ q := fun _ h => h
  have hbA : ¬ lA s b := Nat.not_le.mpr hbl
  generalize lA s = A at hev hD hS hNS hA hT hbA
  refine lv_aload_n hx hb d_law_1616 rfl (lv_at hl 3 rfl) ?_
  refine lv_aload_n hx hb d_law_1617 rfl (lv_at hl 4 rfl) ?_
  refine lv_iload hx hb d_law_1618 (lv_at hl 0 rfl) ?_
  refine lv_iconst (v := 1) hx hb d_law_1620 (by decide) ?_
  refine lv_iadd hx hb d_law_1621 ?_
  refine w_i (y := 1) (by decide) ?_
  refine va_sld hx hb hX hbl hbA hS (i := 1) (vp_in_nI (n := 1) (N := 7) (by decide) (by decide)) d_law_1622 ?_
  refine w_i (y := xs 1) rfl ?_
  refine lv_aload_n hx hb d_law_1623 rfl (lv_at hl 4 rfl) ?_
  refine lv_iload hx hb d_law_1624 (lv_at hl 0 rfl) ?_
  refine lv_iconst (v := 2) hx hb d_law_1626 (by decide) ?_
  refine lv_iadd hx hb d_law_1627 ?_
  refine w_i (y := 2) (by decide) ?_
  refine va_sld hx hb hX hbl hbA hS (i := 2) (vp_in_nI (n := 2) (N := 7) (by decide) (by decide)) d_law_1628 ?_
  refine w_i (y := xs 2) rfl ?_
  refine lv_aload_n hx hb d_law_1629 rfl (lv_at hl 4 rfl) ?_
  refine lv_iload hx hb d_law_1630 (lv_at hl 0 rfl) ?_
  refine lv_iconst (v := 3) hx hb d_law_1632 (by decide) ?_
  refine lv_iadd hx hb d_law_1633 ?_
  refine w_i (y := 3) (by decide) ?_
  refine va_sld hx hb hX hbl hbA hS (i := 3) (vp_in_nI (n := 3) (N := 7) (by decide) (by decide)) d_law_1634 ?_
  refine w_i (y := xs 3) rfl ?_
  refine lv_aload_n hx hb d_law_1635 rfl (lv_at hl 4 rfl) ?_
  refine lv_iload hx hb d_law_1636 (lv_at hl 0 rfl) ?_
  refine lv_iconst (v := 4) hx hb d_law_1638 (by decide) ?_
  refine lv_iadd hx hb d_law_1639 ?_
  refine w_i (y := 4) (by decide) ?_
  refine va_sld hx hb hX hbl hbA hS (i := 4) (vp_in_nI (n := 4) (N := 7) (by decide) (by decide)) d_law_1640 ?_
  refine w_i (y := xs 4) rfl ?_
  refine lv_aload_n hx hb d_law_1641 rfl (lv_at hl 4 rfl) ?_
  refine lv_iload hx hb d_law_1642 (lv_at hl 0 rfl) ?_
  refine lv_iconst (v := 5) hx hb d_law_1644 (by decide) ?_
  refine lv_iadd hx hb d_law_1645 ?_
  refine w_i (y := 5) (by decide) ?_
  refine va_sld hx hb hX hbl hbA hS (i := 5) (vp_in_nI (n := 5) (N := 7) (by decide) (by decide)) d_law_1646 ?_
  refine w_i (y := xs 5) rfl ?_
  refine lv_aload_n hx hb d_law_1647 rfl (lv_at hl 1 rfl) ?_
  have hPh := p_l hP
  have hDh := d_l hD
  have hKh := hK.sub (tys' := fxT ac) [0, 1, 2, 3, 4, 5, 6, 7] rfl
  have hFc := fr_all hDh hS hA
  refine va_calli (tx_runSW (As := [.ref (ad 0), .int (xs 1), .int (xs 2), .int (xs 3), .int (xs 4), .int (xs 5), .ref o]) (rest := []) ⟨hx, hb, hml, hown, hts⟩ (h_candidate l hfl D ad ac (fun _ => 0) o (fun _ => 0) H.size (xs 1) (xs 2) (xs 3) (xs 4) (xs 5)) (cw_w 7 hts kw_1139 kw_1137 kw_1138 kw_0 rfl rfl (by decide +kernel) ⟨Nat.le_of_ble_eq_true rfl, Nat.le_of_ble_eq_true rfl⟩) ⟨h_blind, fun U hU hW => h_pre hU hW hPh hKh hDh hev hNS hS hFc⟩ rfl rfl hl.1 rfl (lv_room (Nat.le_of_ble_eq_true rfl)) d_law_1648 ⟨Nat.le_of_ble_eq_true rfl, Nat.le_of_ble_eq_true rfl⟩) hS (fun q _ h => hFc q h) hFc (fun rz u t H1 locs ht hvm hw hB hz1 hk1 hS => ?_)
  obtain ⟨hP1, -, -⟩ := hB
  rw [ht] at hP1
  obtain ⟨hw1, hw2⟩ := hw
  subst hw1
  have hP := hP1.app (p_keep hP hD hk1)
  have hD := d_oc hD (e' := .inl (ac 7, 1, .inr (.inl u)))
  generalize H1 = H at hP hS ⊢
  have hP : va_P D cls [(o, .inl (ac 7, 1, .inr (.inl u))), (md 100, .inr (12, [.int 0, .ref (md 1), .ref (md 2), .ref (md 3), .int 0, .int 0, .int 0, .int 0, .ref (md 8), .ref (md 9), .ref (md 10), .ref (md 11), .ref (md 12), .ref (md 13), .ref (md 14), .ref (md 15), .ref (md 16), .ref (md 17), .ref (md 18), .ref (md 19), .ref (md 20), .ref (md 21), .ref (md 22), .int 0, .ref (md 24), .int 0, .ref (md 26), .int 0, .ref (md 28), .ref (md 29), .ref (md 30), .ref (md 31), .ref (md 32), .ref (md 33), .int 0, .int 0, .ref (md 36), .ref (md 37), .ref (md 38), .ref (md 39), .ref (md 40), .int 0, .int (-1), .int 0, .ref (md 44), .ref (md 45), .ref (md 46), .int 0, .ref (md 48), .ref (md 49), .int 0, .ref (md 51), .int 0, .ref (md 53), .ref (md 54), .ref (md 55), .ref (md 56), .ref (md 57), .ref (md 58), .ref (md 59), .ref (md 60), .ref (md 61), .ref (md 62), .ref (md 63), .int 0, .int 0, .int 0, .int 0, .int 0, .int 0, .ref (md 70), .int 0, .ref (md 72), .int 0, .int 400000, .int 0, .int 0])), (md 39, .inl (mc 0, 8, .inl (fun _ => -1))), (md 1, .inl (mc 1, 8300, .inl (fun _ => 0))), (md 40, .inl (mc 1, 800000, .inl (fun _ => 0))), (md 72, .inl (mc 0, 12010, .inl (fun _ => 0)))] H := hP
  have hD : va_D A [(o, .inl (ac 7, 1, .inr (.inl u))), (md 100, .inr (12, [.int 0, .ref (md 1), .ref (md 2), .ref (md 3), .int 0, .int 0, .int 0, .int 0, .ref (md 8), .ref (md 9), .ref (md 10), .ref (md 11), .ref (md 12), .ref (md 13), .ref (md 14), .ref (md 15), .ref (md 16), .ref (md 17), .ref (md 18), .ref (md 19), .ref (md 20), .ref (md 21), .ref (md 22), .int 0, .ref (md 24), .int 0, .ref (md 26), .int 0, .ref (md 28), .ref (md 29), .ref (md 30), .ref (md 31), .ref (md 32), .ref (md 33), .int 0, .int 0, .ref (md 36), .ref (md 37), .ref (md 38), .ref (md 39), .ref (md 40), .int 0, .int (-1), .int 0, .ref (md 44), .ref (md 45), .ref (md 46), .int 0, .ref (md 48), .ref (md 49), .int 0, .ref (md 51), .int 0, .ref (md 53), .ref (md 54), .ref (md 55), .ref (md 56), .ref (md 57), .ref (md 58), .ref (md 59), .ref (md 60), .ref (md 61), .ref (md 62), .ref (md 63), .int 0, .int 0, .int 0, .int 0, .int 0, .int 0, .ref (md 70), .int 0, .ref (md 72), .int 0, .int 400000, .int 0, .int 0])), (md 39, .inl (mc 0, 8, .inl (fun _ => -1))), (md 1, .inl (mc 1, 8300, .inl (fun _ => 0))), (md 40, .inl (mc 1, 800000, .inl (fun _ => 0))), (md 72, .inl (mc 0, 12010, .inl (fun _ => 0)))] := hD
  refine W.cs (cells' := 637) (slots' := 1394880) rfl rfl ?_
  refine lv_istore (lv' := [(5, .int (k_can (xs 1) (xs 2) (xs 3) (xs 5))), (4, .int 0), (3, .ref o), (2, .ref (md 100)), (1, .ref (ad 0)), (0, .ref b)]) hx hb d_law_1651 hl (by decide) rfl (fun ls hl => ?_)
  refine lv_aload_n hx hb d_law_1653 rfl (lv_at hl 3 rfl) ?_
  refine lv_aload_n hx hb d_law_1654 rfl (lv_at hl 5 rfl) ?_
  refine lv_iload hx hb d_law_1655 (lv_at hl 1 rfl) ?_
  refine lv_iconst (v := 1) hx hb d_law_1657 (by decide) ?_
  refine lv_iadd hx hb d_law_1658 ?_
  refine w_i (y := 1) (by decide) ?_
  refine va_sld hx hb hX hbl hbA hS (i := 1) (vp_in_nI (n := 1) (N := 7) (by decide) (by decide)) d_law_1659 ?_
  refine w_i (y := xs 1) rfl ?_
  refine lv_aload_n hx hb d_law_1660 rfl (lv_at hl 5 rfl) ?_
  refine lv_iload hx hb d_law_1661 (lv_at hl 1 rfl) ?_
  refine lv_iconst (v := 2) hx hb d_law_1663 (by decide) ?_
  refine lv_iadd hx hb d_law_1664 ?_
  refine w_i (y := 2) (by decide) ?_
  refine va_sld hx hb hX hbl hbA hS (i := 2) (vp_in_nI (n := 2) (N := 7) (by decide) (by decide)) d_law_1665 ?_
  refine w_i (y := xs 2) rfl ?_
  refine lv_aload_n hx hb d_law_1666 rfl (lv_at hl 5 rfl) ?_
  refine lv_iload hx hb d_law_1667 (lv_at hl 1 rfl) ?_
  refine lv_iconst (v := 3) hx hb d_law_1669 (by decide) ?_
  refine lv_iadd hx hb d_law_1670 ?_
  refine w_i (y := 3) (by decide) ?_
  refine va_sld hx hb hX hbl hbA hS (i := 3) (vp_in_nI (n := 3) (N := 7) (by decide) (by decide)) d_law_1671 ?_
  refine w_i (y := xs 3) rfl ?_
  refine lv_aload_n hx hb d_law_1672 rfl (lv_at hl 5 rfl) ?_
  refine lv_iload hx hb d_law_1673 (lv_at hl 1 rfl) ?_
  refine lv_iconst (v := 4) hx hb d_law_1675 (by decide) ?_
  refine lv_iadd hx hb d_law_1676 ?_
  refine w_i (y := 4) (by decide) ?_
  refine va_sld hx hb hX hbl hbA hS (i := 4) (vp_in_nI (n := 4) (N := 7) (by decide) (by decide)) d_law_1677 ?_
  refine w_i (y := xs 4) rfl ?_
  refine lv_aload_n hx hb d_law_1678 rfl (lv_at hl 5 rfl) ?_
  refine lv_iload hx hb d_law_1679 (lv_at hl 1 rfl) ?_
  refine lv_iconst (v := 5) hx hb d_law_1681 (by decide) ?_
  refine lv_iadd hx hb d_law_1682 ?_
  refine w_i (y := 5) (by decide) ?_
  refine va_sld hx hb hX hbl hbA hS (i := 5) (vp_in_nI (n := 5) (N := 7) (by decide) (by decide)) d_law_1683 ?_
  refine w_i (y := xs 5) rfl ?_
  have hPc := hP.sub (ws' := [(md 100, .inr (12, [.int 0, .ref (md 1), .ref (md 2), .ref (md 3), .int 0, .int 0, .int 0, .int 0, .ref (md 8), .ref (md 9), .ref (md 10), .ref (md 11), .ref (md 12), .ref (md 13), .ref (md 14), .ref (md 15), .ref (md 16), .ref (md 17), .ref (md 18), .ref (md 19), .ref (md 20), .ref (md 21), .ref (md 22), .int 0, .ref (md 24), .int 0, .ref (md 26), .int 0, .ref (md 28), .ref (md 29), .ref (md 30), .ref (md 31), .ref (md 32), .ref (md 33), .int 0, .int 0, .ref (md 36), .ref (md 37), .ref (md 38), .ref (md 39), .ref (md 40), .int 0, .int (-1), .int 0, .ref (md 44), .ref (md 45), .ref (md 46), .int 0, .ref (md 48), .ref (md 49), .int 0, .ref (md 51), .int 0, .ref (md 53), .ref (md 54), .ref (md 55), .ref (md 56), .ref (md 57), .ref (md 58), .ref (md 59), .ref (md 60), .ref (md 61), .ref (md 62), .ref (md 63), .int 0, .int 0, .int 0, .int 0, .int 0, .int 0, .ref (md 70), .int 0, .ref (md 72), .int 0, .int 400000, .int 0, .int 0]))]) [1] rfl
  have hDc := hD.sub (ws' := [(md 100, .inr (12, [.int 0, .ref (md 1), .ref (md 2), .ref (md 3), .int 0, .int 0, .int 0, .int 0, .ref (md 8), .ref (md 9), .ref (md 10), .ref (md 11), .ref (md 12), .ref (md 13), .ref (md 14), .ref (md 15), .ref (md 16), .ref (md 17), .ref (md 18), .ref (md 19), .ref (md 20), .ref (md 21), .ref (md 22), .int 0, .ref (md 24), .int 0, .ref (md 26), .int 0, .ref (md 28), .ref (md 29), .ref (md 30), .ref (md 31), .ref (md 32), .ref (md 33), .int 0, .int 0, .ref (md 36), .ref (md 37), .ref (md 38), .ref (md 39), .ref (md 40), .int 0, .int (-1), .int 0, .ref (md 44), .ref (md 45), .ref (md 46), .int 0, .ref (md 48), .ref (md 49), .int 0, .ref (md 51), .int 0, .ref (md 53), .ref (md 54), .ref (md 55), .ref (md 56), .ref (md 57), .ref (md 58), .ref (md 59), .ref (md 60), .ref (md 61), .ref (md 62), .ref (md 63), .int 0, .int 0, .int 0, .int 0, .int 0, .int 0, .ref (md 70), .int 0, .ref (md 72), .int 0, .int 400000, .int 0, .int 0]))]) [1] (by decide) rfl
  have hKc := hK.sub (tys' := []) [] rfl
  have hFc := va_free (wc := [(md 100, .inr (12, [.int 0, .ref (md 1), .ref (md 2), .ref (md 3), .int 0, .int 0, .int 0, .int 0, .ref (md 8), .ref (md 9), .ref (md 10), .ref (md 11), .ref (md 12), .ref (md 13), .ref (md 14), .ref (md 15), .ref (md 16), .ref (md 17), .ref (md 18), .ref (md 19), .ref (md 20), .ref (md 21), .ref (md 22), .int 0, .ref (md 24), .int 0, .ref (md 26), .int 0, .ref (md 28), .ref (md 29), .ref (md 30), .ref (md 31), .ref (md 32), .ref (md 33), .int 0, .int 0, .ref (md 36), .ref (md 37), .ref (md 38), .ref (md 39), .ref (md 40), .int 0, .int (-1), .int 0, .ref (md 44), .ref (md 45), .ref (md 46), .int 0, .ref (md 48), .ref (md 49), .int 0, .ref (md 51), .int 0, .ref (md 53), .ref (md 54), .ref (md 55), .ref (md 56), .ref (md 57), .ref (md 58), .ref (md 59), .ref (md 60), .ref (md 61), .ref (md 62), .ref (md 63), .int 0, .int 0, .int 0, .int 0, .int 0, .int 0, .ref (md 70), .int 0, .ref (md 72), .int 0, .int 400000, .int 0, .int 0]))]) hD hS hA [1] rfl
  refine va_calll (va_runV (As := [.int (xs 1), .int (xs 2), .int (xs 3), .int (xs 4), .int (xs 5)]) (rest := []) ⟨hx, hb, hml, hown, hts⟩ (g_p_candidate l D H.size md mc (xs 1) (xs 2) (xs 3) (xs 4) (xs 5)) (cw_v 5 hts kw_1875 kw_1872 kw_1873 kw_1874 kw_11 rfl rfl (by decide +kernel) ⟨Nat.le_of_ble_eq_true rfl, Nat.le_of_ble_eq_true rfl⟩) ⟨g_blind, va_recv hKc hPc (ci := 12) (q0 := 0) rfl rfl, fun U hU hW => g_pre hU hW hPc hKc hDc⟩ rfl rfl hl.1 rfl (lv_room (Nat.le_of_ble_eq_true rfl)) d_law_1684 ⟨Nat.le_of_ble_eq_true rfl, Nat.le_of_ble_eq_true rfl⟩) hS (fun q _ h => hFc q h) hFc (fun r_1 u_2 t H1 locs ht hvm hw hB hz1 hk1 hS => ?_)
  obtain ⟨hP1, hK1, hD1⟩ := hB
  rw [ht] at hP1
  have hK1 := va_K.moved hvm.symm hK1
  obtain ⟨hP, hD⟩ := va_join (wr := [(o, .inl (ac 7, 1, .inr (.inl u))), (md 39, .inl (mc 0, 8, .inl (fun _ => -1))), (md 1, .inl (mc 1, 8300, .inl (fun _ => 0))), (md 40, .inl (mc 1, 800000, .inl (fun _ => 0))), (md 72, .inl (mc 0, 12010, .inl (fun _ => 0)))]) (w1 := [(md 100, .inr (12, .int (k_can (xs 1) (xs 2) (xs 3) (xs 5)) :: u_2))]) hP hD [1] [0, 2, 3, 4, 5] rfl rfl (by decide) (by decide) hk1 hFc hP1 hD1
  generalize H1 = H at hP hS ⊢
  have hP : va_P D cls [(o, .inl (ac 7, 1, .inr (.inl u))), (md 39, .inl (mc 0, 8, .inl (fun _ => -1))), (md 1, .inl (mc 1, 8300, .inl (fun _ => 0))), (md 40, .inl (mc 1, 800000, .inl (fun _ => 0))), (md 72, .inl (mc 0, 12010, .inl (fun _ => 0))), (md 100, .inr (12, .int (k_can (xs 1) (xs 2) (xs 3) (xs 5)) :: u_2))] H := hP
  have hD : va_D A [(o, .inl (ac 7, 1, .inr (.inl u))), (md 39, .inl (mc 0, 8, .inl (fun _ => -1))), (md 1, .inl (mc 1, 8300, .inl (fun _ => 0))), (md 40, .inl (mc 1, 800000, .inl (fun _ => 0))), (md 72, .inl (mc 0, 12010, .inl (fun _ => 0))), (md 100, .inr (12, .int (k_can (xs 1) (xs 2) (xs 3) (xs 5)) :: u_2))] := hD
  refine W.cs (cells' := 637) (slots' := 1394880) rfl rfl ?_
  have hwm := hw
  refine lv_lstore (lv' := [(6, .long r_1), (5, .int (k_can (xs 1) (xs 2) (xs 3) (xs 5))), (4, .int 0), (3, .ref o), (2, .ref (md 100)), (1, .ref (ad 0)), (0, .ref b)]) hx hb d_law_1687 hl (by decide) rfl (fun ls hl => ?_)
  refine lv_aload_n hx hb d_law_1689 rfl (lv_at hl 4 rfl) ?_
  have hPc := hP.sub (ws' := [(md 100, .inr (12, .int (k_can (xs 1) (xs 2) (xs 3) (xs 5)) :: u_2))]) [5] rfl
  have hDc := hD.sub (ws' := [(md 100, .inr (12, .int (k_can (xs 1) (xs 2) (xs 3) (xs 5)) :: u_2))]) [5] (by decide) rfl
  have hKc := hK.sub (tys' := []) [] rfl
  have hFc := va_free (wc := [(md 100, .inr (12, .int (k_can (xs 1) (xs 2) (xs 3) (xs 5)) :: u_2))]) hD hS hA [5] rfl
  refine va_calli (va_runV (As := []) (rest := []) ⟨hx, hb, hml, hown, hts⟩ (g_thr l D H.size md mc (k_can (xs 1) (xs 2) (xs 3) (xs 5)) u_2) (cw_v 0 hts kw_1618 kw_1615 kw_1616 kw_1617 kw_11 rfl rfl (by decide +kernel) ⟨Nat.le_of_ble_eq_true rfl, Nat.le_of_ble_eq_true rfl⟩) ⟨g_blind, va_recv hKc hPc (ci := 12) (q0 := 0) rfl rfl, fun U hU hW => g_pre hU hW hPc hKc hDc⟩ rfl rfl hl.1 rfl (lv_room (Nat.le_of_ble_eq_true rfl)) d_law_1690 ⟨Nat.le_of_ble_eq_true rfl, Nat.le_of_ble_eq_true rfl⟩) hS (fun q _ h => hFc q h) hFc (fun r_3 u_4 t H1 locs ht hvm hw hB hz1 hk1 hS => ?_)
  obtain ⟨⟩ := u_4
  obtain ⟨hP1, hK1, hD1⟩ := hB
  rw [ht] at hP1
  have hK1 := va_K.moved hvm.symm hK1
  obtain ⟨hP, hD⟩ := va_join (wr := [(o, .inl (ac 7, 1, .inr (.inl u))), (md 39, .inl (mc 0, 8, .inl (fun _ => -1))), (md 1, .inl (mc 1, 8300, .inl (fun _ => 0))), (md 40, .inl (mc 1, 800000, .inl (fun _ => 0))), (md 72, .inl (mc 0, 12010, .inl (fun _ => 0)))]) (w1 := [(md 100, .inr (12, .int (k_can (xs 1) (xs 2) (xs 3) (xs 5)) :: u_2))]) hP hD [5] [0, 1, 2, 3, 4] rfl rfl (by decide) (by decide) hk1 hFc hP1 hD1
  generalize H1 = H at hP hS ⊢
  have hP : va_P D cls [(o, .inl (ac 7, 1, .inr (.inl u))), (md 39, .inl (mc 0, 8, .inl (fun _ => -1))), (md 1, .inl (mc 1, 8300, .inl (fun _ => 0))), (md 40, .inl (mc 1, 800000, .inl (fun _ => 0))), (md 72, .inl (mc 0, 12010, .inl (fun _ => 0))), (md 100, .inr (12, .int (k_can (xs 1) (xs 2) (xs 3) (xs 5)) :: u_2))] H := hP
  have hD : va_D A [(o, .inl (ac 7, 1, .inr (.inl u))), (md 39, .inl (mc 0, 8, .inl (fun _ => -1))), (md 1, .inl (mc 1, 8300, .inl (fun _ => 0))), (md 40, .inl (mc 1, 800000, .inl (fun _ => 0))), (md 72, .inl (mc 0, 12010, .inl (fun _ => 0))), (md 100, .inr (12, .int (k_can (xs 1) (xs 2) (xs 3) (xs 5)) :: u_2))] := hD
  refine W.cs (cells' := 637) (slots' := 1394880) rfl rfl ?_
  subst hw
  refine lv_iload hx hb d_law_1693 (lv_at hl 1 rfl) ?_
  refine lv_icmp_eq (tgt := 1700) hx hb d_law_1695 (by decide) (fun _ => ?_) (fun h => absurd rfl h)
  refine lv_iload hx hb d_law_1700 (lv_at hl 1 rfl) ?_
  refine lv_if_ne (tgt := 1716) hx hb d_law_1702 (by decide) (fun c_5 => ?_) (fun c_5 => ?_)
  · refine lv_goto (tgt := 2391) hx hb d_law_1716 (by decide) ?_
    exact law_tail l hx hb hr hlocks hX hbl hbA hT hS (lv_sub hl [2, 6] rfl) (by decide) (by decide)
  · refine lv_aload_n hx hb d_law_1705 rfl (lv_at hl 3 rfl) ?_
    refine lv_iconst (v := 0) hx hb d_law_1706 (by decide) ?_
    refine va_lald hx hb hK hP 0 7 rfl rfl (i := 0) (vp_in_nI (n := 0) (N := 1) (by decide) (by decide)) d_law_1707 ?_
    refine w_l (y := 0) (hw2 c_5) ?_
    refine lv_lload hx hb d_law_1708 (lv_at hl 0 rfl) ?_
    refine w_l (y := 0) (hwm c_5) ?_
    refine W.lcmp hx hb d_law_1710 ?_
    refine w_i (y := 0) (by simp [lg_cmp]) ?_
    refine lv_if_eq (tgt := 1716) hx hb d_law_1711 (by decide) (fun _ => ?_) (fun h => absurd h (by decide))
    refine lv_goto (tgt := 2391) hx hb d_law_1716 (by decide) ?_
    exact law_tail l hx hb hr hlocks hX hbl hbA hT hS (lv_sub hl [2, 6] rfl) (by decide) (by decide)
