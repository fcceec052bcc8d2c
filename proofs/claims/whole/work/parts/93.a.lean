theorem d_law_168 : decode code 168 = .ok (.aload_n 1, 1) := by decide +kernel
theorem d_law_169 : decode code 169 = .ok (.aload_n 0, 1) := by decide +kernel
theorem d_law_170 : decode code 170 = .ok (.iload 4, 2) := by decide +kernel
theorem d_law_172 : decode code 172 = .ok (.iconst 1, 1) := by decide +kernel
theorem d_law_173 : decode code 173 = .ok (.iadd, 1) := by decide +kernel
theorem d_law_174 : decode code 174 = .ok (.iaload, 1) := by decide +kernel
theorem d_law_175 : decode code 175 = .ok (.aload_n 0, 1) := by decide +kernel
theorem d_law_176 : decode code 176 = .ok (.iload 4, 2) := by decide +kernel
theorem d_law_178 : decode code 178 = .ok (.iconst 2, 1) := by decide +kernel
theorem d_law_179 : decode code 179 = .ok (.iadd, 1) := by decide +kernel
theorem d_law_180 : decode code 180 = .ok (.iaload, 1) := by decide +kernel
theorem d_law_181 : decode code 181 = .ok (.aload_n 0, 1) := by decide +kernel
theorem d_law_182 : decode code 182 = .ok (.iload 4, 2) := by decide +kernel
theorem d_law_184 : decode code 184 = .ok (.iconst 3, 1) := by decide +kernel
theorem d_law_185 : decode code 185 = .ok (.iadd, 1) := by decide +kernel
theorem d_law_186 : decode code 186 = .ok (.iaload, 1) := by decide +kernel
theorem d_law_187 : decode code 187 = .ok (.aload_n 0, 1) := by decide +kernel
theorem d_law_188 : decode code 188 = .ok (.iload 4, 2) := by decide +kernel
theorem d_law_190 : decode code 190 = .ok (.iconst 4, 1) := by decide +kernel
theorem d_law_191 : decode code 191 = .ok (.iadd, 1) := by decide +kernel
theorem d_law_192 : decode code 192 = .ok (.iaload, 1) := by decide +kernel
theorem d_law_193 : decode code 193 = .ok (.aload_n 0, 1) := by decide +kernel
theorem d_law_194 : decode code 194 = .ok (.iload 4, 2) := by decide +kernel
theorem d_law_196 : decode code 196 = .ok (.iconst 5, 1) := by decide +kernel
theorem d_law_197 : decode code 197 = .ok (.iadd, 1) := by decide +kernel
theorem d_law_198 : decode code 198 = .ok (.iaload, 1) := by decide +kernel
theorem d_law_199 : decode code 199 = .ok (.aload_n 3, 1) := by decide +kernel
theorem d_law_200 : decode code 200 = .ok (.invokestatic 114, 3) := by decide +kernel
theorem d_law_203 : decode code 203 = .ok (.istore 5, 2) := by decide +kernel
theorem d_law_205 : decode code 205 = .ok (.aload_n 2, 1) := by decide +kernel
theorem d_law_206 : decode code 206 = .ok (.aload_n 0, 1) := by decide +kernel
theorem d_law_207 : decode code 207 = .ok (.iload 4, 2) := by decide +kernel
theorem d_law_209 : decode code 209 = .ok (.iconst 1, 1) := by decide +kernel
theorem d_law_210 : decode code 210 = .ok (.iadd, 1) := by decide +kernel
theorem d_law_211 : decode code 211 = .ok (.iaload, 1) := by decide +kernel
theorem d_law_212 : decode code 212 = .ok (.aload_n 0, 1) := by decide +kernel
theorem d_law_213 : decode code 213 = .ok (.iload 4, 2) := by decide +kernel
theorem d_law_215 : decode code 215 = .ok (.iconst 2, 1) := by decide +kernel
theorem d_law_216 : decode code 216 = .ok (.iadd, 1) := by decide +kernel
theorem d_law_217 : decode code 217 = .ok (.iaload, 1) := by decide +kernel
theorem d_law_218 : decode code 218 = .ok (.aload_n 0, 1) := by decide +kernel
theorem d_law_219 : decode code 219 = .ok (.iload 4, 2) := by decide +kernel
theorem d_law_221 : decode code 221 = .ok (.iconst 3, 1) := by decide +kernel
theorem d_law_222 : decode code 222 = .ok (.iadd, 1) := by decide +kernel
theorem d_law_223 : decode code 223 = .ok (.iaload, 1) := by decide +kernel
theorem d_law_224 : decode code 224 = .ok (.aload_n 0, 1) := by decide +kernel
theorem d_law_225 : decode code 225 = .ok (.iload 4, 2) := by decide +kernel
theorem d_law_227 : decode code 227 = .ok (.iconst 4, 1) := by decide +kernel
theorem d_law_228 : decode code 228 = .ok (.iadd, 1) := by decide +kernel
theorem d_law_229 : decode code 229 = .ok (.iaload, 1) := by decide +kernel
theorem d_law_230 : decode code 230 = .ok (.aload_n 0, 1) := by decide +kernel
theorem d_law_231 : decode code 231 = .ok (.iload 4, 2) := by decide +kernel
theorem d_law_233 : decode code 233 = .ok (.iconst 5, 1) := by decide +kernel
theorem d_law_234 : decode code 234 = .ok (.iadd, 1) := by decide +kernel
theorem d_law_235 : decode code 235 = .ok (.iaload, 1) := by decide +kernel
theorem d_law_236 : decode code 236 = .ok (.invokevirtual 119, 3) := by decide +kernel
theorem d_law_239 : decode code 239 = .ok (.istore 6, 2) := by decide +kernel
theorem d_law_241 : decode code 241 = .ok (.aload_n 2, 1) := by decide +kernel
theorem d_law_242 : decode code 242 = .ok (.invokevirtual 120, 3) := by decide +kernel
theorem d_law_245 : decode code 245 = .ok (.iload 5, 2) := by decide +kernel
theorem d_law_247 : decode code 247 = .ok (.if_icmp .eq 5, 3) := by decide +kernel
theorem d_law_252 : decode code 252 = .ok (.iload 5, 2) := by decide +kernel
theorem d_law_254 : decode code 254 = .ok (.ifCond .ne 15, 3) := by decide +kernel
theorem d_law_269 : decode code 269 = .ok (.goto 2122, 3) := by decide +kernel
theorem d_law_257 : decode code 257 = .ok (.aload_n 3, 1) := by decide +kernel
theorem d_law_258 : decode code 258 = .ok (.iconst 0, 1) := by decide +kernel
theorem d_law_259 : decode code 259 = .ok (.laload, 1) := by decide +kernel
theorem d_law_260 : decode code 260 = .ok (.iload 6, 2) := by decide +kernel
theorem d_law_262 : decode code 262 = .ok (.i2l, 1) := by decide +kernel
theorem d_law_263 : decode code 263 = .ok (.lcmp, 1) := by decide +kernel
theorem d_law_264 : decode code 264 = .ok (.ifCond .eq 5, 3) := by decide +kernel
set_option maxHeartbeats 8000000 in
set_option maxRecDepth 100000 in
theorem law_k0 {p : Program} {e : Env} {s : State} {m : MethodId} {below : List Frame} {meth : Method} {c : Code} (l : Launch) (hfl : l.flags = flags0) {b L i : Nat} {xs : Nat → Int32} {D : va_G} {cc : Nat → ClassId} {md : Nat → Nat} {mc : Nat → ClassId} {o : Nat} {cL : ClassId} {sad sav : Nat → Nat} {ad : Nat → Nat → Nat} {ov : Nat → Int64} {N : Nat → Nat} {C : CS} {S : MS} {A : AS} {rd cells slots : Nat} {H : Heap} {locs : List Loc} {ls : Array Slot} (h : LwW p s m meth c b L xs D cc md mc o cL sad sav i ad ov N C S A rd H locs ls) (hi7 : i + 7 ≤ L) (hrd : rd + 60000 < 2 ^ 30) (hcb : cells ≤ 500000) (hsb : slots ≤ 6000000) (hk : ∀ (ad1 : Nat → Nat → Nat) (ov1 : Nat → Int64) (N1 : Nat → Nat) (C1 : CS) (S1 : MS) (A1 : AS) (rd1 c1 z1 : Nat) (H1 : Heap) (locs1 : List Loc) (ls1 : Array Slot), LwW p s m meth c b L xs D cc md mc o cL sad sav i ad1 ov1 N1 C1 S1 A1 rd1 H1 locs1 ls1 → A.n ≤ A1.n → A.m ≤ A1.m → rd1 ≤ rd + 50000 → c1 ≤ 2 * (A1.n - A.n) + 3 * (A1.m - A.m) + 1 → z1 ≤ 23 * (A1.n - A.n) + 40 * (A1.m - A.m) + 6 → W p l e room_1 s m #[Value.ref b] below meth c H1 locs1 (cells + c1) (slots + z1) (lw_Z below #[Value.ref b] s) (F0 m 2391 ls1 [])) : W p l e room_1 s m #[Value.ref b] below meth c H locs cells slots (lw_Z below #[Value.ref b] s) (F0 m 168 ls []) := by
  obtain ⟨⟨hx, hb, hr, hml, hown, hts, hX, hbl, hlocks, hL⟩, ⟨hev, hE, hN, hH⟩, ⟨hP, hK, hD, hS, hl⟩, hI⟩ := h
  have hNS : tx_NS (lA s) s := fun q cell hq hc => absurd (Array.getElem?_eq_some_iff.mp hc).1 (Nat.not_lt.mpr hq)
  have hA : ∀ q : Nat, s.heap.size ≤ q → lA s q := fun _ h => h
  have hbA : ¬ lA s b := Nat.not_le.mpr hbl
  have h11 : N 11 = 1 := hI.2.1.nn.2.2.2.2.2.2.2.2.2.2.2.1
  refine lv_aload_n hx hb d_law_168 rfl (lv_at hl 3 rfl) ?_
  refine lv_aload_n hx hb d_law_169 rfl (lv_at hl 4 rfl) ?_
  refine lv_iload hx hb d_law_170 (lv_at hl 0 rfl) ?_
  refine lv_iconst (v := 1) hx hb d_law_172 (by decide) ?_
  refine lv_iadd hx hb d_law_173 ?_
  refine w_i (y := nI (i + 1)) (nI_add i 1) ?_
  refine va_sld hx hb hX hbl hbA hS (i := nI (i + 1)) (vp_in_nI (n := i + 1) (N := L) (by omega) (by omega)) d_law_174 ?_
  refine w_i (y := xs (i + 1)) (by rw [cl_nI (by omega)]) ?_
  refine lv_aload_n hx hb d_law_175 rfl (lv_at hl 4 rfl) ?_
  refine lv_iload hx hb d_law_176 (lv_at hl 0 rfl) ?_
  refine lv_iconst (v := 2) hx hb d_law_178 (by decide) ?_
  refine lv_iadd hx hb d_law_179 ?_
  refine w_i (y := nI (i + 2)) (nI_add i 2) ?_
  refine va_sld hx hb hX hbl hbA hS (i := nI (i + 2)) (vp_in_nI (n := i + 2) (N := L) (by omega) (by omega)) d_law_180 ?_
  refine w_i (y := xs (i + 2)) (by rw [cl_nI (by omega)]) ?_
  refine lv_aload_n hx hb d_law_181 rfl (lv_at hl 4 rfl) ?_
  refine lv_iload hx hb d_law_182 (lv_at hl 0 rfl) ?_
  refine lv_iconst (v := 3) hx hb d_law_184 (by decide) ?_
  refine lv_iadd hx hb d_law_185 ?_
  refine w_i (y := nI (i + 3)) (nI_add i 3) ?_
  refine va_sld hx hb hX hbl hbA hS (i := nI (i + 3)) (vp_in_nI (n := i + 3) (N := L) (by omega) (by omega)) d_law_186 ?_
  refine w_i (y := xs (i + 3)) (by rw [cl_nI (by omega)]) ?_
  refine lv_aload_n hx hb d_law_187 rfl (lv_at hl 4 rfl) ?_
  refine lv_iload hx hb d_law_188 (lv_at hl 0 rfl) ?_
  refine lv_iconst (v := 4) hx hb d_law_190 (by decide) ?_
  refine lv_iadd hx hb d_law_191 ?_
  refine w_i (y := nI (i + 4)) (nI_add i 4) ?_
  refine va_sld hx hb hX hbl hbA hS (i := nI (i + 4)) (vp_in_nI (n := i + 4) (N := L) (by omega) (by omega)) d_law_192 ?_
  refine w_i (y := xs (i + 4)) (by rw [cl_nI (by omega)]) ?_
  refine lv_aload_n hx hb d_law_193 rfl (lv_at hl 4 rfl) ?_
  refine lv_iload hx hb d_law_194 (lv_at hl 0 rfl) ?_
  refine lv_iconst (v := 5) hx hb d_law_196 (by decide) ?_
  refine lv_iadd hx hb d_law_197 ?_
  refine w_i (y := nI (i + 5)) (nI_add i 5) ?_
  refine va_sld hx hb hX hbl hbA hS (i := nI (i + 5)) (vp_in_nI (n := i + 5) (N := L) (by omega) (by omega)) d_law_198 ?_
  refine w_i (y := xs (i + 5)) (by rw [cl_nI (by omega)]) ?_
  refine lv_aload_n hx hb d_law_199 rfl (lv_at hl 1 rfl) ?_
  obtain ⟨N1, C1, ov1, kk, c1, z1, S1, bb, A1, rd1, e1, e2, e3, e4, hI1, e5, e6, e7, e8, e9⟩ := st_feed (ov := ov) hI hrd (xs (i + 1)) (xs (i + 2)) (xs (i + 3)) (xs (i + 4)) (xs (i + 5))
  have hn1 := hI1.2.2.1.1.1
  have hm1 := hI1.2.2.1.1.2.1
  have hPh := p_l hP
  have hDh := d_l hD
  have hKh := hK.sub (tys' := cty cc ++ [(cL, .long)]) [0, 1, 2, 3, 4, 5, 6, 7] rfl
  have hFc := fr_all hDh hS hA
  refine va_calli (tx_runSW (As := [.ref (ad 11 0), .int (xs (i + 1)), .int (xs (i + 2)), .int (xs (i + 3)), .int (xs (i + 4)), .int (xs (i + 5)), .ref o]) (rest := []) ⟨hx, hb, hml, hown, hts⟩ (g_h_feed l hfl D H.size (ad := ad) (cc := cc) (sad := sad) (sav := sav) (cL := cL) (a := o) e1) (cw_w 7 hts kw_467 kw_465 kw_466 kw_0 rfl rfl (by decide +kernel) ⟨Nat.le_of_ble_eq_true rfl, Nat.le_of_ble_eq_true rfl⟩) ⟨h_blind, fun U hU hW => h_pre hU hW hPh hKh hDh hev hE hN hH hNS hS hFc⟩ rfl rfl hl.1 rfl (lv_room (Nat.le_of_ble_eq_true rfl)) d_law_200 ⟨by show cells + c1 ≤ 601024; omega, by show slots + z1 ≤ 7293034; omega⟩) hS (fun q _ h => hFc q h) hFc (fun rz ad1 t H1 locs ht hvm hw hB hz1 hk1 hS => ?_)
  obtain ⟨hXt, hP1, -, hD1⟩ := hB
  rw [ht] at hP1
  obtain ⟨hP, hD⟩ := join_w hP hD hk1 hFc hP1 hD1
  refine w_i (y := kk) hw ?_
  have had : ad1 11 0 = ad 11 0 := hXt.2 11 0 (by rw [h11]; decide)
  rw [← had] at hl
  generalize H1 = H at hP hS ⊢
  refine W.cs (cells' := cells + c1) (slots' := slots + z1) rfl rfl ?_
  refine lv_istore (lv' := [(5, .int kk), (4, .int (nI i)), (3, .ref o), (2, .ref (md 100)), (1, .ref (ad1 11 0)), (0, .ref b)]) hx hb d_law_203 hl (by decide) rfl (fun ls hl => ?_)
  refine lv_aload_n hx hb d_law_205 rfl (lv_at hl 3 rfl) ?_
  refine lv_aload_n hx hb d_law_206 rfl (lv_at hl 5 rfl) ?_
  refine lv_iload hx hb d_law_207 (lv_at hl 1 rfl) ?_
  refine lv_iconst (v := 1) hx hb d_law_209 (by decide) ?_
  refine lv_iadd hx hb d_law_210 ?_
  refine w_i (y := nI (i + 1)) (nI_add i 1) ?_
  refine va_sld hx hb hX hbl hbA hS (i := nI (i + 1)) (vp_in_nI (n := i + 1) (N := L) (by omega) (by omega)) d_law_211 ?_
  refine w_i (y := xs (i + 1)) (by rw [cl_nI (by omega)]) ?_
  refine lv_aload_n hx hb d_law_212 rfl (lv_at hl 5 rfl) ?_
  refine lv_iload hx hb d_law_213 (lv_at hl 1 rfl) ?_
  refine lv_iconst (v := 2) hx hb d_law_215 (by decide) ?_
  refine lv_iadd hx hb d_law_216 ?_
  refine w_i (y := nI (i + 2)) (nI_add i 2) ?_
  refine va_sld hx hb hX hbl hbA hS (i := nI (i + 2)) (vp_in_nI (n := i + 2) (N := L) (by omega) (by omega)) d_law_217 ?_
  refine w_i (y := xs (i + 2)) (by rw [cl_nI (by omega)]) ?_
  refine lv_aload_n hx hb d_law_218 rfl (lv_at hl 5 rfl) ?_
  refine lv_iload hx hb d_law_219 (lv_at hl 1 rfl) ?_
  refine lv_iconst (v := 3) hx hb d_law_221 (by decide) ?_
  refine lv_iadd hx hb d_law_222 ?_
  refine w_i (y := nI (i + 3)) (nI_add i 3) ?_
  refine va_sld hx hb hX hbl hbA hS (i := nI (i + 3)) (vp_in_nI (n := i + 3) (N := L) (by omega) (by omega)) d_law_223 ?_
  refine w_i (y := xs (i + 3)) (by rw [cl_nI (by omega)]) ?_
  refine lv_aload_n hx hb d_law_224 rfl (lv_at hl 5 rfl) ?_
  refine lv_iload hx hb d_law_225 (lv_at hl 1 rfl) ?_
  refine lv_iconst (v := 4) hx hb d_law_227 (by decide) ?_
  refine lv_iadd hx hb d_law_228 ?_
  refine w_i (y := nI (i + 4)) (nI_add i 4) ?_
  refine va_sld hx hb hX hbl hbA hS (i := nI (i + 4)) (vp_in_nI (n := i + 4) (N := L) (by omega) (by omega)) d_law_229 ?_
  refine w_i (y := xs (i + 4)) (by rw [cl_nI (by omega)]) ?_
  refine lv_aload_n hx hb d_law_230 rfl (lv_at hl 5 rfl) ?_
  refine lv_iload hx hb d_law_231 (lv_at hl 1 rfl) ?_
  refine lv_iconst (v := 5) hx hb d_law_233 (by decide) ?_
  refine lv_iadd hx hb d_law_234 ?_
  refine w_i (y := nI (i + 5)) (nI_add i 5) ?_
  refine va_sld hx hb hX hbl hbA hS (i := nI (i + 5)) (vp_in_nI (n := i + 5) (N := L) (by omega) (by omega)) d_law_235 ?_
  refine w_i (y := xs (i + 5)) (by rw [cl_nI (by omega)]) ?_
  have hPc := p_r hP
  have hDc := d_r hD
  have hKc := hK.sub (tys' := mty mc) [8, 9, 10, 11, 12] rfl
  have hFc := fr_all hDc hS hA
  refine va_calli (va_runV (As := [.int (xs (i + 1)), .int (xs (i + 2)), .int (xs (i + 3)), .int (xs (i + 4)), .int (xs (i + 5))]) (rest := []) ⟨hx, hb, hml, hown, hts⟩ (g_rfeed l D H.size (md := md) (mc := mc) e2) (cw_v 5 hts kw_1622 kw_1619 kw_1620 kw_1621 kw_11 rfl rfl (by decide +kernel) ⟨Nat.le_of_ble_eq_true rfl, Nat.le_of_ble_eq_true rfl⟩) ⟨g_blind, va_recv hKc hPc (ci := 12) (q0 := 0) rfl rfl, fun U hU hW => g_pre hU hW hPc hKc hDc⟩ rfl rfl hl.1 rfl (lv_room (Nat.le_of_ble_eq_true rfl)) d_law_236 ⟨by show cells + c1 + 0 ≤ 601024; omega, by show slots + z1 + 0 ≤ 7293034; omega⟩) hS (fun q _ h => hFc q h) hFc (fun rb u t H1 locs ht hvm hw hB hz1 hk1 hS => ?_)
  obtain ⟨hP1, -, hD1⟩ := hB
  rw [ht] at hP1
  obtain ⟨hP, hD⟩ := join_r hP hD hk1 hFc hP1 hD1
  refine w_i (y := bb) hw ?_
  generalize H1 = H at hP hS ⊢
  refine W.cs (cells' := cells + c1) (slots' := slots + z1) rfl rfl ?_
  refine lv_istore (lv' := [(6, .int bb), (5, .int kk), (4, .int (nI i)), (3, .ref o), (2, .ref (md 100)), (1, .ref (ad1 11 0)), (0, .ref b)]) hx hb d_law_239 hl (by decide) rfl (fun ls hl => ?_)
  refine lv_aload_n hx hb d_law_241 rfl (lv_at hl 4 rfl) ?_
  have hPc := p_r hP
  have hDc := d_r hD
  have hKc := hK.sub (tys' := mty mc) [8, 9, 10, 11, 12] rfl
  have hFc := fr_all hDc hS hA
  refine va_calli (va_runV (As := []) (rest := []) ⟨hx, hb, hml, hown, hts⟩ (g_rthrown l D H.size (md := md) (mc := mc) (show m_rthrown S1 = some (S1, S1.i 0) from rfl)) (cw_v 0 hts kw_1618 kw_1615 kw_1616 kw_1617 kw_11 rfl rfl (by decide +kernel) ⟨Nat.le_of_ble_eq_true rfl, Nat.le_of_ble_eq_true rfl⟩) ⟨g_blind, va_recv hKc hPc (ci := 12) (q0 := 0) rfl rfl, fun U hU hW => g_pre hU hW hPc hKc hDc⟩ rfl rfl hl.1 rfl (lv_room (Nat.le_of_ble_eq_true rfl)) d_law_242 ⟨by show cells + c1 + 0 ≤ 601024; omega, by show slots + z1 + 0 ≤ 7293034; omega⟩) hS (fun q _ h => hFc q h) hFc (fun rt u t H1 locs ht hvm hw hB hz1 hk1 hS => ?_)
  obtain ⟨hP1, -, hD1⟩ := hB
  rw [ht] at hP1
  obtain ⟨hP, hD⟩ := join_r hP hD hk1 hFc hP1 hD1
  refine w_i (y := kk) (hw.trans e3) ?_
  generalize H1 = H at hP hS ⊢
  refine W.cs (cells' := cells + c1) (slots' := slots + z1) rfl rfl ?_
  refine lv_iload hx hb d_law_245 (lv_at hl 1 rfl) ?_
  refine lv_icmp_eq (tgt := 252) hx hb d_law_247 (by decide) (fun _ => ?_) (fun h => absurd rfl h)
  refine lv_iload hx hb d_law_252 (lv_at hl 1 rfl) ?_
  refine lv_if_ne (tgt := 269) hx hb d_law_254 (by decide) (fun ck => ?_) (fun ck => ?_)
  · refine lv_goto (tgt := 2391) hx hb d_law_269 (by decide) ?_
    exact hk ad1 ov1 N1 C1 S1 A1 rd1 c1 z1 H _ ls ⟨⟨hx, hb, hr, hml, hown, hts, hX, hbl, hlocks, hL⟩, ⟨hev, hE, hN, hH⟩, ⟨hP, hK, hD, hS, lv_sub hl [2, 3, 4, 5, 6] rfl⟩, hI1⟩ e5 e6 e7 e8 e9
  · refine lv_aload_n hx hb d_law_257 rfl (lv_at hl 3 rfl) ?_
    refine lv_iconst (v := 0) hx hb d_law_258 (by decide) ?_
    refine va_lald hx hb hK hP (cw ad1 cc N1 C1).length 7 at_mid rfl (i := 0) (vp_in_nI (n := 0) (N := 1) (by decide) (by decide)) d_law_259 ?_
    refine w_l (y := ov1 0) rfl ?_
    refine lv_iload hx hb d_law_260 (lv_at hl 0 rfl) ?_
    refine lv_i2l hx hb d_law_262 rfl ?_
    refine w_l (y := ov1 0) (e4 ck).symm ?_
    refine W.lcmp hx hb d_law_263 ?_
    refine w_i (y := 0) (by simp [lg_cmp]) ?_
    refine lv_if_eq (tgt := 269) hx hb d_law_264 (by decide) (fun _ => ?_) (fun h => absurd rfl h)
    refine lv_goto (tgt := 2391) hx hb d_law_269 (by decide) ?_
    exact hk ad1 ov1 N1 C1 S1 A1 rd1 c1 z1 H _ ls ⟨⟨hx, hb, hr, hml, hown, hts, hX, hbl, hlocks, hL⟩, ⟨hev, hE, hN, hH⟩, ⟨hP, hK, hD, hS, lv_sub hl [2, 3, 4, 5, 6] rfl⟩, hI1⟩ e5 e6 e7 e8 e9
theorem d_law_272 : decode code 272 = .ok (.aload_n 1, 1) := by decide +kernel
theorem d_law_273 : decode code 273 = .ok (.aload_n 0, 1) := by decide +kernel
theorem d_law_274 : decode code 274 = .ok (.iload 4, 2) := by decide +kernel
theorem d_law_276 : decode code 276 = .ok (.iconst 1, 1) := by decide +kernel
theorem d_law_277 : decode code 277 = .ok (.iadd, 1) := by decide +kernel
theorem d_law_278 : decode code 278 = .ok (.iaload, 1) := by decide +kernel
theorem d_law_279 : decode code 279 = .ok (.aload_n 3, 1) := by decide +kernel
theorem d_law_280 : decode code 280 = .ok (.invokestatic 124, 3) := by decide +kernel
theorem d_law_283 : decode code 283 = .ok (.istore 5, 2) := by decide +kernel
theorem d_law_285 : decode code 285 = .ok (.aload_n 2, 1) := by decide +kernel
theorem d_law_286 : decode code 286 = .ok (.aload_n 0, 1) := by decide +kernel
theorem d_law_287 : decode code 287 = .ok (.iload 4, 2) := by decide +kernel
theorem d_law_289 : decode code 289 = .ok (.iconst 1, 1) := by decide +kernel
theorem d_law_290 : decode code 290 = .ok (.iadd, 1) := by decide +kernel
theorem d_law_291 : decode code 291 = .ok (.iaload, 1) := by decide +kernel
theorem d_law_292 : decode code 292 = .ok (.invokevirtual 127, 3) := by decide +kernel
theorem d_law_295 : decode code 295 = .ok (.istore 6, 2) := by decide +kernel
theorem d_law_297 : decode code 297 = .ok (.aload_n 2, 1) := by decide +kernel
theorem d_law_298 : decode code 298 = .ok (.invokevirtual 120, 3) := by decide +kernel
theorem d_law_301 : decode code 301 = .ok (.iload 5, 2) := by decide +kernel
theorem d_law_303 : decode code 303 = .ok (.if_icmp .eq 5, 3) := by decide +kernel
theorem d_law_308 : decode code 308 = .ok (.iload 5, 2) := by decide +kernel
theorem d_law_310 : decode code 310 = .ok (.ifCond .ne 15, 3) := by decide +kernel
theorem d_law_325 : decode code 325 = .ok (.goto 2066, 3) := by decide +kernel
theorem d_law_313 : decode code 313 = .ok (.aload_n 3, 1) := by decide +kernel
theorem d_law_314 : decode code 314 = .ok (.iconst 0, 1) := by decide +kernel
theorem d_law_315 : decode code 315 = .ok (.laload, 1) := by decide +kernel
theorem d_law_316 : decode code 316 = .ok (.iload 6, 2) := by decide +kernel
theorem d_law_318 : decode code 318 = .ok (.i2l, 1) := by decide +kernel
theorem d_law_319 : decode code 319 = .ok (.lcmp, 1) := by decide +kernel
theorem d_law_320 : decode code 320 = .ok (.ifCond .eq 5, 3) := by decide +kernel
set_option maxHeartbeats 8000000 in
set_option maxRecDepth 100000 in
theorem law_k1 {p : Program} {e : Env} {s : State} {m : MethodId} {below : List Frame} {meth : Method} {c : Code} (l : Launch) (hfl : l.flags = flags0) {b L i : Nat} {xs : Nat → Int32} {D : va_G} {cc : Nat → ClassId} {md : Nat → Nat} {mc : Nat → ClassId} {o : Nat} {cL : ClassId} {sad sav : Nat → Nat} {ad : Nat → Nat → Nat} {ov : Nat → Int64} {N : Nat → Nat} {C : CS} {S : MS} {A : AS} {rd cells slots : Nat} {H : Heap} {locs : List Loc} {ls : Array Slot} (h : LwW p s m meth c b L xs D cc md mc o cL sad sav i ad ov N C S A rd H locs ls) (hi7 : i + 7 ≤ L) (hrd : rd + 60000 < 2 ^ 30) (hcb : cells ≤ 500000) (hsb : slots ≤ 6000000) (hk : ∀ (ad1 : Nat → Nat → Nat) (ov1 : Nat → Int64) (N1 : Nat → Nat) (C1 : CS) (S1 : MS) (A1 : AS) (rd1 c1 z1 : Nat) (H1 : Heap) (locs1 : List Loc) (ls1 : Array Slot), LwW p s m meth c b L xs D cc md mc o cL sad sav i ad1 ov1 N1 C1 S1 A1 rd1 H1 locs1 ls1 → A.n ≤ A1.n → A.m ≤ A1.m → rd1 ≤ rd + 50000 → c1 ≤ 2 * (A1.n - A.n) + 3 * (A1.m - A.m) + 1 → z1 ≤ 23 * (A1.n - A.n) + 40 * (A1.m - A.m) + 6 → W p l e room_1 s m #[Value.ref b] below meth c H1 locs1 (cells + c1) (slots + z1) (lw_Z below #[Value.ref b] s) (F0 m 2391 ls1 [])) : W p l e room_1 s m #[Value.ref b] below meth c H locs cells slots (lw_Z below #[Value.ref b] s) (F0 m 272 ls []) := by
  obtain ⟨⟨hx, hb, hr, hml, hown, hts, hX, hbl, hlocks, hL⟩, ⟨hev, hE, hN, hH⟩, ⟨hP, hK, hD, hS, hl⟩, hI⟩ := h
  have hNS : tx_NS (lA s) s := fun q cell hq hc => absurd (Array.getElem?_eq_some_iff.mp hc).1 (Nat.not_lt.mpr hq)
  have hA : ∀ q : Nat, s.heap.size ≤ q → lA s q := fun _ h => h
  have hbA : ¬ lA s b := Nat.not_le.mpr hbl
  have h11 : N 11 = 1 := hI.2.1.nn.2.2.2.2.2.2.2.2.2.2.2.1
  refine lv_aload_n hx hb d_law_272 rfl (lv_at hl 3 rfl) ?_
  refine lv_aload_n hx hb d_law_273 rfl (lv_at hl 4 rfl) ?_
  refine lv_iload hx hb d_law_274 (lv_at hl 0 rfl) ?_
  refine lv_iconst (v := 1) hx hb d_law_276 (by decide) ?_
  refine lv_iadd hx hb d_law_277 ?_
  refine w_i (y := nI (i + 1)) (nI_add i 1) ?_
  refine va_sld hx hb hX hbl hbA hS (i := nI (i + 1)) (vp_in_nI (n := i + 1) (N := L) (by omega) (by omega)) d_law_278 ?_
  refine w_i (y := xs (i + 1)) (by rw [cl_nI (by omega)]) ?_
  refine lv_aload_n hx hb d_law_279 rfl (lv_at hl 1 rfl) ?_
  obtain ⟨N1, C1, ov1, kk, c1, z1, S1, bb, A1, rd1, e1, e2, e3, e4, hI1, e5, e6, e7, e8, e9⟩ := st_end (ov := ov) hI hrd (xs (i + 1))
  have hn1 := hI1.2.2.1.1.1
  have hm1 := hI1.2.2.1.1.2.1
  have hPh := p_l hP
  have hDh := d_l hD
  have hKh := hK.sub (tys' := cty cc ++ [(cL, .long)]) [0, 1, 2, 3, 4, 5, 6, 7] rfl
  have hFc := fr_all hDh hS hA
  refine va_calli (tx_runSW (As := [.ref (ad 11 0), .int (xs (i + 1)), .ref o]) (rest := []) ⟨hx, hb, hml, hown, hts⟩ (g_h_end l hfl D H.size (ad := ad) (cc := cc) (sad := sad) (sav := sav) (cL := cL) (a := o) e1) (cw_w 3 hts kw_552 kw_550 kw_551 kw_0 rfl rfl (by decide +kernel) ⟨Nat.le_of_ble_eq_true rfl, Nat.le_of_ble_eq_true rfl⟩) ⟨h_blind, fun U hU hW => h_pre hU hW hPh hKh hDh hev hE hN hH hNS hS hFc⟩ rfl rfl hl.1 rfl (lv_room (Nat.le_of_ble_eq_true rfl)) d_law_280 ⟨by show cells + c1 ≤ 601024; omega, by show slots + z1 ≤ 7293034; omega⟩) hS (fun q _ h => hFc q h) hFc (fun rz ad1 t H1 locs ht hvm hw hB hz1 hk1 hS => ?_)
  obtain ⟨hXt, hP1, -, hD1⟩ := hB
  rw [ht] at hP1
  obtain ⟨hP, hD⟩ := join_w hP hD hk1 hFc hP1 hD1
  refine w_i (y := kk) hw ?_
  have had : ad1 11 0 = ad 11 0 := hXt.2 11 0 (by rw [h11]; decide)
  rw [← had] at hl
  generalize H1 = H at hP hS ⊢
  refine W.cs (cells' := cells + c1) (slots' := slots + z1) rfl rfl ?_
  refine lv_istore (lv' := [(5, .int kk), (4, .int (nI i)), (3, .ref o), (2, .ref (md 100)), (1, .ref (ad1 11 0)), (0, .ref b)]) hx hb d_law_283 hl (by decide) rfl (fun ls hl => ?_)
  refine lv_aload_n hx hb d_law_285 rfl (lv_at hl 3 rfl) ?_
  refine lv_aload_n hx hb d_law_286 rfl (lv_at hl 5 rfl) ?_
  refine lv_iload hx hb d_law_287 (lv_at hl 1 rfl) ?_
  refine lv_iconst (v := 1) hx hb d_law_289 (by decide) ?_
  refine lv_iadd hx hb d_law_290 ?_
  refine w_i (y := nI (i + 1)) (nI_add i 1) ?_
  refine va_sld hx hb hX hbl hbA hS (i := nI (i + 1)) (vp_in_nI (n := i + 1) (N := L) (by omega) (by omega)) d_law_291 ?_
  refine w_i (y := xs (i + 1)) (by rw [cl_nI (by omega)]) ?_
  have hPc := p_r hP
  have hDc := d_r hD
  have hKc := hK.sub (tys' := mty mc) [8, 9, 10, 11, 12] rfl
  have hFc := fr_all hDc hS hA
  refine va_calli (va_runV (As := [.int (xs (i + 1))]) (rest := []) ⟨hx, hb, hml, hown, hts⟩ (g_rend l D H.size (md := md) (mc := mc) e2) (cw_v 1 hts kw_1630 kw_1627 kw_1628 kw_1629 kw_11 rfl rfl (by decide +kernel) ⟨Nat.le_of_ble_eq_true rfl, Nat.le_of_ble_eq_true rfl⟩) ⟨g_blind, va_recv hKc hPc (ci := 12) (q0 := 0) rfl rfl, fun U hU hW => g_pre hU hW hPc hKc hDc⟩ rfl rfl hl.1 rfl (lv_room (Nat.le_of_ble_eq_true rfl)) d_law_292 ⟨by show cells + c1 + 0 ≤ 601024; omega, by show slots + z1 + 0 ≤ 7293034; omega⟩) hS (fun q _ h => hFc q h) hFc (fun rb u t H1 locs ht hvm hw hB hz1 hk1 hS => ?_)
  obtain ⟨hP1, -, hD1⟩ := hB
  rw [ht] at hP1
  obtain ⟨hP, hD⟩ := join_r hP hD hk1 hFc hP1 hD1
  refine w_i (y := bb) hw ?_
  generalize H1 = H at hP hS ⊢
  refine W.cs (cells' := cells + c1) (slots' := slots + z1) rfl rfl ?_
  refine lv_istore (lv' := [(6, .int bb), (5, .int kk), (4, .int (nI i)), (3, .ref o), (2, .ref (md 100)), (1, .ref (ad1 11 0)), (0, .ref b)]) hx hb d_law_295 hl (by decide) rfl (fun ls hl => ?_)
  refine lv_aload_n hx hb d_law_297 rfl (lv_at hl 4 rfl) ?_
  have hPc := p_r hP
  have hDc := d_r hD
  have hKc := hK.sub (tys' := mty mc) [8, 9, 10, 11, 12] rfl
  have hFc := fr_all hDc hS hA
  refine va_calli (va_runV (As := []) (rest := []) ⟨hx, hb, hml, hown, hts⟩ (g_rthrown l D H.size (md := md) (mc := mc) (show m_rthrown S1 = some (S1, S1.i 0) from rfl)) (cw_v 0 hts kw_1618 kw_1615 kw_1616 kw_1617 kw_11 rfl rfl (by decide +kernel) ⟨Nat.le_of_ble_eq_true rfl, Nat.le_of_ble_eq_true rfl⟩) ⟨g_blind, va_recv hKc hPc (ci := 12) (q0 := 0) rfl rfl, fun U hU hW => g_pre hU hW hPc hKc hDc⟩ rfl rfl hl.1 rfl (lv_room (Nat.le_of_ble_eq_true rfl)) d_law_298 ⟨by show cells + c1 + 0 ≤ 601024; omega, by show slots + z1 + 0 ≤ 7293034; omega⟩) hS (fun q _ h => hFc q h) hFc (fun rt u t H1 locs ht hvm hw hB hz1 hk1 hS => ?_)
  obtain ⟨hP1, -, hD1⟩ := hB
  rw [ht] at hP1
  obtain ⟨hP, hD⟩ := join_r hP hD hk1 hFc hP1 hD1
  refine w_i (y := kk) (hw.trans e3) ?_
  generalize H1 = H at hP hS ⊢
  refine W.cs (cells' := cells + c1) (slots' := slots + z1) rfl rfl ?_
  refine lv_iload hx hb d_law_301 (lv_at hl 1 rfl) ?_
  refine lv_icmp_eq (tgt := 308) hx hb d_law_303 (by decide) (fun _ => ?_) (fun h => absurd rfl h)
  refine lv_iload hx hb d_law_308 (lv_at hl 1 rfl) ?_
  refine lv_if_ne (tgt := 325) hx hb d_law_310 (by decide) (fun ck => ?_) (fun ck => ?_)
  · refine lv_goto (tgt := 2391) hx hb d_law_325 (by decide) ?_
    exact hk ad1 ov1 N1 C1 S1 A1 rd1 c1 z1 H _ ls ⟨⟨hx, hb, hr, hml, hown, hts, hX, hbl, hlocks, hL⟩, ⟨hev, hE, hN, hH⟩, ⟨hP, hK, hD, hS, lv_sub hl [2, 3, 4, 5, 6] rfl⟩, hI1⟩ e5 e6 e7 e8 e9
  · refine lv_aload_n hx hb d_law_313 rfl (lv_at hl 3 rfl) ?_
    refine lv_iconst (v := 0) hx hb d_law_314 (by decide) ?_
    refine va_lald hx hb hK hP (cw ad1 cc N1 C1).length 7 at_mid rfl (i := 0) (vp_in_nI (n := 0) (N := 1) (by decide) (by decide)) d_law_315 ?_
    refine w_l (y := ov1 0) rfl ?_
    refine lv_iload hx hb d_law_316 (lv_at hl 0 rfl) ?_
    refine lv_i2l hx hb d_law_318 rfl ?_
    refine w_l (y := ov1 0) (e4 ck).symm ?_
    refine W.lcmp hx hb d_law_319 ?_
    refine w_i (y := 0) (by simp [lg_cmp]) ?_
    refine lv_if_eq (tgt := 325) hx hb d_law_320 (by decide) (fun _ => ?_) (fun h => absurd rfl h)
    refine lv_goto (tgt := 2391) hx hb d_law_325 (by decide) ?_
    exact hk ad1 ov1 N1 C1 S1 A1 rd1 c1 z1 H _ ls ⟨⟨hx, hb, hr, hml, hown, hts, hX, hbl, hlocks, hL⟩, ⟨hev, hE, hN, hH⟩, ⟨hP, hK, hD, hS, lv_sub hl [2, 3, 4, 5, 6] rfl⟩, hI1⟩ e5 e6 e7 e8 e9
theorem d_law_328 : decode code 328 = .ok (.aload_n 1, 1) := by decide +kernel
theorem d_law_329 : decode code 329 = .ok (.aload_n 0, 1) := by decide +kernel
theorem d_law_330 : decode code 330 = .ok (.iload 4, 2) := by decide +kernel
theorem d_law_332 : decode code 332 = .ok (.iconst 1, 1) := by decide +kernel
theorem d_law_333 : decode code 333 = .ok (.iadd, 1) := by decide +kernel
theorem d_law_334 : decode code 334 = .ok (.iaload, 1) := by decide +kernel
theorem d_law_335 : decode code 335 = .ok (.aload_n 0, 1) := by decide +kernel
theorem d_law_336 : decode code 336 = .ok (.iload 4, 2) := by decide +kernel
theorem d_law_338 : decode code 338 = .ok (.iconst 2, 1) := by decide +kernel
theorem d_law_339 : decode code 339 = .ok (.iadd, 1) := by decide +kernel
theorem d_law_340 : decode code 340 = .ok (.iaload, 1) := by decide +kernel
theorem d_law_341 : decode code 341 = .ok (.aload_n 0, 1) := by decide +kernel
theorem d_law_342 : decode code 342 = .ok (.iload 4, 2) := by decide +kernel
theorem d_law_344 : decode code 344 = .ok (.iconst 3, 1) := by decide +kernel
theorem d_law_345 : decode code 345 = .ok (.iadd, 1) := by decide +kernel
theorem d_law_346 : decode code 346 = .ok (.iaload, 1) := by decide +kernel
theorem d_law_347 : decode code 347 = .ok (.aload_n 0, 1) := by decide +kernel
theorem d_law_348 : decode code 348 = .ok (.iload 4, 2) := by decide +kernel
theorem d_law_350 : decode code 350 = .ok (.iconst 4, 1) := by decide +kernel
theorem d_law_351 : decode code 351 = .ok (.iadd, 1) := by decide +kernel
theorem d_law_352 : decode code 352 = .ok (.iaload, 1) := by decide +kernel
theorem d_law_353 : decode code 353 = .ok (.i2l, 1) := by decide +kernel
theorem d_law_354 : decode code 354 = .ok (.bipush 32, 2) := by decide +kernel
theorem d_law_356 : decode code 356 = .ok (.lshl, 1) := by decide +kernel
theorem d_law_357 : decode code 357 = .ok (.aload_n 0, 1) := by decide +kernel
theorem d_law_358 : decode code 358 = .ok (.iload 4, 2) := by decide +kernel
theorem d_law_360 : decode code 360 = .ok (.iconst 5, 1) := by decide +kernel
theorem d_law_361 : decode code 361 = .ok (.iadd, 1) := by decide +kernel
theorem d_law_362 : decode code 362 = .ok (.iaload, 1) := by decide +kernel
theorem d_law_363 : decode code 363 = .ok (.i2l, 1) := by decide +kernel
theorem d_law_364 : decode code 364 = .ok (.ldc2_w 128, 3) := by decide +kernel
theorem d_law_367 : decode code 367 = .ok (.land, 1) := by decide +kernel
theorem d_law_368 : decode code 368 = .ok (.lor, 1) := by decide +kernel
theorem d_law_369 : decode code 369 = .ok (.aload_n 3, 1) := by decide +kernel
theorem d_law_370 : decode code 370 = .ok (.invokestatic 130, 3) := by decide +kernel
theorem d_law_373 : decode code 373 = .ok (.istore 5, 2) := by decide +kernel
theorem d_law_375 : decode code 375 = .ok (.aload_n 2, 1) := by decide +kernel
theorem d_law_376 : decode code 376 = .ok (.aload_n 0, 1) := by decide +kernel
theorem d_law_377 : decode code 377 = .ok (.iload 4, 2) := by decide +kernel
theorem d_law_379 : decode code 379 = .ok (.iconst 1, 1) := by decide +kernel
theorem d_law_380 : decode code 380 = .ok (.iadd, 1) := by decide +kernel
theorem d_law_381 : decode code 381 = .ok (.iaload, 1) := by decide +kernel
theorem d_law_382 : decode code 382 = .ok (.aload_n 0, 1) := by decide +kernel
theorem d_law_383 : decode code 383 = .ok (.iload 4, 2) := by decide +kernel
theorem d_law_385 : decode code 385 = .ok (.iconst 2, 1) := by decide +kernel
theorem d_law_386 : decode code 386 = .ok (.iadd, 1) := by decide +kernel
theorem d_law_387 : decode code 387 = .ok (.iaload, 1) := by decide +kernel
theorem d_law_388 : decode code 388 = .ok (.aload_n 0, 1) := by decide +kernel
theorem d_law_389 : decode code 389 = .ok (.iload 4, 2) := by decide +kernel
theorem d_law_391 : decode code 391 = .ok (.iconst 3, 1) := by decide +kernel
theorem d_law_392 : decode code 392 = .ok (.iadd, 1) := by decide +kernel
theorem d_law_393 : decode code 393 = .ok (.iaload, 1) := by decide +kernel
theorem d_law_394 : decode code 394 = .ok (.aload_n 0, 1) := by decide +kernel
theorem d_law_395 : decode code 395 = .ok (.iload 4, 2) := by decide +kernel
theorem d_law_397 : decode code 397 = .ok (.iconst 4, 1) := by decide +kernel
theorem d_law_398 : decode code 398 = .ok (.iadd, 1) := by decide +kernel
theorem d_law_399 : decode code 399 = .ok (.iaload, 1) := by decide +kernel
theorem d_law_400 : decode code 400 = .ok (.i2l, 1) := by decide +kernel
theorem d_law_401 : decode code 401 = .ok (.bipush 32, 2) := by decide +kernel
theorem d_law_403 : decode code 403 = .ok (.lshl, 1) := by decide +kernel
theorem d_law_404 : decode code 404 = .ok (.aload_n 0, 1) := by decide +kernel
theorem d_law_405 : decode code 405 = .ok (.iload 4, 2) := by decide +kernel
theorem d_law_407 : decode code 407 = .ok (.iconst 5, 1) := by decide +kernel
theorem d_law_408 : decode code 408 = .ok (.iadd, 1) := by decide +kernel
theorem d_law_409 : decode code 409 = .ok (.iaload, 1) := by decide +kernel
theorem d_law_410 : decode code 410 = .ok (.i2l, 1) := by decide +kernel
theorem d_law_411 : decode code 411 = .ok (.ldc2_w 128, 3) := by decide +kernel
theorem d_law_414 : decode code 414 = .ok (.land, 1) := by decide +kernel
theorem d_law_415 : decode code 415 = .ok (.lor, 1) := by decide +kernel
theorem d_law_416 : decode code 416 = .ok (.invokevirtual 133, 3) := by decide +kernel
theorem d_law_419 : decode code 419 = .ok (.istore 6, 2) := by decide +kernel
theorem d_law_421 : decode code 421 = .ok (.aload_n 2, 1) := by decide +kernel
theorem d_law_422 : decode code 422 = .ok (.invokevirtual 120, 3) := by decide +kernel
theorem d_law_425 : decode code 425 = .ok (.iload 5, 2) := by decide +kernel
theorem d_law_427 : decode code 427 = .ok (.if_icmp .eq 5, 3) := by decide +kernel
theorem d_law_432 : decode code 432 = .ok (.iload 5, 2) := by decide +kernel
theorem d_law_434 : decode code 434 = .ok (.ifCond .ne 15, 3) := by decide +kernel
theorem d_law_449 : decode code 449 = .ok (.goto 1942, 3) := by decide +kernel
theorem d_law_437 : decode code 437 = .ok (.aload_n 3, 1) := by decide +kernel
theorem d_law_438 : decode code 438 = .ok (.iconst 0, 1) := by decide +kernel
theorem d_law_439 : decode code 439 = .ok (.laload, 1) := by decide +kernel
theorem d_law_440 : decode code 440 = .ok (.iload 6, 2) := by decide +kernel
theorem d_law_442 : decode code 442 = .ok (.i2l, 1) := by decide +kernel
theorem d_law_443 : decode code 443 = .ok (.lcmp, 1) := by decide +kernel
theorem d_law_444 : decode code 444 = .ok (.ifCond .eq 5, 3) := by decide +kernel
set_option maxHeartbeats 8000000 in
set_option maxRecDepth 100000 in
theorem law_k2 {p : Program} {e : Env} {s : State} {m : MethodId} {below : List Frame} {meth : Method} {c : Code} (l : Launch) (hfl : l.flags = flags0) {b L i : Nat} {xs : Nat → Int32} {D : va_G} {cc : Nat → ClassId} {md : Nat → Nat} {mc : Nat → ClassId} {o : Nat} {cL : ClassId} {sad sav : Nat → Nat} {ad : Nat → Nat → Nat} {ov : Nat → Int64} {N : Nat → Nat} {C : CS} {S : MS} {A : AS} {rd cells slots : Nat} {H : Heap} {locs : List Loc} {ls : Array Slot} (h : LwW p s m meth c b L xs D cc md mc o cL sad sav i ad ov N C S A rd H locs ls) (hi7 : i + 7 ≤ L) (hrd : rd + 60000 < 2 ^ 30) (hcb : cells ≤ 500000) (hsb : slots ≤ 6000000) (hk : ∀ (ad1 : Nat → Nat → Nat) (ov1 : Nat → Int64) (N1 : Nat → Nat) (C1 : CS) (S1 : MS) (A1 : AS) (rd1 c1 z1 : Nat) (H1 : Heap) (locs1 : List Loc) (ls1 : Array Slot), LwW p s m meth c b L xs D cc md mc o cL sad sav i ad1 ov1 N1 C1 S1 A1 rd1 H1 locs1 ls1 → A.n ≤ A1.n → A.m ≤ A1.m → rd1 ≤ rd + 50000 → c1 ≤ 2 * (A1.n - A.n) + 3 * (A1.m - A.m) + 1 → z1 ≤ 23 * (A1.n - A.n) + 40 * (A1.m - A.m) + 6 → W p l e room_1 s m #[Value.ref b] below meth c H1 locs1 (cells + c1) (slots + z1) (lw_Z below #[Value.ref b] s) (F0 m 2391 ls1 [])) : W p l e room_1 s m #[Value.ref b] below meth c H locs cells slots (lw_Z below #[Value.ref b] s) (F0 m 328 ls []) := by
  obtain ⟨⟨hx, hb, hr, hml, hown, hts, hX, hbl, hlocks, hL⟩, ⟨hev, hE, hN, hH⟩, ⟨hP, hK, hD, hS, hl⟩, hI⟩ := h
  have hNS : tx_NS (lA s) s := fun q cell hq hc => absurd (Array.getElem?_eq_some_iff.mp hc).1 (Nat.not_lt.mpr hq)
  have hA : ∀ q : Nat, s.heap.size ≤ q → lA s q := fun _ h => h
  have hbA : ¬ lA s b := Nat.not_le.mpr hbl
  have h11 : N 11 = 1 := hI.2.1.nn.2.2.2.2.2.2.2.2.2.2.2.1
  refine lv_aload_n hx hb d_law_328 rfl (lv_at hl 3 rfl) ?_
  refine lv_aload_n hx hb d_law_329 rfl (lv_at hl 4 rfl) ?_
  refine lv_iload hx hb d_law_330 (lv_at hl 0 rfl) ?_
  refine lv_iconst (v := 1) hx hb d_law_332 (by decide) ?_
  refine lv_iadd hx hb d_law_333 ?_
  refine w_i (y := nI (i + 1)) (nI_add i 1) ?_
  refine va_sld hx hb hX hbl hbA hS (i := nI (i + 1)) (vp_in_nI (n := i + 1) (N := L) (by omega) (by omega)) d_law_334 ?_
  refine w_i (y := xs (i + 1)) (by rw [cl_nI (by omega)]) ?_
  refine lv_aload_n hx hb d_law_335 rfl (lv_at hl 4 rfl) ?_
  refine lv_iload hx hb d_law_336 (lv_at hl 0 rfl) ?_
  refine lv_iconst (v := 2) hx hb d_law_338 (by decide) ?_
  refine lv_iadd hx hb d_law_339 ?_
  refine w_i (y := nI (i + 2)) (nI_add i 2) ?_
  refine va_sld hx hb hX hbl hbA hS (i := nI (i + 2)) (vp_in_nI (n := i + 2) (N := L) (by omega) (by omega)) d_law_340 ?_
  refine w_i (y := xs (i + 2)) (by rw [cl_nI (by omega)]) ?_
  refine lv_aload_n hx hb d_law_341 rfl (lv_at hl 4 rfl) ?_
  refine lv_iload hx hb d_law_342 (lv_at hl 0 rfl) ?_
  refine lv_iconst (v := 3) hx hb d_law_344 (by decide) ?_
  refine lv_iadd hx hb d_law_345 ?_
  refine w_i (y := nI (i + 3)) (nI_add i 3) ?_
  refine va_sld hx hb hX hbl hbA hS (i := nI (i + 3)) (vp_in_nI (n := i + 3) (N := L) (by omega) (by omega)) d_law_346 ?_
  refine w_i (y := xs (i + 3)) (by rw [cl_nI (by omega)]) ?_
  refine lv_aload_n hx hb d_law_347 rfl (lv_at hl 4 rfl) ?_
  refine lv_iload hx hb d_law_348 (lv_at hl 0 rfl) ?_
  refine lv_iconst (v := 4) hx hb d_law_350 (by decide) ?_
  refine lv_iadd hx hb d_law_351 ?_
  refine w_i (y := nI (i + 4)) (nI_add i 4) ?_
  refine va_sld hx hb hX hbl hbA hS (i := nI (i + 4)) (vp_in_nI (n := i + 4) (N := L) (by omega) (by omega)) d_law_352 ?_
  refine w_i (y := xs (i + 4)) (by rw [cl_nI (by omega)]) ?_
  refine lv_i2l hx hb d_law_353 rfl ?_
  refine lv_bipush (v := 32) hx hb d_law_354 (by decide) ?_
  refine lv_lshl hx hb d_law_356 rfl ?_
  refine lv_aload_n hx hb d_law_357 rfl (lv_at hl 4 rfl) ?_
  refine lv_iload hx hb d_law_358 (lv_at hl 0 rfl) ?_
  refine lv_iconst (v := 5) hx hb d_law_360 (by decide) ?_
  refine lv_iadd hx hb d_law_361 ?_
  refine w_i (y := nI (i + 5)) (nI_add i 5) ?_
  refine va_sld hx hb hX hbl hbA hS (i := nI (i + 5)) (vp_in_nI (n := i + 5) (N := L) (by omega) (by omega)) d_law_362 ?_
  refine w_i (y := xs (i + 5)) (by rw [cl_nI (by omega)]) ?_
  refine lv_i2l hx hb d_law_363 rfl ?_
  refine lv_ldc2 (v := 4294967295) hx hb hown (hts _ kw_2007) d_law_364 ?_
  refine lv_land hx hb d_law_367 ?_
  refine lv_lor hx hb d_law_368 ?_
  refine lv_topl (fun xl exl => ?_)
  refine lv_aload_n hx hb d_law_369 rfl (lv_at hl 1 rfl) ?_
  obtain ⟨N1, C1, ov1, kk, c1, z1, S1, bb, A1, rd1, e1, e2, e3, e4, hI1, e5, e6, e7, e8, e9⟩ := st_set (ov := ov) hI hrd (xs (i + 1)) (xs (i + 2)) (xs (i + 3)) xl
  have hn1 := hI1.2.2.1.1.1
  have hm1 := hI1.2.2.1.1.2.1
  have hPh := p_l hP
  have hDh := d_l hD
  have hKh := hK.sub (tys' := cty cc ++ [(cL, .long)]) [0, 1, 2, 3, 4, 5, 6, 7] rfl
  have hFc := fr_all hDh hS hA
  refine va_calli (tx_runSW (As := [.ref (ad 11 0), .int (xs (i + 1)), .int (xs (i + 2)), .int (xs (i + 3)), .long xl, .ref o]) (rest := []) ⟨hx, hb, hml, hown, hts⟩ (g_h_set l hfl D H.size (ad := ad) (cc := cc) (sad := sad) (sav := sav) (cL := cL) (a := o) e1) (cw_w 6 hts kw_579 kw_577 kw_578 kw_0 rfl rfl (by decide +kernel) ⟨Nat.le_of_ble_eq_true rfl, Nat.le_of_ble_eq_true rfl⟩) ⟨h_blind, fun U hU hW => h_pre hU hW hPh hKh hDh hev hE hN hH hNS hS hFc⟩ rfl rfl hl.1 rfl (lv_room (Nat.le_of_ble_eq_true rfl)) d_law_370 ⟨by show cells + c1 ≤ 601024; omega, by show slots + z1 ≤ 7293034; omega⟩) hS (fun q _ h => hFc q h) hFc (fun rz ad1 t H1 locs ht hvm hw hB hz1 hk1 hS => ?_)
  obtain ⟨hXt, hP1, -, hD1⟩ := hB
  rw [ht] at hP1
  obtain ⟨hP, hD⟩ := join_w hP hD hk1 hFc hP1 hD1
  refine w_i (y := kk) hw ?_
  have had : ad1 11 0 = ad 11 0 := hXt.2 11 0 (by rw [h11]; decide)
  rw [← had] at hl
  generalize H1 = H at hP hS ⊢
  refine W.cs (cells' := cells + c1) (slots' := slots + z1) rfl rfl ?_
  refine lv_istore (lv' := [(5, .int kk), (4, .int (nI i)), (3, .ref o), (2, .ref (md 100)), (1, .ref (ad1 11 0)), (0, .ref b)]) hx hb d_law_373 hl (by decide) rfl (fun ls hl => ?_)
  refine lv_aload_n hx hb d_law_375 rfl (lv_at hl 3 rfl) ?_
  refine lv_aload_n hx hb d_law_376 rfl (lv_at hl 5 rfl) ?_
  refine lv_iload hx hb d_law_377 (lv_at hl 1 rfl) ?_
  refine lv_iconst (v := 1) hx hb d_law_379 (by decide) ?_
  refine lv_iadd hx hb d_law_380 ?_
  refine w_i (y := nI (i + 1)) (nI_add i 1) ?_
  refine va_sld hx hb hX hbl hbA hS (i := nI (i + 1)) (vp_in_nI (n := i + 1) (N := L) (by omega) (by omega)) d_law_381 ?_
  refine w_i (y := xs (i + 1)) (by rw [cl_nI (by omega)]) ?_
  refine lv_aload_n hx hb d_law_382 rfl (lv_at hl 5 rfl) ?_
  refine lv_iload hx hb d_law_383 (lv_at hl 1 rfl) ?_
  refine lv_iconst (v := 2) hx hb d_law_385 (by decide) ?_
  refine lv_iadd hx hb d_law_386 ?_
  refine w_i (y := nI (i + 2)) (nI_add i 2) ?_
  refine va_sld hx hb hX hbl hbA hS (i := nI (i + 2)) (vp_in_nI (n := i + 2) (N := L) (by omega) (by omega)) d_law_387 ?_
  refine w_i (y := xs (i + 2)) (by rw [cl_nI (by omega)]) ?_
  refine lv_aload_n hx hb d_law_388 rfl (lv_at hl 5 rfl) ?_
  refine lv_iload hx hb d_law_389 (lv_at hl 1 rfl) ?_
  refine lv_iconst (v := 3) hx hb d_law_391 (by decide) ?_
  refine lv_iadd hx hb d_law_392 ?_
  refine w_i (y := nI (i + 3)) (nI_add i 3) ?_
  refine va_sld hx hb hX hbl hbA hS (i := nI (i + 3)) (vp_in_nI (n := i + 3) (N := L) (by omega) (by omega)) d_law_393 ?_
  refine w_i (y := xs (i + 3)) (by rw [cl_nI (by omega)]) ?_
  refine lv_aload_n hx hb d_law_394 rfl (lv_at hl 5 rfl) ?_
  refine lv_iload hx hb d_law_395 (lv_at hl 1 rfl) ?_
  refine lv_iconst (v := 4) hx hb d_law_397 (by decide) ?_
  refine lv_iadd hx hb d_law_398 ?_
  refine w_i (y := nI (i + 4)) (nI_add i 4) ?_
  refine va_sld hx hb hX hbl hbA hS (i := nI (i + 4)) (vp_in_nI (n := i + 4) (N := L) (by omega) (by omega)) d_law_399 ?_
  refine w_i (y := xs (i + 4)) (by rw [cl_nI (by omega)]) ?_
  refine lv_i2l hx hb d_law_400 rfl ?_
  refine lv_bipush (v := 32) hx hb d_law_401 (by decide) ?_
  refine lv_lshl hx hb d_law_403 rfl ?_
  refine lv_aload_n hx hb d_law_404 rfl (lv_at hl 5 rfl) ?_
  refine lv_iload hx hb d_law_405 (lv_at hl 1 rfl) ?_
  refine lv_iconst (v := 5) hx hb d_law_407 (by decide) ?_
  refine lv_iadd hx hb d_law_408 ?_
  refine w_i (y := nI (i + 5)) (nI_add i 5) ?_
  refine va_sld hx hb hX hbl hbA hS (i := nI (i + 5)) (vp_in_nI (n := i + 5) (N := L) (by omega) (by omega)) d_law_409 ?_
  refine w_i (y := xs (i + 5)) (by rw [cl_nI (by omega)]) ?_
  refine lv_i2l hx hb d_law_410 rfl ?_
  refine lv_ldc2 (v := 4294967295) hx hb hown (hts _ kw_2007) d_law_411 ?_
  refine lv_land hx hb d_law_414 ?_
  refine lv_lor hx hb d_law_415 ?_
  refine w_l (y := xl) exl.symm ?_
  have hPc := p_r hP
  have hDc := d_r hD
  have hKc := hK.sub (tys' := mty mc) [8, 9, 10, 11, 12] rfl
  have hFc := fr_all hDc hS hA
  refine va_calli (va_runV (As := [.int (xs (i + 1)), .int (xs (i + 2)), .int (xs (i + 3)), .long xl]) (rest := []) ⟨hx, hb, hml, hown, hts⟩ (g_rset l D H.size (md := md) (mc := mc) e2) (cw_v 4 hts kw_1634 kw_1631 kw_1632 kw_1633 kw_11 rfl rfl (by decide +kernel) ⟨Nat.le_of_ble_eq_true rfl, Nat.le_of_ble_eq_true rfl⟩) ⟨g_blind, va_recv hKc hPc (ci := 12) (q0 := 0) rfl rfl, fun U hU hW => g_pre hU hW hPc hKc hDc⟩ rfl rfl hl.1 rfl (lv_room (Nat.le_of_ble_eq_true rfl)) d_law_416 ⟨by show cells + c1 + 0 ≤ 601024; omega, by show slots + z1 + 0 ≤ 7293034; omega⟩) hS (fun q _ h => hFc q h) hFc (fun rb u t H1 locs ht hvm hw hB hz1 hk1 hS => ?_)
  obtain ⟨hP1, -, hD1⟩ := hB
  rw [ht] at hP1
  obtain ⟨hP, hD⟩ := join_r hP hD hk1 hFc hP1 hD1
  refine w_i (y := bb) hw ?_
  generalize H1 = H at hP hS ⊢
  refine W.cs (cells' := cells + c1) (slots' := slots + z1) rfl rfl ?_
  refine lv_istore (lv' := [(6, .int bb), (5, .int kk), (4, .int (nI i)), (3, .ref o), (2, .ref (md 100)), (1, .ref (ad1 11 0)), (0, .ref b)]) hx hb d_law_419 hl (by decide) rfl (fun ls hl => ?_)
  refine lv_aload_n hx hb d_law_421 rfl (lv_at hl 4 rfl) ?_
  have hPc := p_r hP
  have hDc := d_r hD
  have hKc := hK.sub (tys' := mty mc) [8, 9, 10, 11, 12] rfl
  have hFc := fr_all hDc hS hA
  refine va_calli (va_runV (As := []) (rest := []) ⟨hx, hb, hml, hown, hts⟩ (g_rthrown l D H.size (md := md) (mc := mc) (show m_rthrown S1 = some (S1, S1.i 0) from rfl)) (cw_v 0 hts kw_1618 kw_1615 kw_1616 kw_1617 kw_11 rfl rfl (by decide +kernel) ⟨Nat.le_of_ble_eq_true rfl, Nat.le_of_ble_eq_true rfl⟩) ⟨g_blind, va_recv hKc hPc (ci := 12) (q0 := 0) rfl rfl, fun U hU hW => g_pre hU hW hPc hKc hDc⟩ rfl rfl hl.1 rfl (lv_room (Nat.le_of_ble_eq_true rfl)) d_law_422 ⟨by show cells + c1 + 0 ≤ 601024; omega, by show slots + z1 + 0 ≤ 7293034; omega⟩) hS (fun q _ h => hFc q h) hFc (fun rt u t H1 locs ht hvm hw hB hz1 hk1 hS => ?_)
  obtain ⟨hP1, -, hD1⟩ := hB
  rw [ht] at hP1
  obtain ⟨hP, hD⟩ := join_r hP hD hk1 hFc hP1 hD1
  refine w_i (y := kk) (hw.trans e3) ?_
  generalize H1 = H at hP hS ⊢
  refine W.cs (cells' := cells + c1) (slots' := slots + z1) rfl rfl ?_
  refine lv_iload hx hb d_law_425 (lv_at hl 1 rfl) ?_
  refine lv_icmp_eq (tgt := 432) hx hb d_law_427 (by decide) (fun _ => ?_) (fun h => absurd rfl h)
  refine lv_iload hx hb d_law_432 (lv_at hl 1 rfl) ?_
  refine lv_if_ne (tgt := 449) hx hb d_law_434 (by decide) (fun ck => ?_) (fun ck => ?_)
  · refine lv_goto (tgt := 2391) hx hb d_law_449 (by decide) ?_
    exact hk ad1 ov1 N1 C1 S1 A1 rd1 c1 z1 H _ ls ⟨⟨hx, hb, hr, hml, hown, hts, hX, hbl, hlocks, hL⟩, ⟨hev, hE, hN, hH⟩, ⟨hP, hK, hD, hS, lv_sub hl [2, 3, 4, 5, 6] rfl⟩, hI1⟩ e5 e6 e7 e8 e9
  · refine lv_aload_n hx hb d_law_437 rfl (lv_at hl 3 rfl) ?_
    refine lv_iconst (v := 0) hx hb d_law_438 (by decide) ?_
    refine va_lald hx hb hK hP (cw ad1 cc N1 C1).length 7 at_mid rfl (i := 0) (vp_in_nI (n := 0) (N := 1) (by decide) (by decide)) d_law_439 ?_
    refine w_l (y := ov1 0) rfl ?_
    refine lv_iload hx hb d_law_440 (lv_at hl 0 rfl) ?_
    refine lv_i2l hx hb d_law_442 rfl ?_
    refine w_l (y := ov1 0) (e4 ck).symm ?_
    refine W.lcmp hx hb d_law_443 ?_
    refine w_i (y := 0) (by simp [lg_cmp]) ?_
    refine lv_if_eq (tgt := 449) hx hb d_law_444 (by decide) (fun _ => ?_) (fun h => absurd rfl h)
    refine lv_goto (tgt := 2391) hx hb d_law_449 (by decide) ?_
    exact hk ad1 ov1 N1 C1 S1 A1 rd1 c1 z1 H _ ls ⟨⟨hx, hb, hr, hml, hown, hts, hX, hbl, hlocks, hL⟩, ⟨hev, hE, hN, hH⟩, ⟨hP, hK, hD, hS, lv_sub hl [2, 3, 4, 5, 6] rfl⟩, hI1⟩ e5 e6 e7 e8 e9
theorem d_law_452 : decode code 452 = .ok (.aload_n 1, 1) := by decide +kernel
theorem d_law_453 : decode code 453 = .ok (.aload_n 0, 1) := by decide +kernel
theorem d_law_454 : decode code 454 = .ok (.iload 4, 2) := by decide +kernel
theorem d_law_456 : decode code 456 = .ok (.iconst 1, 1) := by decide +kernel
theorem d_law_457 : decode code 457 = .ok (.iadd, 1) := by decide +kernel
theorem d_law_458 : decode code 458 = .ok (.iaload, 1) := by decide +kernel
theorem d_law_459 : decode code 459 = .ok (.aload_n 0, 1) := by decide +kernel
theorem d_law_460 : decode code 460 = .ok (.iload 4, 2) := by decide +kernel
theorem d_law_462 : decode code 462 = .ok (.iconst 2, 1) := by decide +kernel
theorem d_law_463 : decode code 463 = .ok (.iadd, 1) := by decide +kernel
theorem d_law_464 : decode code 464 = .ok (.iaload, 1) := by decide +kernel
theorem d_law_465 : decode code 465 = .ok (.aload_n 0, 1) := by decide +kernel
theorem d_law_466 : decode code 466 = .ok (.iload 4, 2) := by decide +kernel
theorem d_law_468 : decode code 468 = .ok (.iconst 3, 1) := by decide +kernel
theorem d_law_469 : decode code 469 = .ok (.iadd, 1) := by decide +kernel
theorem d_law_470 : decode code 470 = .ok (.iaload, 1) := by decide +kernel
theorem d_law_471 : decode code 471 = .ok (.aload_n 0, 1) := by decide +kernel
theorem d_law_472 : decode code 472 = .ok (.iload 4, 2) := by decide +kernel
theorem d_law_474 : decode code 474 = .ok (.iconst 4, 1) := by decide +kernel
theorem d_law_475 : decode code 475 = .ok (.iadd, 1) := by decide +kernel
theorem d_law_476 : decode code 476 = .ok (.iaload, 1) := by decide +kernel
theorem d_law_477 : decode code 477 = .ok (.aload_n 0, 1) := by decide +kernel
theorem d_law_478 : decode code 478 = .ok (.iload 4, 2) := by decide +kernel
theorem d_law_480 : decode code 480 = .ok (.iconst 5, 1) := by decide +kernel
theorem d_law_481 : decode code 481 = .ok (.iadd, 1) := by decide +kernel
theorem d_law_482 : decode code 482 = .ok (.iaload, 1) := by decide +kernel
theorem d_law_483 : decode code 483 = .ok (.i2l, 1) := by decide +kernel
theorem d_law_484 : decode code 484 = .ok (.bipush 32, 2) := by decide +kernel
theorem d_law_486 : decode code 486 = .ok (.lshl, 1) := by decide +kernel
theorem d_law_487 : decode code 487 = .ok (.aload_n 0, 1) := by decide +kernel
theorem d_law_488 : decode code 488 = .ok (.iload 4, 2) := by decide +kernel
theorem d_law_490 : decode code 490 = .ok (.bipush 6, 2) := by decide +kernel
theorem d_law_492 : decode code 492 = .ok (.iadd, 1) := by decide +kernel
theorem d_law_493 : decode code 493 = .ok (.iaload, 1) := by decide +kernel
theorem d_law_494 : decode code 494 = .ok (.i2l, 1) := by decide +kernel
theorem d_law_495 : decode code 495 = .ok (.ldc2_w 128, 3) := by decide +kernel
theorem d_law_498 : decode code 498 = .ok (.land, 1) := by decide +kernel
theorem d_law_499 : decode code 499 = .ok (.lor, 1) := by decide +kernel
theorem d_law_500 : decode code 500 = .ok (.aload_n 3, 1) := by decide +kernel
theorem d_law_501 : decode code 501 = .ok (.invokestatic 134, 3) := by decide +kernel
theorem d_law_504 : decode code 504 = .ok (.istore 5, 2) := by decide +kernel
theorem d_law_506 : decode code 506 = .ok (.aload_n 2, 1) := by decide +kernel
theorem d_law_507 : decode code 507 = .ok (.aload_n 0, 1) := by decide +kernel
theorem d_law_508 : decode code 508 = .ok (.iload 4, 2) := by decide +kernel
theorem d_law_510 : decode code 510 = .ok (.iconst 1, 1) := by decide +kernel
theorem d_law_511 : decode code 511 = .ok (.iadd, 1) := by decide +kernel
theorem d_law_512 : decode code 512 = .ok (.iaload, 1) := by decide +kernel
theorem d_law_513 : decode code 513 = .ok (.aload_n 0, 1) := by decide +kernel
theorem d_law_514 : decode code 514 = .ok (.iload 4, 2) := by decide +kernel
theorem d_law_516 : decode code 516 = .ok (.iconst 2, 1) := by decide +kernel
theorem d_law_517 : decode code 517 = .ok (.iadd, 1) := by decide +kernel
theorem d_law_518 : decode code 518 = .ok (.iaload, 1) := by decide +kernel
theorem d_law_519 : decode code 519 = .ok (.aload_n 0, 1) := by decide +kernel
theorem d_law_520 : decode code 520 = .ok (.iload 4, 2) := by decide +kernel
theorem d_law_522 : decode code 522 = .ok (.iconst 3, 1) := by decide +kernel
theorem d_law_523 : decode code 523 = .ok (.iadd, 1) := by decide +kernel
theorem d_law_524 : decode code 524 = .ok (.iaload, 1) := by decide +kernel
theorem d_law_525 : decode code 525 = .ok (.aload_n 0, 1) := by decide +kernel
theorem d_law_526 : decode code 526 = .ok (.iload 4, 2) := by decide +kernel
theorem d_law_528 : decode code 528 = .ok (.iconst 4, 1) := by decide +kernel
theorem d_law_529 : decode code 529 = .ok (.iadd, 1) := by decide +kernel
theorem d_law_530 : decode code 530 = .ok (.iaload, 1) := by decide +kernel
theorem d_law_531 : decode code 531 = .ok (.aload_n 0, 1) := by decide +kernel
theorem d_law_532 : decode code 532 = .ok (.iload 4, 2) := by decide +kernel
theorem d_law_534 : decode code 534 = .ok (.iconst 5, 1) := by decide +kernel
theorem d_law_535 : decode code 535 = .ok (.iadd, 1) := by decide +kernel
theorem d_law_536 : decode code 536 = .ok (.iaload, 1) := by decide +kernel
theorem d_law_537 : decode code 537 = .ok (.i2l, 1) := by decide +kernel
theorem d_law_538 : decode code 538 = .ok (.bipush 32, 2) := by decide +kernel
theorem d_law_540 : decode code 540 = .ok (.lshl, 1) := by decide +kernel
theorem d_law_541 : decode code 541 = .ok (.aload_n 0, 1) := by decide +kernel
theorem d_law_542 : decode code 542 = .ok (.iload 4, 2) := by decide +kernel
theorem d_law_544 : decode code 544 = .ok (.bipush 6, 2) := by decide +kernel
theorem d_law_546 : decode code 546 = .ok (.iadd, 1) := by decide +kernel
theorem d_law_547 : decode code 547 = .ok (.iaload, 1) := by decide +kernel
theorem d_law_548 : decode code 548 = .ok (.i2l, 1) := by decide +kernel
theorem d_law_549 : decode code 549 = .ok (.ldc2_w 128, 3) := by decide +kernel
theorem d_law_552 : decode code 552 = .ok (.land, 1) := by decide +kernel
theorem d_law_553 : decode code 553 = .ok (.lor, 1) := by decide +kernel
theorem d_law_554 : decode code 554 = .ok (.invokevirtual 137, 3) := by decide +kernel
theorem d_law_557 : decode code 557 = .ok (.istore 6, 2) := by decide +kernel
theorem d_law_559 : decode code 559 = .ok (.aload_n 2, 1) := by decide +kernel
theorem d_law_560 : decode code 560 = .ok (.invokevirtual 120, 3) := by decide +kernel
theorem d_law_563 : decode code 563 = .ok (.iload 5, 2) := by decide +kernel
theorem d_law_565 : decode code 565 = .ok (.if_icmp .eq 5, 3) := by decide +kernel
theorem d_law_570 : decode code 570 = .ok (.iload 5, 2) := by decide +kernel
theorem d_law_572 : decode code 572 = .ok (.ifCond .ne 15, 3) := by decide +kernel
theorem d_law_587 : decode code 587 = .ok (.goto 1804, 3) := by decide +kernel
theorem d_law_575 : decode code 575 = .ok (.aload_n 3, 1) := by decide +kernel
theorem d_law_576 : decode code 576 = .ok (.iconst 0, 1) := by decide +kernel
theorem d_law_577 : decode code 577 = .ok (.laload, 1) := by decide +kernel
theorem d_law_578 : decode code 578 = .ok (.iload 6, 2) := by decide +kernel
theorem d_law_580 : decode code 580 = .ok (.i2l, 1) := by decide +kernel
theorem d_law_581 : decode code 581 = .ok (.lcmp, 1) := by decide +kernel
theorem d_law_582 : decode code 582 = .ok (.ifCond .eq 5, 3) := by decide +kernel
set_option maxHeartbeats 8000000 in
set_option maxRecDepth 100000 in
theorem law_k3 {p : Program} {e : Env} {s : State} {m : MethodId} {below : List Frame} {meth : Method} {c : Code} (l : Launch) (hfl : l.flags = flags0) {b L i : Nat} {xs : Nat → Int32} {D : va_G} {cc : Nat → ClassId} {md : Nat → Nat} {mc : Nat → ClassId} {o : Nat} {cL : ClassId} {sad sav : Nat → Nat} {ad : Nat → Nat → Nat} {ov : Nat → Int64} {N : Nat → Nat} {C : CS} {S : MS} {A : AS} {rd cells slots : Nat} {H : Heap} {locs : List Loc} {ls : Array Slot} (h : LwW p s m meth c b L xs D cc md mc o cL sad sav i ad ov N C S A rd H locs ls) (hi7 : i + 7 ≤ L) (hrd : rd + 60000 < 2 ^ 30) (hcb : cells ≤ 500000) (hsb : slots ≤ 6000000) (hk : ∀ (ad1 : Nat → Nat → Nat) (ov1 : Nat → Int64) (N1 : Nat → Nat) (C1 : CS) (S1 : MS) (A1 : AS) (rd1 c1 z1 : Nat) (H1 : Heap) (locs1 : List Loc) (ls1 : Array Slot), LwW p s m meth c b L xs D cc md mc o cL sad sav i ad1 ov1 N1 C1 S1 A1 rd1 H1 locs1 ls1 → A.n ≤ A1.n → A.m ≤ A1.m → rd1 ≤ rd + 50000 → c1 ≤ 2 * (A1.n - A.n) + 3 * (A1.m - A.m) + 1 → z1 ≤ 23 * (A1.n - A.n) + 40 * (A1.m - A.m) + 6 → W p l e room_1 s m #[Value.ref b] below meth c H1 locs1 (cells + c1) (slots + z1) (lw_Z below #[Value.ref b] s) (F0 m 2391 ls1 [])) : W p l e room_1 s m #[Value.ref b] below meth c H locs cells slots (lw_Z below #[Value.ref b] s) (F0 m 452 ls []) := by
  obtain ⟨⟨hx, hb, hr, hml, hown, hts, hX, hbl, hlocks, hL⟩, ⟨hev, hE, hN, hH⟩, ⟨hP, hK, hD, hS, hl⟩, hI⟩ := h
  have hNS : tx_NS (lA s) s := fun q cell hq hc => absurd (Array.getElem?_eq_some_iff.mp hc).1 (Nat.not_lt.mpr hq)
  have hA : ∀ q : Nat, s.heap.size ≤ q → lA s q := fun _ h => h
  have hbA : ¬ lA s b := Nat.not_le.mpr hbl
  have h11 : N 11 = 1 := hI.2.1.nn.2.2.2.2.2.2.2.2.2.2.2.1
  refine lv_aload_n hx hb d_law_452 rfl (lv_at hl 3 rfl) ?_
  refine lv_aload_n hx hb d_law_453 rfl (lv_at hl 4 rfl) ?_
  refine lv_iload hx hb d_law_454 (lv_at hl 0 rfl) ?_
  refine lv_iconst (v := 1) hx hb d_law_456 (by decide) ?_
  refine lv_iadd hx hb d_law_457 ?_
  refine w_i (y := nI (i + 1)) (nI_add i 1) ?_
  refine va_sld hx hb hX hbl hbA hS (i := nI (i + 1)) (vp_in_nI (n := i + 1) (N := L) (by omega) (by omega)) d_law_458 ?_
  refine w_i (y := xs (i + 1)) (by rw [cl_nI (by omega)]) ?_
  refine lv_aload_n hx hb d_law_459 rfl (lv_at hl 4 rfl) ?_
  refine lv_iload hx hb d_law_460 (lv_at hl 0 rfl) ?_
  refine lv_iconst (v := 2) hx hb d_law_462 (by decide) ?_
  refine lv_iadd hx hb d_law_463 ?_
  refine w_i (y := nI (i + 2)) (nI_add i 2) ?_
  refine va_sld hx hb hX hbl hbA hS (i := nI (i + 2)) (vp_in_nI (n := i + 2) (N := L) (by omega) (by omega)) d_law_464 ?_
  refine w_i (y := xs (i + 2)) (by rw [cl_nI (by omega)]) ?_
  refine lv_aload_n hx hb d_law_465 rfl (lv_at hl 4 rfl) ?_
  refine lv_iload hx hb d_law_466 (lv_at hl 0 rfl) ?_
  refine lv_iconst (v := 3) hx hb d_law_468 (by decide) ?_
  refine lv_iadd hx hb d_law_469 ?_
  refine w_i (y := nI (i + 3)) (nI_add i 3) ?_
  refine va_sld hx hb hX hbl hbA hS (i := nI (i + 3)) (vp_in_nI (n := i + 3) (N := L) (by omega) (by omega)) d_law_470 ?_
  refine w_i (y := xs (i + 3)) (by rw [cl_nI (by omega)]) ?_
  refine lv_aload_n hx hb d_law_471 rfl (lv_at hl 4 rfl) ?_
  refine lv_iload hx hb d_law_472 (lv_at hl 0 rfl) ?_
  refine lv_iconst (v := 4) hx hb d_law_474 (by decide) ?_
  refine lv_iadd hx hb d_law_475 ?_
  refine w_i (y := nI (i + 4)) (nI_add i 4) ?_
  refine va_sld hx hb hX hbl hbA hS (i := nI (i + 4)) (vp_in_nI (n := i + 4) (N := L) (by omega) (by omega)) d_law_476 ?_
  refine w_i (y := xs (i + 4)) (by rw [cl_nI (by omega)]) ?_
  refine lv_aload_n hx hb d_law_477 rfl (lv_at hl 4 rfl) ?_
  refine lv_iload hx hb d_law_478 (lv_at hl 0 rfl) ?_
  refine lv_iconst (v := 5) hx hb d_law_480 (by decide) ?_
  refine lv_iadd hx hb d_law_481 ?_
  refine w_i (y := nI (i + 5)) (nI_add i 5) ?_
  refine va_sld hx hb hX hbl hbA hS (i := nI (i + 5)) (vp_in_nI (n := i + 5) (N := L) (by omega) (by omega)) d_law_482 ?_
  refine w_i (y := xs (i + 5)) (by rw [cl_nI (by omega)]) ?_
  refine lv_i2l hx hb d_law_483 rfl ?_
  refine lv_bipush (v := 32) hx hb d_law_484 (by decide) ?_
  refine lv_lshl hx hb d_law_486 rfl ?_
  refine lv_aload_n hx hb d_law_487 rfl (lv_at hl 4 rfl) ?_
  refine lv_iload hx hb d_law_488 (lv_at hl 0 rfl) ?_
  refine lv_bipush (v := 6) hx hb d_law_490 (by decide) ?_
  refine lv_iadd hx hb d_law_492 ?_
  refine w_i (y := nI (i + 6)) (nI_add i 6) ?_
  refine va_sld hx hb hX hbl hbA hS (i := nI (i + 6)) (vp_in_nI (n := i + 6) (N := L) (by omega) (by omega)) d_law_493 ?_
  refine w_i (y := xs (i + 6)) (by rw [cl_nI (by omega)]) ?_
  refine lv_i2l hx hb d_law_494 rfl ?_
  refine lv_ldc2 (v := 4294967295) hx hb hown (hts _ kw_2007) d_law_495 ?_
  refine lv_land hx hb d_law_498 ?_
  refine lv_lor hx hb d_law_499 ?_
  refine lv_topl (fun xl exl => ?_)
  refine lv_aload_n hx hb d_law_500 rfl (lv_at hl 1 rfl) ?_
  obtain ⟨N1, C1, ov1, kk, c1, z1, S1, bb, A1, rd1, e1, e2, e3, e4, hI1, e5, e6, e7, e8, e9⟩ := st_put (ov := ov) hI hrd (xs (i + 1)) (xs (i + 2)) (xs (i + 3)) (xs (i + 4)) xl
  have hn1 := hI1.2.2.1.1.1
  have hm1 := hI1.2.2.1.1.2.1
  have hPh := p_l hP
  have hDh := d_l hD
  have hKh := hK.sub (tys' := cty cc ++ [(cL, .long)]) [0, 1, 2, 3, 4, 5, 6, 7] rfl
  have hFc := fr_all hDh hS hA
  refine va_calli (tx_runSW (As := [.ref (ad 11 0), .int (xs (i + 1)), .int (xs (i + 2)), .int (xs (i + 3)), .int (xs (i + 4)), .long xl, .ref o]) (rest := []) ⟨hx, hb, hml, hown, hts⟩ (g_h_put l hfl D H.size (ad := ad) (cc := cc) (sad := sad) (sav := sav) (cL := cL) (a := o) e1) (cw_w 7 hts kw_768 kw_766 kw_767 kw_0 rfl rfl (by decide +kernel) ⟨Nat.le_of_ble_eq_true rfl, Nat.le_of_ble_eq_true rfl⟩) ⟨h_blind, fun U hU hW => h_pre hU hW hPh hKh hDh hev hE hN hH hNS hS hFc⟩ rfl rfl hl.1 rfl (lv_room (Nat.le_of_ble_eq_true rfl)) d_law_501 ⟨by show cells + c1 ≤ 601024; omega, by show slots + z1 ≤ 7293034; omega⟩) hS (fun q _ h => hFc q h) hFc (fun rz ad1 t H1 locs ht hvm hw hB hz1 hk1 hS => ?_)
  obtain ⟨hXt, hP1, -, hD1⟩ := hB
  rw [ht] at hP1
  obtain ⟨hP, hD⟩ := join_w hP hD hk1 hFc hP1 hD1
  refine w_i (y := kk) hw ?_
  have had : ad1 11 0 = ad 11 0 := hXt.2 11 0 (by rw [h11]; decide)
  rw [← had] at hl
  generalize H1 = H at hP hS ⊢
  refine W.cs (cells' := cells + c1) (slots' := slots + z1) rfl rfl ?_
  refine lv_istore (lv' := [(5, .int kk), (4, .int (nI i)), (3, .ref o), (2, .ref (md 100)), (1, .ref (ad1 11 0)), (0, .ref b)]) hx hb d_law_504 hl (by decide) rfl (fun ls hl => ?_)
  refine lv_aload_n hx hb d_law_506 rfl (lv_at hl 3 rfl) ?_
  refine lv_aload_n hx hb d_law_507 rfl (lv_at hl 5 rfl) ?_
  refine lv_iload hx hb d_law_508 (lv_at hl 1 rfl) ?_
  refine lv_iconst (v := 1) hx hb d_law_510 (by decide) ?_
  refine lv_iadd hx hb d_law_511 ?_
  refine w_i (y := nI (i + 1)) (nI_add i 1) ?_
  refine va_sld hx hb hX hbl hbA hS (i := nI (i + 1)) (vp_in_nI (n := i + 1) (N := L) (by omega) (by omega)) d_law_512 ?_
  refine w_i (y := xs (i + 1)) (by rw [cl_nI (by omega)]) ?_
  refine lv_aload_n hx hb d_law_513 rfl (lv_at hl 5 rfl) ?_
  refine lv_iload hx hb d_law_514 (lv_at hl 1 rfl) ?_
  refine lv_iconst (v := 2) hx hb d_law_516 (by decide) ?_
  refine lv_iadd hx hb d_law_517 ?_
  refine w_i (y := nI (i + 2)) (nI_add i 2) ?_
  refine va_sld hx hb hX hbl hbA hS (i := nI (i + 2)) (vp_in_nI (n := i + 2) (N := L) (by omega) (by omega)) d_law_518 ?_
  refine w_i (y := xs (i + 2)) (by rw [cl_nI (by omega)]) ?_
  refine lv_aload_n hx hb d_law_519 rfl (lv_at hl 5 rfl) ?_
  refine lv_iload hx hb d_law_520 (lv_at hl 1 rfl) ?_
  refine lv_iconst (v := 3) hx hb d_law_522 (by decide) ?_
  refine lv_iadd hx hb d_law_523 ?_
  refine w_i (y := nI (i + 3)) (nI_add i 3) ?_
  refine va_sld hx hb hX hbl hbA hS (i := nI (i + 3)) (vp_in_nI (n := i + 3) (N := L) (by omega) (by omega)) d_law_524 ?_
  refine w_i (y := xs (i + 3)) (by rw [cl_nI (by omega)]) ?_
  refine lv_aload_n hx hb d_law_525 rfl (lv_at hl 5 rfl) ?_
  refine lv_iload hx hb d_law_526 (lv_at hl 1 rfl) ?_
  refine lv_iconst (v := 4) hx hb d_law_528 (by decide) ?_
  refine lv_iadd hx hb d_law_529 ?_
  refine w_i (y := nI (i + 4)) (nI_add i 4) ?_
  refine va_sld hx hb hX hbl hbA hS (i := nI (i + 4)) (vp_in_nI (n := i + 4) (N := L) (by omega) (by omega)) d_law_530 ?_
  refine w_i (y := xs (i + 4)) (by rw [cl_nI (by omega)]) ?_
  refine lv_aload_n hx hb d_law_531 rfl (lv_at hl 5 rfl) ?_
  refine lv_iload hx hb d_law_532 (lv_at hl 1 rfl) ?_
  refine lv_iconst (v := 5) hx hb d_law_534 (by decide) ?_
  refine lv_iadd hx hb d_law_535 ?_
  refine w_i (y := nI (i + 5)) (nI_add i 5) ?_
  refine va_sld hx hb hX hbl hbA hS (i := nI (i + 5)) (vp_in_nI (n := i + 5) (N := L) (by omega) (by omega)) d_law_536 ?_
  refine w_i (y := xs (i + 5)) (by rw [cl_nI (by omega)]) ?_
  refine lv_i2l hx hb d_law_537 rfl ?_
  refine lv_bipush (v := 32) hx hb d_law_538 (by decide) ?_
  refine lv_lshl hx hb d_law_540 rfl ?_
  refine lv_aload_n hx hb d_law_541 rfl (lv_at hl 5 rfl) ?_
  refine lv_iload hx hb d_law_542 (lv_at hl 1 rfl) ?_
  refine lv_bipush (v := 6) hx hb d_law_544 (by decide) ?_
  refine lv_iadd hx hb d_law_546 ?_
  refine w_i (y := nI (i + 6)) (nI_add i 6) ?_
  refine va_sld hx hb hX hbl hbA hS (i := nI (i + 6)) (vp_in_nI (n := i + 6) (N := L) (by omega) (by omega)) d_law_547 ?_
  refine w_i (y := xs (i + 6)) (by rw [cl_nI (by omega)]) ?_
  refine lv_i2l hx hb d_law_548 rfl ?_
  refine lv_ldc2 (v := 4294967295) hx hb hown (hts _ kw_2007) d_law_549 ?_
  refine lv_land hx hb d_law_552 ?_
  refine lv_lor hx hb d_law_553 ?_
  refine w_l (y := xl) exl.symm ?_
  have hPc := p_r hP
  have hDc := d_r hD
  have hKc := hK.sub (tys' := mty mc) [8, 9, 10, 11, 12] rfl
  have hFc := fr_all hDc hS hA
  refine va_calli (va_runV (As := [.int (xs (i + 1)), .int (xs (i + 2)), .int (xs (i + 3)), .int (xs (i + 4)), .long xl]) (rest := []) ⟨hx, hb, hml, hown, hts⟩ (g_rput l D H.size (md := md) (mc := mc) e2) (cw_v 5 hts kw_1709 kw_1706 kw_1707 kw_1708 kw_11 rfl rfl (by decide +kernel) ⟨Nat.le_of_ble_eq_true rfl, Nat.le_of_ble_eq_true rfl⟩) ⟨g_blind, va_recv hKc hPc (ci := 12) (q0 := 0) rfl rfl, fun U hU hW => g_pre hU hW hPc hKc hDc⟩ rfl rfl hl.1 rfl (lv_room (Nat.le_of_ble_eq_true rfl)) d_law_554 ⟨by show cells + c1 + 0 ≤ 601024; omega, by show slots + z1 + 0 ≤ 7293034; omega⟩) hS (fun q _ h => hFc q h) hFc (fun rb u t H1 locs ht hvm hw hB hz1 hk1 hS => ?_)
  obtain ⟨hP1, -, hD1⟩ := hB
  rw [ht] at hP1
  obtain ⟨hP, hD⟩ := join_r hP hD hk1 hFc hP1 hD1
  refine w_i (y := bb) hw ?_
  generalize H1 = H at hP hS ⊢
  refine W.cs (cells' := cells + c1) (slots' := slots + z1) rfl rfl ?_
  refine lv_istore (lv' := [(6, .int bb), (5, .int kk), (4, .int (nI i)), (3, .ref o), (2, .ref (md 100)), (1, .ref (ad1 11 0)), (0, .ref b)]) hx hb d_law_557 hl (by decide) rfl (fun ls hl => ?_)
  refine lv_aload_n hx hb d_law_559 rfl (lv_at hl 4 rfl) ?_
  have hPc := p_r hP
  have hDc := d_r hD
  have hKc := hK.sub (tys' := mty mc) [8, 9, 10, 11, 12] rfl
  have hFc := fr_all hDc hS hA
  refine va_calli (va_runV (As := []) (rest := []) ⟨hx, hb, hml, hown, hts⟩ (g_rthrown l D H.size (md := md) (mc := mc) (show m_rthrown S1 = some (S1, S1.i 0) from rfl)) (cw_v 0 hts kw_1618 kw_1615 kw_1616 kw_1617 kw_11 rfl rfl (by decide +kernel) ⟨Nat.le_of_ble_eq_true rfl, Nat.le_of_ble_eq_true rfl⟩) ⟨g_blind, va_recv hKc hPc (ci := 12) (q0 := 0) rfl rfl, fun U hU hW => g_pre hU hW hPc hKc hDc⟩ rfl rfl hl.1 rfl (lv_room (Nat.le_of_ble_eq_true rfl)) d_law_560 ⟨by show cells + c1 + 0 ≤ 601024; omega, by show slots + z1 + 0 ≤ 7293034; omega⟩) hS (fun q _ h => hFc q h) hFc (fun rt u t H1 locs ht hvm hw hB hz1 hk1 hS => ?_)
  obtain ⟨hP1, -, hD1⟩ := hB
  rw [ht] at hP1
  obtain ⟨hP, hD⟩ := join_r hP hD hk1 hFc hP1 hD1
  refine w_i (y := kk) (hw.trans e3) ?_
  generalize H1 = H at hP hS ⊢
  refine W.cs (cells' := cells + c1) (slots' := slots + z1) rfl rfl ?_
  refine lv_iload hx hb d_law_563 (lv_at hl 1 rfl) ?_
  refine lv_icmp_eq (tgt := 570) hx hb d_law_565 (by decide) (fun _ => ?_) (fun h => absurd rfl h)
  refine lv_iload hx hb d_law_570 (lv_at hl 1 rfl) ?_
  refine lv_if_ne (tgt := 587) hx hb d_law_572 (by decide) (fun ck => ?_) (fun ck => ?_)
  · refine lv_goto (tgt := 2391) hx hb d_law_587 (by decide) ?_
    exact hk ad1 ov1 N1 C1 S1 A1 rd1 c1 z1 H _ ls ⟨⟨hx, hb, hr, hml, hown, hts, hX, hbl, hlocks, hL⟩, ⟨hev, hE, hN, hH⟩, ⟨hP, hK, hD, hS, lv_sub hl [2, 3, 4, 5, 6] rfl⟩, hI1⟩ e5 e6 e7 e8 e9
  · refine lv_aload_n hx hb d_law_575 rfl (lv_at hl 3 rfl) ?_
    refine lv_iconst (v := 0) hx hb d_law_576 (by decide) ?_
    refine va_lald hx hb hK hP (cw ad1 cc N1 C1).length 7 at_mid rfl (i := 0) (vp_in_nI (n := 0) (N := 1) (by decide) (by decide)) d_law_577 ?_
    refine w_l (y := ov1 0) rfl ?_
    refine lv_iload hx hb d_law_578 (lv_at hl 0 rfl) ?_
    refine lv_i2l hx hb d_law_580 rfl ?_
    refine w_l (y := ov1 0) (e4 ck).symm ?_
    refine W.lcmp hx hb d_law_581 ?_
    refine w_i (y := 0) (by simp [lg_cmp]) ?_
    refine lv_if_eq (tgt := 587) hx hb d_law_582 (by decide) (fun _ => ?_) (fun h => absurd rfl h)
    refine lv_goto (tgt := 2391) hx hb d_law_587 (by decide) ?_
    exact hk ad1 ov1 N1 C1 S1 A1 rd1 c1 z1 H _ ls ⟨⟨hx, hb, hr, hml, hown, hts, hX, hbl, hlocks, hL⟩, ⟨hev, hE, hN, hH⟩, ⟨hP, hK, hD, hS, lv_sub hl [2, 3, 4, 5, 6] rfl⟩, hI1⟩ e5 e6 e7 e8 e9
