theorem d_law_0 : decode code 0 = .ok (.new 8, 3) := by decide +kernel
theorem d_law_3 : decode code 3 = .ok (.dup, 1) := by decide +kernel
theorem d_law_4 : decode code 4 = .ok (.invokespecial 110, 3) := by decide +kernel
theorem d_law_7 : decode code 7 = .ok (.astore_n 1, 1) := by decide +kernel
theorem d_law_8 : decode code 8 = .ok (.new 111, 3) := by decide +kernel
theorem d_law_11 : decode code 11 = .ok (.dup, 1) := by decide +kernel
theorem d_law_12 : decode code 12 = .ok (.invokespecial 113, 3) := by decide +kernel
theorem d_law_15 : decode code 15 = .ok (.astore_n 2, 1) := by decide +kernel
theorem d_law_16 : decode code 16 = .ok (.iconst 1, 1) := by decide +kernel
theorem d_law_17 : decode code 17 = .ok (.newarray .long, 2) := by decide +kernel
theorem d_law_19 : decode code 19 = .ok (.astore_n 3, 1) := by decide +kernel
theorem d_law_20 : decode code 20 = .ok (.iconst 0, 1) := by decide +kernel
theorem d_law_21 : decode code 21 = .ok (.istore 4, 2) := by decide +kernel
theorem cw0 (ad : Nat → Nat → Nat) (cc : Nat → ClassId) : cw ad cc (Nn [0, 0, 0, 0, 0, 0, 0, 0, 0, 0, 0, 1, 0, 0, 0, 0, 0, 0, 0]) (DL [] [] [] [] 0) = [(ad 11 0, .inr (11, [.null, .null, .null, .null, .null, .null, .null, .int 0, .null, .null, .null, .int 0, .int 0]))] := by
  unfold cw
  simp only [cwF]
  rw [show cT ad cc (Nn [0, 0, 0, 0, 0, 0, 0, 0, 0, 0, 0, 1, 0, 0, 0, 0, 0, 0, 0]) (DL [] [] [] [] 0) 0 = [] from rfl]
  rw [show cT ad cc (Nn [0, 0, 0, 0, 0, 0, 0, 0, 0, 0, 0, 1, 0, 0, 0, 0, 0, 0, 0]) (DL [] [] [] [] 0) 1 = [] from rfl]
  rw [show cT ad cc (Nn [0, 0, 0, 0, 0, 0, 0, 0, 0, 0, 0, 1, 0, 0, 0, 0, 0, 0, 0]) (DL [] [] [] [] 0) 2 = [] from rfl]
  rw [show cT ad cc (Nn [0, 0, 0, 0, 0, 0, 0, 0, 0, 0, 0, 1, 0, 0, 0, 0, 0, 0, 0]) (DL [] [] [] [] 0) 3 = [] from rfl]
  rw [show cT ad cc (Nn [0, 0, 0, 0, 0, 0, 0, 0, 0, 0, 0, 1, 0, 0, 0, 0, 0, 0, 0]) (DL [] [] [] [] 0) 4 = [] from rfl]
  rw [show cT ad cc (Nn [0, 0, 0, 0, 0, 0, 0, 0, 0, 0, 0, 1, 0, 0, 0, 0, 0, 0, 0]) (DL [] [] [] [] 0) 5 = [] from rfl]
  rw [show cT ad cc (Nn [0, 0, 0, 0, 0, 0, 0, 0, 0, 0, 0, 1, 0, 0, 0, 0, 0, 0, 0]) (DL [] [] [] [] 0) 6 = [] from rfl]
  rw [show cT ad cc (Nn [0, 0, 0, 0, 0, 0, 0, 0, 0, 0, 0, 1, 0, 0, 0, 0, 0, 0, 0]) (DL [] [] [] [] 0) 7 = [] from rfl]
  rw [show cT ad cc (Nn [0, 0, 0, 0, 0, 0, 0, 0, 0, 0, 0, 1, 0, 0, 0, 0, 0, 0, 0]) (DL [] [] [] [] 0) 8 = [] from rfl]
  rw [show cT ad cc (Nn [0, 0, 0, 0, 0, 0, 0, 0, 0, 0, 0, 1, 0, 0, 0, 0, 0, 0, 0]) (DL [] [] [] [] 0) 9 = [] from rfl]
  rw [show cT ad cc (Nn [0, 0, 0, 0, 0, 0, 0, 0, 0, 0, 0, 1, 0, 0, 0, 0, 0, 0, 0]) (DL [] [] [] [] 0) 10 = [] from rfl]
  rw [show cT ad cc (Nn [0, 0, 0, 0, 0, 0, 0, 0, 0, 0, 0, 1, 0, 0, 0, 0, 0, 0, 0]) (DL [] [] [] [] 0) 12 = [] from rfl]
  rw [show cT ad cc (Nn [0, 0, 0, 0, 0, 0, 0, 0, 0, 0, 0, 1, 0, 0, 0, 0, 0, 0, 0]) (DL [] [] [] [] 0) 13 = [] from rfl]
  rw [show cT ad cc (Nn [0, 0, 0, 0, 0, 0, 0, 0, 0, 0, 0, 1, 0, 0, 0, 0, 0, 0, 0]) (DL [] [] [] [] 0) 14 = [] from rfl]
  rw [show cT ad cc (Nn [0, 0, 0, 0, 0, 0, 0, 0, 0, 0, 0, 1, 0, 0, 0, 0, 0, 0, 0]) (DL [] [] [] [] 0) 15 = [] from rfl]
  rw [show cT ad cc (Nn [0, 0, 0, 0, 0, 0, 0, 0, 0, 0, 0, 1, 0, 0, 0, 0, 0, 0, 0]) (DL [] [] [] [] 0) 16 = [] from rfl]
  rw [show cT ad cc (Nn [0, 0, 0, 0, 0, 0, 0, 0, 0, 0, 0, 1, 0, 0, 0, 0, 0, 0, 0]) (DL [] [] [] [] 0) 17 = [] from rfl]
  rw [show cT ad cc (Nn [0, 0, 0, 0, 0, 0, 0, 0, 0, 0, 0, 1, 0, 0, 0, 0, 0, 0, 0]) (DL [] [] [] [] 0) 18 = [] from rfl]
  rw [show cT ad cc (Nn [0, 0, 0, 0, 0, 0, 0, 0, 0, 0, 0, 1, 0, 0, 0, 0, 0, 0, 0]) (DL [] [] [] [] 0) 11 = [cCell ad cc (DL [] [] [] [] 0) 11 0] from rfl]
  simp only [List.append_nil, List.nil_append]
  congr 1
set_option maxHeartbeats 8000000 in
set_option maxRecDepth 100000 in
theorem law_start {p : Program} {e : Env} {s : State} {m : MethodId} {below : List Frame} {meth : Method} {c : Code} (l : Launch) {b L : Nat} {xs : Nat → Int32} (hL : L ≤ 3584) (C0 : lw_At p s m meth c b L xs) (k : ∀ (D : va_G) (cc : Nat → ClassId) (md : Nat → Nat) (mc : Nat → ClassId) (o : Nat) (cL : ClassId) (sad sav : Nat → Nat) (ad : Nat → Nat → Nat) (ov : Nat → Int64) (H : Heap) (locs : List Loc) (ls : Array Slot), LwW p s m meth c b L xs D cc md mc o cL sad sav 0 ad ov Nj Cj MS0 A0 0 H locs ls → W p l e room_1 s m #[Value.ref b] below meth c H locs 636 1394874 (lw_Z below #[Value.ref b] s) (F0 m 23 ls [])) : W p l e room_1 s m #[Value.ref b] below meth c s.heap [] 0 0 (lw_Z below #[Value.ref b] s) (entryFrame m ([Value.ref b] : List Value).toArray 8) := by
  obtain ⟨hx, hb, hr, hml, hown, hts0, hX, hbl, hlocks, hgv⟩ := C0
  have hts := gb_hts hts0
  have hev := law_ev hts0 hgv
  have hN := law_eN hts0
  have hH := law_eH hgv
  obtain ⟨sad, sav, hE⟩ := law_sE hts0 hgv
  have hA : ∀ q : Nat, s.heap.size ≤ q → lA s q := fun _ h => h
  have hNS : tx_NS (lA s) s := fun q cell hq hc => absurd (Array.getElem?_eq_some_iff.mp hc).1 (Nat.not_lt.mpr hq)
  obtain ⟨D, hK0⟩ := law_K hts
  obtain ⟨cc, mc, hK⟩ := law_T hts hev.2.2.2.2 hK0
  have hS : va_S (lA s) s.heap s.heap [] := va_S.rf
  have hP : va_P D cls [] s.heap := fun k q h => by simp at h
  have hD : va_D (lA s) [] := ⟨fun i j p q h => by simp at h, fun k q h => by simp at h⟩
  have hl := lv_entry ([.ref b]) (n := 8) (Nat.le_of_ble_eq_true rfl)
  rw [lg_entry_eq]
  generalize (lg_sl ([.ref b]) ++ List.replicate (8 - (lg_sl ([.ref b])).length) Slot.unset).toArray = ls at hl ⊢
  have hl : lv_has ls 8 [(0, .ref b)] := hl
  have hown : s.vm.findClass "JoinedTreesLaw" = some m.cls := hown
  refine va_new (D := D) (ci := 11) (fs := [.null, .null, .null, .null, .null, .null, .null, .int 0, .null, .null, .null, .int 0, .int 0]) (C := R_JT) (T := F_JT) (N := 13) hx hb hts i_JT t_JT t_JT_ok hown (hts _ kw_28) (hts _ kw_29) (hts _ kw_1) hK hP hD hS hA rfl (by decide +kernel) (Nat.le_of_ble_eq_true rfl) (Nat.le_of_ble_eq_true rfl) d_law_0 (fun q1 H hP hD hS => ?_)
  refine W.cs (cells' := 1) (slots' := 13) rfl rfl ?_
  refine lv_dup hx hb d_law_3 rfl ?_
  have hP : va_P D cls (cw (fun _ _ => q1) cc (Nn [0, 0, 0, 0, 0, 0, 0, 0, 0, 0, 0, 1, 0, 0, 0, 0, 0, 0, 0]) (DL [] [] [] [] 0)) H := by rw [cw0]; exact hP
  have hD : va_D (lA s) (cw (fun _ _ => q1) cc (Nn [0, 0, 0, 0, 0, 0, 0, 0, 0, 0, 0, 1, 0, 0, 0, 0, 0, 0, 0]) (DL [] [] [] [] 0)) := by rw [cw0]; exact hD
  have hKc := hK.sub (tys' := cty cc) [0, 1, 2, 3, 4, 5, 6] rfl
  have hFc := fr_all hD hS hA
  refine va_callv (va_runI (As := []) (rest := [.ref q1]) ⟨hx, hb, hml, hown, hts⟩ (g_cJT_init l D H.size (ad := fun _ _ => q1) (cc := cc) (sad := sad) (sav := sav) i_jt) (cw_i 0 hts kw_32 kw_30 kw_31 kw_1 rfl rfl rfl (by decide +kernel) ⟨Nat.le_of_ble_eq_true rfl, Nat.le_of_ble_eq_true rfl⟩) ⟨c_blind, fun U hU hW => c_pre hU hW hP hKc hD hev hE hN hNS hS hFc⟩ rfl rfl hl.1 rfl (lv_room (Nat.le_of_ble_eq_true rfl)) d_law_4 ⟨Nat.le_of_ble_eq_true rfl, Nat.le_of_ble_eq_true rfl⟩) hS (fun q _ h => hFc q h) hFc (fun ad t H1 locs ht hvm hw hB hz1 hk1 hS => ?_)
  obtain ⟨hXt, hP1, -, hD1⟩ := hB
  rw [ht] at hP1
  have hD0 := hD
  have hP0 := hP
  have hP : va_P D cls (cw ad cc Nj Cj) H1 := hP1
  have hD : va_D (lA s) (cw ad cc Nj Cj) := hD1.weaken (fun k q hq h => hFc q.1 h)
  have had : ad 11 0 = q1 := hXt.2 11 0 (by decide)
  rw [← had]
  generalize H1 = H at hP hS ⊢
  refine W.cs (cells' := 560) (slots' := 345136) rfl rfl ?_
  refine lv_astore_n (lv' := [(1, .ref (ad 11 0)), (0, .ref b)]) hx hb d_law_7 rfl hl (by decide) rfl (fun ls hl => ?_)
  refine va_new (D := D) (ci := 12) (fs := [.int 0, .null, .null, .null, .int 0, .int 0, .int 0, .int 0, .null, .null, .null, .null, .null, .null, .null, .null, .null, .null, .null, .null, .null, .null, .null, .int 0, .null, .int 0, .null, .int 0, .null, .null, .null, .null, .null, .null, .int 0, .int 0, .null, .null, .null, .null, .null, .int 0, .int 0, .int 0, .null, .null, .null, .int 0, .null, .null, .int 0, .null, .int 0, .null, .null, .null, .null, .null, .null, .null, .null, .null, .null, .null, .int 0, .int 0, .int 0, .int 0, .int 0, .int 0, .null, .int 0, .null, .int 0, .int 0, .int 0, .int 0]) (C := R_MM) (T := F_MM) (N := 77) hx hb hts i_MM t_MM t_MM_ok hown (hts _ kw_1370) (hts _ kw_1371) (hts _ kw_11) hK hP hD hS hA rfl (by decide +kernel) (Nat.le_of_ble_eq_true rfl) (Nat.le_of_ble_eq_true rfl) d_law_8 (fun q2 H hP hD hS => ?_)
  refine W.cs (cells' := 561) (slots' := 345213) rfl rfl ?_
  refine lv_dup hx hb d_law_11 rfl ?_
  have hPc := p_r hP
  have hDc := d_r hD
  have hKc := hK.sub (tys' := mty mc) [7, 8, 9, 10, 11] rfl
  have hFc := fr_all hDc hS hA
  refine va_callv (va_runI (As := []) (rest := [.ref q2]) ⟨hx, hb, hml, hown, hts⟩ (g_mi l D H.size (mc := mc) (sad := sad) (sav := sav) q2) (cw_i 0 hts kw_1374 kw_1372 kw_1373 kw_11 rfl rfl rfl (by decide +kernel) ⟨Nat.le_of_ble_eq_true rfl, Nat.le_of_ble_eq_true rfl⟩) ⟨c_blind, fun U hU hW => c_pre hU hW hPc hKc hDc hev hE hN hNS hS hFc⟩ rfl rfl hl.1 rfl (lv_room (Nat.le_of_ble_eq_true rfl)) d_law_12 ⟨Nat.le_of_ble_eq_true rfl, Nat.le_of_ble_eq_true rfl⟩) hS (fun q _ h => hFc q h) hFc (fun md t H1 locs ht hvm hw hB hz1 hk1 hS => ?_)
  obtain ⟨hP1, -, hD1⟩ := hB
  rw [ht] at hP1
  obtain ⟨hP, hD⟩ := join_r hP hD hk1 hFc hP1 hD1
  rw [← hw]
  generalize H1 = H at hP hS ⊢
  refine W.cs (cells' := 635) (slots' := 1394873) rfl rfl ?_
  refine lv_astore_n (lv' := [(2, .ref (md 100)), (1, .ref (ad 11 0)), (0, .ref b)]) hx hb d_law_15 rfl hl (by decide) rfl (fun ls hl => ?_)
  refine lv_iconst (v := 1) hx hb d_law_16 (by decide) ?_
  refine va_newa (atype := .long) (N' := 1) (a0 := (1, .inr (.inl (fun _ => 0)))) (ty := .long) hx hb (hts _ kw_1614) rfl hK hP hD hS hA (fun _ => rfl) (by decide) (by decide) (by decide) (Nat.le_of_ble_eq_true rfl) (Nat.le_of_ble_eq_true rfl) d_law_17 (fun o cL H hK hP hD hS => ?_)
  refine W.cs (cells' := 636) (slots' := 1394874) rfl rfl ?_
  have hKn : va_K D cls ((cty cc ++ [(cL, .long)]) ++ mty mc) s := hK.sub (tys' := (cty cc ++ [(cL, .long)]) ++ mty mc) [0, 1, 2, 3, 4, 5, 6, 12, 7, 8, 9, 10, 11] rfl
  have hP := p_perm hP
  have hD := d_perm hD
  refine lv_astore_n (lv' := [(3, .ref o), (2, .ref (md 100)), (1, .ref (ad 11 0)), (0, .ref b)]) hx hb d_law_19 rfl hl (by decide) rfl (fun ls hl => ?_)
  refine lv_iconst (v := 0) hx hb d_law_20 (by decide) ?_
  refine lv_istore (lv' := [(4, .int 0), (3, .ref o), (2, .ref (md 100)), (1, .ref (ad 11 0)), (0, .ref b)]) hx hb d_law_21 hl (by decide) rfl (fun ls hl => ?_)
  exact k D cc md mc o cL sad sav ad (fun _ => 0) H _ ls ⟨⟨hx, hb, hr, hml, hown, hts, hX, hbl, hlocks, hL⟩, ⟨hev, hE, hN, hH⟩, ⟨hP, hKn, hD, hS, hl⟩, A0_INV⟩
