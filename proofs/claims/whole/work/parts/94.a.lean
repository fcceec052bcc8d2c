theorem d_law_23 : decode code 23 = .ok (.iload 4, 2) := by decide +kernel
theorem d_law_25 : decode code 25 = .ok (.aload_n 0, 1) := by decide +kernel
theorem d_law_26 : decode code 26 = .ok (.arraylength, 1) := by decide +kernel
theorem d_law_27 : decode code 27 = .ok (.bipush 7, 2) := by decide +kernel
theorem d_law_29 : decode code 29 = .ok (.isub, 1) := by decide +kernel
theorem d_law_30 : decode code 30 = .ok (.if_icmp .gt 2367, 3) := by decide +kernel
theorem d_law_2397 : decode code 2397 = .ok (.iconst 1, 1) := by decide +kernel
theorem d_law_2398 : decode code 2398 = .ok (.ireturn, 1) := by decide +kernel
theorem d_law_2391 : decode code 2391 = .ok (.iinc 4 7, 3) := by decide +kernel
theorem d_law_2394 : decode code 2394 = .ok (.goto (-2371), 3) := by decide +kernel
theorem d_law_33 : decode code 33 = .ok (.aload_n 0, 1) := by decide +kernel
theorem d_law_34 : decode code 34 = .ok (.iload 4, 2) := by decide +kernel
theorem d_law_36 : decode code 36 = .ok (.iaload, 1) := by decide +kernel
theorem d_law_37 : decode code 37 = .ok (.bipush 31, 2) := by decide +kernel
theorem d_law_39 : decode code 39 = .ok (.iand, 1) := by decide +kernel
theorem d_law_40 : decode code 40 = .ok (.tableswitch 2351 0 27 #[128, 232, 288, 412, 550, 688, 780, 860, 984, 1052, 1108, 1164, 1256, 1324, 1404, 1484, 1576, 1679, 1759, 1839, 1919, 1975, 2043, 2099, 2155, 2203, 2258, 2326], 128) := by decide +kernel
theorem law_cmp {L i : Nat} (hL : L ≤ 3584) (hi : i ≤ 3591) (h : ¬ Int32.ofNat L - 7 < nI i) : i + 7 ≤ L := by
  by_cases c : 7 ≤ L
  · rw [show Int32.ofNat L - 7 = nI (L - 7) from sub_nI (k := 7) c, nI_ltI (by omega) (by omega)] at h
    omega
  · exfalso
    apply h
    have hl : Int32.ofNat L - 7 < nI 0 := by
      rcases (show L = 0 ∨ L = 1 ∨ L = 2 ∨ L = 3 ∨ L = 4 ∨ L = 5 ∨ L = 6 by omega) with rfl | rfl | rfl | rfl | rfl | rfl | rfl <;> decide
    by_cases ci : i = 0
    · rw [ci]; exact hl
    · exact Int32.lt_trans hl ((nI_ltI (by omega) (by omega)).mpr (by omega))
set_option maxHeartbeats 8000000 in
set_option maxRecDepth 100000 in
theorem law_loop {p : Program} {e : Env} {s : State} {m : MethodId} {below : List Frame} {meth : Method} {c : Code} (l : Launch) (hfl : l.flags = flags0) {b L : Nat} {xs : Nat → Int32} {D : va_G} {cc : Nat → ClassId} {md : Nat → Nat} {mc : Nat → ClassId} {o : Nat} {cL : ClassId} {sad sav : Nat → Nat} : ∀ (n i : Nat) (ad : Nat → Nat → Nat) (ov : Nat → Int64) (N : Nat → Nat) (C : CS) (S : MS) (A : AS) (rd cells slots : Nat) (H : Heap) (locs : List Loc) (ls : Array Slot), L + 7 ≤ i + n → LwW p s m meth c b L xs D cc md mc o cL sad sav i ad ov N C S A rd H locs ls → i ≤ 3591 → cells ≤ 1000 + 2 * A.n + 3 * A.m + i → slots ≤ 1400000 + 23 * A.n + 40 * A.m + 6 * i → rd ≤ 50000 * i → W p l e room_1 s m #[Value.ref b] below meth c H locs cells slots (lw_Z below #[Value.ref b] s) (F0 m 23 ls []) := by
  intro n
  induction n using Nat.strongRecOn with
  | _ n ih0 =>
  intro i ad ov N C S A rd cells slots H locs ls hn h hil hcb hsb hrdb
  have ih : ∀ (i' : Nat) (ad : Nat → Nat → Nat) (ov : Nat → Int64) (N : Nat → Nat) (C : CS) (S : MS) (A : AS) (rd cells slots : Nat) (H : Heap) (locs : List Loc) (ls : Array Slot), (i' = i + 7 ∧ i + 7 ≤ L) → LwW p s m meth c b L xs D cc md mc o cL sad sav i' ad ov N C S A rd H locs ls → i' ≤ 3591 → cells ≤ 1000 + 2 * A.n + 3 * A.m + i' → slots ≤ 1400000 + 23 * A.n + 40 * A.m + 6 * i' → rd ≤ 50000 * i' → W p l e room_1 s m #[Value.ref b] below meth c H locs cells slots (lw_Z below #[Value.ref b] s) (F0 m 23 ls []) := by
    intro i' ad ov N C S A rd cells slots H locs ls hi'
    exact ih0 (n - 7) (by omega) i' ad ov N C S A rd cells slots H locs ls (by omega)
  obtain ⟨⟨hx, hb, hr, hml, hown, hts, hX, hbl, hlocks, hL⟩, hE4, ⟨hP, hK, hD, hS, hl⟩, hI⟩ := id h
  have hT : ∀ q : Nat, lA s q → s.heap.size ≤ q := fun _ h => h
  have hbA : ¬ lA s b := Nat.not_le.mpr hbl
  have hn1 := hI.2.2.1.1.1
  have hm1 := hI.2.2.1.1.2.1
  refine lv_iload hx hb d_law_23 (lv_at hl 0 rfl) ?_
  refine lv_aload_n hx hb d_law_25 rfl (lv_at hl 4 rfl) ?_
  refine va_slen hx hb hX hbl hbA hS d_law_26 ?_
  refine lv_bipush (v := 7) hx hb d_law_27 (by decide) ?_
  refine lv_isub hx hb d_law_29 ?_
  refine lv_icmp_gt (tgt := 2397) hx hb d_law_30 (by decide) (fun _ => ?_) (fun hc => ?_)
  · refine lv_iconst (v := 1) hx hb d_law_2397 (by decide) ?_
    refine va_forget (fun q hq => hT _ (hS.2.2 q hq)) ?_
    refine W.widen (show cells ≤ 601024 by omega) (show slots ≤ 7293034 by omega) ?_
    exact lw_ret hx hb hr hlocks d_law_2398
  · have hi7 : i + 7 ≤ L := law_cmp hL hil hc
    have hrd2 : rd + 60000 < 2 ^ 30 := by omega
    have hcb2 : cells ≤ 500000 := by omega
    have hsb2 : slots ≤ 6000000 := by omega
    have hk : ∀ (ad1 : Nat → Nat → Nat) (ov1 : Nat → Int64) (N1 : Nat → Nat) (C1 : CS) (S1 : MS) (A1 : AS) (rd1 c1 z1 : Nat) (H1 : Heap) (locs1 : List Loc) (ls1 : Array Slot), LwW p s m meth c b L xs D cc md mc o cL sad sav i ad1 ov1 N1 C1 S1 A1 rd1 H1 locs1 ls1 → A.n ≤ A1.n → A.m ≤ A1.m → rd1 ≤ rd + 50000 → c1 ≤ 2 * (A1.n - A.n) + 3 * (A1.m - A.m) + 1 → z1 ≤ 23 * (A1.n - A.n) + 40 * (A1.m - A.m) + 6 → W p l e room_1 s m #[Value.ref b] below meth c H1 locs1 (cells + c1) (slots + z1) (lw_Z below #[Value.ref b] s) (F0 m 2391 ls1 []) := by
      intro ad1 ov1 N1 C1 S1 A1 rd1 c1 z1 H1 locs1 ls1 g1 g2 g3 g4 g5 g6
      obtain ⟨hgA, hgE, ⟨gP, gK, gD, gS, gl⟩, gI⟩ := g1
      refine lv_iinc (v := nI (i + 7)) (lv' := [(4, .int (nI (i + 7))), (3, .ref o), (2, .ref (md 100)), (1, .ref (ad1 11 0)), (0, .ref b)]) hx hb d_law_2391 gl (k := 0) rfl (nI_add i 7) (by decide) rfl (fun ls hl => ?_)
      refine lv_goto (tgt := 23) hx hb d_law_2394 (by decide) ?_
      exact ih (i + 7) ad1 ov1 N1 C1 S1 A1 rd1 (cells + c1) (slots + z1) H1 locs1 ls (by omega) ⟨hgA, hgE, ⟨gP, gK, gD, gS, hl⟩, gI⟩ (by omega) (by omega) (by omega) (by omega)
    refine lv_aload_n hx hb d_law_33 rfl (lv_at hl 4 rfl) ?_
    refine lv_iload hx hb d_law_34 (lv_at hl 0 rfl) ?_
    refine va_sld hx hb hX hbl hbA hS (i := nI i) (vp_in_nI (n := i) (N := L) (by omega) (by omega)) d_law_36 ?_
    refine lv_bipush (v := 31) hx hb d_law_37 (by decide) ?_
    refine lv_iand hx hb d_law_39 ?_
    refine lv_topi (fun x ex => ?_)
    clear ex
    by_cases c0 : x = 0
    · subst c0
      refine lv_tableIn (tgt := 168) hx hb d_law_40 (by decide) (by decide) rfl (by decide) ?_
      exact law_k0 l hfl h hi7 hrd2 hcb2 hsb2 hk
    by_cases c1 : x = 1
    · subst c1
      refine lv_tableIn (tgt := 272) hx hb d_law_40 (by decide) (by decide) rfl (by decide) ?_
      exact law_k1 l hfl h hi7 hrd2 hcb2 hsb2 hk
    by_cases c2 : x = 2
    · subst c2
      refine lv_tableIn (tgt := 328) hx hb d_law_40 (by decide) (by decide) rfl (by decide) ?_
      exact law_k2 l hfl h hi7 hrd2 hcb2 hsb2 hk
    by_cases c3 : x = 3
    · subst c3
      refine lv_tableIn (tgt := 452) hx hb d_law_40 (by decide) (by decide) rfl (by decide) ?_
      exact law_k3 l hfl h hi7 hrd2 hcb2 hsb2 hk
    by_cases c4 : x = 4
    · subst c4
      refine lv_tableIn (tgt := 590) hx hb d_law_40 (by decide) (by decide) rfl (by decide) ?_
      exact law_k4 l hfl h hi7 hrd2 hcb2 hsb2 hk
    by_cases c5 : x = 5
    · subst c5
      refine lv_tableIn (tgt := 728) hx hb d_law_40 (by decide) (by decide) rfl (by decide) ?_
      exact law_k5 l hfl h hi7 hrd2 hcb2 hsb2 hk
    by_cases c6 : x = 6
    · subst c6
      refine lv_tableIn (tgt := 820) hx hb d_law_40 (by decide) (by decide) rfl (by decide) ?_
      exact law_k6 l hfl h hi7 hrd2 hcb2 hsb2 hk
    by_cases c7 : x = 7
    · subst c7
      refine lv_tableIn (tgt := 900) hx hb d_law_40 (by decide) (by decide) rfl (by decide) ?_
      exact law_k7 l hfl h hi7 hrd2 hcb2 hsb2 hk
    by_cases c8 : x = 8
    · subst c8
      refine lv_tableIn (tgt := 1024) hx hb d_law_40 (by decide) (by decide) rfl (by decide) ?_
      exact law_k8 l hfl h hi7 hrd2 hcb2 hsb2 hk
    by_cases c9 : x = 9
    · subst c9
      refine lv_tableIn (tgt := 1092) hx hb d_law_40 (by decide) (by decide) rfl (by decide) ?_
      exact law_k9 l hfl h hi7 hrd2 hcb2 hsb2 hk
    by_cases c10 : x = 10
    · subst c10
      refine lv_tableIn (tgt := 1148) hx hb d_law_40 (by decide) (by decide) rfl (by decide) ?_
      exact law_k10 l hfl h hi7 hrd2 hcb2 hsb2 hk
    by_cases c11 : x = 11
    · subst c11
      refine lv_tableIn (tgt := 1204) hx hb d_law_40 (by decide) (by decide) rfl (by decide) ?_
      exact law_k11 l hfl h hi7 hrd2 hcb2 hsb2 hk
    by_cases c12 : x = 12
    · subst c12
      refine lv_tableIn (tgt := 1296) hx hb d_law_40 (by decide) (by decide) rfl (by decide) ?_
      exact law_k12 l hfl h hi7 hrd2 hcb2 hsb2 hk
    by_cases c13 : x = 13
    · subst c13
      refine lv_tableIn (tgt := 1364) hx hb d_law_40 (by decide) (by decide) rfl (by decide) ?_
      exact law_k13 l hfl h hi7 hrd2 hcb2 hsb2 hk
    by_cases c14 : x = 14
    · subst c14
      refine lv_tableIn (tgt := 1444) hx hb d_law_40 (by decide) (by decide) rfl (by decide) ?_
      exact law_k14 l hfl h hi7 hrd2 hcb2 hsb2 hk
    by_cases c15 : x = 15
    · subst c15
      refine lv_tableIn (tgt := 1524) hx hb d_law_40 (by decide) (by decide) rfl (by decide) ?_
      exact law_k15 l hfl h hi7 hrd2 hcb2 hsb2 hk
    by_cases c16 : x = 16
    · subst c16
      refine lv_tableIn (tgt := 1616) hx hb d_law_40 (by decide) (by decide) rfl (by decide) ?_
      exact law_k16 l hfl h hi7 hrd2 hcb2 hsb2 hk
    by_cases c17 : x = 17
    · subst c17
      refine lv_tableIn (tgt := 1719) hx hb d_law_40 (by decide) (by decide) rfl (by decide) ?_
      exact law_k17 l hfl h hi7 hrd2 hcb2 hsb2 hk
    by_cases c18 : x = 18
    · subst c18
      refine lv_tableIn (tgt := 1799) hx hb d_law_40 (by decide) (by decide) rfl (by decide) ?_
      exact law_k18 l hfl h hi7 hrd2 hcb2 hsb2 hk
    by_cases c19 : x = 19
    · subst c19
      refine lv_tableIn (tgt := 1879) hx hb d_law_40 (by decide) (by decide) rfl (by decide) ?_
      exact law_k19 l hfl h hi7 hrd2 hcb2 hsb2 hk
    by_cases c20 : x = 20
    · subst c20
      refine lv_tableIn (tgt := 1959) hx hb d_law_40 (by decide) (by decide) rfl (by decide) ?_
      exact law_k20 l hfl h hi7 hrd2 hcb2 hsb2 hk
    by_cases c21 : x = 21
    · subst c21
      refine lv_tableIn (tgt := 2015) hx hb d_law_40 (by decide) (by decide) rfl (by decide) ?_
      exact law_k21 l hfl h hi7 hrd2 hcb2 hsb2 hk
    by_cases c22 : x = 22
    · subst c22
      refine lv_tableIn (tgt := 2083) hx hb d_law_40 (by decide) (by decide) rfl (by decide) ?_
      exact law_k22 l hfl h hi7 hrd2 hcb2 hsb2 hk
    by_cases c23 : x = 23
    · subst c23
      refine lv_tableIn (tgt := 2139) hx hb d_law_40 (by decide) (by decide) rfl (by decide) ?_
      exact law_k23 l hfl h hi7 hrd2 hcb2 hsb2 hk
    by_cases c24 : x = 24
    · subst c24
      refine lv_tableIn (tgt := 2195) hx hb d_law_40 (by decide) (by decide) rfl (by decide) ?_
      exact law_k24 l hfl h hi7 hrd2 hcb2 hsb2 hk
    by_cases c25 : x = 25
    · subst c25
      refine lv_tableIn (tgt := 2243) hx hb d_law_40 (by decide) (by decide) rfl (by decide) ?_
      exact law_k25 l hfl h hi7 hrd2 hcb2 hsb2 hk
    by_cases c26 : x = 26
    · subst c26
      refine lv_tableIn (tgt := 2298) hx hb d_law_40 (by decide) (by decide) rfl (by decide) ?_
      exact law_k26 l hfl h hi7 hrd2 hcb2 hsb2 hk
    by_cases c27 : x = 27
    · subst c27
      refine lv_tableIn (tgt := 2366) hx hb d_law_40 (by decide) (by decide) rfl (by decide) ?_
      exact law_k27 l hfl h hi7 hrd2 hcb2 hsb2 hk
    refine lv_tableOut (tgt := 2391) hx hb d_law_40 (by have q0 : x.toInt ≠ 0 := fun h => c0 (Int32.toInt_inj.mp (h.trans (by decide))); have q1 : x.toInt ≠ 1 := fun h => c1 (Int32.toInt_inj.mp (h.trans (by decide))); have q2 : x.toInt ≠ 2 := fun h => c2 (Int32.toInt_inj.mp (h.trans (by decide))); have q3 : x.toInt ≠ 3 := fun h => c3 (Int32.toInt_inj.mp (h.trans (by decide))); have q4 : x.toInt ≠ 4 := fun h => c4 (Int32.toInt_inj.mp (h.trans (by decide))); have q5 : x.toInt ≠ 5 := fun h => c5 (Int32.toInt_inj.mp (h.trans (by decide))); have q6 : x.toInt ≠ 6 := fun h => c6 (Int32.toInt_inj.mp (h.trans (by decide))); have q7 : x.toInt ≠ 7 := fun h => c7 (Int32.toInt_inj.mp (h.trans (by decide))); have q8 : x.toInt ≠ 8 := fun h => c8 (Int32.toInt_inj.mp (h.trans (by decide))); have q9 : x.toInt ≠ 9 := fun h => c9 (Int32.toInt_inj.mp (h.trans (by decide))); have q10 : x.toInt ≠ 10 := fun h => c10 (Int32.toInt_inj.mp (h.trans (by decide))); have q11 : x.toInt ≠ 11 := fun h => c11 (Int32.toInt_inj.mp (h.trans (by decide))); have q12 : x.toInt ≠ 12 := fun h => c12 (Int32.toInt_inj.mp (h.trans (by decide))); have q13 : x.toInt ≠ 13 := fun h => c13 (Int32.toInt_inj.mp (h.trans (by decide))); have q14 : x.toInt ≠ 14 := fun h => c14 (Int32.toInt_inj.mp (h.trans (by decide))); have q15 : x.toInt ≠ 15 := fun h => c15 (Int32.toInt_inj.mp (h.trans (by decide))); have q16 : x.toInt ≠ 16 := fun h => c16 (Int32.toInt_inj.mp (h.trans (by decide))); have q17 : x.toInt ≠ 17 := fun h => c17 (Int32.toInt_inj.mp (h.trans (by decide))); have q18 : x.toInt ≠ 18 := fun h => c18 (Int32.toInt_inj.mp (h.trans (by decide))); have q19 : x.toInt ≠ 19 := fun h => c19 (Int32.toInt_inj.mp (h.trans (by decide))); have q20 : x.toInt ≠ 20 := fun h => c20 (Int32.toInt_inj.mp (h.trans (by decide))); have q21 : x.toInt ≠ 21 := fun h => c21 (Int32.toInt_inj.mp (h.trans (by decide))); have q22 : x.toInt ≠ 22 := fun h => c22 (Int32.toInt_inj.mp (h.trans (by decide))); have q23 : x.toInt ≠ 23 := fun h => c23 (Int32.toInt_inj.mp (h.trans (by decide))); have q24 : x.toInt ≠ 24 := fun h => c24 (Int32.toInt_inj.mp (h.trans (by decide))); have q25 : x.toInt ≠ 25 := fun h => c25 (Int32.toInt_inj.mp (h.trans (by decide))); have q26 : x.toInt ≠ 26 := fun h => c26 (Int32.toInt_inj.mp (h.trans (by decide))); have q27 : x.toInt ≠ 27 := fun h => c27 (Int32.toInt_inj.mp (h.trans (by decide))); omega) (by decide) ?_
    refine W.cs (cells' := cells + 0) (slots' := slots + 0) rfl rfl ?_
    exact hk ad ov N C S A rd 0 0 H locs ls h (Nat.le_refl _) (Nat.le_refl _) (by omega) (by omega) (by omega)
theorem whole_start {p : Program} {e : Env} {s : State} {m : MethodId} {below : List Frame} {meth : Method} {c : Code} (l : Launch) (hfl : l.flags = flags0) {b L : Nat} {xs : Nat → Int32} (hL : L ≤ 3584) (C0 : lw_At p s m meth c b L xs) : W p l e room_1 s m #[Value.ref b] below meth c s.heap [] 0 0 (lw_Z below #[Value.ref b] s) (entryFrame m ([Value.ref b] : List Value).toArray 8) :=
  law_start l hL C0 (fun D cc md mc o cL sad sav ad ov H locs ls h => law_loop l hfl (L + 7) 0 ad ov Nj Cj MS0 A0 0 636 1394874 H locs ls (by omega) h (by omega) (by show 636 ≤ _; omega) (by show 1394874 ≤ _; omega) (by omega))

set_option maxHeartbeats 4000000 in
theorem lw_walk (l : Launch) (hfl : l.flags = flags0) (b : Addr) (xs : List Int32) : MetFree l x (headSpec (Jvm.Cond.code x code maxLocals ret :: tables_1) room_1) (lw_P b xs) (fun _ _ _ _ _ => True) lw_Q := by
  refine MetFree.of_bodyS (code := code) (maxLocals := maxLocals) (ret := ret) (by decide) ?_ ?_
  · intro args s m h hn
    obtain ⟨meth, c, h1, h2, h3, h4, h5, h6, -, -⟩ := Cond.code_spec hn (atoms_spec (ws := Jvm.Cond.code x code maxLocals ret :: tables_1) h _ List.mem_cons_self)
    exact ⟨meth, c, h1, h2, h3, h4, h5, h6⟩
  · intro p e s m args below meth c s₁ B hml0 hP _
    obtain ⟨rfl, hx, hbd, hgv⟩ := hP
    obtain ⟨scr, harrAt, hlist, hof, hsmall⟩ := hx
    obtain ⟨hcb, hkn, -, -⟩ := State.arrayAt?_spec harrAt
    have hown : s.vm.findClass R_law = some m.cls := findClass_of_methodNamed B.named
    have hts0 : ∀ c ∈ (Jvm.Cond.code x code maxLocals ret :: tables_1), c.before #[Value.ref b] s = true := atoms_spec (ws := Jvm.Cond.code x code maxLocals ret :: tables_1) B.pre
    have hts : ∀ w ∈ lw_tbl, w.before #[Value.ref b] s = true := k2_hts_sels lw_privs (fun w hw => hts0 w (List.mem_cons_of_mem _ hw)) lw_privs_ok
    have hml : c.maxLocals = 8 := B.maxLocals_eq (hts0 _ List.mem_cons_self)
    have X₀ : Stand p l e room_1 s m #[Value.ref b] below meth c s₁ [] 0 0 := Stand.of_body B
    have hh0 : s₁.heap = s.heap := by rw [B.state]; rfl
    have hsz : scr.slots.size = xs.length := by rw [← Array.length_toList, hlist, List.length_map]
    have hval : ∀ j : Nat, j < xs.length → scr.slots[j]? = some (.int (xs.getD j 0)) := fun j hj => by
      rw [← Array.getElem?_toList, hlist]
      simp [hj]
    have hbl : b < s.heap.size := (Array.getElem?_eq_some_iff.mp hcb).1
    have hX : va_X b xs.length (fun j => xs.getD j 0) s s.heap := ⟨scr, hcb, hof, hkn, hsz, hval⟩
    have K : W p l e room_1 s m #[Value.ref b] below meth c s₁.heap [] 0 0 (lw_Z below #[Value.ref b] s) (entryFrame m ([Value.ref b] : List Value).toArray 8) := by
      rw [hh0]
      exact whole_start l hfl hbd ⟨B.exec, B.bytes, B.returns, hml, hown, hts, hX, hbl, B.notSynchronized, hgv⟩
    obtain ⟨t, a1, o, b1, b2, b3⟩ := K s₁ rfl X₀
    exact ⟨t, o, a1, b1, b2, b3⟩
theorem lw_pre_spec {args : Array Value} {s : State} (h : (Jvm.Cond.and given_1 narrow_1).before args s = true) (hr : rest_1_c.before args s = true) : ∃ (b : Addr) (xs : List Int32), lw_P b xs args s := by
  have hs := flat_of_before _ h
  have hq := flat_of_before _ hr
  have hc : (Cond.count 1).before args s = true := hs _ (by decide +kernel)
  have harr : (Cond.arrayOf (.arg 0) .int).before args s = true := hs _ (by decide +kernel)
  have hle : (Cond.le (.length (.arg 0)) (.int 3584)).before args s = true := hs _ (by decide +kernel)
  have hlen : (Cond.isInt (.length (.arg 0))).before args s = true := hq _ (by decide +kernel)
  have hall : (Cond.all (.arg 0) (.isInt (.elem (.arg 0) (.index 0)))).before args s = true := hq _ (by decide +kernel)
  obtain ⟨b, xs, hb, hx⟩ := State.ints_of_pre rfl harr hlen hall
  have hsm : xs.length < 2 ^ 31 := hx.choose_spec.2.2.2
  have hev : (Term.length (.arg 0)).eval args s none [] s = some (.int xs.length.toInt32) := hx.length_eval hb
  have hv := Cond.le_ints hev (show (Term.int 3584).eval args s none [] s = some (.int 3584) from rfl)
  have hd : xs.length.toInt32 ≤ 3584 := by
    simpa [Cond.before, Cond.holds, hv] using hle
  have hN : xs.length ≤ 3584 := (Int32.ofNat_le_ofNat hsm (by decide)).mp (show Int32.ofNat xs.length ≤ Int32.ofNat 3584 from hd)
  exact ⟨b, xs, Cond.one_arg hc (show args[0]? = some (.ref b) from hb), hx, hN, h⟩
theorem lw_comes (l : Launch) (hfl : l.flags = flags0) : Comes l x (Jvm.Cond.code x code maxLocals ret :: tables_1) room_1 (fun tb e args s => Calls_1 tb e args s ∧ rest_1 tb e args s ∧ Pre_1 tb e args s)
    (fun _ _ args s o t => lw_Q args s o t) := by
  intro p e ha hc hk s m args below hf hfit hheap happ hpre
  obtain ⟨b, xs, hP⟩ := lw_pre_spec hpre.2.2 hpre.2.1
  obtain ⟨k, o, h1, h2, h3, hQ⟩ := lw_walk l hfl b xs p e ha hc hk s m args below hf ((Spec.applies_iff_loose hf).mp happ).1 hP trivial
  exact ⟨k, o, h1, h2, h3, hQ⟩
theorem lw_frame {s t : State} {o : Outcome} {args : Array Value} (h : Framed s o t [] 601024 7293034) :
    Framed s o t (fieldLocs frame_1_writes args s ++ arrayLocs frame_1_arrays args s ++ staticLocs frame_1_statics s) 601024 7293034 := h
theorem lw_limb (L : Cond) (hL : ∀ (args : Array Value) (s t : State), L.after args s (.returned (some (.int 1))) t = true) :
    ArmFor flags0 classFile x code maxLocals ret World_1 tables_1 room_1 Calls_1 rest_1 Pre_1
      (fun tb e a s o t => postC L tb e a s o t ∧ Framed s o t (fieldLocs frame_1_writes a s ++ arrayLocs frame_1_arrays a s ++ staticLocs frame_1_statics s) 601024 7293034) := by
  intro l hfl _ _ p e ha hc hk s m args below hf hfit hheap happ hpre
  obtain ⟨k, o, h1, h2, h3, rfl, hF⟩ := lw_comes l hfl p e ha hc hk s m args below hf hfit hheap happ hpre
  exact ⟨k, _, h1, h2, h3, hL args s _, lw_frame hF⟩
theorem i_vc : Claimed_1_1 ∧ Claimed_1_2 := ⟨lw_limb limb_1_1 (fun args s t => by simp [limb_1_1, Cond.after, Cond.holds, Cond.value]), lw_limb limb_1_2 (fun args s t => Cond.after_iff.mpr (by
  first | (rw [show limb_1_2 = Cond.eq .result (.int 1) from rfl, Cond.eq_ints (x := 1) (y := 1) rfl rfl]; simp; done) | (simp [limb_1_2, Cond.value, Term.eval]; done)))⟩

