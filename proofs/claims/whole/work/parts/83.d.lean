/-! SPLICE: a run is inserted. -/
def pj (par : Option Nat) (n j : Nat) : Option Nat := if j = 0 then par else some (n + (j - 1))
def AS.inr (A : AS) (r : Nat) (x par : Option Nat) (bf : List Nat) (Lf : Nat → List Nat) : Nat → AS
  | 0 => A
  | j + 1 => ((A.inr r x par bf Lf j).mk r x 4 0 1 (pj par A.n j) (A.inr r x par bf Lf j).n [] [] ((A.inr r x par bf Lf j).oi (pj par A.n j)) (Lf j) [(A.inr r x par bf Lf j).n]).gs [bf.getD j 0]
/-- what is so after j have been inserted -/
def IST (A : AS) (r : Nat) (x par : Option Nat) (j : Nat) (B : AS) : Prop :=
  AI B ∧ B.oV r x ∧ B.kd x = A.kd x ∧ B.lk r = none ∧ B.n = A.n + j ∧ B.m = A.m ∧ B.kn = A.kn + j ∧ B.oi x = A.oi x ∧ (B.fl r x).length = (A.fl r x).length + j ∧ ∀ p, pj par A.n j = some p → p ∈ B.L x ∧ B.inV r p = true
section SPD
variable {S S' : MS} {N : Nat → Nat} {C C' : CS} {A B : AS} {r rd : Nat} {x par : Option Nat} {i k j : Nat} {bf : List Nat} {Lf : Nat → List Nat}
theorem inr_s : A.inr r x par bf Lf (j + 1) = ((A.inr r x par bf Lf j).mk r x 4 0 1 (pj par A.n j) (A.inr r x par bf Lf j).n [] [] ((A.inr r x par bf Lf j).oi (pj par A.n j)) (Lf j) [(A.inr r x par bf Lf j).n]).gs [bf.getD j 0] := rfl
theorem inr_congr {Lg : Nat → List Nat} : ∀ {j : Nat}, (∀ q, q < j → Lf q = Lg q) → A.inr r x par bf Lf j = A.inr r x par bf Lg j := by
  intro j
  induction j with
  | zero => intro _; rfl
  | succ j ih =>
    intro h
    rw [inr_s, inr_s, ih (fun q hq => h q (by omega)), h j (by omega)]
theorem IST_0 (hA : AI A) (hx : A.oV r x) (hlk : A.lk r = none) (hpar : ∀ p, par = some p → p ∈ A.L x ∧ A.inV r p = true) : IST A r x par 0 A :=
  ⟨hA, hx, rfl, hlk, rfl, rfl, rfl, rfl, rfl, hpar⟩
theorem IST_s {Lx : List Nat} {c : Nat} (h : IST A r x par j B) (hB' : AI ((B.mk r x 4 0 1 (pj par A.n j) B.n [] [] (B.oi (pj par A.n j)) Lx [B.n]).gs [c])) : IST A r x par (j + 1) ((B.mk r x 4 0 1 (pj par A.n j) B.n [] [] (B.oi (pj par A.n j)) Lx [B.n]).gs [c]) := by
  obtain ⟨hB, hx, ekd, hlk, en, em, ekn, eoi, efl, epar⟩ := h
  have hxl := oV_ltn hx
  have hfl := in_fl hB hB' hlk
  obtain ⟨D, hD⟩ : ∃ D, D = (B.mk r x 4 0 1 (pj par A.n j) B.n [] [] (B.oi (pj par A.n j)) Lx [B.n]).gs [c] := ⟨_, rfl⟩
  have dact : ∀ o, D.act o = if o = B.n then 4 else B.act o := fun o => by rw [hD]; rfl
  have did : ∀ o, o ≠ B.n → D.id o = B.id o := fun o ho => by
    rw [hD]
    show (B.mk r x 4 0 1 (pj par A.n j) B.n [] [] (B.oi (pj par A.n j)) Lx [B.n]).id o = _
    rw [mk_id, if_neg ho]
  have div : ∀ o, o < B.n → D.inV r o = B.inV r o := fun o ho => by
    rw [hD]
    exact mk_inVo (key := []) (pre := []) (par := pj par A.n j) hlk ho
  have divn : D.inV r B.n = true := by
    rw [hD]
    exact mk_inVn (x := x) (act := 4) (num := 0) (ins := 1) (s := B.n) (pl := B.oi (pj par A.n j)) (Lx := Lx) (Os := [B.n]) (key := []) (pre := []) (par := pj par A.n j) hlk
  have dn : D.n = B.n + 1 := by rw [hD]; rfl
  have dm : D.m = B.m := by rw [hD]; rfl
  have dkn : D.kn = B.kn + 1 := by rw [hD]; rfl
  have dlk : D.lk r = B.lk r := by rw [hD]; rfl
  have dobj : D.obj B.n = x := by
    rw [hD]
    show (B.mk r x 4 0 1 (pj par A.n j) B.n [] [] (B.oi (pj par A.n j)) Lx [B.n]).obj B.n = _
    rw [mk_obj, if_pos rfl]
  have dsp : D.sp B.n = B.n := by
    rw [hD]
    show (B.mk r x 4 0 1 (pj par A.n j) B.n [] [] (B.oi (pj par A.n j)) Lx [B.n]).sp B.n = _
    rw [mk_sp, if_pos rfl]
  rw [← hD] at hB' hfl ⊢
  clear hD
  refine ⟨hB', ?_, ?_, by rw [dlk]; exact hlk, by omega, by omega, by omega, ?_, by omega, ?_⟩
  · cases x with
    | none => trivial
    | some m =>
      obtain ⟨b1, b2, b3, b4⟩ := hx
      exact ⟨by omega, by rw [div m b1]; exact b2, by rw [dact, if_neg (by omega)]; exact b3, by rw [dact, if_neg (by omega)]; exact b4⟩
  · rw [← ekd]
    cases x with
    | none => rfl
    | some m =>
      have := hxl m rfl
      show D.act m = B.act m
      rw [dact, if_neg (by omega)]
  · rw [← eoi]
    cases x with
    | none => rfl
    | some m =>
      have := hxl m rfl
      exact did m (by omega)
  · intro p hp
    unfold pj at hp
    rw [if_neg (by omega)] at hp
    have hpn : p = B.n := by have := Option.some.inj hp; omega
    rw [hpn]
    refine ⟨?_, divn⟩
    exact ((hB'.2.2.1.2.2.2.2.2.2.2.2.1 x).2.1 B.n).mpr ⟨by omega, dobj, dsp⟩
theorem rsp_insert (hR : RS S A) (hA : AI A) (hr : r < 8) (hkd : A.kd x ≠ 6) (hI : ∀ j, j ≤ bf.length → IST A r x par j (A.inr r x par bf Lf j)) (h5 : S.i 5 = nI bf.length) (hb : byts S 2 0 bf) (hb8 : bf.length ≤ 8192) (hn : A.n + bf.length ≤ 4000) (hk : A.kn + bf.length ≤ 24576) :
    ∃ S', m_rsplice_L246 S (nI r) (nI (A.oi x)) (nI (A.oi par)) (nI 0) = some (S', nI r, nI (A.oi x)) ∧ RS S' (A.inr r x par bf Lf bf.length) ∧ frS S S' ∧ S'.i 0 = S.i 0 := by
  have := lp_run (body := fun w : MS × Int32 × Int32 × Int32 × Int32 => m_rsplice_B246 w.1 w.2.1 w.2.2.1 w.2.2.2.1 w.2.2.2.2) (fun j w => ∃ W, w = (W, nI r, nI (A.oi x), nI ((A.inr r x par bf Lf j).oi (pj par A.n j)), nI j) ∧ RS W (A.inr r x par bf Lf j) ∧ frS S W ∧ W.i 0 = S.i 0) (fun e => ∃ W, e = (W, nI r, nI (A.oi x)) ∧ RS W (A.inr r x par bf Lf bf.length) ∧ frS S W ∧ W.i 0 = S.i 0) bf.length ?_ FU (S, nI r, nI (A.oi x), nI (A.oi par), nI 0) (by unfold FU; omega) ⟨S, rfl, hR, frS.refl, rfl⟩
  · obtain ⟨e, h1, W, rfl, h2⟩ := this
    refine ⟨W, ?_, h2⟩
    unfold m_rsplice_L246
    exact h1
  · rintro j _ hj ⟨W, rfl, w1, w2, w3⟩
    have e5 : W.i 5 = nI bf.length := by rw [w2.1 5 (by simp)]; exact h5
    by_cases hjl : j < bf.length
    · left
      obtain ⟨hB, hx', ekd, hlk', en, em, ekn, eoi, efl, epar⟩ := hI j (by omega)
      obtain ⟨B, hBd⟩ : ∃ B, B = A.inr r x par bf Lf j := ⟨_, rfl⟩
      have hs : A.inr r x par bf Lf (j + 1) = (B.mk r x 4 0 1 (pj par A.n j) B.n [] [] (B.oi (pj par A.n j)) (Lf j) [B.n]).gs [bf.getD j 0] := by rw [inr_s, hBd]
      rw [hs]
      rw [← hBd] at w1 hB hx' ekd hlk' en em ekn eoi efl epar ⊢
      have hgj : bf.getD j 0 = bf[j] := by rw [List.getD_eq_getElem?_getD, List.getElem?_eq_getElem hjl]; rfl
      rw [hgj]
      obtain ⟨S6, m1, m2, m3⟩ := pS_insB (num := 0) (act := 4) (x := x) (par := pj par A.n j) (v := B.oi (pj par A.n j)) (s := B.n) (Lx := Lf j) (Os := [B.n]) (b' := 2) (p1 := j) (st := [bf[j]]) (q := nI 1) (p' := nI j) w1 hB hr (oV_ltn hx') (by omega) (by omega) (by simp) (fun _ => ⟨by
          intro q hq
          have hq0 : q = 0 := by simp at hq; omega
          subst hq0
          have := hb j hjl
          rw [Nat.zero_add] at this
          rw [w2.2 2 (by simp), Nat.add_zero]
          exact this, by show j + 1 ≤ 8300; omega⟩) (by show B.kn + 1 ≤ 24576; omega) (fun _ => rfl) (fun _ => rfl)
      have hid : S6.a 8 B.n = nI (((B.mk r x 4 0 1 (pj par A.n j) B.n [] [] (B.oi (pj par A.n j)) (Lf j) [B.n]).gs [bf[j]]).oi (pj par A.n (j + 1))) := by
        have h := (m2.2.1 B.n (show B.n < B.n + 1 by omega)).1
        have hpj : pj par A.n (j + 1) = some B.n := by
          unfold pj
          rw [if_neg (by omega)]
          congr 1
          omega
        rw [hpj]
        exact h
      rw [eoi] at m1
      refine ⟨(S6, nI r, nI (A.oi x), S6.a 8 B.n, nI (j + 1)), ?_, hjl, S6, by rw [hid], m2, w2.trans m3.toS, by rw [m3.1 0 (by decide) (by decide) (by decide) (by decide)]; exact w3⟩
      show m_rsplice_B246 W (nI r) (nI (A.oi x)) (nI (B.oi (pj par A.n j))) (nI j) = _
      unfold m_rsplice_B246
      rw [e5, if_neg (nle hjl (by omega)), show m_rinsertBehind W (nI r) (nI (A.oi x)) (nI (B.oi (pj par A.n j))) 4 0 2 (nI j) 1 = some (S6, nI B.n) from m1, ob_ok]
      simp only []
      rw [gd_ok (by omega) (by omega), cl_nI (by omega), nI_s]
    · right
      have e : j = bf.length := by omega
      refine ⟨(W, nI r, nI (A.oi x)), ?_, W, rfl, by rw [← e]; exact w1, w2, w3⟩
      show m_rsplice_B246 W (nI r) (nI (A.oi x)) (nI ((A.inr r x par bf Lf j).oi (pj par A.n j))) (nI j) = _
      unfold m_rsplice_B246
      rw [e5, e, if_pos (Int32.le_refl _)]
theorem csp_insert {jf : Nat} (G : RC N C A rd) (hA : AI A) (hv : VC C A r) (hr : r < 8) (hx : A.oV r x) (hkd : A.kd x ≠ 6) (hlk : A.lk r = none) (hpar : ∀ p, par = some p → p ∈ A.L x ∧ A.inV r p = true) (h9 : C.r 11 9 0 = some jf) (hjf : jf ≠ 0) (hw : RW C jf bf.length) (hb : RB C jf 0 bf) (hb8 : bf.length ≤ 8192) (hn : A.n + bf.length ≤ 4000) (hk : A.kn + bf.length ≤ 24576) :
    ∃ N' C' c z Lf, m_cJT_insertRun N 0 C r (ox x) (par.map (· + 1)) = some ((N', C'), c, z) ∧ c ≤ 2 * bf.length ∧ z ≤ 18 * bf.length ∧ RC N' C' (A.inr r x par bf Lf bf.length) rd ∧ (∀ j, j ≤ bf.length → IST A r x par j (A.inr r x par bf Lf j)) ∧ frC C C' := by
  have := lpA_run (body := fun w : (Nat → Nat) × CS × Option Nat × Option Nat × Option Nat × Int32 => m_cJT_insertRun_B6 w.1 0 w.2.1 w.2.2.1 w.2.2.2.1 w.2.2.2.2.1 w.2.2.2.2.2)
    (fun j w c z => ∃ M W Lf, w = (M, W, some r, some (ox x), (pj par A.n j).map (· + 1), nI j) ∧ RC M W (A.inr r x par bf Lf j) rd ∧ VC W (A.inr r x par bf Lf j) r ∧ (∀ q, q ≤ j → IST A r x par q (A.inr r x par bf Lf q)) ∧ frC C W ∧ c ≤ 2 * j ∧ z ≤ 18 * j)
    (fun e c z => ∃ M W Lf, e = (M, W) ∧ RC M W (A.inr r x par bf Lf bf.length) rd ∧ (∀ q, q ≤ bf.length → IST A r x par q (A.inr r x par bf Lf q)) ∧ frC C W ∧ c ≤ 2 * bf.length ∧ z ≤ 18 * bf.length) bf.length ?_ FU (N, C, some r, some (ox x), par.map (· + 1), nI 0) (by unfold FU; omega)
    ⟨N, C, fun _ => [], rfl, G, hv, fun q hq => by rw [show q = 0 by omega]; exact IST_0 hA hx hlk hpar, frC.refl, by omega, by omega⟩
  · obtain ⟨e, c, z, h1, M, W, Lf, rfl, h2, h3, h4, h5, h6⟩ := this
    refine ⟨M, W, c, z, Lf, ?_, h5, h6, h2, h3, h4⟩
    unfold m_cJT_insertRun m_cJT_insertRun_J0
    rw [show m_cJT_insertRun_L6 N 0 C (some r) (some (ox x)) (par.map (· + 1)) 0 = some ((M, W), c, z) by unfold m_cJT_insertRun_L6; exact h1, ov_ok, al_ok, Nat.zero_add, Nat.zero_add]
  · rintro j _ c z hj ⟨M, W, Lf, rfl, w1, w2, w3, w4, w5, w6⟩
    have hj7 := hw.1
    obtain ⟨t0, t1, t2, t3, t4, t5, t6, t7, t8, t9, t10, t11, t12, t13, t14, t15, t16, t17, t18⟩ := w1.nn
    have e9 : W.r 11 9 0 = some jf := by rw [w4.2.1]; exact h9
    have hwW := RW_fr w4 hjf hw
    have hbW := RB_fr w4 hjf hb
    by_cases hjl : j < bf.length
    · left
      obtain ⟨hB, hx', ekd, hlk', en, em, ekn, eoi, efl, epar⟩ := w3 j (Nat.le_refl _)
      obtain ⟨B, hBd⟩ : ∃ B, B = A.inr r x par bf Lf j := ⟨_, rfl⟩
      have hIST := w3 j (Nat.le_refl _)
      rw [← hBd] at w1 w2 hB hx' ekd hlk' en em ekn eoi efl epar hIST t3
      have hgj : bf.getD j 0 = bf[j] := by rw [List.getD_eq_getElem?_getD, List.getElem?_eq_getElem hjl]; rfl
      obtain ⟨N4, C4, Lx, k1, G4, hA4, hv4, hfr4⟩ := cJ_writeBehind (num := 0) (act := 4) (x := x) (par := pj par A.n j) w1 hB w2 hr hlk' (by omega) (by omega) hx' (by rw [ekd]; exact hkd) epar
      obtain ⟨D, hD⟩ : ∃ D, D = B.mk r x 4 0 1 (pj par A.n j) B.n [] [] (B.oi (pj par A.n j)) Lx [B.n] := ⟨_, rfl⟩
      rw [← hD] at G4 hA4 hv4
      have hDn : D.n = B.n + 1 := by rw [hD]; rfl
      have hDa : D.act B.n = 4 := by rw [hD, mk_act, if_pos rfl]
      have hDs : D.str B.n = [] := by rw [hD, mk_str, if_pos rfl]
      have hDk : D.ba B.n + (D.key B.n).length = D.kn := by rw [hD, mk_ba, mk_key, if_pos rfl, if_pos rfl]; rfl
      have hDkn : D.kn = B.kn := by rw [hD]; rfl
      have hw4 := RW_fr hfr4 hjf hwW
      have hb4 : RB C4 jf j [bf[j]] := by
        intro q hq
        have hq0 : q = 0 := by simp at hq; omega
        subst hq0
        have := RB_fr hfr4 hjf hbW j hjl
        rw [Nat.zero_add] at this
        rw [Nat.add_zero]
        exact this
      obtain ⟨f, k2, G5⟩ := cS_keepString (n := B.n) G4 hDn hDa hDs hDk hw4 hb4 (by show j + 1 ≤ bf.length; omega) (by show D.kn + 1 ≤ 24576; omega)
      obtain ⟨C5, hC5⟩ : ∃ C5, C5 = (C4.row 0 f (nI (D.kn + [bf[j]].length))).setI 3 10 (B.n + 1) (nI [bf[j]].length) := ⟨_, rfl⟩
      have hfr5 : frC C4 C5 := by rw [hC5]; exact frC_key
      have hv5 : VC C5 (D.gs [bf[j]]) r := by
        intro q hq
        have := hv4 q hq
        rw [hC5]
        exact this
      rw [← hC5] at k2 G5
      have hA5 : AI (D.gs [bf[j]]) := gs_AI hA4 (by show D.kn + 1 ≤ 24576; omega)
      obtain ⟨Lg, hLg⟩ : ∃ Lg : Nat → List Nat, Lg = fun q => if q = j then Lx else Lf q := ⟨_, rfl⟩
      have hLf : ∀ q, q ≤ j → A.inr r x par bf Lg q = A.inr r x par bf Lf q := fun q hq => inr_congr (fun p hp => by rw [hLg]; exact if_neg (by omega))
      have hs : A.inr r x par bf Lg (j + 1) = D.gs [bf[j]] := by
        rw [inr_s, hLf j (Nat.le_refl _), ← hBd, hgj, hD, show Lg j = Lx by rw [hLg]; exact if_pos rfl]
      have hI' : IST A r x par (j + 1) (D.gs [bf[j]]) := by
        rw [hD] at hA5 ⊢
        exact IST_s hIST hA5
      have hpj : pj par A.n (j + 1) = some B.n := by
        unfold pj
        rw [if_neg (by omega)]
        congr 1
        omega
      obtain ⟨v0, v1, v2, v3, v4, v5, v6, v7, v8, v9, v10, v11, v12, v13, v14, v15, v16, v17, v18⟩ := G4.nn
      rw [hDn] at v3
      refine ⟨(N4, C5, some r, some (ox x), some (B.n + 1), nI (j + 1)), 2, 18, ?_, hjl, N4, C5, Lg, by rw [hpj]; rfl, by rw [hs]; exact G5, by rw [hs]; exact hv5, ?_, (w4.trans hfr4).trans hfr5, by omega, by omega⟩
      · show m_cJT_insertRun_B6 M 0 W (some r) (some (ox x)) ((pj par A.n j).map (· + 1)) (nI j) = _
        unfold m_cJT_insertRun_B6
        have hox := ox_lt (oV_ltn hx')
        rw [gl_ok (by omega), e9, gn_s (by omega), hwW.2.2.1, if_neg (nle hjl (by omega)), gn_s (by omega), gn_s (by omega), show m_cJT_writeBehind M 0 W r (ox x) ((pj par A.n j).map (· + 1)) 4 0 = _ from k1, oq_ok]
        rw [show C4.r 11 9 0 = some jf by rw [hfr4.2.1]; exact e9, gn_s (by omega), gn_s (by omega), G4.st.1, gn_s (by omega)]
        rw [show m_cSt_keepString N4 0 C4 (B.n + 1) jf (nI j) 1 = some C5 from k2, ob_ok, al_ok, nI_s, Nat.zero_add, Nat.zero_add]
      · intro q hq
        by_cases e : q = j + 1
        · rw [e, hs]; exact hI'
        · rw [hLf q (by omega)]; exact w3 q (by omega)
    · right
      have e : j = bf.length := by omega
      refine ⟨(M, W), 0, 0, ?_, M, W, Lf, rfl, by rw [← e]; exact w1, by rw [← e]; exact w3, w4, by omega, by omega⟩
      show m_cJT_insertRun_B6 M 0 W (some r) (some (ox x)) ((pj par A.n j).map (· + 1)) (nI j) = _
      unfold m_cJT_insertRun_B6
      rw [gl_ok (by omega), e9, gn_s (by omega), hwW.2.2.1, e, if_pos (Int32.le_refl _)]
end SPD
