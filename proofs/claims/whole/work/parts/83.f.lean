/-! THE CALL splice. -/
theorem omg1 {l k n : Nat} (h : n ≤ l - k) (hk : k ≤ l) : k + n ≤ l := by omega
theorem omg2 {l k n : Nat} (h : k + n ≤ l) : min k l + (l - (k + n)) = l - n := by omega
section SPF
variable {S S' : MS} {N : Nat → Nat} {C C' : CS} {A B : AS} {r rd : Nat} {bi bf bs bo : List Nat} {ji jf js a : Nat}
set_option maxHeartbeats 4000000 in
theorem call_splice (hI : INV S N C A rd) (hrd : rd + 60000 < 2 ^ 30) (x1 x2 x3 x4 : Int32) : ALIKE [(1, 1), (2, 2), (3, 3), (4, 4)] A rd N (m_cJT_splice N 0 C x1 x2 x3 x4) (m_rsplice S x1 x2 x3 x4) := by
  obtain ⟨hR, G, hA, bi, bf, bs, bo, ji, jf, js, a, hio⟩ := hI
  obtain ⟨u0, u1, u2, u3, u4, u5, u6, u7, u8, u9, u10, u11, u12, u13, u14, u15, u16, u17, u18⟩ := G.nn
  obtain ⟨s1, s2, s3, s4, s5, s6, s7, s8, s9, s10, s11, s12, s13, s14, s15, s16, s17, s18, s19, s20, s21⟩ := G.st
  have hnn := hA.1.1
  have hio0 := hio
  obtain ⟨⟨a1, a2, a3, a4, a5, a6, a7⟩, _, ⟨c1, c2, c3, c4, c5⟩, ⟨d1, d2, d3, d4, d5⟩, _, ⟨f1, f2, f3⟩, _⟩ := hio0
  have htk := pS_taken f1
  have htc := cJ_take u11 f2
  have hR1 : RS (S.setI 7 (nI 0)) A := hR.setI rfl
  have G1 : RC N (C.setI 11 11 0 (nI 0)) A rd := RC_take G
  have hio1 := hio.take
  have e5 : (S.setI 7 (nI 0)).i 5 = nI bf.length := c3
  generalize S.setI 7 (nI 0) = S1 at htk hR1 hio1 e5
  generalize C.setI 11 11 0 (nI 0) = C1 at htc G1 hio1
  rcases rep_or x1 with hx1 | ⟨r, hr, rfl⟩
  · refine alikeT (t := 1) (k := 1) (C' := C1) (S1 := S1) (v := nI 0) ?_ ?_ rfl hR1 G1 hA hio1 (Nat.le_refl _) (by omega)
    · unfold m_cJT_splice m_cJT_splice_J0
      rw [gl_ok (by omega), htc, ob_ok]
      simp only []
      rw [cJ_shownN hx1, oe_r]
    · unfold m_rsplice m_rsplice_J0
      rw [htk, ob_ok]
      simp only []
      rw [pS_isN hx1]
      rfl
  obtain ⟨C2, hsh, G2, hv2, hfr2⟩ := cJ_shown G1 hA hr
  have hio2 := hio1.fr frS.refl hfr2
  have e9 : C2.r 11 9 0 = some jf := hio2.1.2.1
  have hw2 : RW C2 jf bf.length := hio2.2.2.1.1
  have hjf := hw2.1
  have hcx : m_cJT_splice N 0 C (nI r) x2 x3 x4 = (if x4 < 0 then m_cJT_splice_J37 N 0 C2 else (if nI a = 1 then (if nI bf.length ≤ 1024 then oe (m_cJT_objectAt N 0 C2 x2) (fun o_12 => gn o_12.2 (N 3) (fun j_15 => (if o_12.1.i 3 2 j_15 = 8 then oe (m_cJT_elementBefore N 0 o_12.1 j_15 x3) (fun o_19 => gn (o_19.1.r 11 2 0) (N 10) (fun j_22 => ob (m_cVw_filledIn N j_22 o_19.1 j_15) (fun o_25 => (if x4 ≤ o_25.2 - x3 then gn (some r) (N 4) (fun j_28 => oe (m_cJT_needAll N 0 o_25.1 j_28) (fun o_31 => gn (o_31.r 11 9 0) (N 5) (fun j_34 => oe (m_cJT_needRoom N 0 o_31 (x4 + (o_31.i 5 1 j_34)) (o_31.i 5 1 j_34)) (fun o_37 => gn (o_37.r 11 2 0) (N 10) (fun j_40 => ob (m_cVw_spotAt N j_40 o_37 j_15 x3) (fun o_43 => gv o_19.2 (N 3) (ov (m_cJT_eraseRun N 0 o_43.1 j_28 o_43.2 x4) (fun N_48 S_49 => ov (m_cJT_insertRun N_48 0 S_49 j_28 j_15 o_19.2) (fun N_53 S_54 => gn (S_54.r 11 9 0) (N_53 5) (fun j_56 => some ((.inl (N_53, S_54, (o_25.2 - x4) + (S_54.i 5 1 j_56))), 0, 0)))))))) (fun t_39 => some ((.inr (N, t_39.1, t_39.2)), 1, 6)))) (fun t_33 => some ((.inr (N, t_33.1, t_33.2)), 1, 6))) else some ((.inr (N, o_25.1, 3)), 1, 6))))) (fun t_21 => some ((.inr (N, t_21.1, t_21.2)), 1, 6)) else some ((.inr (N, o_12.1, 1)), 1, 6)))) (fun t_14 => some ((.inr (N, t_14.1, t_14.2)), 1, 6)) else m_cJT_splice_J37 N 0 C2) else m_cJT_splice_J37 N 0 C2)) := by
    unfold m_cJT_splice m_cJT_splice_J0
    rw [gl_ok (by omega), htc, ob_ok]
    simp only []
    rw [hsh, oe_l]
    simp only []
    rw [e9, gn_s (by omega), hw2.2.2.1]
  have hrx : m_rsplice S (nI r) x2 x3 x4 = (if x4 < 0 then m_rsplice_J34 S1 else (if nI a = 1 then (if nI bf.length ≤ 1024 then ob (m_rkindOf S1 (nI r) x2) (fun o_9 => (if o_9.2 = 6 then m_rsplice_J62 o_9.1 else (if o_9.2 = 7 then m_rsplice_J62 o_9.1 else (if o_9.2 < 0 then m_rsplice_J94 o_9.1 else (if x3 < 0 then m_rsplice_J94 o_9.1 else ob (m_rindices o_9.1 (nI r) x2) (fun o_15 => (if lg_cmp (x3.toInt64 + x4.toInt64) o_15.2.toInt64 ≤ 0 then gd (nI r) 8 ((if o_15.1.a 39 (nI r).toNatClampNeg < 0 then ob (m_rfull o_15.1 (x4 + (o_15.1.i 5)) (o_15.1.i 5)) (fun o_20 => (if o_20.2 = 0 then ob (m_rsplice_L147 (o_20.1.setI 0 0) (nI r) x2 x3 x4 0) (fun b_23 => (if b_23.2.2.2 = 0 then m_rsplice_J241 b_23.1 b_23.2.1 b_23.2.2.1 0 else ob (m_rat b_23.1 b_23.2.1 b_23.2.2.1 (b_23.2.2.2 - 1)) (fun o_26 => gd o_26.2 4000 (gd (o_26.1.a 48 o_26.2.toNatClampNeg) 4000 (m_rsplice_J241 o_26.1 b_23.2.1 b_23.2.2.1 (o_26.1.a 8 ((o_26.1.a 48 o_26.2.toNatClampNeg).toNatClampNeg))))))) else ob (m_rno o_20.1 4) (fun o_30 => some (o_30.1, o_30.2)))) else ob (m_rno o_15.1 2) (fun o_32 => some (o_32.1, o_32.2)))) else m_rsplice_J94 o_15.1))))))) else m_rsplice_J34 S1) else m_rsplice_J34 S1)) := by
    unfold m_rsplice m_rsplice_J0
    rw [htk, ob_ok]
    simp only []
    rw [pS_isR hr, ob_ok, if_neg (show ¬ nI 1 = 0 by decide)]
    simp only []
    rw [e5]
  have hbad : m_cJT_splice N 0 C (nI r) x2 x3 x4 = m_cJT_splice_J37 N 0 C2 → m_rsplice S (nI r) x2 x3 x4 = m_rsplice_J34 S1 → ALIKE [(1, 1), (2, 2), (3, 3), (4, 4)] A rd N (m_cJT_splice N 0 C (nI r) x2 x3 x4) (m_rsplice S (nI r) x2 x3 x4) := by
    intro h1 h2
    exact alikeT (t := 1) (k := 1) (C' := C2) (S1 := S1) (v := nI 0) (by rw [h1]; rfl) (by rw [h2]; rfl) rfl hR1 G2 hA hio2 (Nat.le_refl _) (by omega)
  by_cases h4 : x4 < nI 0
  · rw [if_pos (show x4 < 0 from h4)] at hcx hrx
    exact hbad hcx hrx
  rw [if_neg (show ¬ x4 < 0 from h4)] at hcx hrx
  obtain ⟨n, hn31, rfl⟩ := nI_of h4
  by_cases ha1 : ¬ a = 1
  · have hn1 : ¬ nI a = 1 := fun h => ha1 ((nI_eq (b := 1) (by omega) (by omega)).mp h)
    rw [if_neg hn1] at hcx hrx
    exact hbad hcx hrx
  have ha1 : a = 1 := Classical.not_not.mp ha1
  rw [if_pos (show nI a = 1 by rw [ha1]; rfl)] at hcx hrx
  by_cases hl : ¬ bf.length ≤ 1024
  · have hn1 : ¬ nI bf.length ≤ 1024 := fun h => hl ((nI_leI (b := 1024) (by omega) (by omega)).mp h)
    rw [if_neg hn1] at hcx hrx
    exact hbad hcx hrx
  have hl : bf.length ≤ 1024 := Classical.not_not.mp hl
  rw [if_pos (show nI bf.length ≤ 1024 from (nI_leI (b := 1024) (by omega) (by omega)).mpr hl)] at hcx hrx
  rcases cJ_objectAt G2 hA hv2 x2 with ⟨x, hx, rfl, hob⟩ | ⟨hno, hob⟩
  · have hxl := oV_ltn hx
    have hox := ox_lt hxl
    have hkd2 := kd_ox G2 hxl
    have hkr := kind_x hR1 hA hr hx
    have h68 := kd_le8 hx
    rw [hob, oe_l] at hcx
    simp only [] at hcx
    rw [gn_s (by omega), hkd2] at hcx
    rw [hkr, ob_ok] at hrx
    simp only [] at hrx
    by_cases h8 : A.kd x = 8
    · have hkd : A.kd x ≠ 6 := by omega
      rw [if_pos (show nI (A.kd x) = 8 by rw [h8]; rfl)] at hcx
      rw [h8, if_neg (show ¬ nI 8 = 6 by decide), if_neg (show ¬ nI 8 = 7 by decide), if_neg (show ¬ nI 8 < 0 by decide)] at hrx
      have hln := L_len hA (x := x)
      have hfl : (A.fl r x).length ≤ A.n := Nat.le_trans (List.length_filter_le _ _) hln
      obtain ⟨C3, hV3, heb⟩ := cJ_elBefore G2 hA hv2 hxl (by omega) x3
      obtain ⟨rd3, r31, r32, G3⟩ := hV3.toRC G2
      have hv3 := hV3.toVC hv2
      have hio3 := hio2.fr frS.refl hV3.fr
      rcases heb with ⟨k, par, rfl, hk31, hkl, hp0, hp1, heb⟩ | ⟨hbd, heb⟩
      · rw [heb, oe_l] at hcx
        simp only [] at hcx
        rw [if_neg (show ¬ nI k < 0 from nI_pos hk31)] at hrx
        obtain ⟨C4, hfi, hV4⟩ := cV_filledIn G3 hA hv3 hxl (by omega)
        obtain ⟨rd4, r41, r42, G4⟩ := hV4.toRC G3
        have hv4 := hV4.toVC hv3
        have hio4 := hio3.fr frS.refl hV4.fr
        rw [G3.st.2.2.1, gn_s (by omega), hfi, ob_ok] at hcx
        simp only [] at hcx
        rw [sub_nI hkl] at hcx
        obtain ⟨S2, hLS, hind⟩ := pS_indices hR1 hA hr hx hkd
        have hR2 := hLS.RS hR1
        have hio5 := hio4.fr hLS.frS frC.refl
        have e52 : S2.i 5 = nI bf.length := by rw [hLS.frS.1 5 (by simp)]; exact e5
        rw [hind, ob_ok] at hrx
        simp only [] at hrx
        by_cases hnk : n ≤ (A.fl r x).length - k
        · rw [if_pos ((nI_leI (by omega) (by omega)).mpr hnk)] at hcx
          rw [if_pos ((lg_le (by omega) (by omega) (by omega)).mpr (by omega)), gd_ok hr (by omega), cl_nI (by omega)] at hrx
          have hna := cJ_needAll G4 hr
          have hllt := lk_lt hR2 hA hr
          rw [gn_s (by omega), hna] at hcx
          by_cases hlk : A.lk r = none
          · rw [if_pos hlk, oe_l] at hcx
            rw [if_pos (show S2.a 39 r < 0 from hllt.mpr hlk), e52, nI_add] at hrx
            have e94 : C4.r 11 9 0 = some jf := hio5.1.2.1
            have hw4 : RW C4 jf bf.length := hio5.2.2.1.1
            have hroom := cJ_needRoom G4 hA (x := n + bf.length) (y := bf.length) (by omega) (by omega)
            have hfull := pS_full hR2 hA (x := n + bf.length) (y := bf.length) (by omega) (by omega)
            rw [e94, gn_s (by omega), hw4.2.2.1, nI_add, hroom] at hcx
            rw [hfull, ob_ok] at hrx
            simp only [] at hrx
            by_cases hrm : 4000 < A.n + (n + bf.length) ∨ 24576 < A.kn + bf.length
            · rw [if_pos hrm, oe_r] at hcx
              rw [decide_eq_true hrm, if_neg (show ¬ b2 true = 0 by decide)] at hrx
              exact alikeT (t := 4) (k := 4) (C' := C4) (S1 := S2) (v := nI 0) hcx hrx rfl hR2 G4 hA hio5 (by omega) (by omega)
            · rw [if_neg hrm, oe_l] at hcx
              rw [decide_eq_false hrm, if_pos (show b2 false = 0 by decide)] at hrx
              simp only [not_or, Nat.not_lt] at hrm
              obtain ⟨C5, hV5, hsp⟩ := cV_spotAt G4 hA hv4 hxl (by omega) (nI k)
              obtain ⟨rd5, r51, r52, G5⟩ := hV5.toRC G4
              have hv5 := hV5.toVC hv4
              have hio6 := hio5.fr frS.refl hV5.fr
              have hy : ∃ y, m_cVw_spotAt N 0 C4 (ox x) (nI k) = some (C5, y) ∧ ((∃ s, (A.fl r x)[k]? = some s ∧ y = some (A.sj s)) ∨ (k = (A.fl r x).length ∧ y = none)) := by
                rcases hsp with ⟨k', s, hke, hk31', hfs, hsp⟩ | ⟨hnos, hsp⟩
                · have hkk : k = k' := (nI_eq (by omega) hk31').mp hke
                  subst hkk
                  exact ⟨_, hsp, Or.inl ⟨s, hfs, rfl⟩⟩
                · refine ⟨none, hsp, Or.inr ⟨?_, rfl⟩⟩
                  rcases Nat.lt_or_ge k (A.fl r x).length with h | h
                  · exact absurd rfl (hnos k h)
                  · omega
              obtain ⟨y, hspe, hy⟩ := hy
              rw [G4.st.2.2.1, gn_s (by omega), hspe, ob_ok] at hcx
              simp only [] at hcx
              have hpar : ∀ p, par = some p → p ∈ A.fl r x := by
                intro p hp
                cases k with
                | zero => rw [hp0 rfl] at hp; cases hp
                | succ k =>
                  obtain ⟨s, h1, h2⟩ := hp1 k rfl
                  rw [h2] at hp
                  rw [← Option.some.inj hp]
                  exact List.mem_of_getElem? h1
              have hgv : ∀ {τ : Type} (f : Option τ), gv (par.map (· + 1)) (N 3) f = f := by
                intro τ f
                cases hpp : par with
                | none => rfl
                | some p =>
                  refine gv_ok ?_
                  have := (fl_at hA hkd (hpar p hpp)).2.1
                  show p + 1 < N 3
                  omega
              rw [hgv] at hcx
              -- the class
              obtain ⟨N6, C6, cc6, z6, rd6, w1, w2, w3, w4, w5, w6, w7, w8, w9⟩ := csp_erase (n := n) G5 hA hv5 hr hx hkd hlk (by omega) (by omega) (by omega) hy
              have hd := w6
              obtain ⟨e0, hB, hx', ekd, hlk', en, em, ekn, eoi, eL, efl, eflB, esj, eiv⟩ := w6
              rw [w1, ov_ok] at hcx
              have hio7 := hio6.fr frS.refl w7
              obtain ⟨B, hBd⟩ : ∃ B, B = A.des r x ((A.fl r x).drop k) n := ⟨_, rfl⟩
              rw [← hBd] at w4 w5 e0 hB hx' ekd hlk' en em ekn eoi eL efl eflB esj eiv hd
              have hparB : ∀ p, par = some p → p ∈ B.L x ∧ B.inV r p = true := by
                intro p hp
                have := fl_at hA hkd (hpar p hp)
                exact ⟨by rw [eL]; exact this.1, by rw [eiv p this.2.1]; exact this.2.2.2.2.1⟩
              obtain ⟨N7, C7, cc7, z7, Lf, v1, v2, v3, v4, v5, v6⟩ := csp_insert (par := par) (bf := bf) (jf := jf) w4 hB w5 hr hx' (by rw [ekd]; exact hkd) hlk' hparB hio7.1.2.1 (by omega) hio7.2.2.1.1 hio7.2.2.1.2.1 c5 (by omega) (by omega)
              rw [v1, ov_ok] at hcx
              have hio8 := hio7.fr frS.refl v6
              have hI7 := v5 bf.length (Nat.le_refl _)
              obtain ⟨i1, i2, i3, i4, i5, i6, i7, i8, i9, i10⟩ := hI7
              obtain ⟨D, hDd⟩ : ∃ D, D = B.inr r x par bf Lf bf.length := ⟨_, rfl⟩
              rw [← hDd] at v4 i1 i2 i3 i4 i5 i6 i7 i8 i9 i10
              have hBfl : (B.fl r x).length = (A.fl r x).length - n := by rw [efl, List.length_append, List.length_take, List.length_drop]; exact omg2 (omg1 hnk hkl)
              have t5 := v4.nn.2.2.2.2.2.1
              rw [show C7.r 11 9 0 = some jf from hio8.1.2.1, gn_s (by omega), hio8.2.2.1.1.2.2.1, sub_nI (by omega), nI_add, al_ok, al_ok] at hcx
              -- the reference
              obtain ⟨S3, q1, q2, q3, q4, q5⟩ := rsp_erase (S := S2.setI 0 (nI 0)) (n := n) (i := k) (hR2.setI rfl) hA hr hx hkd hlk (omg1 hnk hkl) (by omega)
              rw [← hBd] at q2 q3
              rw [show m_rsplice_L147 (S2.setI 0 0) (nI r) (nI (A.oi x)) (nI k) (nI n) 0 = _ from q1, ob_ok] at hrx
              simp only [] at hrx
              have hS4 : ∃ S4, RS S4 B ∧ frS S3 S4 ∧ S4.i 0 = S3.i 0 ∧ m_rsplice S (nI r) (nI (A.oi x)) (nI k) (nI n) = m_rsplice_J241 S4 (nI r) (nI (A.oi x)) (nI (B.oi par)) := by
                cases k with
                | zero =>
                  refine ⟨S3, q2, frS.refl, rfl, ?_⟩
                  rw [hrx, if_pos (show nI 0 = 0 by decide), hp0 rfl]
                  rfl
                | succ k =>
                  obtain ⟨s, g1, g2⟩ := hp1 k rfl
                  have hkl' : k < (A.fl r x).length := by omega
                  have hgB : (B.fl r x)[k]? = some s := by
                    rw [efl, List.getElem?_append_left (by rw [List.length_take]; omega), List.getElem?_take_of_lt (by omega)]
                    exact g1
                  obtain ⟨S4, hLS4, hat⟩ := pS_at q2 hB hr hx' (by rw [ekd]; exact hkd) (nI k)
                  rw [eoi] at hat
                  rcases hat with ⟨k', s', e, hke, hk31', hfs', hen, hee, hat⟩ | ⟨hnos', hat⟩
                  · have hkk : k = k' := (nI_eq (by omega) hk31').mp hke
                    subst hkk
                    rw [hgB] at hfs'
                    obtain rfl : s = s' := Option.some.inj hfs'
                    have hsB := fl_at hB (by rw [ekd]; exact hkd) (List.mem_of_getElem? hgB)
                    have h6 : e < (B.el r x).length := by
                      rcases Nat.lt_or_ge e (B.el r x).length with h | h
                      · exact h
                      · rw [List.getElem?_eq_none h] at hee; cases hee
                    have h48 : S4.a 48 e = nI s := by
                      rw [hLS4.get.2.1 e h6]
                      rw [List.getElem?_eq_getElem h6] at hee
                      rw [Option.some.inj hee]
                    have hs8 : S4.a 8 s = nI (B.id s) := ((hLS4.RS q2).2.1 s hsB.2.1).1
                    have hBn := hB.1.1
                    refine ⟨S4, hLS4.RS q2, hLS4.frS, ?_, ?_⟩
                    · obtain ⟨f, c, g, t, rfl, _⟩ := hLS4
                      rw [MS.i_setA, MS.i_setI, if_neg (by decide), MS.i_setA, MS.i_setA, MS.i_setA]
                    · rw [hrx, if_neg (show ¬ nI (k + 1) = 0 from fun h => by have := (nI_eq (b := 0) (by omega) (by omega)).mp h; omega), show nI (k + 1) - 1 = nI k from nI_pred k, hat, ob_ok]
                      simp only []
                      rw [gd_ok (by omega) (by omega), cl_nI (by omega), h48, gd_ok (by omega) (by omega), cl_nI (by omega), hs8, g2]
                      rfl
                  · exact absurd rfl (hnos' k (by omega))
              obtain ⟨S4, R4, fr4, h40, hS4⟩ := hS4
              have hfrS4 : frS S2 S4 := ((frS_setI (k := 0) (v := nI 0) (by decide)).trans q4).trans fr4
              obtain ⟨S5, p1, p2, p3, p4⟩ := rsp_insert (Lf := Lf) (par := par) (x := x) R4 hB hr (by rw [ekd]; exact hkd) v5 (by rw [hfrS4.1 5 (by simp)]; exact e52) (byts_fr hio5.2.2.1.2.2.2.1 (hfrS4.2 2 (by simp))) c5 (by omega) (by omega)
              rw [← hDd] at p2
              rw [eoi] at p1
              obtain ⟨S6, hLS6, hind6⟩ := pS_indices p2 i1 hr i2 (by rw [i3, ekd]; exact hkd)
              rw [i8, eoi] at hind6
              refine Or.inl ⟨N7, C7, nI ((A.fl r x).length - n + bf.length), _, _, S6, D, rd6, hcx, ?_, ?_, ⟨hLS6.RS p2, v4, i1, bi, bf, bs, bo, ji, jf, js, 0, ?_⟩, by omega, by omega, by omega, by omega, ?_, ?_⟩
              · rw [hS4]
                unfold m_rsplice_J241
                rw [show m_rsplice_L246 S4 (nI r) (nI (A.oi x)) (nI (B.oi par)) 0 = _ from p1, ob_ok]
                simp only []
                rw [hind6, ob_ok, i9, hBfl]
              · have h60 : S6.i 0 = S5.i 0 := by
                  obtain ⟨f, c, g, t, rfl, _⟩ := hLS6
                  rw [MS.i_setA, MS.i_setI, if_neg (by decide), MS.i_setA, MS.i_setA, MS.i_setA]
                rw [h60, p4, h40, q5, MS.i_setI, if_pos rfl]
              · exact hio8.fr ((hfrS4.trans p3).trans hLS6.frS) frC.refl
              · omega
              · omega
          · rw [if_neg hlk, oe_r] at hcx
            rw [if_neg (show ¬ S2.a 39 r < 0 from fun h => hlk (hllt.mp h))] at hrx
            exact alikeT (t := 2) (k := 2) (C' := C4) (S1 := S2) (v := nI 0) hcx hrx rfl hR2 G4 hA hio5 (by omega) (by omega)
        · rw [if_neg (fun h => hnk ((nI_leI (by omega) (by omega)).mp h))] at hcx
          rw [if_neg (fun h => hnk (by have := (lg_le (by omega) (by omega) (by omega)).mp h; omega))] at hrx
          exact alikeT (t := 3) (k := 3) (C' := C4) (S1 := S2) (v := nI 0) hcx hrx rfl hR2 G4 hA hio5 (by omega) (by omega)
      · rw [heb, oe_r] at hcx
        by_cases hneg : x3 < nI 0
        · rw [if_pos (show x3 < 0 from hneg)] at hrx
          exact alikeT (t := 3) (k := 3) (C' := C3) (S1 := S1) (v := nI 0) hcx hrx rfl hR1 G3 hA hio3 (by omega) (by omega)
        · rw [if_neg (show ¬ x3 < 0 from hneg)] at hrx
          obtain ⟨k, rfl, hk31, hkl⟩ := hbd.resolve_left hneg
          obtain ⟨S2, hLS, hind⟩ := pS_indices hR1 hA hr hx hkd
          have hR2 := hLS.RS hR1
          have hio5 := hio3.fr hLS.frS frC.refl
          rw [hind, ob_ok] at hrx
          simp only [] at hrx
          rw [if_neg (fun h => by have := (lg_le (by omega) (by omega) (by omega)).mp h; omega)] at hrx
          exact alikeT (t := 3) (k := 3) (C' := C3) (S1 := S2) (v := nI 0) hcx hrx rfl hR2 G3 hA hio5 (by omega) (by omega)
    · rw [if_neg (show ¬ nI (A.kd x) = 8 from fun h => h8 ((nI_eq (b := 8) (by omega) (by omega)).mp h))] at hcx
      refine alikeT (t := 1) (k := 1) (C' := C2) (S1 := S1) (v := nI 0) hcx ?_ rfl hR1 G2 hA hio2 (by omega) (by omega)
      rw [hrx]
      rcases (show A.kd x = 6 ∨ A.kd x = 7 by omega) with h | h
      · rw [h]; rfl
      · rw [h]; rfl
  · have hkr := kind_n hR1 hA hr hno
    rw [hob, oe_r] at hcx
    rw [hkr, ob_ok] at hrx
    simp only [] at hrx
    rw [if_neg (show ¬ -nI 1 = 6 by decide), if_neg (show ¬ -nI 1 = 7 by decide), if_pos (show -nI 1 < 0 by decide)] at hrx
    exact alikeT (t := 3) (k := 3) (C' := C2) (S1 := S1) (v := nI 0) hcx hrx rfl hR1 G2 hA hio2 (by omega) (by omega)
end SPF
