/-! THE CALL save. -/
section SVN
variable {S S' : MS} {N : Nat → Nat} {C C' : CS} {A : AS} {r rd p : Nat} {w : List Nat} {bi bf bs bo : List Nat} {ji jf js a : Nat}
theorem PW_row (hp : PW C w) (hl : w.length ≤ 224582) : RW C 3 w.length ∧ RB C 3 0 w := by
  obtain ⟨p1, p2, p3, p4, p5, p6⟩ := hp
  refine ⟨⟨by omega, p3, by rw [p5, Nat.min_eq_left hl], by omega, by omega⟩, fun i hi => ?_⟩
  rw [Nat.zero_add]
  exact ⟨(p6 i hi).1, (p6 i hi).2 (by omega)⟩
theorem by4_len {x : Int32} : (by4 x).length = 4 := rfl
theorem k_saved (G : RC N C A rd) (hA : AI A) (hr : r < 8) : ∃ C', m_cSv_writeSaved N 0 C r = some C' ∧ PW C' (sv4 (A.svd (A.hv r))) ∧ X3 C C' := by
  obtain ⟨u0, u1, u2, u3, u4, u5, u6, u7, u8, u9, u10, u11, u12, u13, u14, u15, u16, u17, u18⟩ := G.nn
  have hm := hA.1.2.1
  have hK := LOK_of G hA
  obtain ⟨hlen, hsum⟩ := svd_len hA hK (t := A.hv r) (fun a => hA.2.1.2.2.2.2.2.1.1 r a)
  have hE := PW_E u5 u13 u6
  obtain ⟨C3, hC3⟩ : ∃ C3, C3 = ((C.setI 6 3 0 0).setI 5 1 3 0).setI 5 2 3 0 := ⟨_, rfl⟩
  have x3 : X3 C C3 := by rw [hC3]; exact (X3_setI6.trans X3_setI5).trans X3_setI5
  have G3 := x3.RC G
  have hp3 : PW C3 [] := by
    refine ⟨?_, G3.st.2.2.2.2.2.2.2.2.2.2.2.2.2.2.2.2.2.2.2.1, G3.sz.2.2.2.2.2.2.2.2.2.2.2.2.2.2.1 3 (by omega), G3.sz.2.2.2.2.2.2.2.2.1, ?_, fun i hi => absurd hi (Nat.not_lt_zero _)⟩
    · rw [hC3, CS.i_setI, if_neg (by omega), CS.i_setI, if_neg (by omega), CS.i_setI, if_pos ⟨rfl, rfl, rfl⟩]
    · rw [hC3, CS.i_setI, if_neg (by omega), CS.i_setI, if_pos ⟨rfl, rfl, rfl⟩]; rfl
  have hcl : m_cRw_clear N 3 (C.setI 6 3 0 0) = some C3 := by rw [hC3]; exact pc_clear (by omega)
  obtain ⟨C4, a1, a2, a3⟩ := e_n (N := N) hE u6 hp3 (n := A.nch r) (by rw [nch_sum hA]; omega)
  obtain ⟨C5, b1, b2', b3⟩ := s_all (a3.RC G3) hA hr a2
  rw [List.nil_append, nch_sum hA, show grp (sumTo (A.hv r) 8) ++ (A.chs (A.hv r)).flatMap A.chB = A.svd (A.hv r) from rfl] at b2'
  have x5 := (x3.trans a3).trans b3
  obtain ⟨w5, v5⟩ := PW_row b2' (by omega)
  have hcrc := k_crc u5 u13 u6 b2'.2.1 w5 v5 (n := (A.svd (A.hv r)).length) (by omega)
  rw [pad_self (Nat.le_refl _), List.take_of_length_le (Nat.le_refl _)] at hcrc
  obtain ⟨C6, c1, c2, c3⟩ := PW_int u5 u13 b2' (crcV (A.svd (A.hv r)))
  refine ⟨C6, ?_, c2, x5.trans c3⟩
  unfold m_cSv_writeSaved m_cSv_writeSaved_J0
  rw [gl_ok (by omega), G.st.2.2.2.2.2.2.2.2.2.2.2.2.2.2.2.2.2.2.2.1, gn_s (by omega), hcl, ob_ok, gl_ok (by omega), (G3.rp r hr).2.2.2.2.1, a1, ob_ok, b1, ob_ok, b2'.2.1, gn_s (by omega), w5.2.2.1, hcrc, ob_ok]
  simp only []
  rw [c1, ob_ok]
theorem r_saved (hR : RS S A) (hA : AI A) (hK : LOK A) (hr : r < 8) (h41 : S.i 41 = 0) : ∃ S1 S2 S3 S4, m_rgroup S (nI (A.nch r)).toInt64 = some S1 ∧ m_rsave_L77 S1 (nI r) 0 = some S2 ∧ m_rcrc S2 (S2.i 41) = some (S2, crcV (A.svd (A.hv r))) ∧ m_rsave_L154 S2 (crcV (A.svd (A.hv r))) 24 = some S4 ∧ WQ S4 0 (sv4 (A.svd (A.hv r))) ∧ W5 0 S S4 ∧ S3 = S4 := by
  have hm := hA.1.2.1
  obtain ⟨hlen, hsum⟩ := svd_len hA hK (t := A.hv r) (fun a => hA.2.1.2.2.2.2.2.1.1 r a)
  have hw0 : WQ S 0 [] := ⟨by rw [h41]; rfl, by simp, fun i hi => absurd hi (Nat.not_lt_zero _)⟩
  obtain ⟨S1, a1, a2, a3⟩ := q_n hw0 (by simp) (n := A.nch r) (by rw [nch_sum hA]; omega)
  have g1 := grp_len (A.nch r)
  obtain ⟨S2, b1, b2', b3⟩ := q_sall (a3.RS hR) hA hK hr a2 (by simp; omega)
  rw [List.nil_append, nch_sum hA, show grp (sumTo (A.hv r) 8) ++ (A.chs (A.hv r)).flatMap A.chB = A.svd (A.hv r) from rfl] at b2'
  have hby : byts S2 40 0 (A.svd (A.hv r)) := fun i hi => ⟨(b2'.2.2 i hi).1, (b2'.2.2 i hi).2 (by omega)⟩
  have hcrc := r_crc hby (by omega)
  obtain ⟨S4, c1, c2, c3⟩ := q_crc4 b2' (by omega) (crcV (A.svd (A.hv r)))
  refine ⟨S1, S2, S4, S4, a1, b1, ?_, c1, c2, (a3.trans b3).trans c3, rfl⟩
  rw [b2'.1, Nat.zero_add]
  exact hcrc
theorem call_save (hI : INV S N C A rd) (x1 : Int32) : RLIKE [(1, 1), (2, 2)] A rd N (m_cJT_save N 0 C x1) (m_rsave S x1) := by
  obtain ⟨hR, G, hA, bi, bf, bs, bo, ji, jf, js, a, hio⟩ := hI
  obtain ⟨u0, u1, u2, u3, u4, u5, u6, u7, u8, u9, u10, u11, u12, u13, u14, u15, u16, u17, u18⟩ := G.nn
  obtain ⟨s1, s2, s3, s4, s5, s6, s7, s8, s9, s10, s11, s12, s13, s14, s15, s16, s17, s18, s19, s20, s21⟩ := G.st
  have hnn := hA.1.1
  unfold m_cJT_save m_cJT_save_J0 m_rsave m_rsave_J0
  rcases rep_or x1 with hx1 | ⟨r, hr, rfl⟩
  · refine rlikeT (t := 1) (k := 1) (C' := C) (S1 := S) (v := nI 0) ?_ ?_ rfl hR G hA hio (Nat.le_refl _) (by omega)
    · rw [gl_ok (by omega), cJ_shownN hx1, oe_r]
    · rw [pS_isN hx1]
      rfl
  · obtain ⟨C2, hsh, G2, hv2, hfr2⟩ := cJ_shown G hA hr
    have hio2 := hio.fr frS.refl hfr2
    have hT := hA.2.2.2.1.1 r
    rw [gl_ok (by omega), hsh, oe_l, pS_isR hr, ob_ok, if_neg (show ¬ nI 1 = 0 by decide)]
    simp only []
    rw [gn_s (by omega), cJ_needNone G2 hA hr, pS_open hR hA hr, ob_ok]
    by_cases e : A.on r = 0
    · rw [if_pos e, oe_l, e]
      simp only []
      rw [if_pos (show nI 0 ≤ 0 by decide), G2.st.2.2.2.2.2.1, gn_s (by omega)]
      have hK := LOK_of G2 hA
      obtain ⟨hlen, hsum⟩ := svd_len hA hK (t := A.hv r) (fun a => hA.2.1.2.2.2.2.2.1.1 r a)
      obtain ⟨C3, k1, k2, k3⟩ := k_saved G2 hA hr
      obtain ⟨S1, hS1⟩ : ∃ S1, S1 = (S.setI 0 0).setI 41 0 := ⟨_, rfl⟩
      have hR1 : RS S1 A := by rw [hS1]; exact (hR.setI rfl).setI rfl
      have h41 : S1.i 41 = 0 := by rw [hS1, MS.i_setI, if_pos rfl]
      obtain ⟨S2, S3, _, S4, m1, m2, m3, m4, m5, m6, _⟩ := r_saved hR1 hA hK hr h41
      generalize hT2 : sv4 (A.svd (A.hv r)) = T at k2 m5
      have hTl : T.length ≤ 224582 := by rw [← hT2]; unfold sv4; rw [List.length_append, by4_len]; omega
      obtain ⟨w3, v3⟩ := PW_row k2 hTl
      rw [k1, ob_ok, k3.rr, G2.st.2.2.2.2.2.2.1, gn_s (by omega), w3.2.2.1, ← hS1, q_nch hR1 hA hr, ob_ok]
      simp only []
      rw [m1, ob_ok, m2, ob_ok, m3, ob_ok]
      simp only []
      rw [m4, ob_ok, m5.1, Nat.zero_add]
      have h0 : (S4.setI 43 1).i 0 = nI 0 := by
        rw [MS.i_setI, if_neg (by decide), m6.ii (by decide), hS1, MS.i_setI, if_neg (by decide), MS.i_setI, if_pos rfl]; rfl
      refine Or.inl ⟨C3.setI 11 7 0 1, nI T.length, S4.setI 43 1, rd, rfl, rfl, h0, ⟨(m6.RS hR1).setI rfl, RC_setI11 (k3.RC G2), hA, bi, bf, bs, T, ji, jf, js, a, ?_⟩, Nat.le_refl _, by omega⟩
      refine RIO.out (C := C2) (f := fun _ => 0) (g := fun _ => 0) (sv := true) hio2 ?_ ?_ ?_ ?_ ?_ ?_ ?_ ?_ ?_ ?_ ?_ ?_ ?_ (by rw [G2.sz.2.2.2.2.2.2.2.2.1]; omega)
      · intro j hj
        rw [MS.i_setI, if_neg (by omega), m6.ii (by omega), hS1, MS.i_setI, if_neg (by omega), MS.i_setI, if_neg (by omega)]
      · intro k hk
        rw [MS.a_setI, m6.aa (by omega), hS1, MS.a_setI, MS.a_setI]
      · rw [MS.i_setI, if_neg (by decide), m5.1, Nat.zero_add]
      · intro i hi
        rw [MS.a_setI]
        exact ⟨(m5.2.2 i hi).1, (m5.2.2 i hi).2 (by omega)⟩
      · rw [MS.i_setI, if_pos rfl]; rfl
      · exact k3.rr
      · exact k3.zz
      · intro f1 j hj
        rw [CS.i_setI, if_neg (by omega), k3.ii (by omega) (by omega)]
      · intro j hj
        funext q
        rw [CS.a_setI, k3.aa (by omega)]
      · intro f1 hf1
        rw [CS.i_setI, if_neg (by omega), k3.ii (by omega) (by omega)]
      · rw [CS.i_setI, if_neg (by omega)]
        exact w3.2.2.1
      · intro i hi
        rw [CS.a_setI]
        exact v3 i hi
      · rw [CS.i_setI, if_pos ⟨rfl, rfl, rfl⟩]; rfl
    · rw [if_neg e, oe_r]
      simp only []
      rw [if_neg (show ¬ nI (A.on r) ≤ 0 from fun h => e (by have := (nI_leI (b := 0) (by omega) (by omega)).mp h; omega))]
      exact rlikeT (t := 2) (k := 2) (C' := C2) (S1 := S) (v := nI 0) rfl rfl rfl hR G2 hA hio2 (Nat.le_refl _) (by omega)
end SVN
