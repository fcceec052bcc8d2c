/-! THE CALL feed. -/
def fw (x1 x2 x3 x4 x5 : Int32) (i : Nat) : Int32 := if i < 4 then x1 else if i < 8 then x2 else if i < 12 then x3 else if i < 16 then x4 else x5
def fb (x1 x2 x3 x4 x5 : Int32) : List Nat := by4 x1 ++ by4 x2 ++ by4 x3 ++ by4 x4 ++ by4 x5
theorem ushr0 (x : Int32) : ushr32 x (24 - ((3 - 3 / 4 * 4) * 8)) = x := by
  rw [show (24 : Int32) - ((3 - 3 / 4 * 4) * 8) = 0 from by decide]
  unfold ushr32
  rw [show (Int32.toUInt32 0 &&& Int32.toUInt32 31) = 0 from by decide]
  simp
theorem fsh : ∀ i, i < 20 → (24 : Int32) - ((nI i - nI i / 4 * 4) * 8) = nI (24 - 8 * (i % 4)) := by decide
theorem ushr0' (x : Int32) : ushr32 x (nI 0) = x := by
  unfold ushr32
  rw [show ((nI 0).toUInt32 &&& Int32.toUInt32 31) = 0 from by decide]
  simp
section CFE
variable {S S' : MS} {N : Nat → Nat} {C C' : CS} {A : AS} {r rd : Nat} {bi bf bs bo : List Nat} {ji jf js a : Nat}
theorem fb_len {x1 x2 x3 x4 x5 : Int32} : (fb x1 x2 x3 x4 x5).length = 20 := rfl
theorem fb_get {x1 x2 x3 x4 x5 : Int32} {i : Nat} (h : i < 20) : (fb x1 x2 x3 x4 x5)[i]'(by rw [fb_len]; exact h) = byt (ushr32 (fw x1 x2 x3 x4 x5 i) (nI (24 - 8 * (i % 4)))) := by
  have h2 : i = 0 ∨ i = 1 ∨ i = 2 ∨ i = 3 ∨ i = 4 ∨ i = 5 ∨ i = 6 ∨ i = 7 ∨ i = 8 ∨ i = 9 ∨ i = 10 ∨ i = 11 ∨ i = 12 ∨ i = 13 ∨ i = 14 ∨ i = 15 ∨ i = 16 ∨ i = 17 ∨ i = 18 ∨ i = 19 := by omega
  rcases h2 with rfl | rfl | rfl | rfl | rfl | rfl | rfl | rfl | rfl | rfl | rfl | rfl | rfl | rfl | rfl | rfl | rfl | rfl | rfl | rfl
  all_goals first
    | rfl
    | (show byt _ = byt (ushr32 _ (nI 0)); rw [ushr0']; rfl)
theorem fw_body (x1 x2 x3 x4 x5 : Int32) (S0 : MS) {i : Nat} (hi : i < 20) : m_rfeed_B60 S0 x1 x2 x3 x4 x5 (nI i) = m_rfeed_J124 S0 x1 x2 x3 x4 x5 (nI i) (fw x1 x2 x3 x4 x5 i) (S0.i 4 + nI i) 1 := by
  unfold m_rfeed_B60 fw
  have hle : ∀ k, k ≤ 20 → ((nI k ≤ nI i) ↔ k ≤ i) := fun k hk => nI_leI (by omega) (by omega)
  rw [if_neg (show ¬ (20 : Int32) ≤ nI i from fun h => absurd ((hle 20 (by omega)).mp h) (by omega))]
  by_cases c1 : i < 4
  · rw [if_neg (show ¬ (4 : Int32) ≤ nI i from fun h => absurd ((hle 4 (by omega)).mp h) (by omega)), if_pos c1]
  rw [if_pos (show (4 : Int32) ≤ nI i from (hle 4 (by omega)).mpr (by omega)), if_neg c1]
  by_cases c2 : i < 8
  · rw [if_neg (show ¬ (8 : Int32) ≤ nI i from fun h => absurd ((hle 8 (by omega)).mp h) (by omega)), if_pos c2]
  rw [if_pos (show (8 : Int32) ≤ nI i from (hle 8 (by omega)).mpr (by omega)), if_neg c2]
  by_cases c3 : i < 12
  · rw [if_neg (show ¬ (12 : Int32) ≤ nI i from fun h => absurd ((hle 12 (by omega)).mp h) (by omega)), if_pos c3]
  rw [if_pos (show (12 : Int32) ≤ nI i from (hle 12 (by omega)).mpr (by omega)), if_neg c3]
  by_cases c4 : i < 16
  · rw [if_neg (show ¬ (16 : Int32) ≤ nI i from fun h => absurd ((hle 16 (by omega)).mp h) (by omega)), if_pos c4]
  rw [if_pos (show (16 : Int32) ≤ nI i from (hle 16 (by omega)).mpr (by omega)), if_neg c4]
theorem feed_loop (x1 x2 x3 x4 x5 : Int32) {S0 : MS} {l : List Nat} (h4 : S0.i 4 = nI l.length) (hb : byts S0 1 0 l) (hl : l.length + 20 ≤ 8192) : ∃ g, m_rfeed_L60 S0 x1 x2 x3 x4 x5 (nI 0) = some (S0.setA 1 g) ∧ ∀ i (h : i < (l ++ fb x1 x2 x3 x4 x5).length), g i = sb (l ++ fb x1 x2 x3 x4 x5)[i] := by
  have := lp_run (body := fun w : MS × Int32 × Int32 × Int32 × Int32 × Int32 × Int32 => m_rfeed_B60 w.1 w.2.1 w.2.2.1 w.2.2.2.1 w.2.2.2.2.1 w.2.2.2.2.2.1 w.2.2.2.2.2.2)
    (fun i w => ∃ g, w = (S0.setA 1 g, x1, x2, x3, x4, x5, nI i) ∧ ∀ q (h : q < (l ++ fb x1 x2 x3 x4 x5).length), q < l.length + i → g q = sb (l ++ fb x1 x2 x3 x4 x5)[q])
    (fun e => ∃ g, e = S0.setA 1 g ∧ ∀ q (h : q < (l ++ fb x1 x2 x3 x4 x5).length), g q = sb (l ++ fb x1 x2 x3 x4 x5)[q]) 20 ?_ FU (S0, x1, x2, x3, x4, x5, nI 0) (by unfold FU; omega)
    ⟨S0.a 1, by rw [MS.setA_self], fun q h hq => by
      have := (hb q (by omega)).2
      rw [Nat.zero_add] at this
      rw [this, List.getElem_append_left (by omega)]⟩
  · obtain ⟨e, h1, g, rfl, h2⟩ := this
    refine ⟨g, ?_, h2⟩
    unfold m_rfeed_L60
    exact h1
  · rintro i _ hi ⟨g, rfl, hg⟩
    by_cases hin : i < 20
    · left
      refine ⟨(S0.setA 1 (upd g (l.length + i) (sb (byt (ushr32 (fw x1 x2 x3 x4 x5 i) (nI (24 - 8 * (i % 4))))))), x1, x2, x3, x4, x5, nI (i + 1)), ?_, hin, _, rfl, ?_⟩
      · show m_rfeed_B60 (S0.setA 1 g) x1 x2 x3 x4 x5 (nI i) = _
        rw [fw_body x1 x2 x3 x4 x5 (S0.setA 1 g) hin]
        unfold m_rfeed_J124
        rw [gB_ok (by simp), MS.i_setA, h4, nI_add, gd_ok (by omega) (by omega), cl_nI (by omega), fsh i hin, ← sb_byt, bytes_nar, MS.a_setA, if_pos rfl, MS.setA_setA]
        rw [show nI i + 1 = nI (i + 1) from nI_add _ _]
      · intro q hq hqi
        unfold upd
        by_cases e : q = l.length + i
        · subst e
          rw [if_pos rfl, List.getElem_append_right (by omega)]
          simp only [Nat.add_sub_cancel_left]
          rw [fb_get hin]
        · rw [if_neg e]
          exact hg q hq (by omega)
    · right
      have hi8 : i = 20 := by omega
      subst hi8
      refine ⟨S0.setA 1 g, rfl, g, rfl, ?_⟩
      intro q hq
      refine hg q hq ?_
      rw [List.length_append, fb_len] at hq
      exact hq
theorem call_feed (hI : INV S N C A rd) (x1 x2 x3 x4 x5 : Int32) : RLIKE [(4, 1)] A rd N (m_cJT_feed N 0 C x1 x2 x3 x4 x5) (m_rfeed S x1 x2 x3 x4 x5) := by
  obtain ⟨hR, G, hA, bi, bf, bs, bo, ji, jf, js, a, hio⟩ := hI
  obtain ⟨u0, u1, u2, u3, u4, u5, u6, u7, u8, u9, u10, u11, u12, u13, u14, u15, u16, u17, u18⟩ := G.nn
  obtain ⟨s1, s2, s3, s4, s5, s6, s7, s8, s9, s10, s11, s12, s13, s14, s15, s16, s17, s18, s19, s20, s21⟩ := G.st
  have hio0 := hio
  obtain ⟨⟨a1, a2, a3, a4, a5, a6, a7, a8, a9⟩, ⟨b1, b2', b3, b4, b5⟩, ⟨c1, c2, c3, c4, c5⟩, ⟨d1, d2, d3, d4, d5⟩, _, ⟨f1, f2, f3⟩, _⟩ := hio0
  have hji := b1.1
  have hjf := c1.1
  have hjs := d1.1
  have hz : C.z 13 ji = 8192 := by
    have := G.sz
    obtain ⟨_, _, _, _, _, _, _, _, _, z4, z5, z6, _⟩ := this
    have : ji = 4 ∨ ji = 5 ∨ ji = 6 := by omega
    rcases this with rfl | rfl | rfl
    · exact z4
    · exact z5
    · exact z6
  let t : Nat := (if 1 ≤ a then bf.length else 0) + (if 2 ≤ a then bs.length else 0)
  have ht : t ≤ 20000 := by
    show (if 1 ≤ a then bf.length else 0) + (if 2 ≤ a then bs.length else 0) ≤ 20000
    split <;> split <;> omega
  have hab : m_cJT_argumentBytes N 0 C = some (C, nI t) := by
    unfold m_cJT_argumentBytes m_cJT_argumentBytes_J0 m_cJT_argumentBytes_J18 m_cJT_argumentBytes_J37
    show _ = some (C, nI ((if 1 ≤ a then bf.length else 0) + (if 2 ≤ a then bs.length else 0)))
    rcases (show a = 0 ∨ a = 1 ∨ a = 2 by omega) with rfl | rfl | rfl
    · simp (disch := omega) only [gd_ok, cl_nI, nI_s, nI_add, nI_leI, nI_ltI, nI_eq, if_pos, if_neg, q0, q1, q2, q3, q4, q5, q6, q7, q8, q9, q10, CS.i_setI, CS.l_setI, CS.r_setI, CS.a_setI, CS.q_setI, CS.z_setI, CS.i_setL, CS.l_setL, CS.r_setL, CS.a_setL, CS.q_setL, CS.z_setL, CS.i_setR, CS.l_setR, CS.r_setR, CS.a_setR, CS.q_setR, CS.z_setR, CS.i_setA, CS.l_setA, CS.r_setA, CS.a_setA, CS.q_setA, CS.z_setA, CS.i_setQ, CS.l_setQ, CS.r_setQ, CS.a_setQ, CS.q_setQ, CS.z_setQ, CS.i_setF, CS.l_setF, CS.r_setF, CS.a_setF, CS.q_setF, CS.z_setF, CS.i_new, CS.l_new, CS.r_new, CS.a_new, CS.q_new, CS.z_new, Nat.reduceEqDiff, false_and, true_and, and_false, and_true, if_true, if_false, b2_0, b2_1, b2_nn, n0_or, n1_or, n10, n01, dec1, dec2, ob_ok, oe_l, oe_r, gl_ok, gle_ok, gn_s, gv_ok, gv_none, on_none, onSome,u11, u5, f2, a2, a3, c1.2.2.1, d1.2.2.1]
    · simp (disch := omega) only [gd_ok, cl_nI, nI_s, nI_add, nI_leI, nI_ltI, nI_eq, if_pos, if_neg, q0, q1, q2, q3, q4, q5, q6, q7, q8, q9, q10, CS.i_setI, CS.l_setI, CS.r_setI, CS.a_setI, CS.q_setI, CS.z_setI, CS.i_setL, CS.l_setL, CS.r_setL, CS.a_setL, CS.q_setL, CS.z_setL, CS.i_setR, CS.l_setR, CS.r_setR, CS.a_setR, CS.q_setR, CS.z_setR, CS.i_setA, CS.l_setA, CS.r_setA, CS.a_setA, CS.q_setA, CS.z_setA, CS.i_setQ, CS.l_setQ, CS.r_setQ, CS.a_setQ, CS.q_setQ, CS.z_setQ, CS.i_setF, CS.l_setF, CS.r_setF, CS.a_setF, CS.q_setF, CS.z_setF, CS.i_new, CS.l_new, CS.r_new, CS.a_new, CS.q_new, CS.z_new, Nat.reduceEqDiff, false_and, true_and, and_false, and_true, if_true, if_false, b2_0, b2_1, b2_nn, n0_or, n1_or, n10, n01, dec1, dec2, ob_ok, oe_l, oe_r, gl_ok, gle_ok, gn_s, gv_ok, gv_none, on_none, onSome,u11, u5, f2, a2, a3, c1.2.2.1, d1.2.2.1]
    · simp (disch := omega) only [gd_ok, cl_nI, nI_s, nI_add, nI_leI, nI_ltI, nI_eq, if_pos, if_neg, q0, q1, q2, q3, q4, q5, q6, q7, q8, q9, q10, CS.i_setI, CS.l_setI, CS.r_setI, CS.a_setI, CS.q_setI, CS.z_setI, CS.i_setL, CS.l_setL, CS.r_setL, CS.a_setL, CS.q_setL, CS.z_setL, CS.i_setR, CS.l_setR, CS.r_setR, CS.a_setR, CS.q_setR, CS.z_setR, CS.i_setA, CS.l_setA, CS.r_setA, CS.a_setA, CS.q_setA, CS.z_setA, CS.i_setQ, CS.l_setQ, CS.r_setQ, CS.a_setQ, CS.q_setQ, CS.z_setQ, CS.i_setF, CS.l_setF, CS.r_setF, CS.a_setF, CS.q_setF, CS.z_setF, CS.i_new, CS.l_new, CS.r_new, CS.a_new, CS.q_new, CS.z_new, Nat.reduceEqDiff, false_and, true_and, and_false, and_true, if_true, if_false, b2_0, b2_1, b2_nn, n0_or, n1_or, n10, n01, dec1, dec2, ob_ok, oe_l, oe_r, gl_ok, gle_ok, gn_s, gv_ok, gv_none, on_none, onSome,u11, u5, f2, a2, a3, c1.2.2.1, d1.2.2.1]
  have hrf : m_rfeed S x1 x2 x3 x4 x5 = if nI (bi.length + 20 + t) ≤ 8192 then ob (m_rfeed_L60 (S.setI 0 0) x1 x2 x3 x4 x5 0) (fun b_2 => some ((b_2.setI 4 ((b_2.i 4) + 20)), (b_2.i 4) + 20)) else ob (m_rno S 1) (fun o_4 => some (o_4.1, o_4.2)) := by
    unfold m_rfeed m_rfeed_J0 m_rfeed_J22 m_rfeed_J39
    show _ = if nI (bi.length + 20 + ((if 1 ≤ a then bf.length else 0) + (if 2 ≤ a then bs.length else 0))) ≤ 8192 then _ else _
    rw [f1, b3, c3, d3]
    rcases (show a = 0 ∨ a = 1 ∨ a = 2 by omega) with rfl | rfl | rfl
    · rw [if_pos (show nI 0 ≤ 0 by decide), if_pos (show nI 0 ≤ 1 by decide), show nI bi.length + 20 + 0 + 0 = nI (bi.length + 20 + (0 + 0)) from by rw [← nI_add, ← nI_add, ← nI_add, Int32.add_assoc]; rfl]
      rfl
    · rw [if_neg (show ¬ nI 1 ≤ 0 by decide), if_pos (show nI 1 ≤ 1 by decide), show nI bi.length + 20 + nI bf.length + 0 = nI (bi.length + 20 + (bf.length + 0)) from by rw [← nI_add, ← nI_add, ← nI_add, Int32.add_assoc]; rfl]
      rfl
    · rw [if_neg (show ¬ nI 2 ≤ 0 by decide), if_neg (show ¬ nI 2 ≤ 1 by decide), show nI bi.length + 20 + nI bf.length + nI bs.length = nI (bi.length + 20 + (bf.length + bs.length)) from by rw [← nI_add, ← nI_add, ← nI_add, Int32.add_assoc]; rfl]
      rfl
  generalize t = t at *
  rw [hrf]
  unfold m_cJT_feed m_cJT_feed_J0
  rw [gl_ok (by omega), a1, gn_s (by omega), hab]
  simp only [ob_ok]
  rw [b1.2.2.1, show nI bi.length + nI t + 20 = nI (bi.length + t + 20) from by rw [nI_add]; exact nI_add _ _]
  by_cases c : bi.length + t + 20 ≤ 8192
  · rw [if_pos (show nI (bi.length + t + 20) ≤ 8192 from (nI_leI (b := 8192) (by omega) (by omega)).mpr c), if_pos (show nI (bi.length + 20 + t) ≤ 8192 from (nI_leI (b := 8192) (by omega) (by omega)).mpr (by omega))]
    have h0 := Rw.refl b1 b2'
    have hr0 := b1.2.1
    obtain ⟨C1, w1, h1⟩ := h0.putI u5 u13 hji hr0 (by omega) (by omega) x1
    obtain ⟨C2, w2, h2⟩ := h1.putI u5 u13 hji hr0 (by simp [by4]; omega) (by omega) x2
    obtain ⟨C3, w3, h3⟩ := h2.putI u5 u13 hji hr0 (by simp [by4]; omega) (by omega) x3
    obtain ⟨C4, w4, h4⟩ := h3.putI u5 u13 hji hr0 (by simp [by4]; omega) (by omega) x4
    obtain ⟨C5, w5, h5⟩ := h4.putI u5 u13 hji hr0 (by simp [by4]; omega) (by omega) x5
    have hl : (bi ++ fb x1 x2 x3 x4 x5).length = bi.length + 20 := by rw [List.length_append, fb_len]
    have h5' : Rw C ji (bi ++ fb x1 x2 x3 x4 x5) C5 := by
      have e : bi ++ fb x1 x2 x3 x4 x5 = bi ++ by4 x1 ++ by4 x2 ++ by4 x3 ++ by4 x4 ++ by4 x5 := by
        unfold fb
        simp only [List.append_assoc]
      rw [e]
      exact h5
    obtain ⟨g, hg, hgb⟩ := feed_loop x1 x2 x3 x4 x5 (S0 := S.setI 0 (nI 0)) (l := bi) (by rw [MS.i_setI, if_neg (by decide)]; exact b3) (byts_fr b4 (by rw [MS.a_setI])) (by omega)
    have hio5 := RIO_in (g := g) hio h5' (by omega) hz hgb
    have hI5 : (C5.i 5 1 ji) = nI (bi.length + 20) := by
      obtain ⟨f, rfl, _⟩ := h5'
      rw [row_i, if_pos ⟨rfl, rfl, rfl⟩, hl]
    refine rlikeV (C' := C5) (S1 := (S.setA 1 g).setI 4 (nI (bi ++ fb x1 x2 x3 x4 x5).length)) (v := nI (bi.length + 20)) ?_ ?_ ((hR.setA rfl).setI rfl) (h5'.RC (by omega) hji G) hA hio5 (Nat.le_refl _) (by omega)
    · rw [a1, gn_s (by omega), w1]
      simp only [ob_ok]
      rw [show C1.r 11 8 0 = some ji by rw [h1.rr]; exact a1, gn_s (by omega), w2]
      simp only [ob_ok]
      rw [show C2.r 11 8 0 = some ji by rw [h2.rr]; exact a1, gn_s (by omega), w3]
      simp only [ob_ok]
      rw [show C3.r 11 8 0 = some ji by rw [h3.rr]; exact a1, gn_s (by omega), w4]
      simp only [ob_ok]
      rw [show C4.r 11 8 0 = some ji by rw [h4.rr]; exact a1, gn_s (by omega), w5]
      simp only [ob_ok]
      rw [show C5.r 11 8 0 = some ji by rw [h5.rr]; exact a1, gn_s (by omega), hI5]
    · rw [show m_rfeed_L60 (S.setI 0 0) x1 x2 x3 x4 x5 0 = _ from hg]
      simp only [ob_ok]
      have e4 : ((S.setI 0 (nI 0)).setA 1 g).i 4 = nI bi.length := by rw [MS.i_setA, MS.i_setI, if_neg (by decide)]; exact b3
      rw [e4, show nI bi.length + 20 = nI (bi.length + 20) from nI_add _ _, hl]
      rw [MS.setI_setA]
      congr 2
      unfold MS.setI MS.i
      congr 1
      funext j
      show (if j = 4 then _ else (if j = 0 then _ else _)) = (if j = 0 then _ else (if j = 4 then _ else _))
      by_cases e : j = 4
      · subst e
        rfl
      · rw [if_neg e, if_neg e]
  · rw [if_neg (show ¬ nI (bi.length + t + 20) ≤ 8192 from fun h => c ((nI_leI (b := 8192) (by omega) (by omega)).mp h)), if_neg (show ¬ nI (bi.length + 20 + t) ≤ 8192 from fun h => c (by have := (nI_leI (b := 8192) (by omega) (by omega)).mp h; omega))]
    refine rlikeT (t := 4) (k := 1) (C' := C) (S1 := S) (v := nI 0) rfl ?_ rfl hR G hA hio (Nat.le_refl _) (by omega)
    rw [show m_rno S 1 = some (S.setI 0 (nI 1), nI 0) from rfl]
    rfl
end CFE
