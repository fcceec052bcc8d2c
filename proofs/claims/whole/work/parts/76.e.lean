/-! THE CALL end. -/
section CEN
variable {S S' : MS} {N : Nat → Nat} {C C' : CS} {A : AS} {r rd : Nat} {bi bf bs bo : List Nat} {ji jf js a : Nat}
theorem RC_setR11 {f j : Nat} (hf : f = 8 ∨ f = 9 ∨ f = 10) (hj : j < 7) (G : RC N C A rd) : RC N (C.setR 11 f 0 (some j)) A rd := by
  obtain ⟨⟨h1, h2, h3⟩, h4⟩ := G
  have hw : WF N (C.setR 11 f 0 (some j)) := by
    refine WF_setR h2 ?_
    intro t y e1 e2
    obtain rfl := Option.some.inj e2
    have ht : t = 5 := by
      rcases hf with rfl | rfl | rfl
      · have := Option.some.inj e1; omega
      · have := Option.some.inj e1; omega
      · have := Option.some.inj e1; omega
    rw [ht, h1.2.2.2.2.2.1]
    exact hj
  rcases hf with rfl | rfl | rfl <;> exact ⟨⟨h1, hw, h3⟩, h4⟩
theorem RC_setI11 {f : Nat} {v : Int32} (G : RC N C A rd) : RC N (C.setI 11 f 0 v) A rd := G
theorem RC_setI5 {f j : Nat} {v : Int32} (hj : 3 ≤ j) (G : RC N C A rd) : RC N (C.setI 5 f j v) A rd := by
  have hs : ∀ k f1 j1, ¬ (k = 5 ∧ f1 = f ∧ j1 = j) → (C.setI 5 f j v).i k f1 j1 = C.i k f1 j1 := fun k f1 j1 h => by rw [CS.i_setI, if_neg h]
  obtain ⟨⟨g1, g2, g3, g4, g5, g6, g7, ⟨g8, g8'⟩, g9⟩, h4⟩ := G
  exact ⟨⟨g1, g2, g3, g4, g5, g6, g7, ⟨by rw [hs _ _ _ (by omega)]; exact g8, g8'⟩, g9⟩, h4⟩
theorem end_copy {S0 : MS} {k : Nat} {l : List Nat} (hk : k = 2 ∨ k = 3) (h4 : S0.i 4 = nI l.length) (hb : byts S0 1 0 l) (hl : l.length ≤ 8192) : ∃ g, m_rend_L109 S0 k (nI 0) = some (S0.setA k g) ∧ ∀ i (h : i < l.length), g i = sb l[i] := by
  have := lp_run (body := fun w : MS × Nat × Int32 => m_rend_B109 w.1 w.2.1 w.2.2) (fun i w => ∃ g, w = (S0.setA k g, k, nI i) ∧ ∀ q (h : q < l.length), q < i → g q = sb l[q]) (fun e => ∃ g, e = S0.setA k g ∧ ∀ q (h : q < l.length), g q = sb l[q]) l.length ?_ FU (S0, k, nI 0) (by unfold FU; omega) ⟨S0.a k, by rw [MS.setA_self], fun q h hq => by omega⟩
  · obtain ⟨e, h1, g, rfl, h2⟩ := this
    refine ⟨g, ?_, h2⟩
    unfold m_rend_L109
    exact h1
  · rintro i _ hi ⟨g, rfl, hg⟩
    by_cases hin : i < l.length
    · left
      refine ⟨(S0.setA k (upd g i (sb l[i])), k, nI (i + 1)), ?_, hin, _, rfl, ?_⟩
      · show m_rend_B109 (S0.setA k g) k (nI i) = _
        unfold m_rend_B109
        have h1 := (hb i hin).2
        rw [Nat.zero_add] at h1
        rw [MS.i_setA, h4, if_neg (nle hin (by omega)), gd_ok (by omega) (by omega), gB_ok (by omega), gd_ok (by omega) (by omega), cl_nI (by omega), MS.a_setA, MS.a_setA, if_pos rfl, if_neg (show ¬ 1 = k by omega), h1, bytes_nar, MS.setA_setA]
        rw [show nI i + 1 = nI (i + 1) from nI_add _ _]
      · intro q hq hqi
        unfold upd
        by_cases e : q = i
        · subst e
          rw [if_pos rfl]
        · rw [if_neg e]
          exact hg q hq (by omega)
    · right
      refine ⟨S0.setA k g, ?_, g, rfl, ?_⟩
      · show m_rend_B109 (S0.setA k g) k (nI i) = _
        unfold m_rend_B109
        rw [MS.i_setA, h4, show i = l.length by omega, if_pos (Int32.le_refl _)]
      · intro q hq
        exact hg q hq (by omega)
theorem end_copy2 {S0 : MS} {l : List Nat} (h4 : S0.i 6 = nI l.length) (hb : byts S0 3 0 l) (hl : l.length ≤ 8192) : ∃ g, m_rend_L49 S0 (nI 0) = some (S0.setA 2 g) ∧ ∀ i (h : i < l.length), g i = sb l[i] := by
  have := lp_run (body := fun w : MS × Int32 => m_rend_B49 w.1 w.2) (fun i w => ∃ g, w = (S0.setA 2 g, nI i) ∧ ∀ q (h : q < l.length), q < i → g q = sb l[q]) (fun e => ∃ g, e = S0.setA 2 g ∧ ∀ q (h : q < l.length), g q = sb l[q]) l.length ?_ FU (S0, nI 0) (by unfold FU; omega) ⟨S0.a 2, by rw [MS.setA_self], fun q h hq => by omega⟩
  · obtain ⟨e, h1, g, rfl, h2⟩ := this
    refine ⟨g, ?_, h2⟩
    unfold m_rend_L49
    exact h1
  · rintro i _ hi ⟨g, rfl, hg⟩
    by_cases hin : i < l.length
    · left
      refine ⟨(S0.setA 2 (upd g i (sb l[i])), nI (i + 1)), ?_, hin, _, rfl, ?_⟩
      · show m_rend_B49 (S0.setA 2 g) (nI i) = _
        unfold m_rend_B49
        have h1 := (hb i hin).2
        rw [Nat.zero_add] at h1
        rw [MS.i_setA, h4, if_neg (nle hin (by omega)), gd_ok (by omega) (by omega), gd_ok (by omega) (by omega), cl_nI (by omega), MS.a_setA, MS.a_setA, if_pos rfl, if_neg (show ¬ 3 = 2 by omega), h1, bytes_nar, MS.setA_setA]
        rw [show nI i + 1 = nI (i + 1) from nI_add _ _]
      · intro q hq hqi
        unfold upd
        by_cases e : q = i
        · subst e
          rw [if_pos rfl]
        · rw [if_neg e]
          exact hg q hq (by omega)
    · right
      refine ⟨S0.setA 2 g, ?_, g, rfl, ?_⟩
      · show m_rend_B49 (S0.setA 2 g) (nI i) = _
        unfold m_rend_B49
        rw [MS.i_setA, h4, show i = l.length by omega, if_pos (Int32.le_refl _)]
      · intro q hq
        exact hg q hq (by omega)
/-- rows change their parts: what RIO says, by the pieces -/
theorem RIO_mk {S1 : MS} {C1 : CS} {l1 l2 l3 : List Nat} {j1 j2 j3 b : Nat} (hio : RIO S C bi bf bs bo ji jf js a) (r1 : C1.r 11 8 0 = some j1) (r2 : C1.r 11 9 0 = some j2) (r3 : C1.r 11 10 0 = some j3) (hj : 4 ≤ j1 ∧ 4 ≤ j2 ∧ 4 ≤ j3 ∧ j1 ≠ j2 ∧ j2 ≠ j3 ∧ j1 ≠ j3)
    (w1 : RW C1 j1 l1.length) (v1 : RB C1 j1 0 l1) (w2 : RW C1 j2 l2.length) (v2 : RB C1 j2 0 l2) (w3 : RW C1 j3 l3.length) (v3 : RB C1 j3 0 l3) (x1 : S1.i 4 = nI l1.length) (x2 : S1.i 5 = nI l2.length) (x3 : S1.i 6 = nI l3.length) (y1 : byts S1 1 0 l1) (y2 : byts S1 2 0 l2) (y3 : byts S1 3 0 l3)
    (z1 : l1.length ≤ 8192) (z2 : l2.length ≤ 8192) (z3 : l3.length ≤ 8192) (e3 : C1.i 5 1 3 = C.i 5 1 3) (e3a : C1.a 13 3 = C.a 13 3) (e3r : C1.r 5 0 3 = C.r 5 0 3) (e3z : C1.z 13 3 = C.z 13 3) (h41 : S1.i 41 = S.i 41) (h40 : S1.a 40 = S.a 40) (h42 : S1.i 42 = S.i 42) (h43 : S1.i 43 = S.i 43) (k1 : C1.i 11 12 0 = C.i 11 12 0) (k2 : C1.i 11 7 0 = C.i 11 7 0) (f1 : S1.i 7 = nI b) (f2 : C1.i 11 11 0 = nI b) (f3 : b ≤ 2) : RIO S1 C1 l1 l2 l3 bo j1 j2 j3 b := by
  obtain ⟨_, _, _, _, ⟨⟨g1, g2, g3, g4, g5⟩, gb, gi, gy⟩, _, o1, sv, o2, o3⟩ := hio
  refine ⟨⟨r1, r2, r3, hj.1, hj.2.1, hj.2.2.1, hj.2.2.2.1, hj.2.2.2.2.1, hj.2.2.2.2.2⟩, ⟨w1, v1, x1, y1, z1⟩, ⟨w2, v2, x2, y2, z2⟩, ⟨w3, v3, x3, y3, z3⟩, ⟨⟨g1, by rw [e3r]; exact g2, by rw [e3]; exact g3, by rw [e3z]; exact g4, by rw [e3z]; exact g5⟩, ?_, by rw [h41]; exact gi, byts_fr gy h40⟩, ⟨f1, f2, f3⟩, by rw [h42, k1]; exact o1, sv, by rw [h43]; exact o2, by rw [k2]; exact o3⟩
  intro i hi
  rw [e3a]
  exact gb i hi
theorem RB_take {j n : Nat} {l : List Nat} (h : RB C j 0 l) : RB C j 0 (l.take n) := by
  intro i hi
  rw [List.length_take] at hi
  rw [List.getElem_take]
  exact h i (by omega)
theorem byts_take {b n : Nat} {l : List Nat} (h : byts S b 0 l) : byts S b 0 (l.take n) := by
  intro i hi
  rw [List.length_take] at hi
  rw [List.getElem_take]
  exact h i (by omega)
theorem sub_nI {n k : Nat} (h : k ≤ n) : nI n - nI k = nI (n - k) := by
  have : nI n = nI (n - k) + nI k := by rw [nI_add]; congr 1; omega
  rw [this, Int32.add_sub_cancel]
theorem call_end (hI : INV S N C A rd) (x1 : Int32) : RLIKE [(1, 1)] A rd N (m_cJT_end N 0 C x1) (m_rend S x1) := by
  obtain ⟨hR, G, hA, bi, bf, bs, bo, ji, jf, js, a, hio⟩ := hI
  obtain ⟨u0, u1, u2, u3, u4, u5, u6, u7, u8, u9, u10, u11, u12, u13, u14, u15, u16, u17, u18⟩ := G.nn
  obtain ⟨s1, s2, s3, s4, s5, s6, s7, s8, s9, s10, s11, s12, s13, s14, s15, s16, s17, s18, s19, s20, s21⟩ := G.st
  have hio0 := hio
  obtain ⟨⟨a1, a2, a3, a4, a5, a6, a7, a8, a9⟩, ⟨b1, b2', b3, b4, b5⟩, ⟨c1, c2, c3, c4, c5⟩, ⟨d1, d2, d3, d4, d5⟩, _, ⟨f1, f2, f3⟩, _⟩ := hio0
  have hji := b1.1
  have hjf := c1.1
  have hjs := d1.1
  have hbad : (m_cJT_end N 0 C x1 = some (.inr (C, 1))) → (m_rend S x1 = m_rend_J18 S) → RLIKE [(1, 1)] A rd N (m_cJT_end N 0 C x1) (m_rend S x1) := by
    intro h1 h2
    exact rlikeT (t := 1) (k := 1) (C' := C) (S1 := S) (v := nI 0) h1 (by rw [h2]; rfl) rfl hR G hA hio (Nat.le_refl _) (by omega)
  by_cases p0 : x1 < nI 0
  · refine hbad ?_ ?_
    · unfold m_cJT_end m_cJT_end_J0; rw [if_pos (show x1 < 0 from p0)]; rfl
    · unfold m_rend m_rend_J0; rw [if_pos (show x1 < 0 from p0)]
  obtain ⟨x, hx31, rfl⟩ := nI_of p0
  by_cases p1 : 20 ≤ x
  · refine hbad ?_ ?_
    · unfold m_cJT_end m_cJT_end_J0; rw [if_neg (show ¬ nI x < 0 from p0), if_pos (show (20 : Int32) ≤ nI x from (nI_leI (a := 20) (by omega) (by omega)).mpr p1)]; rfl
    · unfold m_rend m_rend_J0; rw [if_neg (show ¬ nI x < 0 from p0), if_pos (show (19 : Int32) < nI x from (nI_ltI (a := 19) (by omega) (by omega)).mpr (by omega))]
  have hcx : m_cJT_end N 0 C (nI x) = (if nI x ≤ nI bi.length then (if nI a = 0 then m_cJT_end_J120 N 0 (((C.setI 5 1 ji (nI bi.length - nI x)).setR 11 9 0 (some ji)).setI 11 11 0 1) (some jf) else (if nI a = 1 then m_cJT_end_J120 N 0 (((C.setI 5 1 ji (nI bi.length - nI x)).setR 11 10 0 (some ji)).setI 11 11 0 2) (some js) else m_cJT_end_J120 N 0 (((C.setI 5 1 ji (nI bi.length - nI x)).setR 11 9 0 (some js)).setR 11 10 0 (some ji)) (some jf))) else m_cJT_end_J21 N 0 C) := by
    unfold m_cJT_end m_cJT_end_J0
    rw [if_neg (show ¬ nI x < 0 from p0), if_neg (show ¬ (20 : Int32) ≤ nI x from fun h => p1 ((nI_leI (a := 20) (by omega) (by omega)).mp h)), gl_ok (by omega), a1, gn_s (by omega), b1.2.2.1, f2, a2, a3]
  have hrx : m_rend S (nI x) = (if nI x ≤ nI bi.length then (if nI a = 2 then ob (m_rend_L49 ((S.setI 0 0).setI 4 (nI bi.length - nI x)) 0) (fun b_5 => m_rend_J88 ((b_5.setI 5 (b_5.i 6)).setI 7 1)) else m_rend_J88 ((S.setI 0 0).setI 4 (nI bi.length - nI x))) else m_rend_J18 S) := by
    unfold m_rend m_rend_J0
    rw [if_neg (show ¬ nI x < 0 from p0), if_neg (show ¬ (19 : Int32) < nI x from fun h => absurd ((nI_ltI (a := 19) (by omega) (by omega)).mp h) (by omega)), b3, f1]
  by_cases p2 : x ≤ bi.length
  · have hle : nI x ≤ nI bi.length := (nI_leI (by omega) (by omega)).mpr p2
    rw [if_pos hle, sub_nI p2] at hcx hrx
    have htl : (bi.take (bi.length - x)).length = bi.length - x := by rw [List.length_take]; omega
    have hrt : ∀ {C1 : CS}, C1.r 5 0 ji = some ji → C1.i 5 1 ji = nI (bi.length - x) → C1.z = C.z → RW C1 ji (bi.take (bi.length - x)).length := by
      intro C1 g1 g2 g3
      rw [htl]
      exact ⟨hji, g1, g2, by rw [g3]; have := b1.2.2.2.1; omega, by rw [g3]; exact b1.2.2.2.2⟩
    have hr0 : ∀ {C1 : CS} {j : Nat}, 4 ≤ j → j < 7 → C1.r 5 0 j = some j → C1.i 5 1 j = nI 0 → C1.z = C.z → RW C1 j ([] : List Nat).length := by
      intro C1 j h4 h7 g1 g2 g3
      have hz := G.sz
      obtain ⟨_, _, _, _, _, _, _, _, _, z4, z5, z6, _⟩ := hz
      have : C.z 13 j = 8192 := by
        have : j = 4 ∨ j = 5 ∨ j = 6 := by omega
        rcases this with rfl | rfl | rfl
        · exact z4
        · exact z5
        · exact z6
      exact ⟨h7, g1, g2, by rw [g3]; exact Nat.zero_le _, by rw [g3, this]; omega⟩
    have hRB0 : ∀ {C1 : CS} {j : Nat}, RB C1 j 0 [] := by
      intro C1 j i hi
      exact absurd hi (Nat.not_lt_zero _)
    have hby0 : ∀ {S1 : MS} {b : Nat}, byts S1 b 0 [] := by
      intro C1 j i hi
      exact absurd hi (Nat.not_lt_zero _)
    rcases (show a = 0 ∨ a = 1 ∨ a = 2 by omega) with rfl | rfl | rfl
    · rw [if_pos (show nI 0 = 0 by decide)] at hcx
      rw [if_neg (show ¬ nI 0 = 2 by decide)] at hrx
      obtain ⟨S0, hS0⟩ : ∃ S0, S0 = (S.setI 0 (nI 0)).setI 4 (nI (bi.length - x)) := ⟨_, rfl⟩
      obtain ⟨g, hg, hgb⟩ := end_copy (S0 := S0) (k := 2) (l := bi.take (bi.length - x)) (Or.inl rfl) (by rw [htl, hS0, MS.i_setI, if_pos rfl]) (byts_take (byts_fr b4 (by rw [hS0]; rfl))) (by omega)
      have e7 : S0.i 7 = nI 0 := by rw [hS0, MS.i_setI, if_neg (by decide), MS.i_setI, if_neg (by decide)]; exact f1
      have e4 : S0.i 4 = nI (bi.length - x) := by rw [hS0, MS.i_setI, if_pos rfl]
      have hrv : m_rend S (nI x) = some (((((S0.setA 2 g).setI 5 (nI (bi.length - x))).setI 7 (nI 1)).setI 4 (nI 0)), nI 1) := by
        rw [hrx, show ((S.setI 0 0).setI 4 (nI (bi.length - x))) = S0 from hS0.symm]
        unfold m_rend_J88 m_rend_J106 m_rend_J158
        rw [e7, if_pos (show nI 0 = 0 by decide), show m_rend_L109 S0 2 0 = _ from hg]
        simp only [ob_ok]
        rw [show (S0.setA 2 g).i 7 = nI 0 from e7, if_pos (show nI 0 = 0 by decide), show (S0.setA 2 g).i 4 = _ from e4]
        rw [show ((S0.setA 2 g).setI 5 (nI (bi.length - x))).i 7 = nI 0 from e7]
        rfl
      have hcv : m_cJT_end N 0 C (nI x) = some (.inl (((((((C.setI 5 1 ji (nI (bi.length - x))).setR 11 9 0 (some ji)).setI 11 11 0 (nI 1)).setI 5 1 jf (nI 0)).setI 5 2 jf (nI 0)).setR 11 8 0 (some jf)), nI 1)) := by
        rw [hcx]
        unfold m_cJT_end_J120 m_cRw_clear m_cRw_clear_J0
        simp (disch := omega) only [gd_ok, cl_nI, nI_s, nI_add, nI_leI, nI_ltI, nI_eq, if_pos, if_neg, q0, q1, q2, q3, q4, q5, q6, q7, q8, q9, q10, CS.i_setI, CS.l_setI, CS.r_setI, CS.a_setI, CS.q_setI, CS.z_setI, CS.i_setL, CS.l_setL, CS.r_setL, CS.a_setL, CS.q_setL, CS.z_setL, CS.i_setR, CS.l_setR, CS.r_setR, CS.a_setR, CS.q_setR, CS.z_setR, CS.i_setA, CS.l_setA, CS.r_setA, CS.a_setA, CS.q_setA, CS.z_setA, CS.i_setQ, CS.l_setQ, CS.r_setQ, CS.a_setQ, CS.q_setQ, CS.z_setQ, CS.i_setF, CS.l_setF, CS.r_setF, CS.a_setF, CS.q_setF, CS.z_setF, CS.i_new, CS.l_new, CS.r_new, CS.a_new, CS.q_new, CS.z_new, Nat.reduceEqDiff, false_and, true_and, and_false, and_true, if_true, if_false, b2_0, b2_1, b2_nn, n0_or, n1_or, n10, n01, dec1, dec2, ob_ok, oe_l, oe_r, gl_ok, gle_ok, gn_s, gv_ok, gv_none, on_none, onSome,u5, u11]
      refine Or.inl ⟨_, _, _, rd, hcv, hrv, ?_, ⟨?_, ?_, hA, [], bi.take (bi.length - x), bs, bo, jf, ji, js, 1, ?_⟩, Nat.le_refl _, by omega⟩
      · rw [hS0]; rfl
      · rw [hS0]
        exact ((((((hR.setI rfl).setI rfl).setA rfl).setI rfl).setI rfl).setI rfl)
      · exact RC_setR11 (Or.inl rfl) hjf (RC_setI5 (by omega) (RC_setI5 (by omega) (RC_setI11 (RC_setR11 (Or.inr (Or.inl rfl)) hji (RC_setI5 (by omega) G)))))
      · refine RIO_mk hio rfl rfl a3 ⟨a5, a4, a6, Ne.symm a7, a9, a8⟩ ?_ hRB0 ?_ (RB_take b2') ?_ d2 ?_ ?_ ?_ hby0 ?_ ?_ (by simp) (by omega) d5 ?_ rfl rfl rfl ?_ ?_ ?_ ?_ rfl rfl ?_ ?_ (by omega)
        · refine hr0 a5 hjf c1.2.1 ?_ rfl
          simp (disch := omega) only [gd_ok, cl_nI, nI_s, nI_add, nI_leI, nI_ltI, nI_eq, if_pos, if_neg, q0, q1, q2, q3, q4, q5, q6, q7, q8, q9, q10, CS.i_setI, CS.l_setI, CS.r_setI, CS.a_setI, CS.q_setI, CS.z_setI, CS.i_setL, CS.l_setL, CS.r_setL, CS.a_setL, CS.q_setL, CS.z_setL, CS.i_setR, CS.l_setR, CS.r_setR, CS.a_setR, CS.q_setR, CS.z_setR, CS.i_setA, CS.l_setA, CS.r_setA, CS.a_setA, CS.q_setA, CS.z_setA, CS.i_setQ, CS.l_setQ, CS.r_setQ, CS.a_setQ, CS.q_setQ, CS.z_setQ, CS.i_setF, CS.l_setF, CS.r_setF, CS.a_setF, CS.q_setF, CS.z_setF, CS.i_new, CS.l_new, CS.r_new, CS.a_new, CS.q_new, CS.z_new, Nat.reduceEqDiff, false_and, true_and, and_false, and_true, if_true, if_false, b2_0, b2_1, b2_nn, n0_or, n1_or, n10, n01, dec1, dec2, ob_ok, oe_l, oe_r, gl_ok, gle_ok, gn_s, gv_ok, gv_none, on_none, onSome,if_pos rfl]
        · refine hrt b1.2.1 ?_ rfl
          simp (disch := omega) only [gd_ok, cl_nI, nI_s, nI_add, nI_leI, nI_ltI, nI_eq, if_pos, if_neg, q0, q1, q2, q3, q4, q5, q6, q7, q8, q9, q10, CS.i_setI, CS.l_setI, CS.r_setI, CS.a_setI, CS.q_setI, CS.z_setI, CS.i_setL, CS.l_setL, CS.r_setL, CS.a_setL, CS.q_setL, CS.z_setL, CS.i_setR, CS.l_setR, CS.r_setR, CS.a_setR, CS.q_setR, CS.z_setR, CS.i_setA, CS.l_setA, CS.r_setA, CS.a_setA, CS.q_setA, CS.z_setA, CS.i_setQ, CS.l_setQ, CS.r_setQ, CS.a_setQ, CS.q_setQ, CS.z_setQ, CS.i_setF, CS.l_setF, CS.r_setF, CS.a_setF, CS.q_setF, CS.z_setF, CS.i_new, CS.l_new, CS.r_new, CS.a_new, CS.q_new, CS.z_new, Nat.reduceEqDiff, false_and, true_and, and_false, and_true, if_true, if_false, b2_0, b2_1, b2_nn, n0_or, n1_or, n10, n01, dec1, dec2, ob_ok, oe_l, oe_r, gl_ok, gle_ok, gn_s, gv_ok, gv_none, on_none, onSome,Ne.symm a7, a7, b1.2.1]
        · refine ⟨hjs, d1.2.1, ?_, d1.2.2.2.1, d1.2.2.2.2⟩
          simp (disch := omega) only [gd_ok, cl_nI, nI_s, nI_add, nI_leI, nI_ltI, nI_eq, if_pos, if_neg, q0, q1, q2, q3, q4, q5, q6, q7, q8, q9, q10, CS.i_setI, CS.l_setI, CS.r_setI, CS.a_setI, CS.q_setI, CS.z_setI, CS.i_setL, CS.l_setL, CS.r_setL, CS.a_setL, CS.q_setL, CS.z_setL, CS.i_setR, CS.l_setR, CS.r_setR, CS.a_setR, CS.q_setR, CS.z_setR, CS.i_setA, CS.l_setA, CS.r_setA, CS.a_setA, CS.q_setA, CS.z_setA, CS.i_setQ, CS.l_setQ, CS.r_setQ, CS.a_setQ, CS.q_setQ, CS.z_setQ, CS.i_setF, CS.l_setF, CS.r_setF, CS.a_setF, CS.q_setF, CS.z_setF, CS.i_new, CS.l_new, CS.r_new, CS.a_new, CS.q_new, CS.z_new, Nat.reduceEqDiff, false_and, true_and, and_false, and_true, if_true, if_false, b2_0, b2_1, b2_nn, n0_or, n1_or, n10, n01, dec1, dec2, ob_ok, oe_l, oe_r, gl_ok, gle_ok, gn_s, gv_ok, gv_none, on_none, onSome,Ne.symm a8, Ne.symm a9, d1.2.2.1]
        · rfl
        · rw [htl]; rfl
        · rw [hS0]; exact d3
        · intro i hi
          refine ⟨((byts_take (n := bi.length - x) b4) i hi).1, ?_⟩
          rw [Nat.zero_add]
          exact hgb i hi
        · rw [hS0]; exact d4
        · simp (disch := omega) only [gd_ok, cl_nI, nI_s, nI_add, nI_leI, nI_ltI, nI_eq, if_pos, if_neg, q0, q1, q2, q3, q4, q5, q6, q7, q8, q9, q10, CS.i_setI, CS.l_setI, CS.r_setI, CS.a_setI, CS.q_setI, CS.z_setI, CS.i_setL, CS.l_setL, CS.r_setL, CS.a_setL, CS.q_setL, CS.z_setL, CS.i_setR, CS.l_setR, CS.r_setR, CS.a_setR, CS.q_setR, CS.z_setR, CS.i_setA, CS.l_setA, CS.r_setA, CS.a_setA, CS.q_setA, CS.z_setA, CS.i_setQ, CS.l_setQ, CS.r_setQ, CS.a_setQ, CS.q_setQ, CS.z_setQ, CS.i_setF, CS.l_setF, CS.r_setF, CS.a_setF, CS.q_setF, CS.z_setF, CS.i_new, CS.l_new, CS.r_new, CS.a_new, CS.q_new, CS.z_new, Nat.reduceEqDiff, false_and, true_and, and_false, and_true, if_true, if_false, b2_0, b2_1, b2_nn, n0_or, n1_or, n10, n01, dec1, dec2, ob_ok, oe_l, oe_r, gl_ok, gle_ok, gn_s, gv_ok, gv_none, on_none, onSome,if_neg (show ¬ 3 = jf by omega), if_neg (show ¬ 3 = ji by omega)]
        · rw [hS0]; rfl
        · rw [hS0]; rfl
        · rw [hS0]; rfl
        · rw [hS0]; rfl
        · rfl
        · rfl
    · rw [if_neg (show ¬ nI 1 = 0 by decide), if_pos (show nI 1 = 1 by decide)] at hcx
      rw [if_neg (show ¬ nI 1 = 2 by decide)] at hrx
      obtain ⟨S0, hS0⟩ : ∃ S0, S0 = (S.setI 0 (nI 0)).setI 4 (nI (bi.length - x)) := ⟨_, rfl⟩
      obtain ⟨g, hg, hgb⟩ := end_copy (S0 := S0) (k := 3) (l := bi.take (bi.length - x)) (Or.inr rfl) (by rw [htl, hS0, MS.i_setI, if_pos rfl]) (byts_take (byts_fr b4 (by rw [hS0]; rfl))) (by omega)
      have e7 : S0.i 7 = nI 1 := by rw [hS0, MS.i_setI, if_neg (by decide), MS.i_setI, if_neg (by decide)]; exact f1
      have e4 : S0.i 4 = nI (bi.length - x) := by rw [hS0, MS.i_setI, if_pos rfl]
      have hrv : m_rend S (nI x) = some (((((S0.setA 3 g).setI 6 (nI (bi.length - x))).setI 7 (nI 2)).setI 4 (nI 0)), nI 2) := by
        rw [hrx, show ((S.setI 0 0).setI 4 (nI (bi.length - x))) = S0 from hS0.symm]
        unfold m_rend_J88 m_rend_J106 m_rend_J158
        rw [e7, if_neg (show ¬ nI 1 = 0 by decide), show m_rend_L109 S0 3 0 = _ from hg]
        simp only [ob_ok]
        rw [show (S0.setA 3 g).i 7 = nI 1 from e7, if_neg (show ¬ nI 1 = 0 by decide), show (S0.setA 3 g).i 4 = _ from e4]
        rw [show ((S0.setA 3 g).setI 6 (nI (bi.length - x))).i 7 = nI 1 from e7]
        rfl
      have hcv : m_cJT_end N 0 C (nI x) = some (.inl (((((((C.setI 5 1 ji (nI (bi.length - x))).setR 11 10 0 (some ji)).setI 11 11 0 (nI 2)).setI 5 1 js (nI 0)).setI 5 2 js (nI 0)).setR 11 8 0 (some js)), nI 2)) := by
        rw [hcx]
        unfold m_cJT_end_J120 m_cRw_clear m_cRw_clear_J0
        simp (disch := omega) only [gd_ok, cl_nI, nI_s, nI_add, nI_leI, nI_ltI, nI_eq, if_pos, if_neg, q0, q1, q2, q3, q4, q5, q6, q7, q8, q9, q10, CS.i_setI, CS.l_setI, CS.r_setI, CS.a_setI, CS.q_setI, CS.z_setI, CS.i_setL, CS.l_setL, CS.r_setL, CS.a_setL, CS.q_setL, CS.z_setL, CS.i_setR, CS.l_setR, CS.r_setR, CS.a_setR, CS.q_setR, CS.z_setR, CS.i_setA, CS.l_setA, CS.r_setA, CS.a_setA, CS.q_setA, CS.z_setA, CS.i_setQ, CS.l_setQ, CS.r_setQ, CS.a_setQ, CS.q_setQ, CS.z_setQ, CS.i_setF, CS.l_setF, CS.r_setF, CS.a_setF, CS.q_setF, CS.z_setF, CS.i_new, CS.l_new, CS.r_new, CS.a_new, CS.q_new, CS.z_new, Nat.reduceEqDiff, false_and, true_and, and_false, and_true, if_true, if_false, b2_0, b2_1, b2_nn, n0_or, n1_or, n10, n01, dec1, dec2, ob_ok, oe_l, oe_r, gl_ok, gle_ok, gn_s, gv_ok, gv_none, on_none, onSome,u5, u11]
      refine Or.inl ⟨_, _, _, rd, hcv, hrv, ?_, ⟨?_, ?_, hA, [], bf, bi.take (bi.length - x), bo, js, jf, ji, 2, ?_⟩, Nat.le_refl _, by omega⟩
      · rw [hS0]; rfl
      · rw [hS0]
        exact ((((((hR.setI rfl).setI rfl).setA rfl).setI rfl).setI rfl).setI rfl)
      · exact RC_setR11 (Or.inl rfl) hjs (RC_setI5 (by omega) (RC_setI5 (by omega) (RC_setI11 (RC_setR11 (Or.inr (Or.inr rfl)) hji (RC_setI5 (by omega) G)))))
      · refine RIO_mk hio rfl a2 rfl ⟨a6, a5, a4, Ne.symm a8, Ne.symm a7, Ne.symm a9⟩ ?_ hRB0 ?_ c2 ?_ (RB_take b2') ?_ ?_ ?_ hby0 ?_ ?_ (by simp) c5 (by omega) ?_ rfl rfl rfl ?_ ?_ ?_ ?_ rfl rfl ?_ ?_ (by omega)
        · refine hr0 a6 hjs d1.2.1 ?_ rfl
          simp (disch := omega) only [gd_ok, cl_nI, nI_s, nI_add, nI_leI, nI_ltI, nI_eq, if_pos, if_neg, q0, q1, q2, q3, q4, q5, q6, q7, q8, q9, q10, CS.i_setI, CS.l_setI, CS.r_setI, CS.a_setI, CS.q_setI, CS.z_setI, CS.i_setL, CS.l_setL, CS.r_setL, CS.a_setL, CS.q_setL, CS.z_setL, CS.i_setR, CS.l_setR, CS.r_setR, CS.a_setR, CS.q_setR, CS.z_setR, CS.i_setA, CS.l_setA, CS.r_setA, CS.a_setA, CS.q_setA, CS.z_setA, CS.i_setQ, CS.l_setQ, CS.r_setQ, CS.a_setQ, CS.q_setQ, CS.z_setQ, CS.i_setF, CS.l_setF, CS.r_setF, CS.a_setF, CS.q_setF, CS.z_setF, CS.i_new, CS.l_new, CS.r_new, CS.a_new, CS.q_new, CS.z_new, Nat.reduceEqDiff, false_and, true_and, and_false, and_true, if_true, if_false, b2_0, b2_1, b2_nn, n0_or, n1_or, n10, n01, dec1, dec2, ob_ok, oe_l, oe_r, gl_ok, gle_ok, gn_s, gv_ok, gv_none, on_none, onSome,if_pos rfl]
        · refine ⟨hjf, c1.2.1, ?_, c1.2.2.2.1, c1.2.2.2.2⟩
          simp (disch := omega) only [gd_ok, cl_nI, nI_s, nI_add, nI_leI, nI_ltI, nI_eq, if_pos, if_neg, q0, q1, q2, q3, q4, q5, q6, q7, q8, q9, q10, CS.i_setI, CS.l_setI, CS.r_setI, CS.a_setI, CS.q_setI, CS.z_setI, CS.i_setL, CS.l_setL, CS.r_setL, CS.a_setL, CS.q_setL, CS.z_setL, CS.i_setR, CS.l_setR, CS.r_setR, CS.a_setR, CS.q_setR, CS.z_setR, CS.i_setA, CS.l_setA, CS.r_setA, CS.a_setA, CS.q_setA, CS.z_setA, CS.i_setQ, CS.l_setQ, CS.r_setQ, CS.a_setQ, CS.q_setQ, CS.z_setQ, CS.i_setF, CS.l_setF, CS.r_setF, CS.a_setF, CS.q_setF, CS.z_setF, CS.i_new, CS.l_new, CS.r_new, CS.a_new, CS.q_new, CS.z_new, Nat.reduceEqDiff, false_and, true_and, and_false, and_true, if_true, if_false, b2_0, b2_1, b2_nn, n0_or, n1_or, n10, n01, dec1, dec2, ob_ok, oe_l, oe_r, gl_ok, gle_ok, gn_s, gv_ok, gv_none, on_none, onSome,a8, Ne.symm a7, c1.2.2.1]
        · refine hrt b1.2.1 ?_ rfl
          simp (disch := omega) only [gd_ok, cl_nI, nI_s, nI_add, nI_leI, nI_ltI, nI_eq, if_pos, if_neg, q0, q1, q2, q3, q4, q5, q6, q7, q8, q9, q10, CS.i_setI, CS.l_setI, CS.r_setI, CS.a_setI, CS.q_setI, CS.z_setI, CS.i_setL, CS.l_setL, CS.r_setL, CS.a_setL, CS.q_setL, CS.z_setL, CS.i_setR, CS.l_setR, CS.r_setR, CS.a_setR, CS.q_setR, CS.z_setR, CS.i_setA, CS.l_setA, CS.r_setA, CS.a_setA, CS.q_setA, CS.z_setA, CS.i_setQ, CS.l_setQ, CS.r_setQ, CS.a_setQ, CS.q_setQ, CS.z_setQ, CS.i_setF, CS.l_setF, CS.r_setF, CS.a_setF, CS.q_setF, CS.z_setF, CS.i_new, CS.l_new, CS.r_new, CS.a_new, CS.q_new, CS.z_new, Nat.reduceEqDiff, false_and, true_and, and_false, and_true, if_true, if_false, b2_0, b2_1, b2_nn, n0_or, n1_or, n10, n01, dec1, dec2, ob_ok, oe_l, oe_r, gl_ok, gle_ok, gn_s, gv_ok, gv_none, on_none, onSome,a9, b1.2.1]
        · rfl
        · rw [hS0]; exact c3
        · rw [htl]; rfl
        · rw [hS0]; exact c4
        · intro i hi
          refine ⟨((byts_take (n := bi.length - x) b4) i hi).1, ?_⟩
          rw [Nat.zero_add]
          exact hgb i hi
        · simp (disch := omega) only [gd_ok, cl_nI, nI_s, nI_add, nI_leI, nI_ltI, nI_eq, if_pos, if_neg, q0, q1, q2, q3, q4, q5, q6, q7, q8, q9, q10, CS.i_setI, CS.l_setI, CS.r_setI, CS.a_setI, CS.q_setI, CS.z_setI, CS.i_setL, CS.l_setL, CS.r_setL, CS.a_setL, CS.q_setL, CS.z_setL, CS.i_setR, CS.l_setR, CS.r_setR, CS.a_setR, CS.q_setR, CS.z_setR, CS.i_setA, CS.l_setA, CS.r_setA, CS.a_setA, CS.q_setA, CS.z_setA, CS.i_setQ, CS.l_setQ, CS.r_setQ, CS.a_setQ, CS.q_setQ, CS.z_setQ, CS.i_setF, CS.l_setF, CS.r_setF, CS.a_setF, CS.q_setF, CS.z_setF, CS.i_new, CS.l_new, CS.r_new, CS.a_new, CS.q_new, CS.z_new, Nat.reduceEqDiff, false_and, true_and, and_false, and_true, if_true, if_false, b2_0, b2_1, b2_nn, n0_or, n1_or, n10, n01, dec1, dec2, ob_ok, oe_l, oe_r, gl_ok, gle_ok, gn_s, gv_ok, gv_none, on_none, onSome,if_neg (show ¬ 3 = js by omega), if_neg (show ¬ 3 = ji by omega)]
        · rw [hS0]; rfl
        · rw [hS0]; rfl
        · rw [hS0]; rfl
        · rw [hS0]; rfl
        · rfl
        · rfl
    · rw [if_neg (show ¬ nI 2 = 0 by decide), if_neg (show ¬ nI 2 = 1 by decide)] at hcx
      rw [if_pos (show nI 2 = 2 by decide)] at hrx
      obtain ⟨S00, hS00⟩ : ∃ S0, S0 = (S.setI 0 (nI 0)).setI 4 (nI (bi.length - x)) := ⟨_, rfl⟩
      obtain ⟨g2, hg2, hgb2⟩ := end_copy2 (S0 := S00) (l := bs) (by rw [hS00]; exact d3) (by rw [hS00]; exact d4) d5
      obtain ⟨S0, hS0⟩ : ∃ S0, S0 = (((S00.setA 2 g2).setI 5 (nI bs.length)).setI 7 (nI 1)) := ⟨_, rfl⟩
      have e4 : S0.i 4 = nI (bi.length - x) := by rw [hS0, hS00]; rfl
      obtain ⟨g, hg, hgb⟩ := end_copy (S0 := S0) (k := 3) (l := bi.take (bi.length - x)) (Or.inr rfl) (by rw [htl]; exact e4) (byts_take (byts_fr b4 (by rw [hS0, hS00]; rfl))) (by omega)
      have e7 : S0.i 7 = nI 1 := by rw [hS0]; rfl
      have hrv : m_rend S (nI x) = some (((((S0.setA 3 g).setI 6 (nI (bi.length - x))).setI 7 (nI 2)).setI 4 (nI 0)), nI 2) := by
        rw [hrx, show ((S.setI 0 0).setI 4 (nI (bi.length - x))) = S00 from hS00.symm, show m_rend_L49 S00 0 = _ from hg2]
        simp only [ob_ok]
        rw [show (S00.setA 2 g2).i 6 = nI bs.length by rw [hS00]; exact d3, show (((S00.setA 2 g2).setI 5 (nI bs.length)).setI 7 1) = S0 from hS0.symm]
        unfold m_rend_J88 m_rend_J106 m_rend_J158
        rw [e7, if_neg (show ¬ nI 1 = 0 by decide), show m_rend_L109 S0 3 0 = _ from hg]
        simp only [ob_ok]
        rw [show (S0.setA 3 g).i 7 = nI 1 from e7, if_neg (show ¬ nI 1 = 0 by decide), show (S0.setA 3 g).i 4 = _ from e4]
        rw [show ((S0.setA 3 g).setI 6 (nI (bi.length - x))).i 7 = nI 1 from e7]
        rfl
      have hcv : m_cJT_end N 0 C (nI x) = some (.inl (((((((C.setI 5 1 ji (nI (bi.length - x))).setR 11 9 0 (some js)).setR 11 10 0 (some ji)).setI 5 1 jf (nI 0)).setI 5 2 jf (nI 0)).setR 11 8 0 (some jf)), nI 2)) := by
        rw [hcx]
        unfold m_cJT_end_J120 m_cRw_clear m_cRw_clear_J0
        simp (disch := omega) only [gd_ok, cl_nI, nI_s, nI_add, nI_leI, nI_ltI, nI_eq, if_pos, if_neg, q0, q1, q2, q3, q4, q5, q6, q7, q8, q9, q10, CS.i_setI, CS.l_setI, CS.r_setI, CS.a_setI, CS.q_setI, CS.z_setI, CS.i_setL, CS.l_setL, CS.r_setL, CS.a_setL, CS.q_setL, CS.z_setL, CS.i_setR, CS.l_setR, CS.r_setR, CS.a_setR, CS.q_setR, CS.z_setR, CS.i_setA, CS.l_setA, CS.r_setA, CS.a_setA, CS.q_setA, CS.z_setA, CS.i_setQ, CS.l_setQ, CS.r_setQ, CS.a_setQ, CS.q_setQ, CS.z_setQ, CS.i_setF, CS.l_setF, CS.r_setF, CS.a_setF, CS.q_setF, CS.z_setF, CS.i_new, CS.l_new, CS.r_new, CS.a_new, CS.q_new, CS.z_new, Nat.reduceEqDiff, false_and, true_and, and_false, and_true, if_true, if_false, b2_0, b2_1, b2_nn, n0_or, n1_or, n10, n01, dec1, dec2, ob_ok, oe_l, oe_r, gl_ok, gle_ok, gn_s, gv_ok, gv_none, on_none, onSome,u5, u11, f2]
      refine Or.inl ⟨_, _, _, rd, hcv, hrv, ?_, ⟨?_, ?_, hA, [], bs, bi.take (bi.length - x), bo, jf, js, ji, 2, ?_⟩, Nat.le_refl _, by omega⟩
      · rw [hS0, hS00]; rfl
      · rw [hS0, hS00]
        exact ((((((((hR.setI rfl).setI rfl).setA rfl).setI rfl).setI rfl).setA rfl).setI rfl).setI rfl).setI rfl
      · exact RC_setR11 (Or.inl rfl) hjf (RC_setI5 (by omega) (RC_setI5 (by omega) (RC_setR11 (Or.inr (Or.inr rfl)) hji (RC_setR11 (Or.inr (Or.inl rfl)) hjs (RC_setI5 (by omega) G)))))
      · refine RIO_mk hio rfl rfl rfl ⟨a5, a6, a4, a8, Ne.symm a9, Ne.symm a7⟩ ?_ hRB0 ?_ d2 ?_ (RB_take b2') ?_ ?_ ?_ hby0 ?_ ?_ (by simp) d5 (by omega) ?_ rfl rfl rfl ?_ ?_ ?_ ?_ rfl rfl ?_ ?_ (by omega)
        · refine hr0 a5 hjf c1.2.1 ?_ rfl
          simp (disch := omega) only [gd_ok, cl_nI, nI_s, nI_add, nI_leI, nI_ltI, nI_eq, if_pos, if_neg, q0, q1, q2, q3, q4, q5, q6, q7, q8, q9, q10, CS.i_setI, CS.l_setI, CS.r_setI, CS.a_setI, CS.q_setI, CS.z_setI, CS.i_setL, CS.l_setL, CS.r_setL, CS.a_setL, CS.q_setL, CS.z_setL, CS.i_setR, CS.l_setR, CS.r_setR, CS.a_setR, CS.q_setR, CS.z_setR, CS.i_setA, CS.l_setA, CS.r_setA, CS.a_setA, CS.q_setA, CS.z_setA, CS.i_setQ, CS.l_setQ, CS.r_setQ, CS.a_setQ, CS.q_setQ, CS.z_setQ, CS.i_setF, CS.l_setF, CS.r_setF, CS.a_setF, CS.q_setF, CS.z_setF, CS.i_new, CS.l_new, CS.r_new, CS.a_new, CS.q_new, CS.z_new, Nat.reduceEqDiff, false_and, true_and, and_false, and_true, if_true, if_false, b2_0, b2_1, b2_nn, n0_or, n1_or, n10, n01, dec1, dec2, ob_ok, oe_l, oe_r, gl_ok, gle_ok, gn_s, gv_ok, gv_none, on_none, onSome,if_pos rfl]
        · refine ⟨hjs, d1.2.1, ?_, d1.2.2.2.1, d1.2.2.2.2⟩
          simp (disch := omega) only [gd_ok, cl_nI, nI_s, nI_add, nI_leI, nI_ltI, nI_eq, if_pos, if_neg, q0, q1, q2, q3, q4, q5, q6, q7, q8, q9, q10, CS.i_setI, CS.l_setI, CS.r_setI, CS.a_setI, CS.q_setI, CS.z_setI, CS.i_setL, CS.l_setL, CS.r_setL, CS.a_setL, CS.q_setL, CS.z_setL, CS.i_setR, CS.l_setR, CS.r_setR, CS.a_setR, CS.q_setR, CS.z_setR, CS.i_setA, CS.l_setA, CS.r_setA, CS.a_setA, CS.q_setA, CS.z_setA, CS.i_setQ, CS.l_setQ, CS.r_setQ, CS.a_setQ, CS.q_setQ, CS.z_setQ, CS.i_setF, CS.l_setF, CS.r_setF, CS.a_setF, CS.q_setF, CS.z_setF, CS.i_new, CS.l_new, CS.r_new, CS.a_new, CS.q_new, CS.z_new, Nat.reduceEqDiff, false_and, true_and, and_false, and_true, if_true, if_false, b2_0, b2_1, b2_nn, n0_or, n1_or, n10, n01, dec1, dec2, ob_ok, oe_l, oe_r, gl_ok, gle_ok, gn_s, gv_ok, gv_none, on_none, onSome,a8, Ne.symm a9, d1.2.2.1]
        · refine hrt b1.2.1 ?_ rfl
          simp (disch := omega) only [gd_ok, cl_nI, nI_s, nI_add, nI_leI, nI_ltI, nI_eq, if_pos, if_neg, q0, q1, q2, q3, q4, q5, q6, q7, q8, q9, q10, CS.i_setI, CS.l_setI, CS.r_setI, CS.a_setI, CS.q_setI, CS.z_setI, CS.i_setL, CS.l_setL, CS.r_setL, CS.a_setL, CS.q_setL, CS.z_setL, CS.i_setR, CS.l_setR, CS.r_setR, CS.a_setR, CS.q_setR, CS.z_setR, CS.i_setA, CS.l_setA, CS.r_setA, CS.a_setA, CS.q_setA, CS.z_setA, CS.i_setQ, CS.l_setQ, CS.r_setQ, CS.a_setQ, CS.q_setQ, CS.z_setQ, CS.i_setF, CS.l_setF, CS.r_setF, CS.a_setF, CS.q_setF, CS.z_setF, CS.i_new, CS.l_new, CS.r_new, CS.a_new, CS.q_new, CS.z_new, Nat.reduceEqDiff, false_and, true_and, and_false, and_true, if_true, if_false, b2_0, b2_1, b2_nn, n0_or, n1_or, n10, n01, dec1, dec2, ob_ok, oe_l, oe_r, gl_ok, gle_ok, gn_s, gv_ok, gv_none, on_none, onSome,a7, b1.2.1]
        · rfl
        · rw [hS0]; rfl
        · rw [htl]; rfl
        · rw [hS0]
          intro i hi
          refine ⟨(d4 i hi).1, ?_⟩
          rw [Nat.zero_add]
          exact hgb2 i hi
        · intro i hi
          refine ⟨((byts_take (n := bi.length - x) b4) i hi).1, ?_⟩
          rw [Nat.zero_add]
          exact hgb i hi
        · simp (disch := omega) only [gd_ok, cl_nI, nI_s, nI_add, nI_leI, nI_ltI, nI_eq, if_pos, if_neg, q0, q1, q2, q3, q4, q5, q6, q7, q8, q9, q10, CS.i_setI, CS.l_setI, CS.r_setI, CS.a_setI, CS.q_setI, CS.z_setI, CS.i_setL, CS.l_setL, CS.r_setL, CS.a_setL, CS.q_setL, CS.z_setL, CS.i_setR, CS.l_setR, CS.r_setR, CS.a_setR, CS.q_setR, CS.z_setR, CS.i_setA, CS.l_setA, CS.r_setA, CS.a_setA, CS.q_setA, CS.z_setA, CS.i_setQ, CS.l_setQ, CS.r_setQ, CS.a_setQ, CS.q_setQ, CS.z_setQ, CS.i_setF, CS.l_setF, CS.r_setF, CS.a_setF, CS.q_setF, CS.z_setF, CS.i_new, CS.l_new, CS.r_new, CS.a_new, CS.q_new, CS.z_new, Nat.reduceEqDiff, false_and, true_and, and_false, and_true, if_true, if_false, b2_0, b2_1, b2_nn, n0_or, n1_or, n10, n01, dec1, dec2, ob_ok, oe_l, oe_r, gl_ok, gle_ok, gn_s, gv_ok, gv_none, on_none, onSome,if_neg (show ¬ 3 = jf by omega), if_neg (show ¬ 3 = ji by omega)]
        · rw [hS0, hS00]; rfl
        · rw [hS0, hS00]; rfl
        · rw [hS0, hS00]; rfl
        · rw [hS0, hS00]; rfl
        · rfl
        · exact f2
  · have hle : ¬ nI x ≤ nI bi.length := fun h => p2 ((nI_leI (by omega) (by omega)).mp h)
    rw [if_neg hle] at hcx hrx
    exact hbad hcx hrx
end CEN
