section CPM
variable {S S' : MS} {N : Nat → Nat} {C C' : CS} {A : AS} {r rd : Nat} {bi bf bs bo : List Nat} {ji jf js a : Nat}
/-- the place, on both sides -/
def PLB (S : MS) (N : Nat → Nat) (C : CS) (A : AS) (r rd : Nat) (bf : List Nat) (e : Nat) (x2 x3 : Int32) : Prop :=
  (∃ C' S' t k, m_cJT_placeAt N 0 C x2 x3 = some (.inr (C', t)) ∧ m_rpoint_J39 S (nI r) x2 x3 (nI e) = some (S', nI k) ∧ ((t = 1 ∧ k = 1) ∨ (t = 3 ∧ k = e)) ∧ RS S' A ∧ frS S S' ∧ VR A C rd 4001 C') ∨
  (∃ C' S' x s, A.oV r x ∧ x2 = nI (A.oi x) ∧ s ∈ A.fl r x ∧ m_cJT_placeAt N 0 C x2 x3 = some (.inl (C', some (A.sj s))) ∧ m_rpoint_J39 S (nI r) x2 x3 (nI e) = some (S', nI 0) ∧ RS S' A ∧ frS S S' ∧ VR A C rd 4001 C' ∧ S'.i 47 = nI (A.cd r s).length ∧ rowN (S'.a 46) (A.cd r s) ∧
    ((x3 = -nI 1 ∧ A.kd x = 6 ∧ A.key s = bf ∧ S'.i 52 = nI 0) ∨ (x3 ≠ -nI 1 ∧ nI 0 ≤ x3 ∧ A.kd x ≠ 6 ∧ S'.i 52 = nI (A.id s))))
theorem place_none (hR : RS S A) (hA : AI A) (hr : r < 8) {x2 x3 : Int32} {e : Nat} (hno : ∀ x, A.oV r x → x2 ≠ nI (A.oi x)) : m_rpoint_J39 S (nI r) x2 x3 (nI e) = some (S, nI e) := by
  unfold m_rpoint_J39
  rw [kind_n hR hA hr hno]
  simp only [ob_ok]
  rw [if_pos (show -nI 1 < 0 by decide)]
  unfold m_rpoint_J79
  rw [if_neg (show ¬ 0 ≤ -nI 1 by decide)]
/-- by a key -/
theorem place_key (hR : RS S A) (hA : AI A) (hr : r < 8) (G : RC N C A rd) (hio : RIO S C bi bf bs bo ji jf js a) (hv : VC C A r) (hrd : rd + 60000 < 2 ^ 30) (hb : 1 ≤ bf.length ∧ bf.length ≤ 64) (e : Nat) (x2 : Int32) : PLB S N C A r rd bf e x2 (-nI 1) := by
  obtain ⟨u0, u1, u2, u3, u4, u5, u6, u7, u8, u9, u10, u11, u12, u13, u14, u15, u16, u17, u18⟩ := G.nn
  obtain ⟨s1, s2, s3, s4, s5, s6, s7, s8, s9, s10, s11, s12, s13, s14, s15, s16, s17, s18, s19, s20, s21⟩ := G.st
  have hnn := hA.1.1
  obtain ⟨⟨a1, a2, a3, a4, a5, a6, a7⟩, _, ⟨c1, c2, c3, c4, c5⟩, _⟩ := hio
  have hjf := c1.1
  have hbn : bf ≠ [] := fun h => by rw [h] at hb; simp at hb
  unfold PLB
  rcases cJ_mapAt G hA hv x2 with ⟨x, hx, rfl, hkd, hmp⟩ | ⟨x, hx, rfl, hkd, hmp⟩ | ⟨hno, hmp⟩
  · have hkn := kind_x hR hA hr hx
    have hxl := oV_ltn hx
    have hox := ox_lt hxl
    have hsw := cS_spotWith G hA hxl hkd c1 c2 (by omega)
    have hC : m_cJT_placeAt N 0 C (nI (A.oi x)) (-nI 1) = m_cJT_placeAt_J45 N 0 C ((A.ks x bf).map A.sj) := by
      unfold m_cJT_placeAt m_cJT_placeAt_J0
      rw [if_pos hm1.symm]
      simp (disch := omega) only [gd_ok, cl_nI, nI_s, nI_add, nI_leI, nI_ltI, nI_eq, if_pos, if_neg, q0, q1, q2, q3, q4, q5, q6, q7, q8, q9, q10, CS.i_setI, CS.l_setI, CS.r_setI, CS.a_setI, CS.q_setI, CS.z_setI, CS.i_setL, CS.l_setL, CS.r_setL, CS.a_setL, CS.q_setL, CS.z_setL, CS.i_setR, CS.l_setR, CS.r_setR, CS.a_setR, CS.q_setR, CS.z_setR, CS.i_setA, CS.l_setA, CS.r_setA, CS.a_setA, CS.q_setA, CS.z_setA, CS.i_setQ, CS.l_setQ, CS.r_setQ, CS.a_setQ, CS.q_setQ, CS.z_setQ, CS.i_setF, CS.l_setF, CS.r_setF, CS.a_setF, CS.q_setF, CS.z_setF, CS.i_new, CS.l_new, CS.r_new, CS.a_new, CS.q_new, CS.z_new, Nat.reduceEqDiff, false_and, true_and, and_false, and_true, if_true, if_false, b2_0, b2_1, b2_nn, n0_or, n1_or, n10, n01, dec1, dec2, ob_ok, oe_l, oe_r, gl_ok, gle_ok, gn_s, gv_ok, gv_none, on_none, onSome,u11, u3, u5, u8, s1, hmp, a2, c1.2.2.1, hsw]
    have hR1 : RS (S.setI 52 (nI 0)) A := hR.setI rfl
    obtain ⟨f, g, hkc, hrow, hhid⟩ := pS_keyCand (b := 2) (p := 0) (k := bf) hR1 hA hr hx hkd (by omega) (byts_fr c4 (by rw [MS.a_setI])) (by omega) hbn
    obtain ⟨S3, hS3⟩ : ∃ S3, S3 = (((S.setI 52 (nI 0)).setA 45 f).setA 46 g).setI 47 (nI (A.kc r x bf).length) := ⟨_, rfl⟩
    rw [← hS3] at hkc
    have h47 : S3.i 47 = nI (A.kc r x bf).length := by rw [hS3, MS.i_setI, if_pos rfl]
    have h46 : S3.a 46 = g := by rw [hS3, MS.a_setI, MS.a_setA, if_pos rfl]
    have h52 : S3.i 52 = nI 0 := by rw [hS3, MS.i_setI, if_neg (by decide), MS.i_setA, MS.i_setA, MS.i_setI, if_pos rfl]
    have hR3 : RS S3 A := by rw [hS3]; exact ((hR1.setA rfl).setA rfl).setI rfl
    have hfr3 : frS S S3 := by
      rw [hS3]
      exact (((frS_setI (by decide)).trans (frS_setA (by decide))).trans (frS_setA (by decide))).trans (frS_setI (by decide))
    have hS : m_rpoint_J39 S (nI r) (nI (A.oi x)) (-nI 1) (nI e) = (if nI (A.kc r x bf).length = 0 then some (S3, nI e) else some (S3, nI 0)) := by
      unfold m_rpoint_J39
      rw [hkn]
      simp only [ob_ok]
      rw [hkd, if_neg (show ¬ nI 6 < 0 by decide), if_pos hm1.symm]
      unfold m_rpoint_J62 m_rpoint_J74 m_rpoint_J79 m_rpoint_J125
      rw [if_pos (show nI 6 = 6 by decide), if_pos rfl, if_pos (show 0 ≤ nI 6 by decide), if_pos hm1.symm, c3]
      rw [show m_rkeyCandidates (S.setI 52 0) (nI r) (nI (A.oi x)) 2 0 (nI bf.length) = some S3 from hkc]
      simp only [ob_ok, h47]
      rfl
    rw [hC, hS]
    cases hks : A.ks x bf with
    | none =>
      left
      have hkc0 : A.kc r x bf = [] := by unfold AS.kc; rw [hks]
      refine ⟨C, S3, 3, e, rfl, ?_, Or.inr ⟨rfl, rfl⟩, hR3, hfr3, VR.refl G⟩
      rw [hkc0, if_pos (show nI ([] : List Nat).length = 0 from rfl)]
    | some s =>
      have hks2 := (ks_some hA hkd).mp hks
      have hsL := L_mem hA hks2.1
      have hkcs : A.kc r x bf = A.cd r s := by unfold AS.kc; rw [hks]
      have hcdl := cd_len hA (r := r) (s := s)
      obtain ⟨C3, hV, hC3⟩ := cJ_filled G hA hv hsL.1 hsL.2.2 (by omega)
      rw [Option.map_some, hC3, hkcs]
      rw [hkcs] at h47 hrow
      by_cases c : A.flB r s = true
      · right
        have hne := flB_iff.mp c
        have hl : 0 < (A.cd r s).length := List.length_pos_iff.mpr hne
        refine ⟨C3, S3, x, s, hx, rfl, ?_, by rw [if_pos c], ?_, hR3, hfr3, hV.mono (by omega), h47, by rw [h46]; exact hrow, Or.inl ⟨rfl, hkd, hks2.2, h52⟩⟩
        · unfold AS.fl
          rw [List.mem_filter]
          exact ⟨hks2.1, c⟩
        · rw [if_neg (show ¬ nI (A.cd r s).length = 0 from fun h => by
            have := (nI_eq (by omega) (by omega)).mp (h.trans q0)
            omega)]
      · left
        have hne : A.cd r s = [] := by
          rcases Classical.em (A.cd r s = []) with h | h
          · exact h
          · exact absurd (flB_iff.mpr h) c
        refine ⟨C3, S3, 3, e, by rw [if_neg c], ?_, Or.inr ⟨rfl, rfl⟩, hR3, hfr3, hV.mono (by omega)⟩
        rw [hne, if_pos (show nI ([] : List Nat).length = 0 from rfl)]
  · have hkn := kind_x hR hA hr hx
    have h8 := kd_le8 hx
    left
    refine ⟨C, S, 1, 1, ?_, ?_, Or.inl ⟨rfl, rfl⟩, hR, frS.refl, VR.refl G⟩
    · unfold m_cJT_placeAt m_cJT_placeAt_J0
      rw [if_pos hm1.symm]
      simp (disch := omega) only [gd_ok, cl_nI, nI_s, nI_add, nI_leI, nI_ltI, nI_eq, if_pos, if_neg, q0, q1, q2, q3, q4, q5, q6, q7, q8, q9, q10, CS.i_setI, CS.l_setI, CS.r_setI, CS.a_setI, CS.q_setI, CS.z_setI, CS.i_setL, CS.l_setL, CS.r_setL, CS.a_setL, CS.q_setL, CS.z_setL, CS.i_setR, CS.l_setR, CS.r_setR, CS.a_setR, CS.q_setR, CS.z_setR, CS.i_setA, CS.l_setA, CS.r_setA, CS.a_setA, CS.q_setA, CS.z_setA, CS.i_setQ, CS.l_setQ, CS.r_setQ, CS.a_setQ, CS.q_setQ, CS.z_setQ, CS.i_setF, CS.l_setF, CS.r_setF, CS.a_setF, CS.q_setF, CS.z_setF, CS.i_new, CS.l_new, CS.r_new, CS.a_new, CS.q_new, CS.z_new, Nat.reduceEqDiff, false_and, true_and, and_false, and_true, if_true, if_false, b2_0, b2_1, b2_nn, n0_or, n1_or, n10, n01, dec1, dec2, ob_ok, oe_l, oe_r, gl_ok, gle_ok, gn_s, gv_ok, gv_none, on_none, onSome,u11, hmp]
    · unfold m_rpoint_J39
      rw [hkn]
      simp only [ob_ok]
      rw [if_neg (show ¬ nI (A.kd x) < 0 from fun h => by
        have := (nI_ltI (by omega) (by omega)).mp (show nI (A.kd x) < nI 0 from h)
        omega), if_pos hm1.symm]
      unfold m_rpoint_J62 m_rpoint_J74
      rw [if_neg (show ¬ nI (A.kd x) = 6 from fun h => hkd ((nI_eq (by omega) (by omega)).mp (h.trans q6))), if_neg (show ¬ (1 : Int32) = 0 by decide)]
      rfl
  · left
    refine ⟨C, S, 3, e, ?_, place_none hR hA hr hno, Or.inr ⟨rfl, rfl⟩, hR, frS.refl, VR.refl G⟩
    unfold m_cJT_placeAt m_cJT_placeAt_J0
    rw [if_pos hm1.symm]
    simp (disch := omega) only [gd_ok, cl_nI, nI_s, nI_add, nI_leI, nI_ltI, nI_eq, if_pos, if_neg, q0, q1, q2, q3, q4, q5, q6, q7, q8, q9, q10, CS.i_setI, CS.l_setI, CS.r_setI, CS.a_setI, CS.q_setI, CS.z_setI, CS.i_setL, CS.l_setL, CS.r_setL, CS.a_setL, CS.q_setL, CS.z_setL, CS.i_setR, CS.l_setR, CS.r_setR, CS.a_setR, CS.q_setR, CS.z_setR, CS.i_setA, CS.l_setA, CS.r_setA, CS.a_setA, CS.q_setA, CS.z_setA, CS.i_setQ, CS.l_setQ, CS.r_setQ, CS.a_setQ, CS.q_setQ, CS.z_setQ, CS.i_setF, CS.l_setF, CS.r_setF, CS.a_setF, CS.q_setF, CS.z_setF, CS.i_new, CS.l_new, CS.r_new, CS.a_new, CS.q_new, CS.z_new, Nat.reduceEqDiff, false_and, true_and, and_false, and_true, if_true, if_false, b2_0, b2_1, b2_nn, n0_or, n1_or, n10, n01, dec1, dec2, ob_ok, oe_l, oe_r, gl_ok, gle_ok, gn_s, gv_ok, gv_none, on_none, onSome,u11, hmp]
/-- by an index -/
theorem place_idx (hR : RS S A) (hA : AI A) (hr : r < 8) (G : RC N C A rd) (hv : VC C A r) (hrd : rd + 60000 < 2 ^ 30) (e : Nat) (x2 : Int32) {x3 : Int32} (h3 : x3 ≠ -nI 1) : PLB S N C A r rd bf e x2 x3 := by
  obtain ⟨u0, u1, u2, u3, u4, u5, u6, u7, u8, u9, u10, u11, u12, u13, u14, u15, u16, u17, u18⟩ := G.nn
  obtain ⟨s1, s2, s3, s4, s5, s6, s7, s8, s9, s10, s11, s12, s13, s14, s15, s16, s17, s18, s19, s20, s21⟩ := G.st
  have hnn := hA.1.1
  have h3' : ¬ x3 = -1 := fun h => h3 (h.trans hm1)
  unfold PLB
  rcases cJ_listAt G hA hv x2 with ⟨x, hx, rfl, hkd, hmp⟩ | ⟨x, hx, rfl, hkd, hmp⟩ | ⟨hno, hmp⟩
  · have hkn := kind_x hR hA hr hx
    have h8 := kd_le8 hx
    have hxl := oV_ltn hx
    have hox := ox_lt hxl
    have hln := L_len hA (x := x)
    obtain ⟨C3, hV3, hsp⟩ := cV_spotAt G hA hv hxl (by omega) x3
    obtain ⟨rd3, r31, r32, G3⟩ := hV3.toRC G
    have hv3 := hV3.toVC hv
    obtain ⟨S3, hLS3, hat⟩ := pS_at hR hA hr hx hkd x3
    have hR3 := hLS3.RS hR
    have hS : m_rpoint_J39 S (nI r) (nI (A.oi x)) x3 (nI e) = ob (m_rat S (nI r) (nI (A.oi x)) x3) (fun o_3 => (if 0 ≤ o_3.2 then gd o_3.2 4000 (gd (o_3.1.a 48 o_3.2.toNatClampNeg) 4000 (ob (m_relementCandidates (o_3.1.setI 52 (o_3.1.a 8 ((o_3.1.a 48 o_3.2.toNatClampNeg).toNatClampNeg))) (nI r) (nI (A.oi x)) (o_3.1.a 8 ((o_3.1.a 48 o_3.2.toNatClampNeg).toNatClampNeg))) (fun o_8 => some (o_8, 0)))) else some (o_3.1, nI e))) := by
      unfold m_rpoint_J39
      rw [hkn]
      simp only [ob_ok]
      rw [if_neg (show ¬ nI (A.kd x) < 0 from fun h => by
        have := (nI_ltI (by omega) (by omega)).mp (show nI (A.kd x) < nI 0 from h)
        omega), if_neg h3']
      unfold m_rpoint_J62 m_rpoint_J74 m_rpoint_J79
      rw [if_neg (show ¬ nI (A.kd x) = 6 from fun h => hkd ((nI_eq (by omega) (by omega)).mp (h.trans q6))), if_pos rfl, if_pos (show 0 ≤ nI (A.kd x) from (nI_leI (a := 0) (by omega) (by omega)).mpr (by omega)), if_neg h3']
    rw [hS]
    rcases hsp with ⟨k, s, rfl, hk31, hfs, hsp⟩ | ⟨hnos, hsp⟩
    · have hkl : k < (A.fl r x).length := by
        rcases Nat.lt_or_ge k (A.fl r x).length with h | h
        · exact h
        · rw [List.getElem?_eq_none h] at hfs; cases hfs
      have hsm : s ∈ A.fl r x := List.mem_of_getElem? hfs
      have hsfl := hsm
      unfold AS.fl at hsfl
      rw [List.mem_filter] at hsfl
      have hsL := L_mem hA hsfl.1
      have hsv := (cd_inV hA (by rw [hsL.2.1]; exact hkd) (flB_iff.mp hsfl.2)).2
      obtain ⟨C4, hV4, hC4⟩ := cJ_filled G3 hA hv3 hsL.1 hsL.2.2 (by omega)
      rw [if_pos hsfl.2] at hC4
      have hC : m_cJT_placeAt N 0 C (nI (A.oi x)) (nI k) = some (.inl (C4, some (A.sj s))) := by
        unfold m_cJT_placeAt m_cJT_placeAt_J0
        rw [if_neg h3']
        simp (disch := omega) only [gd_ok, cl_nI, nI_s, nI_add, nI_leI, nI_ltI, nI_eq, if_pos, if_neg, q0, q1, q2, q3, q4, q5, q6, q7, q8, q9, q10, CS.i_setI, CS.l_setI, CS.r_setI, CS.a_setI, CS.q_setI, CS.z_setI, CS.i_setL, CS.l_setL, CS.r_setL, CS.a_setL, CS.q_setL, CS.z_setL, CS.i_setR, CS.l_setR, CS.r_setR, CS.a_setR, CS.q_setR, CS.z_setR, CS.i_setA, CS.l_setA, CS.r_setA, CS.a_setA, CS.q_setA, CS.z_setA, CS.i_setQ, CS.l_setQ, CS.r_setQ, CS.a_setQ, CS.q_setQ, CS.z_setQ, CS.i_setF, CS.l_setF, CS.r_setF, CS.a_setF, CS.q_setF, CS.z_setF, CS.i_new, CS.l_new, CS.r_new, CS.a_new, CS.q_new, CS.z_new, Nat.reduceEqDiff, false_and, true_and, and_false, and_true, if_true, if_false, b2_0, b2_1, b2_nn, n0_or, n1_or, n10, n01, dec1, dec2, ob_ok, oe_l, oe_r, gl_ok, gle_ok, gn_s, gv_ok, gv_none, on_none, onSome,u11, u3, u10, s3, hmp, hsp, hC4]
      rcases hat with ⟨k', s', w, hke, hk31', hfs', hwn, hww, hat⟩ | ⟨hnos', hat⟩
      · have hkk : k = k' := (nI_eq (by omega) hk31').mp hke
        subst hkk
        rw [hfs] at hfs'
        obtain rfl : s = s' := Option.some.inj hfs'
        have h6 : w < (A.el r x).length := by
          rcases Nat.lt_or_ge w (A.el r x).length with h | h
          · exact h
          · rw [List.getElem?_eq_none h] at hww; cases hww
        have h48 : S3.a 48 w = nI s := by
          rw [hLS3.get.2.1 w h6]
          rw [List.getElem?_eq_getElem h6] at hww
          rw [Option.some.inj hww]
        have hsn := hsL.1
        have hs8 : S3.a 8 s = nI (A.id s) := (hR3.2.1 s hsL.1).1
        have hR4 : RS (S3.setI 52 (nI (A.id s))) A := hR3.setI rfl
        obtain ⟨g, hec, hrow⟩ := pS_elCand (S := S3.setI 52 (nI (A.id s))) hR4 hA hr hsL.1 hsv hsL.2.2 (by rw [hsL.2.1]; exact hkd) (fun o ho => by rw [MS.a_setI]; exact hLS3.get.2.2.1 o ho)
        rw [hsL.2.1] at hec
        obtain ⟨S5, hS5⟩ : ∃ S5, S5 = ((S3.setI 52 (nI (A.id s))).setA 46 g).setI 47 (nI (A.cd r s).length) := ⟨_, rfl⟩
        rw [← hS5] at hec
        refine Or.inr ⟨C4, S5, x, s, hx, rfl, hsm, hC, ?_, ?_, ?_, (hV3.trans r31 r32 hV4).mono (by omega), ?_, ?_, Or.inr ⟨h3, (nI_leI (by omega) (by omega)).mpr (by omega), hkd, ?_⟩⟩
        · simp (disch := omega) only [gd_ok, cl_nI, nI_s, nI_add, nI_leI, nI_ltI, nI_eq, if_pos, if_neg, q0, q1, q2, q3, q4, q5, q6, q7, q8, q9, q10, MS.i_setI, MS.a_setI, MS.n_setI, MS.i_setA, MS.a_setA, MS.n_setA, MS.i_setN, MS.a_setN, MS.n_setN, ↓reduceIte, Nat.reduceEqDiff, b2_0, b2_1, b2_nn, n0_or, n1_or, n10, n01, dec1, dec2, ob_ok, oe_l, oe_r,hat, h48, hs8, hec]
        · rw [hS5]; exact (hR4.setA rfl).setI rfl
        · rw [hS5]
          exact ((hLS3.frS.trans (frS_setI (by decide))).trans (frS_setA (by decide))).trans (frS_setI (by decide))
        · rw [hS5, MS.i_setI, if_pos rfl]
        · rw [hS5, MS.a_setI, MS.a_setA, if_pos rfl]; exact hrow
        · rw [hS5, MS.i_setI, if_neg (by decide), MS.i_setA, MS.i_setI, if_pos rfl]
      · exact absurd rfl (hnos' k hkl)
    · left
      refine ⟨C3, S3, 3, e, ?_, ?_, Or.inr ⟨rfl, rfl⟩, hR3, hLS3.frS, hV3.mono (by omega)⟩
      · unfold m_cJT_placeAt m_cJT_placeAt_J0
        rw [if_neg h3']
        unfold m_cJT_placeAt_J45 m_cJT_placeAt_J61
        simp (disch := omega) only [gd_ok, cl_nI, nI_s, nI_add, nI_leI, nI_ltI, nI_eq, if_pos, if_neg, q0, q1, q2, q3, q4, q5, q6, q7, q8, q9, q10, CS.i_setI, CS.l_setI, CS.r_setI, CS.a_setI, CS.q_setI, CS.z_setI, CS.i_setL, CS.l_setL, CS.r_setL, CS.a_setL, CS.q_setL, CS.z_setL, CS.i_setR, CS.l_setR, CS.r_setR, CS.a_setR, CS.q_setR, CS.z_setR, CS.i_setA, CS.l_setA, CS.r_setA, CS.a_setA, CS.q_setA, CS.z_setA, CS.i_setQ, CS.l_setQ, CS.r_setQ, CS.a_setQ, CS.q_setQ, CS.z_setQ, CS.i_setF, CS.l_setF, CS.r_setF, CS.a_setF, CS.q_setF, CS.z_setF, CS.i_new, CS.l_new, CS.r_new, CS.a_new, CS.q_new, CS.z_new, Nat.reduceEqDiff, false_and, true_and, and_false, and_true, if_true, if_false, b2_0, b2_1, b2_nn, n0_or, n1_or, n10, n01, dec1, dec2, ob_ok, oe_l, oe_r, gl_ok, gle_ok, gn_s, gv_ok, gv_none, on_none, onSome,u11, u3, u10, s3, hmp, hsp]
      · rcases hat with ⟨k', s', w, hke, hk31', hfs', hwn, hww, hat⟩ | ⟨hnos', hat⟩
        · exfalso
          rcases Nat.lt_or_ge k' (A.fl r x).length with h | h
          · exact hnos k' h hke
          · rw [List.getElem?_eq_none h] at hfs'; cases hfs'
        · simp (disch := omega) only [gd_ok, cl_nI, nI_s, nI_add, nI_leI, nI_ltI, nI_eq, if_pos, if_neg, q0, q1, q2, q3, q4, q5, q6, q7, q8, q9, q10, MS.i_setI, MS.a_setI, MS.n_setI, MS.i_setA, MS.a_setA, MS.n_setA, MS.i_setN, MS.a_setN, MS.n_setN, ↓reduceIte, Nat.reduceEqDiff, b2_0, b2_1, b2_nn, n0_or, n1_or, n10, n01, dec1, dec2, ob_ok, oe_l, oe_r,hat, m1le]
  · have hkn := kind_x hR hA hr hx
    left
    refine ⟨C, S, 1, 1, ?_, ?_, Or.inl ⟨rfl, rfl⟩, hR, frS.refl, VR.refl G⟩
    · unfold m_cJT_placeAt m_cJT_placeAt_J0
      rw [if_neg h3']
      simp (disch := omega) only [gd_ok, cl_nI, nI_s, nI_add, nI_leI, nI_ltI, nI_eq, if_pos, if_neg, q0, q1, q2, q3, q4, q5, q6, q7, q8, q9, q10, CS.i_setI, CS.l_setI, CS.r_setI, CS.a_setI, CS.q_setI, CS.z_setI, CS.i_setL, CS.l_setL, CS.r_setL, CS.a_setL, CS.q_setL, CS.z_setL, CS.i_setR, CS.l_setR, CS.r_setR, CS.a_setR, CS.q_setR, CS.z_setR, CS.i_setA, CS.l_setA, CS.r_setA, CS.a_setA, CS.q_setA, CS.z_setA, CS.i_setQ, CS.l_setQ, CS.r_setQ, CS.a_setQ, CS.q_setQ, CS.z_setQ, CS.i_setF, CS.l_setF, CS.r_setF, CS.a_setF, CS.q_setF, CS.z_setF, CS.i_new, CS.l_new, CS.r_new, CS.a_new, CS.q_new, CS.z_new, Nat.reduceEqDiff, false_and, true_and, and_false, and_true, if_true, if_false, b2_0, b2_1, b2_nn, n0_or, n1_or, n10, n01, dec1, dec2, ob_ok, oe_l, oe_r, gl_ok, gle_ok, gn_s, gv_ok, gv_none, on_none, onSome,u11, hmp]
    · unfold m_rpoint_J39
      rw [hkn]
      simp only [ob_ok]
      rw [hkd, if_neg (show ¬ nI 6 < 0 by decide), if_neg h3']
      unfold m_rpoint_J62 m_rpoint_J74
      rw [if_pos (show nI 6 = 6 by decide), if_neg (show ¬ (0 : Int32) = 1 by decide)]
      rfl
  · left
    refine ⟨C, S, 3, e, ?_, place_none hR hA hr hno, Or.inr ⟨rfl, rfl⟩, hR, frS.refl, VR.refl G⟩
    unfold m_cJT_placeAt m_cJT_placeAt_J0
    rw [if_neg h3']
    simp (disch := omega) only [gd_ok, cl_nI, nI_s, nI_add, nI_leI, nI_ltI, nI_eq, if_pos, if_neg, q0, q1, q2, q3, q4, q5, q6, q7, q8, q9, q10, CS.i_setI, CS.l_setI, CS.r_setI, CS.a_setI, CS.q_setI, CS.z_setI, CS.i_setL, CS.l_setL, CS.r_setL, CS.a_setL, CS.q_setL, CS.z_setL, CS.i_setR, CS.l_setR, CS.r_setR, CS.a_setR, CS.q_setR, CS.z_setR, CS.i_setA, CS.l_setA, CS.r_setA, CS.a_setA, CS.q_setA, CS.z_setA, CS.i_setQ, CS.l_setQ, CS.r_setQ, CS.a_setQ, CS.q_setQ, CS.z_setQ, CS.i_setF, CS.l_setF, CS.r_setF, CS.a_setF, CS.q_setF, CS.z_setF, CS.i_new, CS.l_new, CS.r_new, CS.a_new, CS.q_new, CS.z_new, Nat.reduceEqDiff, false_and, true_and, and_false, and_true, if_true, if_false, b2_0, b2_1, b2_nn, n0_or, n1_or, n10, n01, dec1, dec2, ob_ok, oe_l, oe_r, gl_ok, gle_ok, gn_s, gv_ok, gv_none, on_none, onSome,u11, hmp]
end CPM
