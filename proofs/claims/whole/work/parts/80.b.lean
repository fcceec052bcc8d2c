/-! COMMIT: the reference, whole. -/
section CCN
variable {S S' : MS} {N : Nat → Nat} {C C' : CS} {A : AS} {r rd : Nat} {bi bf bs bo : List Nat} {ji jf js a : Nat}
theorem RS_cm {W : MS} {t : Nat} {da : Nat → Nat} {dl : Nat → List Nat} (hR : RS S A) (hA : AI A) (hr : r < 8) (hm1 : A.m < 1000)
    (h3 : ∀ c, c < A.m → S.a 31 c = nI (da c) ∧ S.a 32 c = nI (dl c).length ∧ da c + (dl c).length ≤ t ∧ (dl c).Nodup ∧ (∀ d, d ∈ dl c ↔ A.dp c d = true) ∧ ∀ k (h : k < (dl c).length), S.a 33 (da c + k) = nI (dl c)[k]) (ht : t ≤ 8 * A.m)
    (wi : ∀ k, k = 23 ∨ k = 27 ∨ k = 25 → W.i k = S.i k) (w34 : W.i 34 = nI (A.m + 1)) (w35 : W.i 35 = nI (t + ((List.range A.m).filter (A.headB r)).length)) (wn : W.n = S.n)
    (wa : ∀ k, k ≠ 13 → k ≠ 29 → k ≠ 30 → k ≠ 31 → k ≠ 32 → k ≠ 33 → k ≠ 101 + r → W.a k = S.a k)
    (w13 : ∀ o, o < A.n → W.a 13 o = cI ((A.cm r).chg o)) (w29 : ∀ c, W.a 29 c = if c = A.m then nI r else S.a 29 c) (w30 : ∀ c, W.a 30 c = if c = A.m then nI (A.hv r r + 1) else S.a 30 c) (w31 : ∀ c, W.a 31 c = if c = A.m then nI t else S.a 31 c) (w32 : ∀ c, W.a 32 c = if c = A.m then nI ((List.range A.m).filter (A.headB r)).length else S.a 32 c)
    (w33 : ∀ p, p < t → W.a 33 p = S.a 33 p) (w33' : ∀ k (h : k < ((List.range A.m).filter (A.headB r)).length), W.a 33 (t + k) = nI ((List.range A.m).filter (A.headB r))[k]) (wh : ∀ c, W.a (101 + r) c = if c = A.m then 1 else S.a (101 + r) c) : RS W (A.cm r) := by
  obtain ⟨h1, h2, h3', h4, h5, h6, h7, h8⟩ := hR
  have hl8 : ((List.range A.m).filter (A.headB r)).length ≤ 8 := by rw [filt_len]; exact heads8 hA
  have hA' := hA
  refine ⟨⟨?_, w34, ?_⟩, ?_, ?_, ?_, ?_, ?_, ?_, ?_⟩
  · rw [wi 23 (by simp)]; exact h1.1
  · rw [wi 27 (by simp)]; exact h1.2.2
  · intro o ho
    have h := h2 o ho
    rw [wa 8 (by omega) (by omega) (by omega) (by omega) (by omega) (by omega) (by omega), wa 9 (by omega) (by omega) (by omega) (by omega) (by omega) (by omega) (by omega), wa 10 (by omega) (by omega) (by omega) (by omega) (by omega) (by omega) (by omega), wa 11 (by omega) (by omega) (by omega) (by omega) (by omega) (by omega) (by omega), wa 12 (by omega) (by omega) (by omega) (by omega) (by omega) (by omega) (by omega), wa 20 (by omega) (by omega) (by omega) (by omega) (by omega) (by omega) (by omega), wa 21 (by omega) (by omega) (by omega) (by omega) (by omega) (by omega) (by omega), wn]
    exact ⟨h.1, h.2.1, h.2.2.1, h.2.2.2.1, h.2.2.2.2.1, w13 o ho, h.2.2.2.2.2.2⟩
  · unfold R_tx at *
    rw [wa 14 (by omega) (by omega) (by omega) (by omega) (by omega) (by omega) (by omega), wa 15 (by omega) (by omega) (by omega) (by omega) (by omega) (by omega) (by omega), wa 16 (by omega) (by omega) (by omega) (by omega) (by omega) (by omega) (by omega), wa 17 (by omega) (by omega) (by omega) (by omega) (by omega) (by omega) (by omega), wa 26 (by omega) (by omega) (by omega) (by omega) (by omega) (by omega) (by omega)]
    exact h3'
  · unfold R_pr at *
    rw [wi 25 (by simp), wa 18 (by omega) (by omega) (by omega) (by omega) (by omega) (by omega) (by omega), wa 19 (by omega) (by omega) (by omega) (by omega) (by omega) (by omega) (by omega), wa 24 (by omega) (by omega) (by omega) (by omega) (by omega) (by omega) (by omega)]
    exact h4
  · unfold R_od at *
    rw [wa 28 (by omega) (by omega) (by omega) (by omega) (by omega) (by omega) (by omega)]
    exact h5
  · intro c hc
    rw [cm_m] at hc
    rw [w29, w30, cm_ca, cm_cu]
    by_cases e : c = A.m
    · rw [if_pos e, if_pos e, if_pos e, if_pos e]; exact ⟨rfl, rfl⟩
    · rw [if_neg e, if_neg e, if_neg e, if_neg e]
      exact h6 c (by omega)
  · refine ⟨t + ((List.range A.m).filter (A.headB r)).length, fun c => if c = A.m then t else da c, fun c => if c = A.m then (List.range A.m).filter (A.headB r) else dl c, w35, by rw [cm_m]; omega, ?_⟩
    intro c hc
    rw [cm_m] at hc
    rw [w31, w32]
    by_cases e : c = A.m
    · simp only [if_pos e]
      refine ⟨trivial, trivial, Nat.le_refl _, List.nodup_range.filter _, ?_, w33'⟩
      intro d
      rw [cm_dp, if_pos e, List.mem_filter, List.mem_range]
      constructor
      · exact fun h => h.2
      · exact fun h => ⟨(headB_iff.mp h).1.1, h⟩
    · obtain ⟨b1, b2', b3, b4, b5, b6⟩ := h3 c (by omega)
      simp only [if_neg e]
      refine ⟨b1, b2', by omega, b4, ?_, ?_⟩
      · intro d
        rw [cm_dp, if_neg e]
        exact b5 d
      · intro k hk
        rw [w33 _ (by omega)]
        exact b6 k hk
  · intro q hq
    have h := h8 q hq
    rw [cm_lk, cm_wt]
    refine ⟨by rw [wa 39 (by omega) (by omega) (by omega) (by omega) (by omega) (by omega) (by omega)]; exact h.1, ?_⟩
    intro c hc
    have hh := h.2 c hc
    rw [wa (109 + q) (by omega) (by omega) (by omega) (by omega) (by omega) (by omega) (by omega), wa (117 + q) (by omega) (by omega) (by omega) (by omega) (by omega) (by omega) (by omega)]
    have hB : (A.cm r).hasB q c = if c = A.m then decide (q = r) else A.hasB q c := by
      by_cases e : c = A.m
      · rw [if_pos e, e]
        by_cases e2 : q = r
        · rw [decide_eq_true e2]
          exact hasB_iff.mpr ((cm_has1 hA).mpr e2)
        · rw [decide_eq_false e2]
          cases hb : (A.cm r).hasB q A.m with
          | false => rfl
          | true => exact absurd ((cm_has1 hA).mp (hasB_iff.mp hb)) e2
      · rw [if_neg e]
        by_cases e2 : c < A.m
        · cases hb : A.hasB q c with
          | true => exact hasB_iff.mpr ((cm_has hA e2).mpr (hasB_iff.mp hb))
          | false =>
            cases hb2 : (A.cm r).hasB q c with
            | false => rfl
            | true => rw [hasB_iff.mpr ((cm_has hA e2).mp (hasB_iff.mp hb2))] at hb; cases hb
        · unfold AS.hasB
          rw [cm_m, decide_eq_false (show ¬ c < A.m + 1 by omega), decide_eq_false (show ¬ c < A.m by omega)]
          rfl
    refine ⟨?_, hh.2.1, hh.2.2.1, fun hmc => hh.2.2.2.1 (by rw [cm_m] at hmc; omega), ?_⟩
    · rw [hB]
      by_cases e : q = r
      · rw [e, wh c]
        by_cases e2 : c = A.m
        · rw [if_pos e2, if_pos e2, decide_eq_true rfl]; rfl
        · rw [if_neg e2, if_neg e2, ← e]; exact hh.1
      · rw [wa (101 + q) (by omega) (by omega) (by omega) (by omega) (by omega) (by omega) (by omega)]
        by_cases e2 : c = A.m
        · rw [if_pos e2, decide_eq_false e, hh.1, e2]
          unfold AS.hasB
          rw [decide_eq_false (show ¬ A.m < A.m by omega)]
          rfl
        · rw [if_neg e2]; exact hh.1
    · intro c0 hl
      have hc0 := (hA.2.1.2.2.2.2.2.2.2.2.1 q c0 hl).1
      rw [hh.2.2.2.2 c0 hl]
      congr 1
      cases hb : A.cloB c0 c with
      | true => exact (cloB_iff.mpr ((cm_clo hA hc0).mpr (cloB_iff.mp hb))).symm
      | false =>
        cases hb2 : (A.cm r).cloB c0 c with
        | false => rfl
        | true => rw [cloB_iff.mpr ((cm_clo hA hc0).mp (cloB_iff.mp hb2))] at hb; cases hb
theorem pS_commit (hR : RS S A) (hA : AI A) (hr : r < 8) (hm1 : A.m < 1000) (hon : A.on r ≠ 0) : ∃ S', m_rcommit S (nI r) = some (S', nI (A.hv r r + 1)) ∧ RS S' (A.cm r) ∧ S'.i 0 = nI 0 ∧ frS S S' := by
  have hn := hA.1.1
  have hm := hA.1.2.1
  have hT := hA.2.2.2.1.1 r
  obtain ⟨t, da, dl, t1, t2, t3⟩ := hR.2.2.2.2.2.2.1
  obtain ⟨S1, hS1⟩ : ∃ S1, S1 = (S.setI 0 (nI 0)).setA 29 (upd (S.a 29) A.m (nI r)) := ⟨_, rfl⟩
  have hn34 : S1.i 34 = nI A.m := by rw [hS1, MS.i_setA, MS.i_setI, if_neg (by decide)]; exact hR.1.2.1
  have hnum : m_rnumberOf S1 (nI r) (nI r) = some (S1, nI (A.hv r r)) := by
    have h0 := pS_numberOf hR hA hr hr
    rw [pr_numberOf hr hR.1.2.1 hm] at h0
    rw [pr_numberOf hr hn34 hm, ← (Prod.mk.inj (Option.some.inj h0)).2]
    congr 3
    refine cntTo_congr (fun c hc => ?_)
    unfold rNo
    rw [hS1, MS.a_setA, if_neg (by omega), MS.a_setA, if_pos rfl, MS.a_setI]
    unfold upd
    rw [if_neg (by omega)]
  obtain ⟨S2, hS2⟩ : ∃ S2, S2 = ((S1.setA 30 (upd (S1.a 30) A.m (nI (A.hv r r + 1)))).setA 31 (upd (S1.a 31) A.m (nI t))).setA 32 (upd (S1.a 32) A.m (nI 0)) := ⟨_, rfl⟩
  have i2 : ∀ k, S2.i k = if k = 0 then nI 0 else S.i k := by
    intro k
    rw [hS2, MS.i_setA, MS.i_setA, MS.i_setA, hS1, MS.i_setA, MS.i_setI]
  have n2 : S2.n = S.n := by rw [hS2, hS1]; rfl
  have a2 : ∀ k, k ≠ 29 → k ≠ 30 → k ≠ 31 → k ≠ 32 → S2.a k = S.a k := by
    intro k e1 e2 e3 e4
    rw [hS2, MS.a_setA, if_neg e4, MS.a_setA, if_neg e3, MS.a_setA, if_neg e2, hS1, MS.a_setA, if_neg e1, MS.a_setI]
  have a29 : ∀ c, S2.a 29 c = if c = A.m then nI r else S.a 29 c := by
    intro c
    rw [hS2, MS.a_setA, if_neg (by decide), MS.a_setA, if_neg (by decide), MS.a_setA, if_neg (by decide), hS1, MS.a_setA, if_pos rfl]
    rfl
  have a30 : ∀ c, S2.a 30 c = if c = A.m then nI (A.hv r r + 1) else S.a 30 c := by
    intro c
    rw [hS2, MS.a_setA, if_neg (by decide), MS.a_setA, if_neg (by decide), MS.a_setA, if_pos rfl, hS1]
    rfl
  have a31 : ∀ c, S2.a 31 c = if c = A.m then nI t else S.a 31 c := by
    intro c
    rw [hS2, MS.a_setA, if_neg (by decide), MS.a_setA, if_pos rfl, hS1]
    rfl
  have a32 : ∀ c, S2.a 32 c = if c = A.m then nI 0 else S.a 32 c := by
    intro c
    rw [hS2, MS.a_setA, if_pos rfl, hS1]
    rfl
  have t3' : ∀ c, c < A.m → S.a 31 c = nI (da c) ∧ S.a 32 c = nI (dl c).length ∧ da c + (dl c).length ≤ t ∧ (∀ d, d ∈ dl c ↔ A.dp c d = true) ∧ ∀ k (h : k < (dl c).length), S.a 33 (da c + k) = nI (dl c)[k] := fun c hc => ⟨(t3 c hc).1, (t3 c hc).2.1, (t3 c hc).2.2.1, (t3 c hc).2.2.2.2⟩
  obtain ⟨W, hW, p1, p2, p3, p4, p5, p6⟩ := commit_heads (S2 := S2) hR hA hr hm1 t3' t2 (by rw [i2, if_neg (by decide)]; exact hR.1.2.1) (by rw [i2, if_neg (by decide)]; exact t1) (fun c hc => by rw [a31, if_neg (by omega)]) (fun c hc => by rw [a32, if_neg (by omega)]) (by rw [a32, if_pos rfl]) (a2 33 (by decide) (by decide) (by decide) (by decide)) (a2 _ (by omega) (by omega) (by omega) (by omega))
  obtain ⟨W2, hW2⟩ : ∃ W2, W2 = W.setI 34 (nI (A.m + 1)) := ⟨_, rfl⟩
  have j2 : ∀ k, W2.i k = if k = 34 then nI (A.m + 1) else W.i k := fun k => by rw [hW2, MS.i_setI]
  have b2' : W2.a = W.a := by rw [hW2, MS.a_setI]
  have c2' : W2.n = W.n := by rw [hW2, MS.n_setI]
  obtain ⟨g, hg1, hg2⟩ := commit_ops (W := W2) hA hr hm1 (by rw [j2, if_neg (by decide), p1, if_neg (by decide), i2, if_neg (by decide)]; exact hR.1.1) (fun o ho => by rw [b2', p3 21 (by decide) (by decide), a2 21 (by decide) (by decide) (by decide) (by decide)]; exact (hR.2.1 o ho).2.2.2.2.2.2.2.1) (fun o ho => by rw [b2', p3 13 (by decide) (by decide), a2 13 (by decide) (by decide) (by decide) (by decide)]; exact (hR.2.1 o ho).2.2.2.2.2.1) (fun o ho => by rw [b2', p3 12 (by decide) (by decide), a2 12 (by decide) (by decide) (by decide) (by decide)]; exact (hR.2.1 o ho).2.2.2.2.1)
  obtain ⟨W3, hW3⟩ : ∃ W3, W3 = (W2.setA 13 g).setA (101 + r) (upd ((W2.setA 13 g).a (101 + r)) A.m 1) := ⟨_, rfl⟩
  have i3 : W3.i = W2.i := by rw [hW3, MS.i_setA, MS.i_setA]
  have n3 : W3.n = W2.n := by rw [hW3, MS.n_setA, MS.n_setA]
  have a3 : ∀ k, k ≠ 13 → k ≠ 101 + r → W3.a k = W.a k := fun k e1 e2 => by rw [hW3, MS.a_setA, if_neg e2, MS.a_setA, if_neg e1, b2']
  have a13 : W3.a 13 = g := by rw [hW3, MS.a_setA, if_neg (by omega), MS.a_setA, if_pos rfl]
  have ah : ∀ c, W3.a (101 + r) c = if c = A.m then 1 else S.a (101 + r) c := by
    intro c
    rw [hW3, MS.a_setA, if_pos rfl, MS.a_setA, if_neg (show ¬ 101 + r = 13 by omega), b2', p3 _ (by omega) (by omega), a2 _ (by omega) (by omega) (by omega) (by omega)]
    rfl
  have wa : ∀ k, k ≠ 13 → k ≠ 29 → k ≠ 30 → k ≠ 31 → k ≠ 32 → k ≠ 33 → k ≠ 101 + r → W3.a k = S.a k := fun k e1 e2 e3 e4 e5 e6 e7 => by rw [a3 k e1 e7, p3 k e5 e6, a2 k e2 e3 e4 e5]
  refine ⟨W3, ?_, ?_, ?_, ?_⟩
  · unfold m_rcommit m_rcommit_J0
    rw [pr_isR hr, ob_ok, if_neg (show ¬ (1 : Int32) = 0 by decide), pS_open hR hA hr, ob_ok, if_neg (show ¬ nI (A.on r) = 0 from fun h => hon ((nI_eq (b := 0) (by omega) (by omega)).mp h))]
    simp only []
    rw [hR.1.2.1, if_neg (show ¬ nI A.m = 1000 from fun h => absurd ((nI_eq (b := 1000) (by omega) (by omega)).mp h) (by omega)), gd_ok (by omega) (by omega), cl_nI (by omega), show ((S.setI 0 0).setA 29 (upd (S.a 29) A.m (nI r))) = S1 from hS1.symm, hnum]
    simp only [ob_ok]
    rw [gd_ok (by omega) (by omega), gd_ok (by omega) (by omega), gd_ok (by omega) (by omega), nI_s]
    rw [show S1.i 35 = nI t by rw [hS1, MS.i_setA, MS.i_setI, if_neg (by decide)]; exact t1]
    rw [show ((S1.setA 30 (upd (S1.a 30) A.m (nI (A.hv r r + 1)))).setA 31 (upd (S1.a 31) A.m (nI t))).setA 32 (upd (S1.a 32) A.m 0) = S2 from hS2.symm]
    rw [show m_rcommit_L93 S2 (nI r) (nI A.m) 0 = _ from hW]
    simp only [ob_ok]
    rw [show W.i 34 = nI A.m by rw [p1, if_neg (by decide), i2, if_neg (by decide)]; exact hR.1.2.1, nI_s, ← hW2]
    rw [show m_rcommit_L161 W2 (nI r) (nI A.m) 0 = _ from hg1]
    simp only [ob_ok]
    rw [gd_ok hr (by omega), gd_ok (by omega) (by omega), gd_ok (by omega) (by omega), cl_nI (by omega), cl_nI (by omega)]
    rw [show vp_nar .boolean 1 = 1 from by decide, ← hW3]
    rw [show W3.a 30 A.m = nI (A.hv r r + 1) by rw [a3 30 (by decide) (by omega), p3 30 (by decide) (by decide), a30, if_pos rfl]]
  · refine RS_cm (t := t) (da := da) (dl := dl) hR hA hr hm1 t3 t2 ?_ ?_ ?_ ?_ wa (fun o ho => by rw [a13]; exact hg2 o ho) ?_ ?_ ?_ ?_ ?_ ?_ ah
    · intro k hk
      rw [i3, j2, if_neg (by omega), p1, if_neg (by omega), i2, if_neg (by omega)]
    · rw [i3, j2, if_pos rfl]
    · rw [i3, j2, if_neg (by decide), p1, if_pos rfl]
    · rw [n3, c2', p2, n2]
    · intro c
      rw [a3 29 (by decide) (by omega), p3 29 (by decide) (by decide), a29]
    · intro c
      rw [a3 30 (by decide) (by omega), p3 30 (by decide) (by decide), a30]
    · intro c
      rw [a3 31 (by decide) (by omega), p3 31 (by decide) (by decide), a31]
    · intro c
      rw [a3 32 (by decide) (by omega), p4]
      by_cases e : c = A.m
      · rw [if_pos e, if_pos e]
      · rw [if_neg e, if_neg e, a32, if_neg e]
    · intro p hp
      rw [a3 33 (by decide) (by omega), p5 p hp, a2 33 (by decide) (by decide) (by decide) (by decide)]
    · intro k hk
      rw [a3 33 (by decide) (by omega)]
      exact p6 k hk
  · rw [i3, j2, if_neg (by decide), p1, if_neg (by decide), i2, if_pos rfl]
  · refine ⟨?_, ?_⟩
    · intro j hj
      rw [i3, j2, if_neg (by omega), p1, if_neg (by omega), i2, if_neg (by omega)]
    · intro k hk
      exact wa k (by omega) (by omega) (by omega) (by omega) (by omega) (by omega) (by omega)
end CCN
