/-! COMMIT: the reference. -/
theorem filt_len {p : Nat → Bool} : ∀ {n : Nat}, ((List.range n).filter p).length = cntTo p n := by
  intro n
  induction n with
  | zero => rfl
  | succ n ih =>
    rw [List.range_succ, List.filter_append, List.length_append, ih, cntTo_s]
    congr 1
    by_cases e : p n = true
    · rw [if_pos e, List.filter_cons_of_pos e]; rfl
    · rw [if_neg e, List.filter_cons_of_neg e]; rfl
theorem cntTo_le' {p : Nat → Bool} : ∀ {n m : Nat}, n ≤ m → cntTo p n ≤ cntTo p m := by
  intro n m h
  induction m with
  | zero => rw [show n = 0 by omega]; exact Nat.le_refl _
  | succ m ih =>
    by_cases e : n = m + 1
    · rw [e]; exact Nat.le_refl _
    · have := ih (by omega)
      rw [cntTo_s]; omega
section CCM
variable {S S' : MS} {N : Nat → Nat} {C C' : CS} {A : AS} {r rd : Nat} {bi bf bs bo : List Nat} {ji jf js a : Nat}
theorem heads8 (hA : AI A) : cntTo (A.headB r) A.m ≤ 8 := by
  have := cnt_inj (p := A.headB r) (m := 8) A.ca (n := A.m) (q := fun _ => true) (fun c hc _ => ⟨(hA.2.1.1 c hc).1, rfl⟩) (fun c d hc hd hp hp2 he => head_one hA.2.1 (headB_iff.mp hp) (headB_iff.mp hp2) he)
  rw [cntTo_all] at this
  exact this
/-- heads found in a state in which DEPS are being written -/
theorem isHead_w {W : MS} {t : Nat} {da : Nat → Nat} {dl : Nat → List Nat} (hR : RS S A) (hA : AI A) (hr : r < 8) (h3 : ∀ c, c < A.m → S.a 31 c = nI (da c) ∧ S.a 32 c = nI (dl c).length ∧ da c + (dl c).length ≤ t ∧ (∀ d, d ∈ dl c ↔ A.dp c d = true) ∧ ∀ k (h : k < (dl c).length), S.a 33 (da c + k) = nI (dl c)[k]) (ht : t ≤ 8 * A.m)
    (w34 : W.i 34 = nI A.m) (w31 : ∀ c, c < A.m → W.a 31 c = S.a 31 c) (w32 : ∀ c, c < A.m → W.a 32 c = S.a 32 c) (w33 : ∀ p, p < t → W.a 33 p = S.a 33 p) (wh : W.a (101 + r) = S.a (101 + r)) {c : Nat} (hc : c < A.m) : m_risHead W (nI r) (nI c) = some (W, b2 (A.headB r c)) := by
  have hm := hA.1.2.1
  have hds : rDs W da (fun c => (dl c).length) A.m := by
    intro d hd
    obtain ⟨b1, b2', b3, _⟩ := h3 d hd
    exact ⟨by rw [w31 d hd]; exact b1, by rw [w32 d hd]; exact b2', by show da d + (dl d).length ≤ 10000; omega⟩
  rw [pr_isHead hr (by omega) w34 hm hds]
  congr 3
  have hdp : ∀ d, d < A.m → rDp W da (fun c => (dl c).length) d c = A.dp d c := by
    intro d hd
    obtain ⟨b1, b2', b3, b4, b5⟩ := h3 d hd
    unfold rDp
    cases hf : firstTo (fun k => decide (W.a 33 (da d + k) = nI c)) (dl d).length with
    | none =>
      have h := firstTo_none hf
      cases hdp : A.dp d c with
      | false => rfl
      | true =>
        obtain ⟨k, hk, e⟩ := List.mem_iff_getElem.mp ((b4 c).mpr hdp)
        have := h k hk
        rw [w33 _ (by omega), b5 k hk, e] at this
        simp at this
    | some k =>
      obtain ⟨h1, h2, _⟩ := firstTo_some hf
      rw [w33 _ (by omega), b5 k h1, decide_eq_true_eq] at h2
      have hdp := (b4 _).mp (List.getElem_mem h1)
      have hlt := (hA.2.1.2.2.2.2.2.2.1 d _ hd hdp).1
      rw [nI_eq (by omega) (by omega)] at h2
      rw [h2] at hdp
      rw [hdp]
      rfl
  have hh : ∀ d, d < 1000 → (!decide (W.a (101 + r) d = 0)) = A.hasB r d := by
    intro d hd
    rw [wh, ((hR.2.2.2.2.2.2.2 r hr).2 d hd).1]
    cases A.hasB r d <;> rfl
  unfold rHd AS.headB
  rw [hh c (by omega)]
  congr 1
  cases hf : firstTo (fun d => (!decide (W.a (101 + r) d = 0)) && rDp W da (fun c => (dl c).length) d c) A.m with
  | none =>
    have h := firstTo_none hf
    show true = _
    symm
    rw [Bool.not_eq_true', List.any_eq_false]
    intro d hd
    rw [List.mem_range] at hd
    have := h d hd
    rw [hh d (by omega), hdp d hd] at this
    rw [this]
    decide
  | some d =>
    obtain ⟨h1, h2, _⟩ := firstTo_some hf
    rw [hh d (by omega), hdp d h1] at h2
    show false = _
    symm
    rw [Bool.not_eq_false', List.any_eq_true]
    exact ⟨d, List.mem_range.mpr h1, h2⟩
/-- what the loop over the heads writes into S2 -/
def HW (S2 W : MS) (m t : Nat) (l : List Nat) : Prop := (∀ k, W.i k = if k = 35 then nI (t + l.length) else S2.i k) ∧ W.n = S2.n ∧ (∀ k, k ≠ 32 → k ≠ 33 → W.a k = S2.a k) ∧ (∀ c, W.a 32 c = if c = m then nI l.length else S2.a 32 c) ∧ (∀ p, p < t → W.a 33 p = S2.a 33 p) ∧ ∀ k (h : k < l.length), W.a 33 (t + k) = nI l[k]
theorem commit_heads {S2 : MS} {t : Nat} {da : Nat → Nat} {dl : Nat → List Nat} (hR : RS S A) (hA : AI A) (hr : r < 8) (hm1 : A.m < 1000) (h3 : ∀ c, c < A.m → S.a 31 c = nI (da c) ∧ S.a 32 c = nI (dl c).length ∧ da c + (dl c).length ≤ t ∧ (∀ d, d ∈ dl c ↔ A.dp c d = true) ∧ ∀ k (h : k < (dl c).length), S.a 33 (da c + k) = nI (dl c)[k]) (ht : t ≤ 8 * A.m)
    (w34 : S2.i 34 = nI A.m) (w35 : S2.i 35 = nI t) (w31 : ∀ c, c < A.m → S2.a 31 c = S.a 31 c) (w32 : ∀ c, c < A.m → S2.a 32 c = S.a 32 c) (w0 : S2.a 32 A.m = nI 0) (w33 : S2.a 33 = S.a 33) (wh : S2.a (101 + r) = S.a (101 + r)) :
    ∃ W, m_rcommit_L93 S2 (nI r) (nI A.m) (nI 0) = some (W, nI r, nI A.m) ∧ HW S2 W A.m t ((List.range A.m).filter (A.headB r)) := by
  have h8 := heads8 hA (r := r)
  have := lp_run (body := fun w : MS × Int32 × Int32 × Int32 => m_rcommit_B93 w.1 w.2.1 w.2.2.1 w.2.2.2) (fun i w => ∃ W, w = (W, nI r, nI A.m, nI i) ∧ HW S2 W A.m t ((List.range i).filter (A.headB r))) (fun e => ∃ W, e = (W, nI r, nI A.m) ∧ HW S2 W A.m t ((List.range A.m).filter (A.headB r))) A.m ?_ FU (S2, nI r, nI A.m, nI 0) (by unfold FU; omega) ⟨S2, rfl, by
    refine ⟨?_, rfl, fun _ _ _ => rfl, ?_, fun _ _ => rfl, fun k h => absurd h (Nat.not_lt_zero _)⟩
    · intro k
      by_cases e : k = 35
      · rw [if_pos e, e]; exact w35
      · rw [if_neg e]
    · intro c
      by_cases e : c = A.m
      · rw [if_pos e, e]; exact w0
      · rw [if_neg e]⟩
  · obtain ⟨e, h1, W, rfl, h2⟩ := this
    refine ⟨W, ?_, h2⟩
    unfold m_rcommit_L93
    exact h1
  · rintro i _ hi ⟨W, rfl, hW⟩
    obtain ⟨p1, p2, p3, p4, p5, p6⟩ := hW
    have p34 : W.i 34 = nI A.m := by rw [p1, if_neg (by decide)]; exact w34
    by_cases hin : i < A.m
    · left
      have hlen : ((List.range i).filter (A.headB r)).length ≤ 8 := by
        rw [filt_len]
        exact Nat.le_trans (cntTo_le' (by omega)) h8
      have hH := isHead_w (W := W) hR hA hr h3 ht p34 (fun c hc => by rw [p3 31 (by decide) (by decide)]; exact w31 c hc) (fun c hc => by rw [p4, if_neg (by omega)]; exact w32 c hc) (fun p hp => by rw [p5 p hp, w33]) (by rw [p3 _ (by omega) (by omega)]; exact wh) hin
      cases hb : A.headB r i with
      | false =>
        refine ⟨(W, nI r, nI A.m, nI (i + 1)), ?_, hin, W, rfl, ?_⟩
        · show m_rcommit_B93 W (nI r) (nI A.m) (nI i) = _
          unfold m_rcommit_B93 m_rcommit_J143
          rw [p34, if_neg (nle hin (by omega)), hH, ob_ok, hb, if_pos (show b2 false = 0 by decide)]
          rw [show nI i + 1 = nI (i + 1) from nI_add _ _]
        · rw [List.range_succ, List.filter_append, List.filter_cons_of_neg (by rw [hb]; decide), List.filter_nil, List.append_nil]
          exact ⟨p1, p2, p3, p4, p5, p6⟩
      | true =>
        have hfl : (List.range (i + 1)).filter (A.headB r) = (List.range i).filter (A.headB r) ++ [i] := by
          rw [List.range_succ, List.filter_append, List.filter_cons_of_pos hb, List.filter_nil]
        obtain ⟨l, hl⟩ : ∃ l, l = (List.range i).filter (A.headB r) := ⟨_, rfl⟩
        rw [← hl] at p1 p4 p6 hlen hfl
        have p35 : W.i 35 = nI (t + l.length) := by rw [p1, if_pos rfl]
        refine ⟨(((W.setA 33 (upd (W.a 33) (t + l.length) (nI i))).setI 35 (nI (t + l.length + 1))).setA 32 (upd (W.a 32) A.m (nI (l.length + 1))), nI r, nI A.m, nI (i + 1)), ?_, hin, _, rfl, ?_⟩
        · show m_rcommit_B93 W (nI r) (nI A.m) (nI i) = _
          unfold m_rcommit_B93 m_rcommit_J143
          rw [p34, if_neg (nle hin (by omega)), hH, ob_ok, hb, if_neg (show ¬ b2 true = 0 by decide)]
          simp only []
          rw [p35, gd_ok (by omega) (by omega), gd_ok (by omega) (by omega), gd_ok (by omega) (by omega), cl_nI (by omega), cl_nI (by omega)]
          rw [p4 A.m, if_pos rfl, nI_s, nI_s, nI_s]
        · rw [hfl]
          refine ⟨?_, p2, ?_, ?_, ?_, ?_⟩
          · intro k
            rw [MS.i_setA, MS.i_setI, List.length_append, List.length_singleton]
            by_cases e : k = 35
            · rw [if_pos e, if_pos e]; rfl
            · rw [if_neg e, if_neg e, MS.i_setA, p1, if_neg e]
          · intro k h1 h2
            rw [MS.a_setA, if_neg h1, MS.a_setI, MS.a_setA, if_neg h2]
            exact p3 k h1 h2
          · intro c
            rw [MS.a_setA, if_pos rfl, List.length_append, List.length_singleton]
            unfold upd
            by_cases e : c = A.m
            · rw [if_pos e, if_pos e]
            · rw [if_neg e, if_neg e, p4, if_neg e]
          · intro p hp
            rw [MS.a_setA, if_neg (by decide), MS.a_setI, MS.a_setA, if_pos rfl]
            unfold upd
            rw [if_neg (by omega)]
            exact p5 p hp
          · intro k hk
            rw [List.length_append, List.length_singleton] at hk
            rw [MS.a_setA, if_neg (by decide), MS.a_setI, MS.a_setA, if_pos rfl]
            unfold upd
            by_cases e : k < l.length
            · rw [if_neg (by omega), List.getElem_append_left e]
              exact p6 k e
            · have e2 : k = l.length := by omega
              subst e2
              rw [if_pos rfl, List.getElem_concat_length]
              rfl
    · right
      refine ⟨(W, nI r, nI A.m), ?_, W, rfl, ?_⟩
      · show m_rcommit_B93 W (nI r) (nI A.m) (nI i) = _
        unfold m_rcommit_B93
        rw [p34, show i = A.m by omega, if_pos (Int32.le_refl _)]
      · have e : i = A.m := by omega
        subst e
        exact ⟨p1, p2, p3, p4, p5, p6⟩
/-- the open ops get their change -/
theorem commit_ops {W : MS} (hA : AI A) (hr : r < 8) (hm1 : A.m < 1000) (w23 : W.i 23 = nI A.n) (w21 : ∀ o, o < A.n → W.a 21 o = nI (A.gone o)) (w13 : ∀ o, o < A.n → W.a 13 o = cI (A.chg o)) (w12 : ∀ o, o < A.n → W.a 12 o = nI (A.own o)) :
    ∃ g, m_rcommit_L161 W (nI r) (nI A.m) (nI 0) = some (W.setA 13 g, nI r, nI A.m) ∧ ∀ o, o < A.n → g o = cI ((A.cm r).chg o) := by
  have hn := hA.1.1
  have := lp_run (body := fun w : MS × Int32 × Int32 × Int32 => m_rcommit_B161 w.1 w.2.1 w.2.2.1 w.2.2.2) (fun i w => ∃ g, w = (W.setA 13 g, nI r, nI A.m, nI i) ∧ ∀ o, o < A.n → g o = if o < i then cI ((A.cm r).chg o) else cI (A.chg o)) (fun e => ∃ g, e = (W.setA 13 g, nI r, nI A.m) ∧ ∀ o, o < A.n → g o = cI ((A.cm r).chg o)) A.n ?_ FU (W, nI r, nI A.m, nI 0) (by unfold FU; omega) ⟨W.a 13, by rw [MS.setA_self], fun o ho => by rw [if_neg (by omega)]; exact w13 o ho⟩
  · obtain ⟨e, h1, g, rfl, h2⟩ := this
    refine ⟨g, ?_, h2⟩
    unfold m_rcommit_L161
    exact h1
  · rintro i _ hi ⟨g, rfl, hg⟩
    have e23 : (W.setA 13 g).i 23 = nI A.n := by rw [MS.i_setA]; exact w23
    by_cases hin : i < A.n
    · left
      have hk := hA.2.2.1.1 i hin
      have hcl : ∀ c, A.chg i = some c → c < 1000 := fun c hc => by have := chg_lt hA hin hc; omega
      have e21 : (W.setA 13 g).a 21 i = nI (A.gone i) := by rw [MS.a_setA, if_neg (by decide)]; exact w21 i hin
      have e12 : (W.setA 13 g).a 12 i = nI (A.own i) := by rw [MS.a_setA, if_neg (by decide)]; exact w12 i hin
      have e13 : (W.setA 13 g).a 13 i = cI (A.chg i) := by rw [MS.a_setA, if_pos rfl, hg i hin, if_neg (by omega)]
      have hkeep : (A.cm r).chg i = A.chg i → ∀ o, o < A.n → g o = if o < i + 1 then cI ((A.cm r).chg o) else cI (A.chg o) := by
        intro he o ho
        rw [hg o ho]
        by_cases e : o = i
        · rw [if_neg (by omega), if_pos (by omega), e, he]
        · by_cases e2 : o < i
          · rw [if_pos e2, if_pos (by omega)]
          · rw [if_neg e2, if_neg (by omega)]
      have hno : A.opn r i = false → (A.cm r).chg i = A.chg i := by
        intro h
        rw [cm_chg, if_neg (by rw [h]; decide)]
      have hopf : ¬ (A.gone i = 0 ∧ A.chg i = none ∧ A.own i = r) → A.opn r i = false := by
        intro h
        cases hb : A.opn r i with
        | false => rfl
        | true => exact absurd (opn_iff.mp hb).2 h
      have hg0 : (nI (A.gone i) = 0) ↔ A.gone i = 0 := nI_eq (b := 0) (by omega) (by omega)
      by_cases c0 : A.gone i = 0
      · by_cases c1 : A.chg i = none
        · by_cases c2 : A.own i = r
          · refine ⟨(W.setA 13 (upd g i (nI A.m)), nI r, nI A.m, nI (i + 1)), ?_, hin, _, rfl, ?_⟩
            · show m_rcommit_B161 (W.setA 13 g) (nI r) (nI A.m) (nI i) = _
              unfold m_rcommit_B161 m_rcommit_J204
              rw [e23, if_neg (nle hin (by omega)), gd_ok (by omega) (by omega), cl_nI (by omega), e21, if_pos (hg0.mpr c0), gd_ok (by omega) (by omega), e13, if_neg (by rw [cI_neg hcl]; simp [c1]), gd_ok (by omega) (by omega), e12, if_pos (by rw [c2]), gd_ok (by omega) (by omega), MS.a_setA, if_pos rfl, MS.setA_setA, nI_s]
            · intro o ho
              unfold upd
              by_cases e : o = i
              · subst e
                rw [if_pos rfl, if_pos (by omega), cm_chg, if_pos (opn_iff.mpr ⟨ho, c0, c1, c2⟩)]
                rfl
              · rw [if_neg e, hg o ho]
                by_cases e2 : o < i
                · rw [if_pos e2, if_pos (by omega)]
                · rw [if_neg e2, if_neg (by omega)]
          · refine ⟨(W.setA 13 g, nI r, nI A.m, nI (i + 1)), ?_, hin, _, rfl, hkeep (hno (hopf (fun h => c2 h.2.2)))⟩
            show m_rcommit_B161 (W.setA 13 g) (nI r) (nI A.m) (nI i) = _
            unfold m_rcommit_B161 m_rcommit_J204
            rw [e23, if_neg (nle hin (by omega)), gd_ok (by omega) (by omega), cl_nI (by omega), e21, if_pos (hg0.mpr c0), gd_ok (by omega) (by omega), e13, if_neg (by rw [cI_neg hcl]; simp [c1]), gd_ok (by omega) (by omega), e12, if_neg (fun h => c2 ((nI_eq (by omega) (by omega)).mp h)), nI_s]
        · refine ⟨(W.setA 13 g, nI r, nI A.m, nI (i + 1)), ?_, hin, _, rfl, hkeep (hno (hopf (fun h => c1 h.2.1)))⟩
          show m_rcommit_B161 (W.setA 13 g) (nI r) (nI A.m) (nI i) = _
          unfold m_rcommit_B161 m_rcommit_J204
          rw [e23, if_neg (nle hin (by omega)), gd_ok (by omega) (by omega), cl_nI (by omega), e21, if_pos (hg0.mpr c0), gd_ok (by omega) (by omega), e13, if_pos (by rw [cI_neg hcl]; exact c1), nI_s]
      · refine ⟨(W.setA 13 g, nI r, nI A.m, nI (i + 1)), ?_, hin, _, rfl, hkeep (hno (hopf (fun h => c0 h.1)))⟩
        show m_rcommit_B161 (W.setA 13 g) (nI r) (nI A.m) (nI i) = _
        unfold m_rcommit_B161 m_rcommit_J204
        rw [e23, if_neg (nle hin (by omega)), gd_ok (by omega) (by omega), cl_nI (by omega), e21, if_neg (fun h => c0 (hg0.mp h)), nI_s]
    · right
      refine ⟨(W.setA 13 g, nI r, nI A.m), ?_, _, rfl, ?_⟩
      · show m_rcommit_B161 (W.setA 13 g) (nI r) (nI A.m) (nI i) = _
        unfold m_rcommit_B161
        rw [e23, show i = A.n by omega, if_pos (Int32.le_refl _)]
      · intro o ho
        rw [hg o ho, if_pos (by omega)]
end CCM
