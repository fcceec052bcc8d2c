/-! TEXT: the reference begins, whole. -/
section TXN
variable {S S' : MS} {N : Nat → Nat} {C C' : CS} {A : AS} {r rd : Nat} {w : List Nat} {k : List Nat}
theorem lms_ts {y : Option Nat} (h : LMS A r y S S') (hT : TS S A w k) : TS S' A w k ∧ XS S S' ∧ LMG A r y S' := by
  refine ⟨⟨h.RS hT.1, ?_, ?_⟩, ?_, h.get⟩
  · obtain ⟨f, c, g, t, rfl, _⟩ := h
    exact WR_fr hT.2.1 rfl rfl
  · obtain ⟨f, c, g, t, rfl, _⟩ := h
    exact STK_fr hT.2.2 rfl rfl
  · obtain ⟨f, c, g, t, rfl, _⟩ := h
    exact ((((XS_setA (by omega)).trans (XS_setA (by omega))).trans (XS_setA (by omega))).trans (XS_setI (by omega))).trans (XS_setA (by omega))
theorem LMG.w4 {y : Option Nat} (h : LMG A r y S) (h4 : W4 S S') : LMG A r y S' := h.fr (h4.ii (by decide)) (h4.aa (by decide)) (h4.aa (by decide)) (h4.aa (by decide))
theorem pT_list (hT : TS S A w k) (hA : AI A) (hr : r < 8) {y : Option Nat} (hy : A.oV r y) (hk : A.kd y = 7) (hw : w.length ≤ 900000000) (hl : k.length + 2 * (A.fl r y).length ≤ 12005) :
    ∃ S', m_rbegin S (nI r) (nI (A.oi y)) (nI 7) = some S' ∧ TS S' A (w ++ [91]) (k ++ [1] ++ tks ((A.fl r y).map (A.top r))) ∧ XS S S' := by
  have hnn := hA.1.1
  have hkd : A.kd y ≠ 6 := by omega
  have hel := el_len hA (r := r) (x := y)
  obtain ⟨S1, S2, l1, l2, hL⟩ := pS_lm hT.1 hA hr hy hkd
  obtain ⟨t2, x2, g2⟩ := lms_ts hL hT
  obtain ⟨S3, a1, a2, a3⟩ := t2.put (by omega) 91
  rw [show byt 91 = 91 from byt_nI (x := 91) (by omega)] at a2
  have g3 := g2.w4 a3
  obtain ⟨S4, b1, b2', b3, b4, b5⟩ := a2.push (by omega) 1
  have g4 : LMG A r y S4 := g3.fr (b4 50 (by decide)) (b5 48 (by decide)) (b5 45 (by decide)) (b5 51 (by decide))
  have hpre : m_rbegin S (nI r) (nI (A.oi y)) (nI 7) = ob (m_rbegin_L133 S4 (nI r) (nI (A.oi y)) (nI 7) 0 (nI (A.el r y).length - 1)) (fun b_1 => m_rbegin_J298 b_1.1 b_1.2) := by
    unfold m_rbegin m_rbegin_J0
    rw [if_neg (show ¬ nI 7 = 6 by decide), l1, ob_ok, l2, ob_ok, if_pos (show nI 7 = 7 by decide)]
    unfold m_rbegin_J91 m_rbegin_J112 m_rbegin_J131
    rw [a1, ob_ok, if_pos (show nI 7 = 7 by decide), show m_rpush S3 (-2) = _ from b1, ob_ok, if_pos (show nI 7 = 7 by decide), g4.1]
  rw [hpre]
  have hJ : ∀ W : MS, m_rbegin_J298 W (nI 7) = some W := by
    intro W
    unfold m_rbegin_J298 m_rbegin_J310
    rw [if_neg (show ¬ nI 7 = 8 by decide)]
  by_cases e : (A.el r y).length = 0
  · have hfl : A.fl r y = [] := by rw [fl_el hA hkd, List.length_eq_zero_iff.mp e]; rfl
    refine ⟨S4, ?_, by rw [hfl]; simpa [tks] using b2', (x2.trans a3.X).trans b3⟩
    rw [e]
    have : m_rbegin_L133 S4 (nI r) (nI (A.oi y)) (nI 7) 0 (nI 0 - 1) = some (S4, nI 7) := by
      unfold m_rbegin_L133
      show lp _ (999999 + 1) _ = _
      rw [lp]
      have hB : m_rbegin_B133 S4 (nI r) (nI (A.oi y)) (nI 7) 0 (nI 0 - 1) = some (.inr (S4, nI 7)) := by
        unfold m_rbegin_B133
        rw [if_pos (show nI 7 = 7 by decide), if_pos (show nI 0 - 1 < 0 by decide)]
      simp only [hB]
    rw [this, ob_ok]
    exact hJ S4
  · obtain ⟨S5, c1, c2, c3⟩ := bl_loop b2' hA hr hkd g4 (by rw [List.length_append, List.length_singleton]; omega) (by omega)
    refine ⟨S5, ?_, c2, ((x2.trans a3.X).trans b3).trans c3⟩
    rw [show nI (A.el r y).length - 1 = nI ((A.el r y).length - 1) from sub_nI (k := 1) (by omega), show m_rbegin_L133 S4 (nI r) (nI (A.oi y)) (nI 7) 0 (nI ((A.el r y).length - 1)) = _ from c1, ob_ok]
    exact hJ S5
theorem elT_len (hR : RS S A) (hA : AI A) {y : Option Nat} : ∀ {R : List Nat}, (∀ s, s ∈ R → s ∈ A.L y) → (elT A r R).length ≤ 98304 * R.length := by
  intro R
  induction R with
  | nil => intro _; simp [elT]
  | cons s R ih =>
    intro hR2
    have h1 := ih (fun t ht => hR2 t (List.mem_cons_of_mem _ ht))
    have h2 : elT A r (s :: R) = (if A.flB r s = true then elS A (A.top r s) else []) ++ elT A r R := by
      unfold elT
      by_cases e : A.flB r s = true
      · rw [if_pos e, List.filter_cons_of_pos e]; rfl
      · rw [if_neg e, List.filter_cons_of_neg e]; rfl
    rw [h2, List.length_append, List.length_cons]
    have h3 : (if A.flB r s = true then elS A (A.top r s) else []).length ≤ 98304 := by
      by_cases e : A.flB r s = true
      · rw [if_pos e]
        unfold elS
        split
        · have hc := (ch_ok hA (hR2 s (by simp)) e).1
          have ht := (hR.2.2.1 _ hc).2.2.2.2.2.1
          have := hA.1.2.2.1
          have := escs_len (A.str (A.top r s))
          omega
        · simp
      · rw [if_neg e]; simp
    omega
theorem bt_loop (hT : TS S A w k) (hA : AI A) (hr : r < 8) {y : Option Nat} (hk : A.kd y = 8) (hG : LMG A r y S) (hw : w.length ≤ 500000000) :
    ∃ S', m_rbegin_L133 S (nI r) (nI (A.oi y)) (nI 8) (nI 0) (nI 0) = some (S', nI 8) ∧ TS S' A (w ++ elT A r (A.L y)) k ∧ XS S S' := by
  have hnn := hA.1.1
  have hkn := hA.1.2.2.1
  have hkd : A.kd y ≠ 6 := by omega
  have hel := el_len hA (r := r) (x := y)
  obtain ⟨E, hE⟩ : ∃ E, E = A.el r y := ⟨_, rfl⟩
  have hfl : (A.L y).filter (A.flB r) = E.filter (A.flB r) := by rw [hE]; exact fl_el hA hkd
  have hEl : ∀ s, s ∈ E → s ∈ A.L y := by
    intro s hs
    rw [hE] at hs
    unfold AS.el at hs
    exact (List.mem_filter.mp hs).1
  have hTe : elT A r (A.L y) = elT A r E := by unfold elT; rw [hfl]
  rw [hTe]
  rw [← hE] at hel
  have := lp_run (body := fun v : MS × Int32 × Int32 × Int32 × Int32 × Int32 => m_rbegin_B133 v.1 v.2.1 v.2.2.1 v.2.2.2.1 v.2.2.2.2.1 v.2.2.2.2.2) (fun i v => ∃ W, v = (W, nI r, nI (A.oi y), nI 8, nI 0, nI i) ∧ TS W A (w ++ elT A r (E.take i)) k ∧ XS S W ∧ LMG A r y W) (fun e => ∃ W, e = (W, nI 8) ∧ TS W A (w ++ elT A r E) k ∧ XS S W) E.length ?_ FU (S, nI r, nI (A.oi y), nI 8, nI 0, nI 0) (by unfold FU; omega) ⟨S, rfl, by simpa [elT] using hT, XS.refl, hG⟩
  · obtain ⟨e, h1, W, rfl, h2, h3⟩ := this
    refine ⟨W, ?_, h2, h3⟩
    unfold m_rbegin_L133
    exact h1
  · rintro i _ hi ⟨W, rfl, w1, w2, w3⟩
    have h50 : W.i 50 = nI E.length := by rw [w3.1, hE]
    by_cases hin : i < E.length
    · left
      have hlen := elT_len (r := r) w1.1 hA (y := y) (R := E.take i) (fun s hs => hEl s (List.mem_of_mem_take hs))
      rw [List.length_take] at hlen
      have h51 : W.a 51 i = b2 (A.flB r E[i]) := by
        have := w3.2.2.2 i (by rw [← hE]; omega)
        simp only [← hE] at this
        exact this
      have hpre : m_rbegin_B133 W (nI r) (nI (A.oi y)) (nI 8) (nI 0) (nI i) = m_rbegin_J156 W (nI r) (nI (A.oi y)) (nI 8) (nI 0) (nI i) := by
        unfold m_rbegin_B133
        rw [if_neg (show ¬ nI 8 = 7 by decide), h50, if_neg (nle hin (by omega))]
      have hJ : ∀ (W' : MS), m_rbegin_J279 W' (nI r) (nI (A.oi y)) (nI 8) (nI 0) (nI i) = some (.inl (W', nI r, nI (A.oi y), nI 8, nI 0, nI (i + 1))) := by
        intro W'
        unfold m_rbegin_J279 m_rbegin_J292
        rw [if_neg (show ¬ nI 8 = 7 by decide)]
        rw [show nI i + 1 = nI (i + 1) from nI_s i]
      have hsn : elT A r (E.take (i + 1)) = elT A r (E.take i) ++ (if A.flB r E[i] = true then elS A (A.top r E[i]) else []) := by
        rw [List.take_succ_eq_append_getElem hin, elT_snoc]
      show ∃ a', m_rbegin_B133 W (nI r) (nI (A.oi y)) (nI 8) (nI 0) (nI i) = some (.inl a') ∧ _
      rw [hpre]
      unfold m_rbegin_J156
      rw [gd_ok (by omega) (by omega), cl_nI (by omega), h51]
      cases hf : A.flB r E[i] with
      | false =>
        rw [hf, if_neg (by decide), List.append_nil] at hsn
        rw [if_pos (show b2 false = 0 by decide), hJ]
        exact ⟨_, rfl, hin, W, rfl, by rw [hsn]; exact w1, w2, w3⟩
      | true =>
        rw [hf, if_pos rfl] at hsn
        have hcn := lm_cand (e := i) w1 hA hr hkd w3 (by rw [← hE]; omega) (by simp only [← hE]; exact hf)
        simp only [← hE] at hcn
        obtain ⟨W1, a1, a2, a3, a4, a5⟩ := hcn
        rw [if_neg (show ¬ b2 true = 0 by decide)]
        have hgn : ∀ {τ : Type} (F : MS → Option τ), (gd (nI i) 4000 (gd (W.a 48 i) 4000 (ob (m_relementCandidates W (nI r) (nI (A.oi y)) (W.a 8 ((W.a 48 i).toNatClampNeg))) F))) = F W1 := by
          intro τ F
          rw [cl_nI (by omega)] at a1
          have h1 : W.a 48 i = nI E[i] := by
            have := w3.2.1 i (by rw [← hE]; omega)
            simp only [← hE] at this
            exact this
          have hlt : E[i] < 4000 := by
            have hm := el_mem hA hkd (show E[i] ∈ A.el r y by rw [← hE]; exact List.getElem_mem hin)
            omega
          rw [gd_ok (by omega) (by omega), h1, gd_ok hlt (by omega)] at a1 ⊢
          rw [a1, ob_ok]
        obtain ⟨c, hc⟩ : ∃ c, c = A.top r E[i] := ⟨_, rfl⟩
        have hcn := (ch_ok hA (hEl _ (List.getElem_mem hin)) hf)
        rw [← hc] at a5 hcn hsn
        have hcm := hcn.1
        have h11 := (a2.1.2.1 c hcm).2.2.2.1
        rw [hgn, if_neg (show ¬ nI 8 = 7 by decide), show ((0 : Int32).toNatClampNeg) = 0 from by decide, a5, gd_ok (by omega) (by omega), cl_nI (by omega), h11]
        by_cases h4 : A.act c = 4
        · rw [if_pos (show nI (A.act c) = 4 by rw [h4]; rfl)]
          have htx := a2.1.2.2.1 c hcm
          have hle := htx.2.2.2.2.2.1
          obtain ⟨W2, b1, b2', b3⟩ := pW_kept a2.1 hA a2.2.1 (p := A.ba c + (A.key c).length) (k := A.str c) (htx.2.2.2.2.2.2.2) hle (by rw [List.length_append]; omega) (body := fun v : MS × Int32 × Int32 × Int32 × Int32 × Int32 × Int32 × Int32 => m_rbegin_B238 v.1 v.2.1 v.2.2.1 v.2.2.2.1 v.2.2.2.2.1 v.2.2.2.2.2.1 v.2.2.2.2.2.2.1 v.2.2.2.2.2.2.2) (fun W' x => (W', nI r, nI (A.oi y), nI 8, nI 0, nI i, nI c, x)) (fun W' => (W', nI r, nI (A.oi y), nI 8, nI 0, nI i))
            (by
              intro W' q hW hq
              have ht := tx_at a2.1 hW hcm
              have hb := (htx.2.2.2.2.2.2.2 q hq)
              have hne : A.str c ≠ [] := by intro e; rw [e] at hq; cases hq
              show m_rbegin_B238 W' (nI r) (nI (A.oi y)) (nI 8) (nI 0) (nI i) (nI c) (nI q) = _
              unfold m_rbegin_B238
              rw [gd_ok (by omega) (by omega), cl_nI (show c < 2 ^ 31 by omega), ht.2.2.2, if_neg (nle hq (by omega)), gd_ok (by omega) (by omega), ht.2.2.1 hne, nI_add, gd_ok (by omega) (by omega), cl_nI (by omega), hW.aa (by decide), hb.2, show (255 : Int32) = nI 255 from q255, sb_and hb.1, nI_s])
            (by
              intro W' hW
              have ht := tx_at a2.1 hW hcm
              show m_rbegin_B238 W' (nI r) (nI (A.oi y)) (nI 8) (nI 0) (nI i) (nI c) (nI (A.str c).length) = _
              unfold m_rbegin_B238
              rw [gd_ok (by omega) (by omega), cl_nI (show c < 2 ^ 31 by omega), ht.2.2.2, if_pos (Int32.le_refl _)])
          refine ⟨(W2, nI r, nI (A.oi y), nI 8, nI 0, nI (i + 1)), ?_, hin, W2, rfl, ⟨b3.RS a2.1, ?_, b3.STK a2.2.2⟩, (w2.trans a3).trans b3.X, a4.w4 b3⟩
          · rw [show m_rbegin_L238 W1 (nI r) (nI (A.oi y)) (nI 8) (nI 0) (nI i) (nI c) 0 = some (W2, nI r, nI (A.oi y), nI 8, nI 0, nI i) by unfold m_rbegin_L238; exact b1, ob_ok]
            exact hJ W2
          · rw [hsn, show elS A c = escs (A.str c) from if_pos h4, ← List.append_assoc]
            exact b2'
        · rw [if_neg (show ¬ nI (A.act c) = 4 from fun e => h4 ((nI_eq (b := 4) (by omega) (by omega)).mp e)), hJ]
          refine ⟨_, rfl, hin, W1, rfl, ?_, w2.trans a3, a4⟩
          rw [hsn, show elS A c = [] from if_neg h4, List.append_nil]
          exact a2
    · right
      have e : i = E.length := by omega
      refine ⟨(W, nI 8), ?_, W, rfl, ?_, w2⟩
      · show m_rbegin_B133 W (nI r) (nI (A.oi y)) (nI 8) (nI 0) (nI i) = _
        unfold m_rbegin_B133
        rw [if_neg (show ¬ nI 8 = 7 by decide), h50, e, if_pos (Int32.le_refl _)]
      · rw [List.take_of_length_le (by omega)] at w1
        exact w1
theorem pT_text (hT : TS S A w k) (hA : AI A) (hr : r < 8) {y : Option Nat} (hy : A.oV r y) (hk : A.kd y = 8) (hw : w.length ≤ 200000) :
    ∃ S', m_rbegin S (nI r) (nI (A.oi y)) (nI 8) = some S' ∧ TS S' A (w ++ (34 :: elT A r (A.L y) ++ [34])) k ∧ XS S S' := by
  have hnn := hA.1.1
  have hkd : A.kd y ≠ 6 := by omega
  have hLl := L_len hA (x := y)
  obtain ⟨S1, S2, l1, l2, hL⟩ := pS_lm hT.1 hA hr hy hkd
  obtain ⟨t2, x2, g2⟩ := lms_ts hL hT
  obtain ⟨S3, a1, a2, a3⟩ := t2.put (by omega) 34
  rw [show byt 34 = 34 from byt_nI (x := 34) (by omega)] at a2
  have g3 := g2.w4 a3
  obtain ⟨S4, b1, b2', b3⟩ := bt_loop a2 hA hr hk g3 (by simp; omega)
  have hlen := elT_len (r := r) b2'.1 hA (y := y) (R := A.L y) (fun _ h => h)
  obtain ⟨S5, c1, c2, c3⟩ := b2'.put (by simp only [List.length_append, List.length_singleton]; omega) 34
  rw [show byt 34 = 34 from byt_nI (x := 34) (by omega)] at c2
  refine ⟨S5, ?_, by simpa using c2, ((x2.trans a3.X).trans b3).trans c3.X⟩
  unfold m_rbegin m_rbegin_J0
  rw [if_neg (show ¬ nI 8 = 6 by decide), l1, ob_ok, l2, ob_ok, if_neg (show ¬ nI 8 = 7 by decide)]
  unfold m_rbegin_J91 m_rbegin_J112 m_rbegin_J131
  rw [a1, ob_ok, if_neg (show ¬ nI 8 = 7 by decide), if_neg (show ¬ nI 8 = 7 by decide), show m_rbegin_L133 S3 (nI r) (nI (A.oi y)) (nI 8) 0 0 = _ from b1, ob_ok]
  unfold m_rbegin_J298 m_rbegin_J310
  rw [if_pos (show nI 8 = 8 by decide), c1, ob_ok]
end TXN
