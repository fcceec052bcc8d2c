/-! TEXT: the reference begins a list or a text. -/
section TXM
variable {S S' : MS} {N : Nat → Nat} {C C' : CS} {A : AS} {r rd : Nat} {w : List Nat} {k : List Nat}
/-- the list's elements, marked, as long as they are needed -/
def LMG (A : AS) (r : Nat) (y : Option Nat) (S : MS) : Prop := S.i 50 = nI (A.el r y).length ∧ rowN (S.a 48) (A.el r y) ∧ (∀ o, o < A.n → S.a 45 o = b2 (A.hidB r o)) ∧ ∀ e (h : e < (A.el r y).length), S.a 51 e = b2 (A.flB r (A.el r y)[e])
theorem LMG.fr {y : Option Nat} (h : LMG A r y S) (h1 : S'.i 50 = S.i 50) (h2 : S'.a 48 = S.a 48) (h3 : S'.a 45 = S.a 45) (h4 : S'.a 51 = S.a 51) : LMG A r y S' := ⟨by rw [h1]; exact h.1, fun i hi => by rw [h2]; exact h.2.1 i hi, fun o ho => by rw [h3]; exact h.2.2.1 o ho, fun e he => by rw [h4]; exact h.2.2.2 e he⟩
/-- an element's candidates are looked up -/
theorem lm_cand (hT : TS S A w k) (hA : AI A) (hr : r < 8) {y : Option Nat} (hk : A.kd y ≠ 6) (hG : LMG A r y S) {e : Nat} (he : e < (A.el r y).length) (hf : A.flB r (A.el r y)[e] = true) :
    ∃ S', (gd (nI e) 4000 (gd (S.a 48 (nI e).toNatClampNeg) 4000 (m_relementCandidates S (nI r) (nI (A.oi y)) (S.a 8 ((S.a 48 (nI e).toNatClampNeg).toNatClampNeg)))) = some S') ∧ TS S' A w k ∧ XS S S' ∧ LMG A r y S' ∧ S'.a 46 0 = nI (A.top r (A.el r y)[e]) := by
  have hnn := hA.1.1
  have hel := el_len hA (r := r) (x := y)
  obtain ⟨s, hs⟩ : ∃ s, s = (A.el r y)[e] := ⟨_, rfl⟩
  have hm := el_mem hA hk (List.getElem_mem he)
  rw [← hs] at hm hf ⊢
  have h48 : S.a 48 e = nI s := by rw [hG.2.1 e he, hs]
  have h8 : S.a 8 s = nI (A.id s) := (hT.1.2.1 s hm.1).1
  obtain ⟨g, c1, c2⟩ := pS_elCand hT.1 hA hr hm.1 hm.2.2.2.2 hm.2.2.1 (by rw [hm.2.1]; exact hk) hG.2.2.1
  rw [hm.2.1] at c1
  refine ⟨(S.setA 46 g).setI 47 (nI (A.cd r s).length), ?_, ⟨(hT.1.setA rfl).setI rfl, WR_fr hT.2.1 rfl rfl, STK_fr hT.2.2 rfl rfl⟩, (XS_setA (by omega)).trans (XS_setI (by omega)), hG.fr rfl rfl rfl rfl, ?_⟩
  · rw [gd_ok (by omega) (by omega), cl_nI (by omega), h48, gd_ok (by omega) (by omega), cl_nI (by omega), h8, c1]
  · rw [MS.a_setI, MS.a_setA, if_pos rfl]
    have hne := flB_iff.mp hf
    unfold AS.top
    cases hc : A.cd r s with
    | nil => exact absurd hc hne
    | cons a l =>
      rw [hc] at c2
      exact c2 0 (by simp)
/-- a list's elements are piled, the last first -/
theorem bl_loop (hT : TS S A w k) (hA : AI A) (hr : r < 8) {y : Option Nat} (hk : A.kd y ≠ 6) (hG : LMG A r y S) (hl : k.length + 2 * (A.fl r y).length ≤ 12009) (hne : 1 ≤ (A.el r y).length) :
    ∃ S', m_rbegin_L133 S (nI r) (nI (A.oi y)) (nI 7) (nI 0) (nI ((A.el r y).length - 1)) = some (S', nI 7) ∧ TS S' A w (k ++ tks ((A.fl r y).map (A.top r))) ∧ XS S S' := by
  have hnn := hA.1.1
  have hel := el_len hA (r := r) (x := y)
  obtain ⟨E, hE⟩ : ∃ E, E = A.el r y := ⟨_, rfl⟩
  have hfl : A.fl r y = E.filter (A.flB r) := by rw [hE]; exact fl_el hA hk
  rw [← hE] at hel hne
  have := lp_run (body := fun v : MS × Int32 × Int32 × Int32 × Int32 × Int32 => m_rbegin_B133 v.1 v.2.1 v.2.2.1 v.2.2.2.1 v.2.2.2.2.1 v.2.2.2.2.2) (fun i v => ∃ W, v = (W, nI r, nI (A.oi y), nI 7, nI ((E.drop (E.length - i)).filter (A.flB r)).length, dnI (E.length - 1) i) ∧ TS W A w (k ++ tks (((E.drop (E.length - i)).filter (A.flB r)).map (A.top r))) ∧ XS S W ∧ LMG A r y W) (fun e => ∃ W, e = (W, nI 7) ∧ TS W A w (k ++ tks ((A.fl r y).map (A.top r))) ∧ XS S W) E.length ?_ FU (S, nI r, nI (A.oi y), nI 7, nI 0, nI (E.length - 1)) (by unfold FU; omega) ⟨S, by unfold dnI; rw [if_pos (by omega), Nat.sub_zero, List.drop_length]; rfl, by rw [Nat.sub_zero, List.drop_length]; simpa [tks] using hT, XS.refl, hG⟩
  · obtain ⟨e, h1, W, rfl, h2, h3⟩ := this
    refine ⟨W, ?_, h2, h3⟩
    rw [← hE]
    unfold m_rbegin_L133
    exact h1
  · rintro i _ hi ⟨W, rfl, w1, w2, w3⟩
    have hsub : ((E.drop (E.length - i)).filter (A.flB r)).length ≤ (A.fl r y).length := by
      rw [hfl]
      exact ((List.drop_sublist _ _).filter _).length_le
    have hil : ((E.drop (E.length - i)).filter (A.flB r)).length ≤ i := by
      have := List.length_filter_le (A.flB r) (E.drop (E.length - i))
      rw [List.length_drop] at this
      omega
    by_cases hin : i < E.length
    · left
      have hj : E.length - 1 - i < E.length := by omega
      have hdx : dnI (E.length - 1) i = nI (E.length - 1 - i) := by unfold dnI; rw [if_pos (by omega)]
      have hdr : E.drop (E.length - (i + 1)) = E[E.length - 1 - i] :: E.drop (E.length - i) := by
        rw [show E.length - (i + 1) = E.length - 1 - i by omega, drop_s hj, show E.length - 1 - i + 1 = E.length - i by omega]
      have h51 : W.a 51 (E.length - 1 - i) = b2 (A.flB r E[E.length - 1 - i]) := by
        have := w3.2.2.2 (E.length - 1 - i) (by rw [← hE]; omega)
        simp only [← hE] at this
        exact this
      have hpre : m_rbegin_B133 W (nI r) (nI (A.oi y)) (nI 7) (nI ((E.drop (E.length - i)).filter (A.flB r)).length) (dnI (E.length - 1) i) = m_rbegin_J156 W (nI r) (nI (A.oi y)) (nI 7) (nI ((E.drop (E.length - i)).filter (A.flB r)).length) (nI (E.length - 1 - i)) := by
        rw [hdx]
        unfold m_rbegin_B133
        rw [if_pos (show nI 7 = 7 by decide), if_neg (nI_pos (by omega))]
      have hJ : ∀ (W' : MS) (x5 : Int32), m_rbegin_J279 W' (nI r) (nI (A.oi y)) (nI 7) x5 (nI (E.length - 1 - i)) = some (.inl (W', nI r, nI (A.oi y), nI 7, x5, dnI (E.length - 1) (i + 1))) := by
        intro W' x5
        unfold m_rbegin_J279 m_rbegin_J292
        rw [if_pos (show nI 7 = 7 by decide), dnI_s (by omega)]
      show ∃ a', m_rbegin_B133 W (nI r) (nI (A.oi y)) (nI 7) (nI ((E.drop (E.length - i)).filter (A.flB r)).length) (dnI (E.length - 1) i) = some (.inl a') ∧ _
      rw [hpre]
      unfold m_rbegin_J156
      rw [gd_ok (by omega) (by omega), cl_nI (by omega), h51]
      cases hf : A.flB r E[E.length - 1 - i] with
      | false =>
        have hfd : (E.drop (E.length - (i + 1))).filter (A.flB r) = (E.drop (E.length - i)).filter (A.flB r) := by
          rw [hdr, List.filter_cons_of_neg (by rw [hf]; decide)]
        rw [if_pos (show b2 false = 0 by decide), hJ]
        exact ⟨_, rfl, hin, W, by rw [hfd], by rw [hfd]; exact w1, w2, w3⟩
      | true =>
        have hfd : (E.drop (E.length - (i + 1))).filter (A.flB r) = E[E.length - 1 - i] :: (E.drop (E.length - i)).filter (A.flB r) := by
          rw [hdr, List.filter_cons_of_pos hf]
        have hcn := lm_cand (e := E.length - 1 - i) w1 hA hr hk w3 (by rw [← hE]; omega) (by simp only [← hE]; exact hf)
        simp only [← hE] at hcn
        obtain ⟨W1, a1, a2, a3, a4, a5⟩ := hcn
        rw [if_neg (show ¬ b2 true = 0 by decide)]
        have hsub2 : ((E.drop (E.length - i)).filter (A.flB r)).length + 1 ≤ (A.fl r y).length := by
          rw [hfl]
          have : ((E.drop (E.length - (i + 1))).filter (A.flB r)).length ≤ (E.filter (A.flB r)).length := ((List.drop_sublist _ _).filter _).length_le
          rw [hfd, List.length_cons] at this
          exact this
        obtain ⟨l, hl'⟩ : ∃ l, l = (E.drop (E.length - i)).filter (A.flB r) := ⟨_, rfl⟩
        rw [← hl'] at a2 hsub2 hfd hil ⊢
        have htl := tks_len (l := l.map (A.top r))
        rw [List.length_map] at htl
        -- what is piled
        have hpile : ∀ {W2 : MS}, TS W2 A w (k ++ tks (l.map (A.top r)) ++ (if (l.map (A.top r)).isEmpty = true then [] else [2])) → XS S W2 → LMG A r y W2 → ∃ W3, m_rbegin_J212 W2 (nI r) (nI (A.oi y)) (nI 7) (nI l.length) (nI (E.length - 1 - i)) (nI (A.top r E[E.length - 1 - i])) = some (.inl (W3, nI r, nI (A.oi y), nI 7, nI (l.length + 1), dnI (E.length - 1) (i + 1))) ∧ TS W3 A w (k ++ tks (((E.drop (E.length - (i + 1))).filter (A.flB r)).map (A.top r))) ∧ XS S W3 ∧ LMG A r y W3 := by
          intro W2 t1 t2 t3
          obtain ⟨W3, p1, p2, p3, p4, p5⟩ := t1.push (by
            simp only [List.length_append]
            split <;> simp <;> omega) (A.top r E[E.length - 1 - i] + 3)
          rw [tkI_c] at p1
          refine ⟨W3, ?_, ?_, t2.trans p3, t3.fr (p4 50 (by decide)) (p5 48 (by decide)) (p5 45 (by decide)) (p5 51 (by decide))⟩
          · unfold m_rbegin_J212
            rw [p1, ob_ok, nI_s, hJ]
          · rw [hfd, List.map_cons, tks, ← List.append_assoc, ← List.append_assoc]
            exact p2
        have hgn : ∀ {τ : Type} (F : MS → Option τ), (gd (nI (E.length - 1 - i)) 4000 (gd (W.a 48 (E.length - 1 - i)) 4000 (ob (m_relementCandidates W (nI r) (nI (A.oi y)) (W.a 8 ((W.a 48 (E.length - 1 - i)).toNatClampNeg))) F))) = F W1 := by
          intro τ F
          rw [cl_nI (by omega)] at a1
          have h1 : W.a 48 (E.length - 1 - i) = nI E[E.length - 1 - i] := by
            have := w3.2.1 (E.length - 1 - i) (by rw [← hE]; omega)
            simp only [← hE] at this
            exact this
          have hlt : E[E.length - 1 - i] < 4000 := by
            have hm := el_mem hA hk (show E[E.length - 1 - i] ∈ A.el r y by rw [← hE]; exact List.getElem_mem hj)
            omega
          rw [gd_ok (by omega) (by omega), h1, gd_ok hlt (by omega)] at a1 ⊢
          rw [a1, ob_ok]
        rw [hgn, if_pos (show nI 7 = 7 by decide), show ((0 : Int32).toNatClampNeg) = 0 from by decide, a5]
        by_cases e0 : l = []
        · rw [if_pos (by rw [e0]; decide)]
          obtain ⟨W3, p1, p2, p3, p4⟩ := hpile (W2 := W1) (by rw [e0]; simpa [tks, e0] using a2) (w2.trans a3) a4
          refine ⟨_, p1, hin, W3, by rw [hfd, List.length_cons], p2, p3, p4⟩
        · have hlp : 0 < l.length := List.length_pos_iff.mpr e0
          rw [if_neg (fun h => by have := (nI_leI (b := 0) (by omega) (by omega)).mp h; omega)]
          obtain ⟨W2, b1, b2', b3, b4, b5⟩ := a2.push (by simp only [List.length_append]; omega) 2
          have hne2 : (l.map (A.top r)).isEmpty = false := by
            cases l with
            | nil => exact absurd rfl e0
            | cons a l => rfl
          obtain ⟨W3, p1, p2, p3, p4⟩ := hpile (W2 := W2) (by rw [hne2]; exact b2') ((w2.trans a3).trans b3) (a4.fr (b4 50 (by decide)) (b5 48 (by decide)) (b5 45 (by decide)) (b5 51 (by decide)))
          refine ⟨_, ?_, hin, W3, by rw [hfd, List.length_cons], p2, p3, p4⟩
          rw [show m_rpush W1 (-3) = _ from b1, ob_ok]
          exact p1
    · right
      have e : i = E.length := by omega
      subst e
      refine ⟨(W, nI 7), ?_, W, rfl, ?_, w2⟩
      · show m_rbegin_B133 W (nI r) (nI (A.oi y)) (nI 7) _ (dnI (E.length - 1) E.length) = _
        unfold m_rbegin_B133 dnI
        rw [if_pos (show nI 7 = 7 by decide), if_neg (show ¬ E.length ≤ E.length - 1 by omega), if_pos (show (-1 : Int32) < 0 by decide)]
      · rw [Nat.sub_self, List.drop_zero] at w1
        rw [hfl]
        exact w1
end TXM
