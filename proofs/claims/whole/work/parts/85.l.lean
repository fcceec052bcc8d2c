/-! TEXT: the reference begins an object. -/
section TXL
variable {S S' : MS} {N : Nat → Nat} {C C' : CS} {A : AS} {r rd : Nat} {w : List Nat} {k : List Nat}
/-- a state in which text is written -/
def TS (S : MS) (A : AS) (w k : List Nat) : Prop := RS S A ∧ WR S w ∧ STK S k
theorem WR_fr (h : WR S w) (h1 : S'.i 41 = S.i 41) (h2 : S'.a 40 = S.a 40) : WR S' w := ⟨by rw [h1]; exact h.1, h.2.1, fun i hi => by rw [h2]; exact h.2.2 i hi⟩
theorem STK_fr (h : STK S k) (h1 : S'.i 73 = S.i 73) (h2 : S'.a 72 = S.a 72) : STK S' k := ⟨by rw [h1]; exact h.1, fun i hi => by rw [h2]; exact h.2 i hi⟩
theorem TS.put (h : TS S A w k) (hl : w.length < 1000000000) (b : Int32) : ∃ S', m_rwrite S b = some S' ∧ TS S' A (w ++ [byt b]) k ∧ W4 S S' := by
  obtain ⟨S', h1, h2, h3⟩ := pW_put h.2.1 hl b
  exact ⟨S', h1, ⟨h3.RS h.1, h2, h3.STK h.2.2⟩, h3⟩
theorem TS.push (h : TS S A w k) (hl : k.length < 12010) (t : Nat) : ∃ S', m_rpush S (tkI t) = some S' ∧ TS S' A w (k ++ [t]) ∧ XS S S' ∧ (∀ j, j ≠ 73 → S'.i j = S.i j) ∧ (∀ j, j ≠ 72 → S'.a j = S.a j) := by
  obtain ⟨S', h1, h2, h3, h4, h5, h6, h7⟩ := pT_push h.2.2 hl t
  exact ⟨S', h1, ⟨h3 h.1, h4 h.2.1, h2⟩, h5, h6, h7⟩
theorem tkI_c {c : Nat} : tkI (c + 3) = nI c := by
  unfold tkI
  rw [if_neg (by omega), if_neg (by omega), if_neg (by omega)]
  rfl
theorem drop_s {l : List Nat} {j : Nat} (h : j < l.length) : l.drop j = l[j] :: l.drop (j + 1) := List.drop_eq_getElem_cons h
/-- a map's keys are piled -/
theorem bm_loop (hT : TS S A w k) {ch : List Nat} (hc : ∀ i (h : i < ch.length), S.a 70 i = nI ch[i] ∧ ch[i] < 4000) (hn : ch.length ≤ 4000) (hl : k.length + 2 * ch.length ≤ 12009) (hne : 1 ≤ ch.length) :
    ∃ S', m_rbegin_L31 S (nI (ch.length - 1)) = some S' ∧ TS S' A w (k ++ tks ch) ∧ XS S S' := by
  have := lp_run (body := fun v : MS × Int32 => m_rbegin_B31 v.1 v.2) (fun i v => ∃ W, v = (W, dnI (ch.length - 1) i) ∧ TS W A w (k ++ tks (ch.drop (ch.length - i)) ++ (if 0 < i ∧ i < ch.length then [2] else [])) ∧ XS S W ∧ W.a 70 = S.a 70) (fun e => TS e A w (k ++ tks ch) ∧ XS S e) ch.length ?_ FU (S, nI (ch.length - 1)) (by unfold FU; omega) ⟨S, by unfold dnI; rw [if_pos (by omega)]; rfl, by rw [if_neg (by omega), List.append_nil, Nat.sub_zero, List.drop_length, tks, List.append_nil]; exact hT, XS.refl, rfl⟩
  · obtain ⟨e, h1, h2⟩ := this
    refine ⟨e, ?_, h2⟩
    unfold m_rbegin_L31
    exact h1
  · rintro i _ hi ⟨W, rfl, w1, w2, w3⟩
    by_cases hin : i < ch.length
    · left
      have hj : ch.length - 1 - i < ch.length := by omega
      obtain ⟨hcj, hcl⟩ := hc _ hj
      have hdx : dnI (ch.length - 1) i = nI (ch.length - 1 - i) := by unfold dnI; rw [if_pos (by omega)]
      have htl : (tks (ch.drop (ch.length - i))).length ≤ 2 * i := by
        have := tks_len (l := ch.drop (ch.length - i))
        rw [List.length_drop] at this
        omega
      have hdr : ch.drop (ch.length - (i + 1)) = ch[ch.length - 1 - i] :: ch.drop (ch.length - i) := by
        rw [show ch.length - (i + 1) = ch.length - 1 - i by omega, drop_s hj, show ch.length - 1 - i + 1 = ch.length - i by omega]
      have hem : (ch.drop (ch.length - i)).isEmpty = decide (i = 0) := by
        by_cases e : i = 0
        · rw [e, decide_eq_true rfl, Nat.sub_zero, List.drop_length]; rfl
        · rw [decide_eq_false e]
          cases hx : ch.drop (ch.length - i) with
          | nil =>
            have := congrArg List.length hx
            rw [List.length_drop] at this
            simp at this
            omega
          | cons a l => rfl
      have hk1 : k ++ tks (ch.drop (ch.length - i)) ++ (if 0 < i ∧ i < ch.length then [2] else []) ++ [ch[ch.length - 1 - i] + 3] = k ++ tks (ch.drop (ch.length - (i + 1))) := by
        rw [hdr, tks, hem]
        by_cases e : i = 0
        · rw [if_neg (by omega), if_pos (by simp [e])]
          simp
        · rw [if_pos ⟨by omega, hin⟩, if_neg (by simp [e])]
          simp
      obtain ⟨W1, a1, a2, a3, a4, a5⟩ := w1.push (by simp only [List.length_append]; split <;> simp <;> omega) (ch[ch.length - 1 - i] + 3)
      rw [hk1] at a2
      rw [tkI_c] at a1
      have hB : m_rbegin_B31 W (dnI (ch.length - 1) i) = (if nI (ch.length - 1 - i) ≤ 0 then m_rbegin_J58 W1 (nI (ch.length - 1 - i)) else ob (m_rpush W1 (-3)) (fun o_6 => m_rbegin_J58 o_6 (nI (ch.length - 1 - i)))) := by
        rw [hdx]
        unfold m_rbegin_B31
        rw [if_neg (nI_pos (by omega)), gd_ok (by omega) (by omega), cl_nI (by omega), w3, hcj, a1, ob_ok]
      by_cases e0 : ch.length - 1 - i = 0
      · refine ⟨(W1, dnI (ch.length - 1) (i + 1)), ?_, hin, W1, rfl, ?_, w2.trans a3, by rw [a5 70 (by decide)]; exact w3⟩
        · show m_rbegin_B31 W (dnI (ch.length - 1) i) = _
          rw [hB, e0, if_pos (by decide)]
          unfold m_rbegin_J58
          have := dnI_s (c := ch.length - 1) (i := i) (by omega)
          rw [e0] at this
          rw [this]
        · rw [if_neg (by omega), List.append_nil]
          exact a2
      · obtain ⟨W2, b1, b2', b3, b4, b5⟩ := a2.push (by
          have := tks_len (l := ch.drop (ch.length - (i + 1)))
          rw [List.length_drop] at this
          simp only [List.length_append]
          omega) 2
        refine ⟨(W2, dnI (ch.length - 1) (i + 1)), ?_, hin, W2, rfl, ?_, (w2.trans a3).trans b3, by rw [b5 70 (by decide), a5 70 (by decide)]; exact w3⟩
        · show m_rbegin_B31 W (dnI (ch.length - 1) i) = _
          rw [hB, if_neg (fun h => e0 (by have := (nI_leI (b := 0) (by omega) (by omega)).mp h; omega)), show m_rpush W1 (-3) = _ from b1, ob_ok]
          unfold m_rbegin_J58
          rw [dnI_s (by omega)]
        · rw [if_pos ⟨by omega, by omega⟩]
          exact b2'
    · right
      have e : i = ch.length := by omega
      subst e
      refine ⟨W, ?_, ?_, w2⟩
      · show m_rbegin_B31 W (dnI (ch.length - 1) ch.length) = _
        unfold m_rbegin_B31 dnI
        rw [if_neg (show ¬ ch.length ≤ ch.length - 1 by omega), if_pos (show (-1 : Int32) < 0 by decide)]
      · rw [if_neg (by omega), List.append_nil, Nat.sub_self, List.drop_zero] at w1
        exact w1
theorem pT_map (hT : TS S A w k) (hA : AI A) (hr : r < 8) {y : Option Nat} (hy : A.oV r y) (hk : A.kd y = 6) (hw : w.length ≤ 900000000) (hl : k.length + 2 * (A.fl r y).length ≤ 12005) :
    ∃ S', m_rbegin S (nI r) (nI (A.oi y)) (nI 6) = some S' ∧ TS S' A (w ++ [123]) (k ++ [0] ++ tks ((A.fl r y).map (A.top r))) ∧ XS S S' := by
  have hnn := hA.1.1
  have hfl : (A.fl r y).length ≤ A.n := Nat.le_trans (List.length_filter_le _ _) (L_len hA)
  obtain ⟨S1, a1, a2, a3⟩ := hT.put (by omega) 123
  rw [show byt 123 = 123 from byt_nI (x := 123) (by omega)] at a2
  obtain ⟨f, g, b1, b2', _⟩ := pS_keysOf a2.1 hA hr hy hk
  obtain ⟨S2, hS2⟩ : ∃ S2, S2 = ((S1.setA 45 f).setA 70 g).setI 71 (nI (A.fl r y).length) := ⟨_, rfl⟩
  rw [← hS2] at b1
  have hT2 : TS S2 A (w ++ [123]) k := by
    rw [hS2]
    exact ⟨((a2.1.setA rfl).setA rfl).setI rfl, WR_fr a2.2.1 rfl rfl, STK_fr a2.2.2 rfl rfl⟩
  have hX2 : XS S1 S2 := by rw [hS2]; exact ((XS_setA (by omega)).trans (XS_setA (by omega))).trans (XS_setI (by omega))
  obtain ⟨S3, c1, c2, c3, c4, c5⟩ := hT2.push (by omega) 0
  have h71 : S3.i 71 = nI (A.fl r y).length := by rw [c4 71 (by decide), hS2, MS.i_setI, if_pos rfl]
  obtain ⟨ch, hch⟩ : ∃ ch, ch = (A.fl r y).map (A.top r) := ⟨_, rfl⟩
  have hcl : ch.length = (A.fl r y).length := by rw [hch, List.length_map]
  have h70 : ∀ i (h : i < ch.length), S3.a 70 i = nI ch[i] ∧ ch[i] < 4000 := by
    intro i hi
    refine ⟨?_, ?_⟩
    · rw [c5 70 (by decide), hS2, MS.a_setI, MS.a_setA, if_pos rfl]
      rw [← hch] at b2'
      exact b2' i hi
    · obtain ⟨s, hs1, hs2⟩ := List.mem_map.mp (show ch[i] ∈ (A.fl r y).map (A.top r) by rw [← hch]; exact List.getElem_mem hi)
      unfold AS.fl at hs1
      rw [List.mem_filter] at hs1
      have := (top_ok hA hs1.2).2.1
      rw [hs2] at this
      omega
  have hpre : m_rbegin S (nI r) (nI (A.oi y)) (nI 6) = ob (m_rbegin_L31 S3 (nI (A.fl r y).length - 1)) (fun b_13 => some b_13) := by
    unfold m_rbegin m_rbegin_J0
    rw [if_pos (show nI 6 = 6 by decide), a1, ob_ok, b1, ob_ok, show m_rpush S2 (-1) = _ from c1, ob_ok, h71]
  rw [hpre, ← hch]
  by_cases e : ch.length = 0
  · refine ⟨S3, ?_, ?_, (a3.X.trans hX2).trans c3⟩
    · rw [← hcl, e]
      have : m_rbegin_L31 S3 (nI 0 - 1) = some S3 := by
        unfold m_rbegin_L31
        show lp _ (999999 + 1) _ = _
        rw [lp]
        have hB : m_rbegin_B31 S3 (nI 0 - 1) = some (.inr S3) := by
          unfold m_rbegin_B31
          rw [if_pos (show nI 0 - 1 < 0 by decide)]
        rw [hB]
      rw [this, ob_ok]
    · rw [List.length_eq_zero_iff.mp e, tks, List.append_nil]
      exact c2
  · obtain ⟨S4, d1, d2, d3⟩ := bm_loop c2 h70 (by omega) (by rw [List.length_append, List.length_singleton, hcl]; omega) (by omega)
    refine ⟨S4, ?_, d2, ((a3.X.trans hX2).trans c3).trans d3⟩
    rw [← hcl, show nI ch.length - 1 = nI (ch.length - 1) from sub_nI (k := 1) (by omega), d1, ob_ok]
end TXL
