/-! JSON: words and numbers. -/
def wrdR (bs : List Nat) : List Int32 → Nat → Nat × Bool
  | [], p => (p, true)
  | c :: w, p => if atI bs p = c then wrdR bs w (p + 1) else (p, false)
def isD (bs : List Nat) (p : Nat) : Bool := match bs[p]? with
  | none => false
  | some b => decide (48 ≤ b ∧ b ≤ 57)
def numR (bs : List Nat) : Nat → Nat → Int64 → Nat × Int64
  | 0, p, x => (p, x)
  | k + 1, p, x => if isD bs p = true then numR bs k (p + 1) (x * 10 + (atI bs p).toInt64 - 48) else (p, x)
section JSG
variable {S S' : MS} {N : Nat → Nat} {C C' : CS} {p : Nat} {js : Nat} {bs d : List Nat}
theorem isD_lt (h : isD bs p = true) : p < bs.length := by
  unfold isD at h
  cases e : bs[p]? with
  | none => rw [e] at h; cases h
  | some b => exact getq e
theorem isD_at (hb : ∀ i (hi : i < bs.length), bs[i] < 256) : isD bs p = true ↔ (¬ atI bs p < 48 ∧ ¬ (57 : Int32) < atI bs p) := by
  unfold isD
  cases e : bs[p]? with
  | none =>
    rw [at_none e]
    exact ⟨fun h => (by cases h), fun h => absurd (show (-nI 1 : Int32) < 48 by decide) h.1⟩
  | some b =>
    have hb2 := bytLt hb e
    rw [at_some e]
    have l48 : (nI b < 48) ↔ b < 48 := nI_ltI (b := 48) (by omega) (by omega)
    have l57 : ((57 : Int32) < nI b) ↔ 57 < b := nI_ltI (a := 57) (by omega) (by omega)
    rw [l48, l57]
    simp only [decide_eq_true_eq]
    omega
theorem at_ge {c : Int32} (h : atI bs p = c) (hc : c ≠ -1) : p < bs.length := by
  cases e : bs[p]? with
  | none => rw [at_none e] at h; exact absurd h.symm hc
  | some b => exact getq e
theorem wrdR_le (w : List Int32) : ∀ p, (∀ c, c ∈ w → c ≠ -1) → p ≤ bs.length → (wrdR bs w p).1 ≤ bs.length ∧ p ≤ (wrdR bs w p).1 ∧ ((wrdR bs w p).2 = true → (wrdR bs w p).1 = p + w.length) := by
  induction w with
  | nil => intro p _ hp; exact ⟨hp, Nat.le_refl _, fun _ => rfl⟩
  | cons c w ih =>
    intro p hw hp
    unfold wrdR
    split
    · rename_i h
      have := at_ge h (hw c List.mem_cons_self)
      obtain ⟨i1, i2, i3⟩ := ih (p + 1) (fun c hc => hw c (List.mem_cons_of_mem _ hc)) (by omega)
      exact ⟨i1, by omega, fun g => by rw [i3 g, List.length_cons]; omega⟩
    · exact ⟨hp, Nat.le_refl _, fun g => by cases g⟩
theorem sW {k : Nat} (hk : k < 6) : ∀ c, c ∈ sByt.getD k [] → c ≠ (-1 : Int32) := by
  have : ∀ k : Fin 6, ∀ c ∈ sByt.getD k.val [], c ≠ (-1 : Int32) := by decide
  exact this ⟨k, hk⟩
theorem sW5 {k : Nat} (hk : k < 6) : (sByt.getD k []).length ≤ 5 := by
  have : ∀ k : Fin 6, (sByt.getD k.val []).length ≤ 5 := by decide
  exact this ⟨k, hk⟩
theorem sCh_at {k i : Nat} (h : i < (sByt.getD k []).length) : sCh k i = (sByt.getD k [])[i] := by
  unfold sCh
  rw [List.getD_eq_getElem?_getD, List.getElem?_eq_getElem h]; rfl
theorem c_word (h : CT N C js bs p) {v k : Nat} (hv : v < 500) (hk : k < 6) (so : Int32) : m_cRd_readWord N 0 C v so k = some ((C.setI 9 0 v so).setI 1 4 0 (nI (wrdR bs (sByt.getD k []) p).1), b2 (wrdR bs (sByt.getD k []) p).2) := by
  have hb := h.b
  have hN := h.1
  have h8 := h.2.2.2.2.1
  have hjs := h.2.2.1.1
  have hw := sW hk
  have hw5 := sW5 hk
  have hT0 : CT N (C.setI 9 0 v so) js bs p := by
    obtain ⟨h1, h2, h3, h4, h5, h6, h7⟩ := h
    exact ⟨h1, h2, ⟨h3.1, h3.2.1, by rw [CS.i_setI, if_neg (by omega)]; exact h3.2.2.1, h3.2.2.2⟩, h4, h5, by rw [CS.i_setI, if_neg (by omega)]; exact h6, h7⟩
  unfold m_cRd_readWord m_cRd_readWord_J0
  rw [gl_ok (by omega)]
  generalize C.setI 9 0 v so = D at *
  have hself : D.setI 1 4 0 (nI p) = D := by
    apply CS_ext <;> intros <;> try rfl
    rw [CS.i_setI]
    split
    · rename_i e; rw [e.1, e.2.1, e.2.2]; exact hT0.2.2.2.2.2.1.symm
    · rfl
  generalize hwd : sByt.getD k [] = w at *
  generalize hR : wrdR bs w p = R
  have := lp_run (body := fun a : CS × Nat × Int32 => m_cRd_readWord_B8 N 0 a.1 a.2.1 a.2.2)
    (fun i u => i ≤ w.length ∧ u = (D.setI 1 4 0 (nI (p + i)), k, nI i) ∧ p + i ≤ bs.length ∧ wrdR bs (w.drop i) (p + i) = R)
    (fun e => match e with
      | .inl C' => R.2 = true ∧ C' = D.setI 1 4 0 (nI R.1)
      | .inr o => R.2 = false ∧ o = (D.setI 1 4 0 (nI R.1), 0)) w.length ?_ FU (D, k, nI 0) (by unfold FU; omega) ⟨Nat.zero_le _, by rw [Nat.add_zero, hself], h.2.2.2.2.2.2, hR⟩
  · obtain ⟨e, h1, h2⟩ := this
    rw [show m_cRd_readWord_L8 N 0 D k 0 = _ by unfold m_cRd_readWord_L8; exact h1]
    cases e with
    | inl C' => rw [oe_l, h2.1, h2.2]; rfl
    | inr o => rw [oe_r, h2.1, h2.2]; rfl
  · rintro i _ hi ⟨him, rfl, hpl, hS⟩
    have hT := hT0.set (q := p + i) hpl
    have hB : m_cRd_readWord_B8 N 0 (D.setI 1 4 0 (nI (p + i))) k (nI i) = (if nI w.length ≤ nI i then some (.inr (.inl (D.setI 1 4 0 (nI (p + i))))) else gd (nI i) w.length (if atI bs (p + i) = sCh k i then some (.inl (D.setI 1 4 0 (nI (p + (i + 1))), k, nI (i + 1))) else some (.inr (.inr (D.setI 1 4 0 (nI (p + i)), 0))))) := by
      unfold m_cRd_readWord_B8 gS
      rw [if_pos (show k < 9 by omega), show sLn k = w.length by unfold sLn; rw [hwd], gl_ok (by omega), hT.2.1.1, gn_s (by omega), hT.at, ob_ok]
      simp only []
      rw [hT.next, set_at, cl_nI (by omega), nI_s]
      rfl
    by_cases ci : i = w.length
    · right
      subst ci
      rw [List.drop_length] at hS
      subst hS
      refine ⟨.inl (D.setI 1 4 0 (nI (p + w.length))), ?_, rfl, rfl⟩
      show m_cRd_readWord_B8 N 0 (D.setI 1 4 0 (nI (p + w.length))) k (nI w.length) = _
      rw [hB, if_pos ((nI_leI (by omega) (by omega)).mpr (Nat.le_refl _))]
    · have hlt : i < w.length := by omega
      rw [if_neg (nle hlt (by omega)), gd_ok hlt (by omega), sCh_at (by rw [hwd]; exact hlt)] at hB
      rw [List.drop_eq_getElem_cons hlt] at hS
      unfold wrdR at hS
      have e0 : (sByt.getD k [])[i]'(by rw [hwd]; exact hlt) = w[i] := by simp only [hwd]
      rw [e0] at hB
      by_cases c : atI bs (p + i) = w[i]
      · left
        rw [if_pos c] at hB hS
        have := at_ge c (hw _ (List.getElem_mem hlt))
        exact ⟨_, hB, hlt, hlt, rfl, by omega, hS⟩
      · right
        rw [if_neg c] at hB hS
        subst hS
        exact ⟨_, hB, rfl, rfl⟩
theorem s_word (h : ST S bs p) (h0 : S.i 68 = 0) {k : Nat} (hk : k < 6) : m_rword S k = some (if (wrdR bs (sByt.getD k []) p).2 = true then S.setI 66 (nI (wrdR bs (sByt.getD k []) p).1) else (S.setI 66 (nI (wrdR bs (sByt.getD k []) p).1)).setI 68 1) := by
  have h8 := h.2.2.1
  have hw := sW hk
  have hw5 := sW5 hk
  have hself : S.setI 66 (nI p) = S := by rw [← h.2.2.2.1, MS.setI_self]
  generalize hwd : sByt.getD k [] = w at *
  generalize hR : wrdR bs w p = R
  have := lp_run (body := fun a : MS × Nat × Int32 => m_rword_B2 a.1 a.2.1 a.2.2)
    (fun i u => (i ≤ w.length ∧ u = (S.setI 66 (nI (p + i)), k, nI i) ∧ p + i ≤ bs.length ∧ wrdR bs (w.drop i) (p + i) = R) ∨ (R.2 = false ∧ i ≤ w.length ∧ u = ((S.setI 66 (nI R.1)).setI 68 1, k, nI i)))
    (fun e => e = (if R.2 = true then S.setI 66 (nI R.1) else (S.setI 66 (nI R.1)).setI 68 1)) w.length ?_ FU (S, k, nI 0) (by unfold FU; omega) (Or.inl ⟨Nat.zero_le _, by rw [Nat.add_zero, hself], h.2.2.2.2, hR⟩)
  · obtain ⟨e, h1, h2⟩ := this
    unfold m_rword m_rword_J0 m_rword_J53
    rw [show m_rword_L2 S k 0 = _ by unfold m_rword_L2; exact h1, ob_ok, h2]
  · rintro i _ hi (⟨him, rfl, hpl, hS⟩ | ⟨hf, him, rfl⟩)
    · have hT := h.set (q := p + i) hpl
      have h01 : (S.setI 66 (nI (p + i))).i 68 = 0 := h0
      have hB : m_rword_B2 (S.setI 66 (nI (p + i))) k (nI i) = (if nI w.length ≤ nI i then some (.inr (S.setI 66 (nI (p + i)))) else gd (nI i) w.length (if atI bs (p + i) = sCh k i then some (.inl (S.setI 66 (nI (p + (i + 1))), k, nI (i + 1))) else some (.inl ((S.setI 66 (nI (p + i))).setI 68 1, k, nI (i + 1))))) := by
        unfold m_rword_B2 gS m_rword_J47
        rw [if_pos (show k < 9 by omega), show sLn k = w.length by unfold sLn; rw [hwd], if_pos h01, hT.sign, ob_ok]
        simp only []
        rw [hT.next, MS.setI_setI, cl_nI (by omega), nI_s]
        rfl
      by_cases ci : i = w.length
      · right
        subst ci
        rw [List.drop_length] at hS
        subst hS
        refine ⟨S.setI 66 (nI (p + w.length)), ?_, rfl⟩
        show m_rword_B2 (S.setI 66 (nI (p + w.length))) k (nI w.length) = _
        rw [hB, if_pos ((nI_leI (by omega) (by omega)).mpr (Nat.le_refl _))]
      · have hlt : i < w.length := by omega
        rw [if_neg (nle hlt (by omega)), gd_ok hlt (by omega), sCh_at (by rw [hwd]; exact hlt)] at hB
        rw [List.drop_eq_getElem_cons hlt] at hS
        unfold wrdR at hS
        have e0 : (sByt.getD k [])[i]'(by rw [hwd]; exact hlt) = w[i] := by simp only [hwd]
        rw [e0] at hB
        left
        by_cases c : atI bs (p + i) = w[i]
        · rw [if_pos c] at hB hS
          have := at_ge c (hw _ (List.getElem_mem hlt))
          exact ⟨_, hB, hlt, Or.inl ⟨hlt, rfl, by omega, hS⟩⟩
        · rw [if_neg c] at hB hS
          subst hS
          exact ⟨_, hB, hlt, Or.inr ⟨rfl, hlt, rfl⟩⟩
    · right
      refine ⟨(S.setI 66 (nI R.1)).setI 68 1, ?_, by rw [hf]; rfl⟩
      show m_rword_B2 ((S.setI 66 (nI R.1)).setI 68 1) k (nI i) = _
      unfold m_rword_B2 gS
      rw [if_pos (show k < 9 by omega)]
      by_cases c : nI (sLn k) ≤ nI i
      · rw [if_pos c]
      · rw [if_neg c, if_neg (show ¬ ((S.setI 66 (nI R.1)).setI 68 1).i 68 = 0 by rw [MS.i_setI, if_pos rfl]; decide)]
end JSG
