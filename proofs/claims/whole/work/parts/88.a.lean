/-! JSON: signs and blanks. -/
def blB (b : Nat) : Bool := decide (b = 9) || decide (b = 10) || decide (b = 13) || decide (b = 32)
/-- behind the blanks -/
def skp (bs : List Nat) (p : Nat) : Nat := p + rn blB bs p
/-- the text as the class reads it -/
def CT (N : Nat → Nat) (C : CS) (js : Nat) (bs : List Nat) (p : Nat) : Prop := (N 1 = 1 ∧ N 5 = 7 ∧ N 13 = 7 ∧ N 9 = 500 ∧ N 18 = 1) ∧ (C.r 1 2 0 = some js ∧ 4 ≤ js) ∧ RW C js bs.length ∧ RB C js 0 bs ∧ bs.length ≤ 8192 ∧ C.i 1 4 0 = nI p ∧ p ≤ bs.length
/-- the text as the reference reads it -/
def ST (S : MS) (bs : List Nat) (p : Nat) : Prop := S.i 6 = nI bs.length ∧ byts S 3 0 bs ∧ bs.length ≤ 8192 ∧ S.i 66 = nI p ∧ p ≤ bs.length
section JSA
variable {S S' : MS} {N : Nat → Nat} {C C' : CS} {A : AS} {r rd js p : Nat} {bs : List Nat}
theorem CT.b (h : CT N C js bs p) : ∀ i (hi : i < bs.length), bs[i] < 256 := fun i hi => (h.2.2.2.1 i hi).1
theorem ST.b (h : ST S bs p) : ∀ i (hi : i < bs.length), bs[i] < 256 := fun i hi => (h.2.1 i hi).1
theorem CT.at (h : CT N C js bs p) : m_cRw_at N js C (C.i 1 4 0) = some (C, atI bs p) := by
  rw [h.2.2.2.2.2.1]
  have := h.2.2.2.2.1
  have := h.2.2.2.2.2.2
  exact cR_atI h.1.2.1 h.1.2.2.1 h.2.2.1 h.2.2.2.1 (by omega)
theorem ST.sign (h : ST S bs p) : m_rsign S = some (S, atI bs p) := by
  obtain ⟨h1, h2, h3, h4, h5⟩ := h
  unfold m_rsign m_rsign_J0 m_rsign_J28 atI
  rw [h1, h4]
  by_cases e : p < bs.length
  · have hb := h2 p e
    rw [Nat.zero_add] at hb
    rw [if_neg (nle e (by omega)), gd_ok (by omega) (by omega), cl_nI (by omega), hb.2, show (255 : Int32) = nI 255 from q255, sb_and hb.1, List.getElem?_eq_getElem e]
  · rw [if_pos ((nI_leI (by omega) (by omega)).mpr (by omega)), List.getElem?_eq_none (by omega)]
    rfl
theorem CT.set (h : CT N C js bs p) {q : Nat} (hq : q ≤ bs.length) : CT N (C.setI 1 4 0 (nI q)) js bs q := by
  obtain ⟨h1, h2, h3, h4, h5, h6, h7⟩ := h
  exact ⟨h1, h2, ⟨h3.1, h3.2.1, by rw [CS.i_setI, if_neg (by omega)]; exact h3.2.2.1, h3.2.2.2⟩, h4, h5, by rw [CS.i_setI, if_pos ⟨rfl, rfl, rfl⟩], hq⟩
theorem ST.set (h : ST S bs p) {q : Nat} (hq : q ≤ bs.length) : ST (S.setI 66 (nI q)) bs q := by
  obtain ⟨h1, h2, h3, h4, h5⟩ := h
  exact ⟨by rw [MS.i_setI, if_neg (by decide)]; exact h1, h2, h3, by rw [MS.i_setI, if_pos rfl], hq⟩
theorem skp_le (hp : p ≤ bs.length) : skp bs p ≤ bs.length ∧ p ≤ skp bs p := by
  have := rn_le (q := blB) (bf := bs) (p := p)
  unfold skp
  omega
theorem bl_at {b : Nat} (hb : b < 256) : blB b = true ↔ (nI b = 9 ∨ nI b = 10 ∨ nI b = 13 ∨ nI b = 32) := by
  unfold blB
  simp only [Bool.or_eq_true, decide_eq_true_eq]
  have e : ∀ {c : Nat}, c < 256 → (nI b = nI c ↔ b = c) := fun hc => nI_eq (by omega) (by omega)
  rw [show (9 : Int32) = nI 9 from rfl, show (10 : Int32) = nI 10 from rfl, show (13 : Int32) = nI 13 from rfl, show (32 : Int32) = nI 32 from rfl, e (by omega), e (by omega), e (by omega), e (by omega)]
  constructor
  · rintro (((h | h) | h) | h)
    · exact Or.inl h
    · exact Or.inr (Or.inl h)
    · exact Or.inr (Or.inr (Or.inl h))
    · exact Or.inr (Or.inr (Or.inr h))
  · rintro (h | h | h | h)
    · exact Or.inl (Or.inl (Or.inl h))
    · exact Or.inl (Or.inl (Or.inr h))
    · exact Or.inl (Or.inr h)
    · exact Or.inr h
theorem bl_atI (hb : ∀ i (hi : i < bs.length), bs[i] < 256) : qAt blB bs p = true ↔ (atI bs p = 9 ∨ atI bs p = 10 ∨ atI bs p = 13 ∨ atI bs p = 32) := by
  unfold qAt atI
  cases h : bs[p]? with
  | none =>
    constructor
    · intro h1; cases h1
    · intro h1; exact absurd h1 (by decide)
  | some b =>
    obtain ⟨h1, h2⟩ := List.getElem?_eq_some_iff.mp h
    exact bl_at (by rw [← h2]; exact hb p h1)
theorem c_skip (h : CT N C js bs p) : m_cRd_skipBlanks N 0 C = some (C.setI 1 4 0 (nI (skp bs p))) := by
  have hb := h.b
  have h8 := h.2.2.2.2.1
  have hpl := h.2.2.2.2.2.2
  have hrl := rn_le (q := blB) (bf := bs) (p := p)
  have hself : C.setI 1 4 0 (nI p) = C := by
    apply CS_ext <;> intros <;> try rfl
    rw [CS.i_setI]
    split
    · rename_i e; rw [e.1, e.2.1, e.2.2]; exact h.2.2.2.2.2.1.symm
    · rfl
  have := lp_run (body := fun u : CS × Int32 => m_cRd_skipBlanks_B2 N 0 u.1 u.2) (fun i u => u = (C.setI 1 4 0 (nI (p + i)), nI i) ∧ i ≤ rn blB bs p) (fun e => e = C.setI 1 4 0 (nI (skp bs p))) (rn blB bs p) ?_ FU (C, nI 0) (by unfold FU; omega) ⟨by rw [Nat.add_zero, hself], by omega⟩
  · obtain ⟨e, h1, rfl⟩ := this
    unfold m_cRd_skipBlanks m_cRd_skipBlanks_J0 m_cRd_skipBlanks_J42
    rw [show m_cRd_skipBlanks_L2 N 0 C 0 = _ by unfold m_cRd_skipBlanks_L2; exact h1, ob_ok]
  · rintro i _ hi ⟨rfl, hir⟩
    have hT := h.set (q := p + i) (by omega)
    have hB : ∀ (D : CS) (x : Int32), ¬ (8192 : Int32) ≤ x → CT N D js bs (p + i) → m_cRd_skipBlanks_B2 N 0 D x = (if qAt blB bs (p + i) = true then some (.inl (D.setI 1 4 0 (nI (p + i + 1)), x + 1)) else some (.inr D)) := by
      intro D x hx hD
      unfold m_cRd_skipBlanks_B2
      have hjs := hD.2.2.1.1
      have hN := hD.1
      rw [if_neg hx, gl_ok (by omega), hD.2.1.1, gn_s (by omega), hD.at, ob_ok]
      simp only []
      have hiff := bl_atI (p := p + i) hb
      by_cases e : qAt blB bs (p + i) = true
      · have hbk : m_cRd_isBlank N D (atI bs (p + i)) = some (D, 1) := by
          unfold m_cRd_isBlank m_cRd_isBlank_J0 m_cRd_isBlank_J24 m_cRd_isBlank_J29
          rcases hiff.mp e with h1 | h1 | h1 | h1 <;> rw [h1] <;> rfl
        rw [hbk, ob_ok, if_pos e]
        simp only []
        rw [if_neg (show ¬ (1 : Int32) = 0 by decide), hD.2.2.2.2.2.1, nI_s]
      · have hn : ¬ (atI bs (p + i) = 9 ∨ atI bs (p + i) = 10 ∨ atI bs (p + i) = 13 ∨ atI bs (p + i) = 32) := fun h1 => e (hiff.mpr h1)
        have hbk : m_cRd_isBlank N D (atI bs (p + i)) = some (D, 0) := by
          unfold m_cRd_isBlank m_cRd_isBlank_J0 m_cRd_isBlank_J24 m_cRd_isBlank_J29
          rw [if_neg (fun h1 => hn (Or.inl h1)), if_neg (fun h1 => hn (Or.inr (Or.inl h1))), if_neg (fun h1 => hn (Or.inr (Or.inr (Or.inl h1)))), if_neg (fun h1 => hn (Or.inr (Or.inr (Or.inr h1))))]
          rfl
        rw [hbk, ob_ok, if_neg e]
        rfl
    by_cases c8 : 8192 ≤ i
    · right
      have e : i = rn blB bs p := by omega
      refine ⟨C.setI 1 4 0 (nI (p + i)), ?_, by unfold skp; rw [e]⟩
      show m_cRd_skipBlanks_B2 N 0 (C.setI 1 4 0 (nI (p + i))) (nI i) = _
      unfold m_cRd_skipBlanks_B2
      rw [if_pos (show (8192 : Int32) ≤ nI i from (nI_leI (a := 8192) (by omega) (by omega)).mpr c8)]
    · have hB2 := hB (C.setI 1 4 0 (nI (p + i))) (nI i) (fun h1 => c8 ((nI_leI (a := 8192) (by omega) (by omega)).mp h1)) hT
      by_cases hin : i < rn blB bs p
      · left
        refine ⟨(C.setI 1 4 0 (nI (p + (i + 1))), nI (i + 1)), ?_, hin, rfl, by omega⟩
        show m_cRd_skipBlanks_B2 N 0 (C.setI 1 4 0 (nI (p + i))) (nI i) = _
        rw [hB2, if_pos (rn_at hin), nI_s]
        congr 3
        apply CS_ext <;> intros <;> try rfl
        rw [CS.i_setI, CS.i_setI, CS.i_setI]
        split <;> rfl
      · right
        have e : i = rn blB bs p := by omega
        refine ⟨C.setI 1 4 0 (nI (p + i)), ?_, by unfold skp; rw [e]⟩
        show m_cRd_skipBlanks_B2 N 0 (C.setI 1 4 0 (nI (p + i))) (nI i) = _
        rw [hB2, if_neg (by rw [e, rn_stop]; decide)]
theorem s_skip (h : ST S bs p) : m_rskip S = some (S.setI 66 (nI (skp bs p))) := by
  have hb := h.b
  have h8 := h.2.2.1
  have hpl := h.2.2.2.2
  have hrl := rn_le (q := blB) (bf := bs) (p := p)
  have hself : S.setI 66 (nI p) = S := by rw [← h.2.2.2.1, MS.setI_self]
  have := lp_run (body := fun u : MS => m_rskip_B0 u) (fun i u => u = S.setI 66 (nI (p + i)) ∧ i ≤ rn blB bs p) (fun e => e = S.setI 66 (nI (skp bs p))) (rn blB bs p) ?_ FU S (by unfold FU; omega) ⟨by rw [Nat.add_zero, hself], by omega⟩
  · obtain ⟨e, h1, rfl⟩ := this
    unfold m_rskip m_rskip_J0 m_rskip_L0
    rw [h1, ob_ok]
  · rintro i _ hi ⟨rfl, hir⟩
    have hT := h.set (q := p + i) (by omega)
    have hsg := hT.sign
    have h66 : (S.setI 66 (nI (p + i))).i 66 = nI (p + i) := hT.2.2.2.1
    have hiff := bl_atI (p := p + i) hb
    by_cases hin : i < rn blB bs p
    · left
      refine ⟨S.setI 66 (nI (p + (i + 1))), ?_, hin, rfl, by omega⟩
      have hJ : m_rskip_J36 (S.setI 66 (nI (p + i))) = some (.inl (S.setI 66 (nI (p + (i + 1))))) := by
        unfold m_rskip_J36
        rw [h66, nI_s, MS.setI_setI]
        rfl
      show m_rskip_B0 (S.setI 66 (nI (p + i))) = _
      unfold m_rskip_B0
      simp only [hsg, ob_ok]
      rcases hiff.mp (rn_at hin) with h1 | h1 | h1 | h1
      · rw [if_pos h1, hJ]
      · rw [if_neg (by rw [h1]; decide), if_pos h1, hJ]
      · rw [if_neg (by rw [h1]; decide), if_neg (by rw [h1]; decide), if_pos h1, hJ]
      · rw [if_neg (by rw [h1]; decide), if_neg (by rw [h1]; decide), if_neg (by rw [h1]; decide), if_pos h1, hJ]
    · right
      have e : i = rn blB bs p := by omega
      have hn : ¬ (atI bs (p + i) = 9 ∨ atI bs (p + i) = 10 ∨ atI bs (p + i) = 13 ∨ atI bs (p + i) = 32) := fun h1 => by
        have h2 := hiff.mpr h1
        rw [e, rn_stop] at h2
        cases h2
      refine ⟨S.setI 66 (nI (p + i)), ?_, by unfold skp; rw [e]⟩
      show m_rskip_B0 (S.setI 66 (nI (p + i))) = _
      unfold m_rskip_B0
      simp only [hsg, ob_ok]
      rw [if_neg (fun h1 => hn (Or.inl h1)), if_neg (fun h1 => hn (Or.inr (Or.inl h1))), if_neg (fun h1 => hn (Or.inr (Or.inr (Or.inl h1)))), if_neg (fun h1 => hn (Or.inr (Or.inr (Or.inr h1))))]
end JSA
