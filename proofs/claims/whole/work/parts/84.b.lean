/-! FIND: steps of a path. -/
def pok (bf : List Nat) : Nat → Nat → Bool
  | 0, _ => false
  | f + 1, p => if bf.length ≤ p then true else match stp bf p with
    | some q => pok bf f q
    | none => false
/-- the row of the first, as the class holds it -/
def FR (N : Nat → Nat) (C : CS) (jf : Nat) (bf : List Nat) : Prop := N 5 = 7 ∧ N 13 = 7 ∧ N 11 = 1 ∧ C.r 11 9 0 = some jf ∧ RW C jf bf.length ∧ RB C jf 0 bf ∧ bf.length ≤ 8192
section FDB
variable {S S' : MS} {N : Nat → Nat} {C C' : CS} {A : AS} {r rd : Nat} {bf : List Nat} {jf : Nat}
theorem FR.b (h : FR N C jf bf) : ∀ i (hi : i < bf.length), bf[i] < 256 := fun i hi => (h.2.2.2.2.2.1 i hi).1
theorem rn_at {q : Nat → Bool} {p j : Nat} (hj : j < rn q bf p) : qAt q bf (p + j) = true := by
  unfold qAt
  have := rn_le (q := q) (bf := bf) (p := p)
  have h : p + j < bf.length := by omega
  rw [List.getElem?_eq_getElem h]
  exact rn_in h hj
theorem rn_stop {q : Nat → Bool} {p : Nat} : qAt q bf (p + rn q bf p) = false := by
  unfold qAt
  by_cases h : p + rn q bf p < bf.length
  · rw [List.getElem?_eq_getElem h]
    exact rn_end h
  · rw [List.getElem?_eq_none (by omega)]
theorem cJ_keyEnd (h : FR N C jf bf) {p : Nat} (hp : p ≤ 8200) : m_cJT_keyEnd N 0 C (nI p) = some (C, cI (kend bf p)) := by
  have hb := h.b
  obtain ⟨h5, h13, h11, h9, hw, hr, h8⟩ := h
  have hjf := hw.1
  have hrl := rn_le (q := wdB) (bf := bf) (p := p)
  have := lp_run (body := fun w : CS × Int32 × Int32 × Int32 => m_cJT_keyEnd_B4 N 0 w.1 w.2.1 w.2.2.1 w.2.2.2) (fun i w => w = (C, nI p, nI (p + i), nI i) ∧ i ≤ rn wdB bf p) (fun e => e = (C, nI p, nI (p + min (rn wdB bf p) 65))) (min (rn wdB bf p) 65) ?_ FU (C, nI p, nI p, nI 0) (by unfold FU; omega) ⟨rfl, by omega⟩
  · obtain ⟨e, h1, rfl⟩ := this
    unfold m_cJT_keyEnd m_cJT_keyEnd_J0
    rw [show m_cJT_keyEnd_L4 N 0 C (nI p) (nI p) 0 = some (C, nI p, nI (p + min (rn wdB bf p) 65)) by unfold m_cJT_keyEnd_L4; exact h1, ob_ok]
    simp only []
    unfold m_cJT_keyEnd_J33 m_cJT_keyEnd_J46 m_cJT_keyEnd_J51 kend
    by_cases c0 : rn wdB bf p = 0
    · rw [if_pos (by rw [c0]; rfl), if_neg (by omega)]
      rfl
    · rw [if_neg (fun e => by have := (nI_eq (by omega) (by omega)).mp e; omega), sub_nI (by omega), show p + min (rn wdB bf p) 65 - p = min (rn wdB bf p) 65 by omega]
      by_cases c1 : rn wdB bf p ≤ 64
      · rw [if_pos (show nI (min (rn wdB bf p) 65) ≤ 64 from (nI_leI (b := 64) (by omega) (by omega)).mpr (by omega)), if_pos (by omega), show min (rn wdB bf p) 65 = rn wdB bf p by omega]
        rfl
      · rw [if_neg (show ¬ nI (min (rn wdB bf p) 65) ≤ 64 from fun e => by have := (nI_leI (b := 64) (by omega) (by omega)).mp e; omega), if_neg (by omega)]
        rfl
  · rintro i _ hi ⟨rfl, hir⟩
    unfold m_cJT_keyEnd_B4
    simp only []
    by_cases c6 : 64 < i
    · right
      refine ⟨_, by rw [if_pos (show (64 : Int32) < nI i from (nI_ltI (a := 64) (by omega) (by omega)).mpr c6)], ?_⟩
      rw [show i = min (rn wdB bf p) 65 by omega]
    · rw [if_neg (show ¬ (64 : Int32) < nI i from fun e => c6 ((nI_ltI (a := 64) (by omega) (by omega)).mp e)), gl_ok (by omega), h9, gn_s (by omega), cR_atI h5 h13 hw hr (by omega), ob_ok]
      simp only []
      rw [cJ_psAt hb, ob_ok]
      by_cases hin : i < rn wdB bf p
      · left
        refine ⟨(C, nI p, nI (p + (i + 1)), nI (i + 1)), ?_, by omega, rfl, by omega⟩
        rw [rn_at hin, if_neg (show ¬ b2 true = 0 by decide), nI_s, nI_s]
        rfl
      · right
        have e : i = rn wdB bf p := by omega
        refine ⟨_, ?_, rfl⟩
        rw [e, rn_stop, if_pos (show b2 false = 0 by decide), show min (rn wdB bf p) 65 = rn wdB bf p by omega]
theorem cJ_indexEnd (h : FR N C jf bf) {p : Nat} (hp : p ≤ 8200) : m_cJT_indexEnd N 0 C (nI p) = some (C, cI (iend bf p)) := by
  have hb := h.b
  obtain ⟨h5, h13, h11, h9, hw, hr, h8⟩ := h
  have hjf := hw.1
  have hrl := rn_le (q := dgB) (bf := bf) (p := p)
  have := lp_run (body := fun w : CS × Int32 × Int32 × Int32 => m_cJT_indexEnd_B4 N 0 w.1 w.2.1 w.2.2.1 w.2.2.2) (fun i w => w = (C, nI p, nI (p + i), nI i) ∧ i ≤ rn dgB bf p) (fun e => e = (C, nI p, nI (p + min (rn dgB bf p) 6))) (min (rn dgB bf p) 6) ?_ FU (C, nI p, nI p, nI 0) (by unfold FU; omega) ⟨rfl, by omega⟩
  · obtain ⟨e, h1, rfl⟩ := this
    unfold m_cJT_indexEnd m_cJT_indexEnd_J0
    rw [show m_cJT_indexEnd_L4 N 0 C (nI p) (nI p) 0 = some (C, nI p, nI (p + min (rn dgB bf p) 6)) by unfold m_cJT_indexEnd_L4; exact h1, ob_ok]
    simp only []
    unfold m_cJT_indexEnd_J33 m_cJT_indexEnd_J51 m_cJT_indexEnd_J58 iend
    by_cases c0 : rn dgB bf p = 0
    · rw [if_pos (by rw [c0]; rfl), if_neg (by omega)]
      rfl
    · rw [if_neg (fun e => by have := (nI_eq (by omega) (by omega)).mp e; omega), gl_ok (by omega), h9, gn_s (by omega), cR_atI h5 h13 hw hr (by omega), ob_ok]
      simp only []
      by_cases c1 : rn dgB bf p ≤ 6
      · rw [show min (rn dgB bf p) 6 = rn dgB bf p by omega]
        by_cases c2 : bf[p + rn dgB bf p]? = some 93
        · rw [if_pos (by unfold atI; rw [c2]; decide), if_pos ⟨by omega, c1, c2⟩, nI_s]
          rfl
        · rw [if_neg, if_neg (fun h => c2 h.2.2)]
          · rfl
          · unfold atI
            cases hx : bf[p + rn dgB bf p]? with
            | none => decide
            | some b =>
              intro e
              have hb2 : b < 256 := by
                have hlt : p + rn dgB bf p < bf.length := by
                  rcases Nat.lt_or_ge (p + rn dgB bf p) bf.length with h | h
                  · exact h
                  · rw [List.getElem?_eq_none h] at hx; cases hx
                rw [List.getElem?_eq_getElem hlt] at hx
                rw [← Option.some.inj hx]
                exact hb _ hlt
              have := (nI_eq (b := 93) (by omega) (by omega)).mp e
              rw [hx, this] at c2
              exact c2 rfl
      · rw [if_neg, if_neg (by omega)]
        · rfl
        · have hr6 := rn_at (q := dgB) (bf := bf) (p := p) (j := 6) (by omega)
          rw [show min (rn dgB bf p) 6 = 6 by omega]
          unfold qAt at hr6
          unfold atI
          cases hx : bf[p + 6]? with
          | none => decide
          | some b =>
            rw [hx] at hr6
            have hd : dgB b = true := hr6
            unfold dgB at hd
            simp only [Bool.and_eq_true, decide_eq_true_eq] at hd
            intro e
            have := (nI_eq (b := 93) (by omega) (by omega)).mp e
            omega
  · rintro i _ hi ⟨rfl, hir⟩
    unfold m_cJT_indexEnd_B4
    simp only []
    by_cases c6 : 6 ≤ i
    · right
      refine ⟨_, by rw [if_pos (show (6 : Int32) ≤ nI i from (nI_leI (a := 6) (by omega) (by omega)).mpr c6)], ?_⟩
      rw [show i = min (rn dgB bf p) 6 by omega]
    · rw [if_neg (show ¬ (6 : Int32) ≤ nI i from fun e => c6 ((nI_leI (a := 6) (by omega) (by omega)).mp e)), gl_ok (by omega), h9, gn_s (by omega), cR_atI h5 h13 hw hr (by omega), ob_ok]
      simp only []
      rw [cJ_dgAt hb, ob_ok]
      by_cases hin : i < rn dgB bf p
      · left
        refine ⟨(C, nI p, nI (p + (i + 1)), nI (i + 1)), ?_, by omega, rfl, by omega⟩
        rw [rn_at hin, if_neg (show ¬ b2 true = 0 by decide), nI_s, nI_s]
        rfl
      · right
        have e : i = rn dgB bf p := by omega
        refine ⟨_, ?_, rfl⟩
        rw [e, rn_stop, if_pos (show b2 false = 0 by decide), show min (rn dgB bf p) 6 = rn dgB bf p by omega]
theorem at_eq (hb : ∀ i (h : i < bf.length), bf[i] < 256) {p k : Nat} (hk : k < 256) : (atI bf p = nI k) ↔ bf[p]? = some k := by
  unfold atI
  cases hx : bf[p]? with
  | none =>
    constructor
    · intro e
      exfalso
      have e : -nI 1 = nI k := e
      have h1 : (-nI 1) < 0 := by decide
      rw [e] at h1
      exact nI_pos (by omega) h1
    · intro e; cases e
  | some b =>
    have hlt : p < bf.length := by
      rcases Nat.lt_or_ge p bf.length with h | h
      · exact h
      · rw [List.getElem?_eq_none h] at hx; cases hx
    have hb2 : b < 256 := by
      rw [List.getElem?_eq_getElem hlt] at hx
      rw [← Option.some.inj hx]
      exact hb _ hlt
    show nI b = nI k ↔ _
    rw [nI_eq (by omega) (by omega)]
    simp
theorem cJ_stepEnd (h : FR N C jf bf) {p : Nat} (hp : p ≤ 8192) : m_cJT_stepEnd N 0 C (nI p) = some (C, cI (stp bf p)) := by
  have hb := h.b
  have hh := h
  obtain ⟨h5, h13, h11, h9, hw, hr, h8⟩ := h
  have hjf := hw.1
  unfold m_cJT_stepEnd m_cJT_stepEnd_J0 m_cJT_stepEnd_J52 stp
  by_cases c0 : p = 0
  · rw [if_pos (by rw [c0]; rfl), if_pos c0, gl_ok (by omega), show m_cJT_keyEnd N 0 C 0 = _ from cJ_keyEnd hh (p := 0) (by omega), ob_ok]
  · rw [if_neg (show ¬ nI p = 0 from fun e => c0 ((nI_eq (b := 0) (by omega) (by omega)).mp e)), if_neg c0, gl_ok (by omega), h9, gn_s (by omega), cR_atI h5 h13 hw hr (by omega), ob_ok]
    simp only []
    have e46 := at_eq hb (p := p) (k := 46) (by omega)
    have e91 := at_eq hb (p := p) (k := 91) (by omega)
    by_cases c1 : bf[p]? = some 46
    · rw [if_pos (show atI bf p = 46 from e46.mpr c1), if_pos c1, nI_s, cJ_keyEnd hh (by omega), ob_ok]
    · rw [if_neg (show ¬ atI bf p = 46 from fun e => c1 (e46.mp e)), if_neg c1]
      by_cases c2 : bf[p]? = some 91
      · rw [if_pos (show atI bf p = 91 from e91.mpr c2), if_pos c2, nI_s, cJ_indexEnd hh (by omega), ob_ok]
      · rw [if_neg (show ¬ atI bf p = 91 from fun e => c2 (e91.mp e)), if_neg c2]
        rfl
theorem pok_s {f p : Nat} : pok bf (f + 1) p = if bf.length ≤ p then true else match stp bf p with | some q => pok bf f q | none => false := rfl
theorem cJ_isPath (h : FR N C jf bf) : m_cJT_isPath N 0 C = some (C, b2 (decide (0 < bf.length) && pok bf (bf.length + 1) 0)) := by
  have hh := h
  obtain ⟨h5, h13, h11, h9, hw, hr, h8⟩ := h
  have hjf := hw.1
  have := lp_run (body := fun w : CS × Int32 × Int32 => m_cJT_isPath_B4 N 0 w.1 w.2.1 w.2.2) (fun i w => (∃ p, w = (C, nI p, nI i) ∧ i ≤ p ∧ p ≤ bf.length ∧ pok bf (bf.length + 1 - i) p = pok bf (bf.length + 1) 0) ∨ (w = (C, -1, nI i) ∧ pok bf (bf.length + 1) 0 = false)) (fun e => ∃ v, e = (C, v) ∧ ((v < 0) ↔ pok bf (bf.length + 1) 0 = false)) (bf.length + 1) ?_ FU (C, nI 0, nI 0) (by unfold FU; omega) (Or.inl ⟨0, rfl, by omega, by omega, rfl⟩)
  · obtain ⟨e, h1, v, rfl, h2⟩ := this
    unfold m_cJT_isPath m_cJT_isPath_J0 m_cJT_isPath_J38 m_cJT_isPath_J56 m_cJT_isPath_J57
    rw [show m_cJT_isPath_L4 N 0 C 0 0 = some (C, v) by unfold m_cJT_isPath_L4; exact h1, ob_ok]
    simp only []
    rw [gl_ok (by omega), h9, gn_s (by omega), hw.2.2.1]
    by_cases c0 : bf.length = 0
    · rw [if_pos (by rw [c0]; decide), if_pos (Or.inl trivial), show decide (0 < bf.length) = false from decide_eq_false (by omega)]
      rfl
    · rw [if_neg (fun e => by have := (nI_leI (b := 0) (by omega) (by omega)).mp e; omega), show decide (0 < bf.length) = true from decide_eq_true (by omega), Bool.true_and]
      cases hR : pok bf (bf.length + 1) 0 with
      | false => rw [if_pos (h2.mpr hR), if_pos (Or.inl trivial)]; rfl
      | true => rw [if_neg (fun e => by rw [h2.mp e] at hR; cases hR), if_pos (Or.inr trivial)]; rfl
  · rintro i _ hi (⟨p, rfl, hip, hpl, hpk⟩ | ⟨rfl, hR⟩)
    · unfold m_cJT_isPath_B4
      simp only []
      by_cases c8 : 8192 ≤ i
      · right
        refine ⟨_, by rw [if_pos (show (8192 : Int32) ≤ nI i from (nI_leI (a := 8192) (by omega) (by omega)).mpr c8)], nI p, rfl, ?_⟩
        rw [show bf.length + 1 - i = (bf.length - i) + 1 by omega, pok_s, if_pos (by omega)] at hpk
        rw [← hpk]
        constructor
        · intro e; exact absurd e (nI_pos (by omega))
        · intro e; cases e
      · rw [if_neg (show ¬ (8192 : Int32) ≤ nI i from fun e => c8 ((nI_leI (a := 8192) (by omega) (by omega)).mp e)), if_neg (nI_pos (by omega)), gl_ok (by omega), h9, gn_s (by omega), hw.2.2.1]
        by_cases c1 : bf.length ≤ p
        · right
          refine ⟨_, by rw [if_pos ((nI_leI (by omega) (by omega)).mpr c1)], nI p, rfl, ?_⟩
          rw [show bf.length + 1 - i = (bf.length - i) + 1 by omega, pok_s, if_pos c1] at hpk
          rw [← hpk]
          constructor
          · intro e; exact absurd e (nI_pos (by omega))
          · intro e; cases e
        · left
          rw [if_neg (fun e => c1 ((nI_leI (by omega) (by omega)).mp e)), cJ_stepEnd hh (by omega), ob_ok]
          rw [show bf.length + 1 - i = (bf.length - i) + 1 by omega, pok_s, if_neg c1] at hpk
          refine ⟨_, rfl, by omega, ?_⟩
          cases hs : stp bf p with
          | none =>
            rw [hs] at hpk
            right
            exact ⟨by rw [nI_s]; rfl, hpk.symm⟩
          | some q =>
            rw [hs] at hpk
            left
            have := stp_lt hs
            exact ⟨q, by rw [nI_s]; rfl, by omega, this.2 (by omega), by rw [show bf.length + 1 - (i + 1) = bf.length - i by omega]; exact hpk⟩
    · right
      unfold m_cJT_isPath_B4
      simp only []
      refine ⟨(C, -1), ?_, -1, rfl, ⟨fun _ => hR, fun _ => by decide⟩⟩
      by_cases c8 : 8192 ≤ i
      · rw [if_pos (show (8192 : Int32) ≤ nI i from (nI_leI (a := 8192) (by omega) (by omega)).mpr c8)]
      · rw [if_neg (show ¬ (8192 : Int32) ≤ nI i from fun e => c8 ((nI_leI (a := 8192) (by omega) (by omega)).mp e)), if_pos (by decide)]
end FDB
