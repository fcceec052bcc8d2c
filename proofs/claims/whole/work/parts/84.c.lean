/-! FIND: the reference's isPath. -/
section FDC
variable {S S' : MS} {N : Nat → Nat} {C C' : CS} {A : AS} {r rd : Nat} {bf : List Nat} {jf : Nat}
theorem byt0 (hb : byts S 2 0 bf) {p : Nat} (hp : p < bf.length) : S.a 2 p = sb bf[p] ∧ bf[p] < 256 := by
  have := hb p hp
  rw [Nat.zero_add] at this
  exact ⟨this.2, this.1⟩
theorem sb_eq {b k : Nat} (hb : b < 256) (hk : k < 128) : (sb b = nI k) ↔ b = k := by
  rw [← sb_lo k hk]
  exact sb_inj hb (by omega)
theorem sb_dgB {b : Nat} (hb : b < 256) : (¬ sb b < 48 ∧ ¬ (57 : Int32) < sb b) ↔ dgB b = true := by
  unfold dgB
  simp only [Bool.and_eq_true, decide_eq_true_eq]
  by_cases h : b < 128
  · rw [sb_lo b h]
    rw [show ((nI b < 48) ↔ b < 48) from nI_ltI (b := 48) (by omega) (by omega), show (((57 : Int32) < nI b) ↔ 57 < b) from nI_ltI (a := 57) (by omega) (by omega)]
    omega
  · have h0 := sb_hi (by omega) hb
    constructor
    · rintro ⟨h1, _⟩
      exact absurd (Int32.lt_trans h0 (by decide)) h1
    · intro h1
      omega
theorem rP_word (h5 : S.i 5 = nI bf.length) (hb : byts S 2 0 bf) (h8 : bf.length ≤ 8192) {p : Nat} (hp : p ≤ bf.length + 1) : m_risPath_L130 S (nI p) (nI p) = some (S, nI (p + rn wdB bf p), nI p) := by
  have hrl := rn_le (q := wdB) (bf := bf) (p := p)
  have := lp_run (body := fun w : MS × Int32 × Int32 => m_risPath_B130 w.1 w.2.1 w.2.2) (fun i w => w = (S, nI (p + i), nI p) ∧ i ≤ rn wdB bf p) (fun e => e = (S, nI (p + rn wdB bf p), nI p)) (rn wdB bf p) ?_ FU (S, nI p, nI p) (by unfold FU; omega) ⟨rfl, by omega⟩
  · obtain ⟨e, h1, rfl⟩ := this
    unfold m_risPath_L130
    exact h1
  · rintro i _ hi ⟨rfl, hir⟩
    unfold m_risPath_B130
    simp only []
    rw [h5]
    by_cases c0 : bf.length ≤ p + i
    · right
      refine ⟨_, by rw [if_pos ((nI_leI (by omega) (by omega)).mpr c0)], ?_⟩
      rw [show i = rn wdB bf p by omega]
    · have hlt : p + i < bf.length := by omega
      have hbt := byt0 hb hlt
      rw [if_neg (fun e => c0 ((nI_leI (by omega) (by omega)).mp e)), gd_ok (by omega) (by omega), cl_nI (by omega), hbt.1, pS_isWord hbt.2, ob_ok]
      by_cases hin : i < rn wdB bf p
      · left
        have := rn_in hlt hin
        refine ⟨(S, nI (p + (i + 1)), nI p), ?_, hin, rfl, by omega⟩
        rw [this, if_neg (show ¬ b2 true = 0 by decide), nI_s]
        rfl
      · right
        have e : i = rn wdB bf p := by omega
        have := rn_end (q := wdB) (bf := bf) (p := p) (by omega)
        refine ⟨_, ?_, rfl⟩
        subst e
        rw [this, if_pos (show b2 false = 0 by decide)]
theorem rP_digit (h5 : S.i 5 = nI bf.length) (hb : byts S 2 0 bf) (h8 : bf.length ≤ 8192) {p : Nat} (hp : p ≤ bf.length + 1) : m_risPath_L32 S (nI p) (nI p) = some (S, nI (p + rn dgB bf p), nI p) := by
  have hrl := rn_le (q := dgB) (bf := bf) (p := p)
  have := lp_run (body := fun w : MS × Int32 × Int32 => m_risPath_B32 w.1 w.2.1 w.2.2) (fun i w => w = (S, nI (p + i), nI p) ∧ i ≤ rn dgB bf p) (fun e => e = (S, nI (p + rn dgB bf p), nI p)) (rn dgB bf p) ?_ FU (S, nI p, nI p) (by unfold FU; omega) ⟨rfl, by omega⟩
  · obtain ⟨e, h1, rfl⟩ := this
    unfold m_risPath_L32
    exact h1
  · rintro i _ hi ⟨rfl, hir⟩
    unfold m_risPath_B32
    simp only []
    rw [h5]
    by_cases c0 : bf.length ≤ p + i
    · right
      refine ⟨_, by rw [if_pos ((nI_leI (by omega) (by omega)).mpr c0)], ?_⟩
      rw [show i = rn dgB bf p by omega]
    · have hlt : p + i < bf.length := by omega
      have hbt := byt0 hb hlt
      have hdg := sb_dgB hbt.2
      rw [if_neg (fun e => c0 ((nI_leI (by omega) (by omega)).mp e)), gd_ok (by omega) (by omega), cl_nI (by omega), hbt.1, gd_ok (by omega) (by omega)]
      by_cases hin : i < rn dgB bf p
      · left
        have := hdg.mpr (rn_in hlt hin)
        refine ⟨(S, nI (p + (i + 1)), nI p), ?_, hin, rfl, by omega⟩
        rw [if_neg this.1, if_neg this.2, nI_s]
        rfl
      · right
        have e : i = rn dgB bf p := by omega
        have := rn_end (q := dgB) (bf := bf) (p := p) (by omega)
        refine ⟨_, ?_, rfl⟩
        subst e
        by_cases c1 : sb bf[p + rn dgB bf p] < 48
        · rw [if_pos c1]
        · rw [if_neg c1]
          by_cases c2 : (57 : Int32) < sb bf[p + rn dgB bf p]
          · rw [if_pos c2]
          · rw [hdg.mp ⟨c1, c2⟩] at this
            cases this
/-- the reference's step -/
def rPv (S : MS) (x : Option Nat) : Option ((MS × Int32) ⊕ (MS ⊕ (MS × Int32))) := match x with
  | some q => some (.inl (S, nI q))
  | none => some (.inr (.inr (S, 0)))
theorem rP_key (h5 : S.i 5 = nI bf.length) (hb : byts S 2 0 bf) (h8 : bf.length ≤ 8192) {p : Nat} (hp : p ≤ bf.length + 1) : m_risPath_J128 S (nI p) = rPv S (kend bf p) := by
  have hrl := rn_le (q := wdB) (bf := bf) (p := p)
  unfold m_risPath_J128 m_risPath_J156 kend rPv
  rw [rP_word h5 hb h8 hp, ob_ok]
  simp only []
  rw [sub_nI (by omega), pS_isKey (by omega), ob_ok, show p + rn wdB bf p - p = rn wdB bf p by omega]
  by_cases c : 1 ≤ rn wdB bf p ∧ rn wdB bf p ≤ 64
  · rw [decide_eq_true c, if_neg (show ¬ b2 true = 0 by decide), if_pos c]
  · rw [decide_eq_false c, if_pos (show b2 false = 0 by decide), if_neg c]
theorem rP_index (h5 : S.i 5 = nI bf.length) (hb : byts S 2 0 bf) (h8 : bf.length ≤ 8192) {p : Nat} (hp : p ≤ bf.length) : ob (m_risPath_L32 S (nI p) (nI p)) (fun b_8 => m_risPath_J68 b_8.1 b_8.2.1 b_8.2.2) = rPv S (iend bf p) := by
  have hrl := rn_le (q := dgB) (bf := bf) (p := p)
  rw [rP_digit h5 hb h8 (by omega), ob_ok]
  simp only []
  unfold m_risPath_J68 m_risPath_J100 iend rPv
  by_cases c0 : rn dgB bf p = 0
  · rw [if_pos (by rw [c0]; rfl), if_neg (by omega)]
  · rw [if_neg (fun e => by have := (nI_eq (by omega) (by omega)).mp e; omega), sub_nI (by omega), show p + rn dgB bf p - p = rn dgB bf p by omega]
    by_cases c1 : 6 < rn dgB bf p
    · rw [if_pos (show (6 : Int32) < nI (rn dgB bf p) from (nI_ltI (a := 6) (by omega) (by omega)).mpr c1), if_neg (by omega)]
    · rw [if_neg (show ¬ (6 : Int32) < nI (rn dgB bf p) from fun e => c1 ((nI_ltI (a := 6) (by omega) (by omega)).mp e)), h5]
      by_cases c2 : p + rn dgB bf p = bf.length
      · rw [if_pos (by rw [c2]), if_neg (fun h => by rw [c2, List.getElem?_eq_none (by omega)] at h; cases h.2.2)]
      · have hlt : p + rn dgB bf p < bf.length := by omega
        have hbt := byt0 hb hlt
        rw [if_neg (fun e => c2 ((nI_eq (by omega) (by omega)).mp e)), gd_ok (by omega) (by omega), cl_nI (by omega), hbt.1, List.getElem?_eq_getElem hlt]
        have e93 := sb_eq hbt.2 (k := 93) (by omega)
        by_cases c3 : bf[p + rn dgB bf p] = 93
        · rw [if_pos (show sb _ = 93 from e93.mpr c3), if_pos ⟨by omega, by omega, by rw [c3]⟩, nI_s]
        · rw [if_neg (show ¬ sb _ = 93 from fun e => c3 (e93.mp e)), if_neg (fun h => c3 (Option.some.inj h.2.2))]
theorem rP_step (h5 : S.i 5 = nI bf.length) (hb : byts S 2 0 bf) (h8 : bf.length ≤ 8192) {p : Nat} (hp : p < bf.length) : m_risPath_B2 S (nI p) = rPv S (stp bf p) := by
  have hbt := byt0 hb hp
  have e91 := sb_eq hbt.2 (k := 91) (by omega)
  have e46 := sb_eq hbt.2 (k := 46) (by omega)
  unfold m_risPath_B2 stp
  rw [h5, if_neg (nle hp (by omega)), gd_ok (by omega) (by omega), cl_nI (by omega), hbt.1, List.getElem?_eq_getElem hp]
  by_cases c0 : p = 0
  · rw [if_pos c0]
    by_cases c1 : sb bf[p] = 91
    · rw [if_pos c1, if_pos (by rw [c0]; rfl)]
      have hw : rn wdB bf 0 = 0 := by
        have hb91 : bf[0]'(by omega) = 91 := by
          have := e91.mp c1
          simp only [c0] at this
          exact this
        rcases Nat.eq_zero_or_pos (rn wdB bf 0) with h | h
        · exact h
        · have := rn_in (q := wdB) (bf := bf) (p := 0) (j := 0) (by omega) h
          simp only [Nat.add_zero, hb91] at this
          exact absurd this (by decide)
      unfold kend rPv
      rw [hw, if_neg (by omega)]
    · rw [if_neg c1, if_pos (by rw [c0]; decide), c0]
      exact rP_key h5 hb h8 (p := 0) (by omega)
  · rw [if_neg c0]
    by_cases c1 : sb bf[p] = 91
    · rw [if_pos c1, if_neg (show ¬ nI p = 0 from fun e => c0 ((nI_eq (b := 0) (by omega) (by omega)).mp e)), nI_s, if_neg (fun h => by have h1 := Option.some.inj h; rw [e91.mp c1] at h1; omega), if_pos (by rw [e91.mp c1])]
      exact rP_index h5 hb h8 (by omega)
    · rw [if_neg c1, if_neg (show ¬ nI p ≤ 0 from fun e => c0 (by have := (nI_leI (b := 0) (by omega) (by omega)).mp e; omega)), gd_ok (by omega) (by omega), nI_s]
      by_cases c2 : sb bf[p] = 46
      · rw [if_pos c2, if_pos (by rw [e46.mp c2])]
        exact rP_key h5 hb h8 (by omega)
      · rw [if_neg c2, if_neg (fun h => c2 (e46.mpr (Option.some.inj h))), if_neg (fun h => c1 (e91.mpr (Option.some.inj h)))]
        rfl
theorem pS_isPath (h5 : S.i 5 = nI bf.length) (hb : byts S 2 0 bf) (h8 : bf.length ≤ 8192) : m_risPath S = some (S, b2 (decide (0 < bf.length) && pok bf (bf.length + 1) 0)) := by
  have := lp_run (body := fun w : MS × Int32 => m_risPath_B2 w.1 w.2) (fun i w => ∃ p, w = (S, nI p) ∧ i ≤ p ∧ p ≤ bf.length ∧ pok bf (bf.length + 1 - i) p = pok bf (bf.length + 1) 0) (fun e => (e = .inl S ∧ pok bf (bf.length + 1) 0 = true) ∨ (e = .inr (S, 0) ∧ pok bf (bf.length + 1) 0 = false)) bf.length ?_ FU (S, nI 0) (by unfold FU; omega) ⟨0, rfl, by omega, by omega, rfl⟩
  · obtain ⟨e, h1, h2⟩ := this
    have h1' : m_risPath_L2 S 0 = some e := by unfold m_risPath_L2; exact h1
    unfold m_risPath m_risPath_J0 m_risPath_J182
    rw [h1']
    rcases h2 with ⟨rfl, hR⟩ | ⟨rfl, hR⟩
    · rw [oe_l, h5, hR, Bool.and_true]
      by_cases c0 : bf.length = 0
      · rw [if_pos (by rw [c0]; decide), if_pos (Or.inl rfl), show decide (0 < bf.length) = false from decide_eq_false (by omega)]
        rfl
      · rw [if_neg (fun e => by have := (nI_leI (b := 0) (by omega) (by omega)).mp e; omega), if_pos (Or.inr rfl), show decide (0 < bf.length) = true from decide_eq_true (by omega)]
        rfl
    · rw [oe_r, hR, Bool.and_false]
      rfl
  · rintro i _ hi ⟨p, rfl, hip, hpl, hpk⟩
    rw [show bf.length + 1 - i = (bf.length - i) + 1 by omega, pok_s] at hpk
    by_cases c1 : bf.length ≤ p
    · right
      rw [if_pos c1] at hpk
      refine ⟨.inl S, ?_, Or.inl ⟨rfl, hpk.symm⟩⟩
      unfold m_risPath_B2
      rw [h5, if_pos ((nI_leI (by omega) (by omega)).mpr c1)]
    · rw [if_neg c1] at hpk
      show (∃ a', m_risPath_B2 S (nI p) = _ ∧ _) ∨ (∃ e, m_risPath_B2 S (nI p) = _ ∧ _)
      rw [rP_step h5 hb h8 (by omega)]
      unfold rPv
      cases hs : stp bf p with
      | none =>
        rw [hs] at hpk
        right
        exact ⟨_, rfl, Or.inr ⟨rfl, hpk.symm⟩⟩
      | some q =>
        rw [hs] at hpk
        left
        have := stp_lt hs
        exact ⟨_, rfl, by omega, q, rfl, by omega, this.2 (by omega), by rw [show bf.length + 1 - (i + 1) = bf.length - i by omega]; exact hpk⟩
end FDC
