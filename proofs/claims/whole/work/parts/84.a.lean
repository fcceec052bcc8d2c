/-! FIND: bytes of a path. -/
set_option maxRecDepth 4000 in
theorem sb_lo : ∀ b, b < 128 → sb b = nI b := by decide
set_option maxRecDepth 8000 in
theorem sb_hi' : ∀ b, b < 128 → sb (b + 128) < 0 := by decide
theorem sb_hi {b : Nat} (h1 : 128 ≤ b) (h2 : b < 256) : sb b < 0 := by
  have := sb_hi' (b - 128) (by omega)
  rw [show b - 128 + 128 = b by omega] at this
  exact this
def dgB (b : Nat) : Bool := decide (48 ≤ b) && decide (b ≤ 57)
def wdB (b : Nat) : Bool := dgB b || decide (b = 95) || (decide (97 ≤ b) && decide (b ≤ 122)) || (decide (65 ≤ b) && decide (b ≤ 90))
/-- how long what q holds of goes on at the beginning -/
def rl (q : Nat → Bool) : List Nat → Nat
  | [] => 0
  | b :: l => if q b = true then rl q l + 1 else 0
theorem rl_le {q : Nat → Bool} : ∀ {l : List Nat}, rl q l ≤ l.length := by
  intro l
  induction l with
  | nil => exact Nat.le_refl _
  | cons b l ih => rw [rl]; split <;> simp <;> omega
theorem rl_in {q : Nat → Bool} : ∀ {l : List Nat} {j : Nat} (h : j < l.length), j < rl q l → q l[j] = true := by
  intro l
  induction l with
  | nil => intro j h; cases h
  | cons b l ih =>
    intro j h hj
    rw [rl] at hj
    split at hj
    · rename_i e
      cases j with
      | zero => exact e
      | succ j => exact ih (by simpa using h) (by omega)
    · omega
theorem rl_end {q : Nat → Bool} : ∀ {l : List Nat} (h : rl q l < l.length), q l[rl q l] = false := by
  intro l
  induction l with
  | nil => intro h; cases h
  | cons b l ih =>
    intro h
    by_cases e : q b = true
    · have e1 : rl q (b :: l) = rl q l + 1 := by rw [rl, if_pos e]
      simp only [e1]
      exact ih (by rw [e1] at h; simpa using h)
    · have e1 : rl q (b :: l) = 0 := by rw [rl, if_neg e]
      simp only [e1]
      cases hb : q b with
      | false => exact hb
      | true => exact absurd hb e
/-- the run from p on -/
def rn (q : Nat → Bool) (bf : List Nat) (p : Nat) : Nat := rl q (bf.drop p)
theorem rn_le {q : Nat → Bool} {bf : List Nat} {p : Nat} : rn q bf p ≤ bf.length - p := by
  unfold rn
  have := rl_le (q := q) (l := bf.drop p)
  rw [List.length_drop] at this
  exact this
theorem rn_in {q : Nat → Bool} {bf : List Nat} {p j : Nat} (h : p + j < bf.length) (hj : j < rn q bf p) : q bf[p + j] = true := by
  have := rl_in (q := q) (l := bf.drop p) (j := j) (by rw [List.length_drop]; omega) hj
  rw [List.getElem_drop] at this
  exact this
theorem rn_end {q : Nat → Bool} {bf : List Nat} {p : Nat} (h : p + rn q bf p < bf.length) : q bf[p + rn q bf p] = false := by
  have := rl_end (q := q) (l := bf.drop p) (by rw [List.length_drop]; unfold rn at h; omega)
  rw [List.getElem_drop] at this
  exact this
def kend (bf : List Nat) (p : Nat) : Option Nat := if 1 ≤ rn wdB bf p ∧ rn wdB bf p ≤ 64 then some (p + rn wdB bf p) else none
def iend (bf : List Nat) (p : Nat) : Option Nat := if 1 ≤ rn dgB bf p ∧ rn dgB bf p ≤ 6 ∧ bf[p + rn dgB bf p]? = some 93 then some (p + rn dgB bf p + 1) else none
def stp (bf : List Nat) (p : Nat) : Option Nat := if p = 0 then kend bf 0 else if bf[p]? = some 46 then kend bf (p + 1) else if bf[p]? = some 91 then iend bf (p + 1) else none
theorem stp_lt {bf : List Nat} {p q : Nat} (h : stp bf p = some q) : p < q ∧ (p ≤ bf.length → q ≤ bf.length) := by
  unfold stp at h
  have hk : ∀ {p q : Nat}, kend bf p = some q → p < q ∧ (p ≤ bf.length → q ≤ bf.length) := by
    intro p q h
    unfold kend at h
    split at h
    · have := rn_le (q := wdB) (bf := bf) (p := p)
      have := Option.some.inj h
      exact ⟨by omega, fun _ => by omega⟩
    · cases h
  have hi : ∀ {p q : Nat}, iend bf p = some q → p < q ∧ q ≤ bf.length := by
    intro p q h
    unfold iend at h
    split at h
    · rename_i hc
      have h2 := Option.some.inj h
      have h3 : p + rn dgB bf p < bf.length := by
        rcases Nat.lt_or_ge (p + rn dgB bf p) bf.length with h | h
        · exact h
        · rw [List.getElem?_eq_none h] at hc; cases hc.2.2
      exact ⟨by omega, by omega⟩
    · cases h
  split at h
  · rename_i e
    rw [e]
    exact hk h
  · split at h
    · rename_i e
      have h1 : p < bf.length := by
        rcases Nat.lt_or_ge p bf.length with h | h
        · exact h
        · rw [List.getElem?_eq_none h] at e; cases e
      have := hk h
      exact ⟨by omega, fun _ => this.2 (by omega)⟩
    · split at h
      · have := hi h
        exact ⟨by omega, fun _ => this.2⟩
      · cases h
section FDA
variable {S S' : MS} {N : Nat → Nat} {C C' : CS} {A : AS} {r rd : Nat} {bf : List Nat} {jf : Nat}
theorem pS_isWord {b : Nat} (hb : b < 256) : m_risWord S (sb b) = some (S, b2 (wdB b)) := by
  unfold m_risWord m_risWord_J0 m_risWord_J12 m_risWord_J24 m_risWord_J36 m_risWord_J42 m_risWord_J47
  unfold wdB dgB
  by_cases h : b < 128
  · rw [sb_lo b h]
    have l : ∀ k, k < 128 → ((nI b < nI k) ↔ b < k) := fun k hk => nI_ltI (by omega) (by omega)
    have e : ∀ k, k < 128 → ((nI b ≤ nI k) ↔ b ≤ k) := fun k hk => nI_leI (by omega) (by omega)
    have q : (nI b = 95) ↔ b = 95 := nI_eq (b := 95) (by omega) (by omega)
    rw [show (97 : Int32) = nI 97 from by decide, show (65 : Int32) = nI 65 from by decide, show (48 : Int32) = nI 48 from by decide, show (122 : Int32) = nI 122 from by decide, show (90 : Int32) = nI 90 from by decide, show (57 : Int32) = nI 57 from by decide]
    simp only [l 97 (by omega), l 65 (by omega), l 48 (by omega), e 122 (by omega), e 90 (by omega), e 57 (by omega), q]
    by_cases c1 : b < 97
    · rw [if_pos c1]
      by_cases c2 : b < 65
      · rw [if_pos c2]
        by_cases c3 : b < 48
        · rw [if_pos c3, if_neg (by omega)]
          simp [show ¬ 48 ≤ b by omega, show ¬ b = 95 by omega, show ¬ 97 ≤ b by omega, show ¬ 65 ≤ b by omega, b2]
        · rw [if_neg c3]
          by_cases c4 : b ≤ 57
          · rw [if_pos c4]
            simp [show 48 ≤ b by omega, c4, b2]
          · rw [if_neg c4, if_neg (by omega)]
            simp [show ¬ b ≤ 57 by omega, show ¬ b = 95 by omega, show ¬ 97 ≤ b by omega, show ¬ 65 ≤ b by omega, b2]
      · rw [if_neg c2]
        by_cases c3 : b ≤ 90
        · rw [if_pos c3]
          simp [show 65 ≤ b by omega, c3, b2]
        · rw [if_neg c3, if_neg (by omega), if_neg (by omega)]
          by_cases c4 : b = 95
          · rw [if_pos c4]; simp [c4, b2]
          · rw [if_neg c4]
            simp [show ¬ b ≤ 57 by omega, c4, show ¬ 97 ≤ b by omega, show ¬ b ≤ 90 by omega, b2]
    · rw [if_neg c1]
      by_cases c2 : b ≤ 122
      · rw [if_pos c2]
        simp [show 97 ≤ b by omega, c2, b2]
      · rw [if_neg c2, if_neg (by omega), if_neg (by omega), if_neg (by omega), if_neg (by omega), if_neg (by omega)]
        simp [show ¬ b ≤ 57 by omega, show ¬ b = 95 by omega, show ¬ b ≤ 122 by omega, show ¬ b ≤ 90 by omega, b2]
  · have h0 := sb_hi (by omega) hb
    have lt : ∀ {y : Int32}, (0 : Int32) ≤ y → sb b < y := fun hy => Int32.lt_of_lt_of_le h0 hy
    rw [if_pos (lt (by decide)), if_pos (lt (by decide)), if_pos (lt (by decide)), if_neg (fun e => by rw [e] at h0; exact absurd h0 (by decide))]
    simp [show ¬ b ≤ 57 by omega, show ¬ b = 95 by omega, show ¬ b ≤ 122 by omega, show ¬ b ≤ 90 by omega, b2]
def qAt (q : Nat → Bool) (bf : List Nat) (p : Nat) : Bool := match bf[p]? with
  | some b => q b
  | none => false
/-- what at answers: the byte, or -1 -/
def atI (bf : List Nat) (p : Nat) : Int32 := match bf[p]? with
  | some b => nI b
  | none => -nI 1
theorem cR_atI (h5 : N 5 = 7) (h13 : N 13 = 7) (hw : RW C jf bf.length) (hb : RB C jf 0 bf) {p : Nat} (hp : p < 2 ^ 31) : m_cRw_at N jf C (nI p) = some (C, atI bf p) := by
  unfold atI
  by_cases h : p < bf.length
  · have := cR_atB h5 h13 hw hb (by omega) h
    rw [Nat.zero_add] at this
    rw [this, List.getElem?_eq_getElem h]
  · rw [cR_out h5 hw (by omega) hp, List.getElem?_eq_none (by omega)]
theorem cJ_isDigit {b : Nat} (hb : b < 256) : m_cJT_isDigit N C (nI b) = some (C, b2 (dgB b)) := by
  unfold m_cJT_isDigit m_cJT_isDigit_J0 m_cJT_isDigit_J16 m_cJT_isDigit_J17 dgB
  by_cases c1 : b < 48
  · rw [if_pos (show nI b < 48 from (nI_ltI (b := 48) (by omega) (by omega)).mpr c1)]
    simp [show ¬ 48 ≤ b by omega, b2]
  · rw [if_neg (show ¬ nI b < 48 from fun h => c1 ((nI_ltI (b := 48) (by omega) (by omega)).mp h))]
    by_cases c2 : 57 < b
    · rw [if_pos (show (57 : Int32) < nI b from (nI_ltI (a := 57) (by omega) (by omega)).mpr c2)]
      simp [show ¬ b ≤ 57 by omega, b2]
    · rw [if_neg (show ¬ (57 : Int32) < nI b from fun h => c2 ((nI_ltI (a := 57) (by omega) (by omega)).mp h))]
      simp [show 48 ≤ b by omega, show b ≤ 57 by omega, b2]
theorem cJ_isPathSign {b : Nat} (hb : b < 256) : m_cJT_isPathSign N C (nI b) = some (C, b2 (wdB b)) := by
  unfold m_cJT_isPathSign m_cJT_isPathSign_J0 m_cJT_isPathSign_J25 m_cJT_isPathSign_J37 m_cJT_isPathSign_J41 m_cJT_isPathSign_J42
  rw [cJ_isDigit hb, ob_ok]
  unfold wdB
  cases hd : dgB b with
  | true => rw [if_neg (show ¬ b2 true = 0 by decide)]; simp [b2]
  | false =>
    rw [if_pos (show b2 false = 0 by decide)]
    have l : ∀ k, k < 128 → ((nI b < nI k) ↔ b < k) := fun k hk => nI_ltI (by omega) (by omega)
    have e : ∀ k, k < 128 → ((nI b ≤ nI k) ↔ b ≤ k) := fun k hk => nI_leI (by omega) (by omega)
    have g : (nI 90 < nI b) ↔ 90 < b := nI_ltI (by omega) (by omega)
    have q : (nI b = 95) ↔ b = 95 := nI_eq (b := 95) (by omega) (by omega)
    rw [show (97 : Int32) = nI 97 from by decide, show (65 : Int32) = nI 65 from by decide, show (122 : Int32) = nI 122 from by decide, show (90 : Int32) = nI 90 from by decide]
    simp only [l 97 (by omega), l 65 (by omega), e 122 (by omega), g, q]
    by_cases c0 : b = 95
    · rw [if_pos c0]; simp [c0, b2]
    · rw [if_neg c0]
      by_cases c1 : b < 97
      · rw [if_pos c1]
        by_cases c2 : b < 65
        · rw [if_pos c2]; simp [c0, show ¬ 97 ≤ b by omega, show ¬ 65 ≤ b by omega, b2]
        · rw [if_neg c2]
          by_cases c3 : 90 < b
          · rw [if_pos c3]; simp [c0, show ¬ 97 ≤ b by omega, show ¬ b ≤ 90 by omega, b2]
          · rw [if_neg c3]; simp [show 65 ≤ b by omega, show b ≤ 90 by omega, b2]
      · rw [if_neg c1]
        by_cases c2 : b ≤ 122
        · rw [if_pos c2]; simp [show 97 ≤ b by omega, c2, b2]
        · rw [if_neg c2, if_neg (by omega), if_pos (by omega)]
          simp [c0, show ¬ b ≤ 122 by omega, show ¬ b ≤ 90 by omega, b2]
theorem cJ_psAt (hb : ∀ i (h : i < bf.length), bf[i] < 256) {p : Nat} : m_cJT_isPathSign N C (atI bf p) = some (C, b2 (qAt wdB bf p)) := by
  unfold atI qAt
  by_cases h : p < bf.length
  · rw [List.getElem?_eq_getElem h]
    exact cJ_isPathSign (hb p h)
  · rw [List.getElem?_eq_none (by omega)]
    rfl
theorem cJ_dgAt (hb : ∀ i (h : i < bf.length), bf[i] < 256) {p : Nat} : m_cJT_isDigit N C (atI bf p) = some (C, b2 (qAt dgB bf p)) := by
  unfold atI qAt
  by_cases h : p < bf.length
  · rw [List.getElem?_eq_getElem h]
    exact cJ_isDigit (hb p h)
  · rw [List.getElem?_eq_none (by omega)]
    rfl
end FDA
