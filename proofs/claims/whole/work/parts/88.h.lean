/-! JSON: numbers. -/
/-- where the digits begin -/
def numP (bs : List Nat) (p : Nat) : Nat := if atI bs p = 45 then p + 1 else p
/-- how many may stand there -/
def numM (bs : List Nat) (p : Nat) : Nat := if atI bs p = 48 then 1 else 18
def numQ (bs : List Nat) (p : Nat) : Nat × Int64 := numR bs (numM bs (numP bs p)) (numP bs p) 0
def numV (bs : List Nat) (p : Nat) : Int64 := if atI bs p = 45 then -(numQ bs p).2 else (numQ bs p).2
section JSH
variable {S S' : MS} {N : Nat → Nat} {C C' : CS} {p : Nat} {js : Nat} {bs d : List Nat}
theorem numR_le : ∀ k p x, p ≤ bs.length → (numR bs k p x).1 ≤ bs.length ∧ p ≤ (numR bs k p x).1 := by
  intro k
  induction k with
  | zero => intro p x hp; exact ⟨hp, Nat.le_refl _⟩
  | succ k ih =>
    intro p x hp
    unfold numR
    split
    · rename_i h
      have := isD_lt h
      obtain ⟨i1, i2⟩ := ih (p + 1) (x * 10 + (atI bs p).toInt64 - 48) (by omega)
      exact ⟨i1, by omega⟩
    · exact ⟨hp, Nat.le_refl _⟩
theorem numP_le (hp : p ≤ bs.length) : numP bs p ≤ bs.length ∧ p ≤ numP bs p := by
  unfold numP
  split
  · rename_i h
    have := at_ge h (by decide)
    exact ⟨this, by omega⟩
  · exact ⟨hp, Nat.le_refl _⟩
theorem numQ_le (hp : p ≤ bs.length) : (numQ bs p).1 ≤ bs.length ∧ numP bs p ≤ (numQ bs p).1 ∧ (isD bs (numP bs p) = true → numP bs p < (numQ bs p).1) := by
  have h1 := numP_le hp
  unfold numQ
  obtain ⟨g1, g2⟩ := numR_le (bs := bs) (numM bs (numP bs p)) (numP bs p) 0 h1.1
  refine ⟨g1, g2, fun hd => ?_⟩
  have : ∃ k, numM bs (numP bs p) = k + 1 := by
    unfold numM; split
    · exact ⟨0, rfl⟩
    · exact ⟨17, rfl⟩
  obtain ⟨k, hk⟩ := this
  rw [hk]
  unfold numR
  rw [if_pos hd]
  have := isD_lt hd
  have := (numR_le (bs := bs) k (numP bs p + 1) (0 * 10 + (atI bs (numP bs p)).toInt64 - 48) (by omega)).2
  omega
theorem c_dig (hb : ∀ i (hi : i < bs.length), bs[i] < 256) (C : CS) : m_cJT_isDigit N C (atI bs p) = some (C, b2 (isD bs p)) := by
  have := isD_at (p := p) hb
  unfold m_cJT_isDigit m_cJT_isDigit_J0 m_cJT_isDigit_J16 m_cJT_isDigit_J17
  by_cases c : isD bs p = true
  · rw [if_neg (this.mp c).1, if_neg (this.mp c).2, c]; rfl
  · have c' : isD bs p = false := by cases h : isD bs p with
      | true => exact absurd h c
      | false => rfl
    rw [c']
    by_cases c1 : atI bs p < 48
    · rw [if_pos c1]; rfl
    · rw [if_neg c1]
      by_cases c2 : (57 : Int32) < atI bs p
      · rw [if_pos c2]; rfl
      · exact absurd (this.mpr ⟨c1, c2⟩) c
theorem c_num (h : CT N C js bs p) {v : Nat} (hv : v < 500) : m_cRd_readNumber N 0 C v = some (if isD bs (numP bs p) = true then (((C.setI 9 0 v 3).setI 1 4 0 (nI (numQ bs p).1)).setL 9 1 v (numV bs p), 1) else ((C.setI 9 0 v 3).setI 1 4 0 (nI (numP bs p)), 0)) := by
  have hb := h.b
  have hN := h.1
  have h8 := h.2.2.2.2.1
  have hjs := h.2.2.1.1
  have hpl := h.2.2.2.2.2.2
  have hT0 : CT N (C.setI 9 0 v 3) js bs p := by
    obtain ⟨h1, h2, h3, h4, h5, h6, h7⟩ := h
    exact ⟨h1, h2, ⟨h3.1, h3.2.1, by rw [CS.i_setI, if_neg (by omega)]; exact h3.2.2.1, h3.2.2.2⟩, h4, h5, by rw [CS.i_setI, if_neg (by omega)]; exact h6, h7⟩
  have h4i : C.i 1 4 0 = (C.setI 9 0 v 3).i 1 4 0 := by rw [CS.i_setI, if_neg (by omega)]
  unfold m_cRd_readNumber m_cRd_readNumber_J0
  rw [gl_ok (by omega), gl_ok (by omega), h.2.1.1, gn_s (by omega), h4i, hT0.at, ob_ok]
  simp only []
  clear h4i
  generalize C.setI 9 0 v 3 = D at *
  have hself : D.setI 1 4 0 (nI p) = D := by
    apply CS_ext <;> intros <;> try rfl
    rw [CS.i_setI]
    split
    · rename_i e; rw [e.1, e.2.1, e.2.2]; exact hT0.2.2.2.2.2.1.symm
    · rfl
  have hP := numP_le (bs := bs) hpl
  have hJ41 : ∀ x2 : Int32, (x2 = 0 ↔ ¬ atI bs p = 45) → m_cRd_readNumber_J41 N 0 (D.setI 1 4 0 (nI (numP bs p))) (some v) x2 = some (if isD bs (numP bs p) = true then ((D.setI 1 4 0 (nI (numQ bs p).1)).setL 9 1 v (numV bs p), 1) else (D.setI 1 4 0 (nI (numP bs p)), 0)) := by
    intro x2 hx2
    have hT := hT0.set (q := numP bs p) hP.1
    unfold m_cRd_readNumber_J41
    rw [gl_ok (by omega), hT.2.1.1, gn_s (by omega), hT.at, ob_ok]
    simp only []
    rw [c_dig hb, ob_ok]
    simp only []
    by_cases hd : isD bs (numP bs p) = true
    · rw [hd, if_neg (show ¬ b2 true = 0 by decide), if_pos rfl, hT.2.1.1, gn_s (by omega), hT.at, ob_ok]
      simp only []
      have hloop : ∀ (m : Nat), m ≤ 18 → ∃ e, m_cRd_readNumber_L89 N 0 (D.setI 1 4 0 (nI (numP bs p))) (some v) x2 (nI m) 0 0 = some e ∧ e = (D.setI 1 4 0 (nI (numR bs m (numP bs p) 0).1), some v, x2, (numR bs m (numP bs p) 0).2) := by
        intro m hm
        generalize hR : numR bs m (numP bs p) 0 = R
        unfold m_cRd_readNumber_L89
        refine lp_run (body := fun a : CS × Option Nat × Int32 × Int32 × Int64 × Int32 => m_cRd_readNumber_B89 N 0 a.1 a.2.1 a.2.2.1 a.2.2.2.1 a.2.2.2.2.1 a.2.2.2.2.2)
          (fun i u => i ≤ m ∧ ∃ x, u = (D.setI 1 4 0 (nI (numP bs p + i)), some v, x2, nI m, x, nI i) ∧ numP bs p + i ≤ bs.length ∧ numR bs (m - i) (numP bs p + i) x = R)
          (fun e => e = (D.setI 1 4 0 (nI R.1), some v, x2, R.2)) m ?_ FU _ (by unfold FU; omega) ⟨Nat.zero_le _, 0, rfl, hP.1, hR⟩
        rintro i _ hi ⟨him, x, rfl, hpi, hS⟩
        have hTi := hT0.set (q := numP bs p + i) hpi
        by_cases ci : i = m
        · right
          subst ci
          rw [Nat.sub_self] at hS
          unfold numR at hS
          subst hS
          refine ⟨_, ?_, rfl⟩
          show m_cRd_readNumber_B89 N 0 (D.setI 1 4 0 (nI (numP bs p + i))) (some v) x2 (nI i) x (nI i) = _
          unfold m_cRd_readNumber_B89
          rw [if_pos ((nI_leI (by omega) (by omega)).mpr (Nat.le_refl _))]
        · have hlt : i < m := by omega
          rw [show m - i = m - (i + 1) + 1 by omega] at hS
          unfold numR at hS
          have hB : m_cRd_readNumber_B89 N 0 (D.setI 1 4 0 (nI (numP bs p + i))) (some v) x2 (nI m) x (nI i) = (if b2 (isD bs (numP bs p + i)) = 0 then some (.inr (D.setI 1 4 0 (nI (numP bs p + i)), some v, x2, x)) else some (.inl (D.setI 1 4 0 (nI (numP bs p + (i + 1))), some v, x2, nI m, x * 10 + (atI bs (numP bs p + i)).toInt64 - 48, nI (i + 1)))) := by
            unfold m_cRd_readNumber_B89
            rw [if_neg (nle hlt (by omega)), gl_ok (by omega), hTi.2.1.1, gn_s (by omega), hTi.at, ob_ok]
            simp only []
            rw [c_dig hb, ob_ok]
            simp only []
            rw [hTi.2.1.1, gn_s (by omega), hTi.at, ob_ok]
            simp only []
            rw [hTi.next, set_at, nI_s, Int64.mul_comm]
            rfl
          by_cases c : isD bs (numP bs p + i) = true
          · left
            rw [c, if_neg (show ¬ b2 true = 0 by decide)] at hB
            rw [if_pos c] at hS
            have := isD_lt c
            exact ⟨_, hB, hlt, hlt, _, rfl, by omega, hS⟩
          · right
            have c' : isD bs (numP bs p + i) = false := by cases h : isD bs (numP bs p + i) with
              | true => exact absurd h c
              | false => rfl
            rw [c', if_pos (show b2 false = 0 from rfl)] at hB
            rw [if_neg c] at hS
            subst hS
            exact ⟨_, hB, rfl⟩
      have hfin : ∀ m : Nat, m ≤ 18 → numM bs (numP bs p) = m → m_cRd_readNumber_J82 N 0 (D.setI 1 4 0 (nI (numP bs p))) (some v) x2 (nI m) = some ((D.setI 1 4 0 (nI (numQ bs p).1)).setL 9 1 v (numV bs p), 1) := by
        intro m hm hme
        obtain ⟨e, k1, k2⟩ := hloop m hm
        unfold m_cRd_readNumber_J82 m_cRd_readNumber_J153 m_cRd_readNumber_J166 numV numQ
        rw [k1, k2, ob_ok, hme]
        simp only []
        by_cases c : atI bs p = 45
        · rw [if_neg (fun g => hx2.mp g c), if_pos c, gn_s (by omega)]
        · rw [if_pos (hx2.mpr c), if_neg c, gn_s (by omega)]
      by_cases c48 : atI bs (numP bs p) = 48
      · rw [if_pos c48]
        exact hfin 1 (by omega) (by unfold numM; rw [if_pos c48])
      · rw [if_neg c48]
        exact hfin 18 (by omega) (by unfold numM; rw [if_neg c48])
    · have c' : isD bs (numP bs p) = false := by cases h : isD bs (numP bs p) with
        | true => exact absurd h hd
        | false => rfl
      rw [c', if_pos (show b2 false = 0 from rfl), if_neg (by decide)]
  unfold m_cRd_readNumber_J26
  by_cases c : atI bs p = 45
  · have := hJ41 1 (by constructor <;> intro g; exact absurd g (by decide); exact absurd c g)
    rw [if_pos c, if_neg (show ¬ (1 : Int32) = 0 by decide), gl_ok (by omega), hT0.next, ← this]
    unfold numP
    rw [if_pos c]
  · have := hJ41 0 (by constructor <;> intro g; exact c; rfl)
    rw [if_neg c, if_pos rfl, ← this]
    unfold numP
    rw [if_neg c, hself]
theorem s_num (h : ST S bs p) (h0 : S.i 68 = 0) {v : Nat} (hv : v < 501) : m_rdigits S (nI v) = some (if isD bs (numP bs p) = true ∧ isD bs (numQ bs p).1 = false then ((S.setI 66 (nI (numQ bs p).1)).setA 53 (upd (S.a 53) v 3)).setN 61 (vp_updL (S.n 61) v (numV bs p)) else (S.setI 66 (nI (if isD bs (numP bs p) = true then (numQ bs p).1 else numP bs p))).setI 68 1) := by
  have hb := h.b
  have h8 := h.2.2.1
  have hpl := h.2.2.2.2
  have hself : S.setI 66 (nI p) = S := by rw [← h.2.2.2.1, MS.setI_self]
  have hP := numP_le (bs := bs) hpl
  have hJ29 : ∀ x2 : Int32, (x2 = 0 ↔ ¬ atI bs p = 45) → m_rdigits_J29 (S.setI 66 (nI (numP bs p))) (nI v) x2 = some (if isD bs (numP bs p) = true ∧ isD bs (numQ bs p).1 = false then ((S.setI 66 (nI (numQ bs p).1)).setA 53 (upd (S.a 53) v 3)).setN 61 (vp_updL (S.n 61) v (numV bs p)) else (S.setI 66 (nI (if isD bs (numP bs p) = true then (numQ bs p).1 else numP bs p))).setI 68 1) := by
    intro x2 hx2
    have hT := h.set (q := numP bs p) hP.1
    have hda := isD_at (p := numP bs p) hb
    unfold m_rdigits_J29
    simp only [hT.sign, ob_ok]
    by_cases hd : isD bs (numP bs p) = true
    · obtain ⟨d1, d2⟩ := hda.mp hd
      rw [if_neg d1, if_pos (Int32.not_lt.mp d2)]
      simp only [hd, true_and, if_true]
      have hloop : ∀ (m : Nat) (x6 : Int32), (m = 18 ∧ x6 = 0 ∨ m = 1 ∧ x6 = 1) → ∃ e, m_rdigits_L74 (S.setI 66 (nI (numP bs p))) (nI v) x2 0 0 x6 = some e ∧ e = (if isD bs (numR bs m (numP bs p) 0).1 = true then .inr ((S.setI 66 (nI (numR bs m (numP bs p) 0).1)).setI 68 1) else .inl (S.setI 66 (nI (numR bs m (numP bs p) 0).1), nI v, x2, (numR bs m (numP bs p) 0).2)) := by
        intro m x6 hm
        have hm18 : m ≤ 18 := by omega
        generalize hR : numR bs m (numP bs p) 0 = R
        unfold m_rdigits_L74
        refine lp_run (body := fun a : MS × Int32 × Int32 × Int32 × Int64 × Int32 => m_rdigits_B74 a.1 a.2.1 a.2.2.1 a.2.2.2.1 a.2.2.2.2.1 a.2.2.2.2.2)
          (fun i u => i ≤ m ∧ ∃ x, u = (S.setI 66 (nI (numP bs p + i)), nI v, x2, nI i, x, x6) ∧ numP bs p + i ≤ bs.length ∧ numR bs (m - i) (numP bs p + i) x = R)
          (fun e => e = (if isD bs R.1 = true then .inr ((S.setI 66 (nI R.1)).setI 68 1) else .inl (S.setI 66 (nI R.1), nI v, x2, R.2))) m ?_ FU _ (by unfold FU; omega) ⟨Nat.zero_le _, 0, rfl, hP.1, hR⟩
        rintro i _ hi ⟨him, x, rfl, hpi, hS⟩
        have hTi := h.set (q := numP bs p + i) hpi
        have hdi := isD_at (p := numP bs p + i) hb
        show (∃ a', m_rdigits_B74 (S.setI 66 (nI (numP bs p + i))) (nI v) x2 (nI i) x x6 = _ ∧ _) ∨ (∃ e, m_rdigits_B74 (S.setI 66 (nI (numP bs p + i))) (nI v) x2 (nI i) x x6 = _ ∧ _)
        by_cases c : isD bs (numP bs p + i) = true
        · obtain ⟨d1, d2⟩ := hdi.mp c
          have hB : m_rdigits_B74 (S.setI 66 (nI (numP bs p + i))) (nI v) x2 (nI i) x x6 = (if i = m then some (.inr (.inr ((S.setI 66 (nI (numP bs p + i))).setI 68 1))) else some (.inl (S.setI 66 (nI (numP bs p + (i + 1))), nI v, x2, nI (i + 1), x * 10 + (atI bs (numP bs p + i)).toInt64 - 48, x6))) := by
            have hJ : m_rdigits_J114 (S.setI 66 (nI (numP bs p + i))) (nI v) x2 (nI i) x x6 = some (.inl (S.setI 66 (nI (numP bs p + (i + 1))), nI v, x2, nI (i + 1), x * 10 + (atI bs (numP bs p + i)).toInt64 - 48, x6)) := by
              unfold m_rdigits_J114
              rw [hTi.sign, ob_ok]
              simp only []
              rw [hTi.next, MS.setI_setI, nI_s]
              rfl
            unfold m_rdigits_B74
            simp only [hTi.sign, ob_ok]
            rw [if_neg d1, if_neg d2, hJ]
            unfold m_rdigits_J108
            have e18 : (nI i = 18) ↔ i = 18 := nI_eq (b := 18) (by omega) (by omega)
            have e1 : (nI i = 1) ↔ i = 1 := nI_eq (b := 1) (by omega) (by omega)
            rcases hm with ⟨m1, m2⟩ | ⟨m1, m2⟩
            · by_cases c18 : i = 18
              · rw [if_pos (e18.mpr c18), if_pos (by omega)]
              · rw [if_neg (fun g => c18 (e18.mp g)), if_pos m2, if_neg (by omega)]
            · rw [if_neg (fun g => by have := e18.mp g; omega), if_neg (by rw [m2]; decide)]
              by_cases c1 : i = 1
              · rw [if_pos (e1.mpr c1), if_pos (by omega)]
              · rw [if_neg (fun g => c1 (e1.mp g)), if_neg (by omega)]
          by_cases ci : i = m
          · right
            rw [if_pos ci] at hB
            subst ci
            rw [Nat.sub_self] at hS
            unfold numR at hS
            subst hS
            exact ⟨_, hB, by rw [if_pos c]⟩
          · left
            rw [if_neg ci] at hB
            rw [show m - i = m - (i + 1) + 1 by omega] at hS
            unfold numR at hS
            rw [if_pos c] at hS
            have := isD_lt c
            exact ⟨_, hB, by omega, by omega, _, rfl, by omega, hS⟩
        · right
          have hR2 : R = (numP bs p + i, x) := by
            rw [← hS]
            cases m - i with
            | zero => rfl
            | succ k => unfold numR; rw [if_neg c]
          subst hR2
          refine ⟨.inl (S.setI 66 (nI (numP bs p + i)), nI v, x2, x), ?_, by rw [if_neg c]⟩
          unfold m_rdigits_B74
          simp only [hTi.sign, ob_ok]
          by_cases c1 : atI bs (numP bs p + i) < 48
          · rw [if_pos c1]
          · rw [if_neg c1, if_pos]
            exact Classical.byContradiction fun g => c (hdi.mpr ⟨c1, g⟩)
      have hfin : ∀ (m : Nat) (x6 : Int32), (m = 18 ∧ x6 = 0 ∨ m = 1 ∧ x6 = 1) → numM bs (numP bs p) = m → m_rdigits_J72 (S.setI 66 (nI (numP bs p))) (nI v) x2 0 0 x6 = some (if isD bs (numQ bs p).1 = false then ((S.setI 66 (nI (numQ bs p).1)).setA 53 (upd (S.a 53) v 3)).setN 61 (vp_updL (S.n 61) v (numV bs p)) else (S.setI 66 (nI (numQ bs p).1)).setI 68 1) := by
        intro m x6 hm hme
        obtain ⟨e, k1, k2⟩ := hloop m x6 hm
        unfold m_rdigits_J72 m_rdigits_J148 m_rdigits_J172
        rw [k1, k2]
        unfold numV numQ
        rw [hme]
        generalize numR bs m (numP bs p) 0 = R
        cases hd2 : isD bs R.1 with
        | true =>
          rw [if_pos rfl, oe_r, if_neg (by decide)]
        | false =>
          rw [if_neg (by decide), oe_l, if_pos rfl]
          simp only []
          rw [gd_ok hv (by omega), cl_nI (by omega)]
          by_cases c : atI bs p = 45
          · rw [if_neg (fun g => hx2.mp g c), if_pos c, gd_ok hv (by omega)]
            rfl
          · rw [if_pos (hx2.mpr c), if_neg c, gd_ok hv (by omega)]
            rfl
      by_cases c48 : atI bs (numP bs p) = 48
      · rw [if_pos c48]
        exact hfin 1 1 (Or.inr ⟨rfl, rfl⟩) (by unfold numM; rw [if_pos c48])
      · rw [if_neg c48]
        exact hfin 18 0 (Or.inl ⟨rfl, rfl⟩) (by unfold numM; rw [if_neg c48])
    · rw [if_neg (show ¬ (isD bs (numP bs p) = true ∧ isD bs (numQ bs p).1 = false) from fun g => hd g.1), if_neg hd]
      unfold m_rdigits_J52
      by_cases c1 : atI bs (numP bs p) < 48
      · rw [if_pos c1]
      · rw [if_neg c1, if_neg]
        exact fun g => hd (hda.mpr ⟨c1, Int32.not_lt.mpr g⟩)
  unfold m_rdigits m_rdigits_J0 m_rdigits_J14
  rw [h.sign, ob_ok]
  simp only []
  by_cases c : atI bs p = 45
  · have := hJ29 1 (by constructor <;> intro g; exact absurd g (by decide); exact absurd c g)
    rw [if_pos c, if_neg (show ¬ (1 : Int32) = 0 by decide), h.next, ← this]
    unfold numP
    rw [if_pos c]
  · have := hJ29 0 (by constructor <;> intro g; exact c; rfl)
    rw [if_neg c, if_pos trivial, ← this]
    unfold numP
    rw [if_neg c, hself]
end JSH
