/-! THE REFERENCE'S READING METHODS, what they answer. -/
/-- what the reference's rows hold: 0 or 1; an OP's CHANGE is one of those made, or none -/
def rB (S : MS) : Prop := ∀ r c : Nat, r < 8 → c < 1000 → (S.a (101 + r) c = 0 ∨ S.a (101 + r) c = 1) ∧ (S.a (117 + r) c = 0 ∨ S.a (117 + r) c = 1)
def rC (S : MS) (o : Nat) : Prop := 0 ≤ S.a 13 o → ∃ c : Nat, c < 1000 ∧ S.a 13 o = nI c
def rIn (S : MS) (r o : Nat) : Bool :=
  decide (S.a 21 o = 0) && (if 0 ≤ S.a 13 o then (if 0 ≤ S.a 39 r then decide (S.a (117 + r) (S.a 13 o).toNatClampNeg = 1) else decide (S.a (101 + r) (S.a 13 o).toNatClampNeg = 1)) else (decide (S.a 12 o = nI r) && !decide (0 ≤ S.a 39 r)))
def rOwn (S : MS) (r o : Nat) : Bool :=
  decide (S.a 21 o = 0) && (if 0 ≤ S.a 13 o then decide (S.a (101 + r) (S.a 13 o).toNatClampNeg = 1) else decide (S.a 12 o = nI r))
def b2 (b : Bool) : Int32 := if b then 1 else 0
theorem z01 {S : MS} {t : Int32} (h : t = 0 ∨ t = 1) : (if t = 0 ∨ t = 1 then some (S, t) else none) = some (S, b2 (decide (t = 1))) := by
  rw [if_pos h]
  rcases h with rfl | rfl <;> rfl
theorem pr_in {S : MS} {r o : Nat} (hb : rB S) (hr : r < 8) (ho : o < 4000) (hc : rC S o) : m_rin S (nI r) (nI o) = some (S, b2 (rIn S r o)) := by
  unfold m_rin m_rin_J0
  rw [gd_ok ho (by decide), cl_nI (show o < 2 ^ 31 by omega)]
  by_cases h1 : S.a 21 o = 0
  · rw [if_pos h1, gd_ok ho (by decide)]
    by_cases h2 : 0 ≤ S.a 13 o
    · obtain ⟨c, hc1, hc2⟩ := hc h2
      rw [if_pos h2, gd_ok hr (by decide), cl_nI (show r < 2 ^ 31 by omega)]
      have hcl : (S.a 13 o).toNatClampNeg = c := by rw [hc2, cl_nI (by omega)]
      by_cases h3 : 0 ≤ S.a 39 r
      · rw [if_pos h3, gd_ok hr (by decide), gd_ok ho (by decide), hcl]
        rw [hc2, gd_ok hc1 (by decide)]
        unfold m_rin_J83
        rw [z01 (hb r c hr hc1).2]
        unfold rIn
        rw [hcl, if_pos h2, if_pos h3]
        simp [h1]
      · rw [if_neg h3, gd_ok hr (by decide), gd_ok ho (by decide), hcl]
        rw [hc2, gd_ok hc1 (by decide)]
        unfold m_rin_J83
        rw [z01 (hb r c hr hc1).1]
        unfold rIn
        rw [hcl, if_pos h2, if_neg h3]
        simp [h1]
    · rw [if_neg h2, gd_ok ho (by decide)]
      unfold rIn
      rw [if_neg h2]
      by_cases h4 : S.a 12 o = nI r
      · rw [if_pos h4, gd_ok hr (by decide), cl_nI (show r < 2 ^ 31 by omega)]
        by_cases h3 : 0 ≤ S.a 39 r
        · rw [if_pos h3]; simp [h1, h3, h4, b2, m_rin_J43, m_rin_J44]
        · rw [if_neg h3]; simp [h1, h3, h4, b2, m_rin_J44]
      · rw [if_neg h4]; simp [h1, h4, b2, m_rin_J43, m_rin_J44]
  · rw [if_neg h1]
    unfold rIn
    simp [h1, b2]
theorem pr_owns {S : MS} {r o : Nat} (hb : rB S) (hr : r < 8) (ho : o < 4000) (hc : rC S o) : m_rowns S (nI r) (nI o) = some (S, b2 (rOwn S r o)) := by
  unfold m_rowns m_rowns_J0
  rw [gd_ok ho (by decide), cl_nI (show o < 2 ^ 31 by omega)]
  by_cases h1 : S.a 21 o = 0
  · rw [if_pos h1, gd_ok ho (by decide)]
    by_cases h2 : 0 ≤ S.a 13 o
    · obtain ⟨c, hc1, hc2⟩ := hc h2
      have hcl : (S.a 13 o).toNatClampNeg = c := by rw [hc2, cl_nI (by omega)]
      rw [if_pos h2, gd_ok hr (by decide), cl_nI (show r < 2 ^ 31 by omega), gd_ok ho (by decide), hcl]
      rw [hc2, gd_ok hc1 (by decide)]
      unfold rOwn
      rw [hcl, if_pos h2]
      rcases (hb r c hr hc1).1 with h | h
      · rw [if_pos h]; simp [h, h1, b2, m_rowns_J51, m_rowns_J52]
      · rw [if_neg (by rw [h]; decide)]; simp [h, h1, b2, m_rowns_J47, m_rowns_J52]
    · rw [if_neg h2, gd_ok ho (by decide)]
      unfold rOwn
      rw [if_neg h2]
      by_cases h4 : S.a 12 o = nI r
      · rw [if_pos h4]; simp [h1, h4, b2, m_rowns_J47, m_rowns_J52]
      · rw [if_neg h4]; simp [h1, h4, b2, m_rowns_J51, m_rowns_J52]
  · rw [if_neg h1]
    unfold rOwn
    simp [h1, b2, m_rowns_J51, m_rowns_J52]
/-- a CHANGE in the replica's view -/
def rVw (S : MS) (r c : Nat) : Bool := if 0 ≤ S.a 39 r then !decide (S.a (117 + r) c = 0) else !decide (S.a (101 + r) c = 0)
theorem pr_view {S : MS} {r n : Nat} (hr : r < 8) (hn : S.i 34 = nI n) (h : n ≤ 1000) : m_rview S (nI r) = some (S, nI (cntTo (rVw S r) n)) := by
  have hs : ∀ i, i < n → m_rview_B4 S (nI r) (nI (cntTo (rVw S r) i)) (nI i) = some (.inl (S, nI r, nI (cntTo (rVw S r) (i + 1)), nI (i + 1))) := by
    intro i hi
    unfold m_rview_B4
    rw [hn, if_neg (nle hi (by omega)), gd_ok hr (by decide), gd_ok hr (by decide), gd_ok hr (by decide), gd_ok (show i < 1000 by omega) (by decide), gd_ok (show i < 1000 by omega) (by decide), cl_nI (show r < 2 ^ 31 by omega), cl_nI (show i < 2 ^ 31 by omega)]
    unfold m_rview_J46 m_rview_J49
    simp only [nI_s, cntTo, rVw]
    by_cases h1 : 0 ≤ S.a 39 r
    · by_cases h2 : S.a (117 + r) i = 0
      · simp [h1, h2]
      · simp [h1, h2]
    · by_cases h2 : S.a (101 + r) i = 0
      · simp [h1, h2]
      · simp [h1, h2]
  have he : m_rview_B4 S (nI r) (nI (cntTo (rVw S r) n)) (nI n) = some (.inr (S, nI (cntTo (rVw S r) n))) := by
    unfold m_rview_B4
    rw [hn, if_pos (Int32.le_refl _)]
  have hl : m_rview_L4 S (nI r) 0 0 = some (S, nI (cntTo (rVw S r) n)) := lp_iter (body := fun a : MS × Int32 × Int32 × Int32 => m_rview_B4 a.1 a.2.1 a.2.2.1 a.2.2.2) (fun i => (S, nI r, nI (cntTo (rVw S r) i), nI i)) n (S, nI (cntTo (rVw S r) n)) hs he FU (fu_gt (by omega))
  unfold m_rview m_rview_J0
  rw [hl]
  rfl
def rNo (S : MS) (r : Nat) (a : Int32) (c : Nat) : Bool := (!decide (S.a (101 + r) c = 0)) && decide (S.a 29 c = a)
theorem pr_numberOf {S : MS} {r n : Nat} {a : Int32} (hr : r < 8) (hn : S.i 34 = nI n) (h : n ≤ 1000) : m_rnumberOf S (nI r) a = some (S, nI (cntTo (rNo S r a) n)) := by
  have hs : ∀ i, i < n → m_rnumberOf_B5 S (nI r) a (nI (cntTo (rNo S r a) i)) (nI i) = some (.inl (S, nI r, a, nI (cntTo (rNo S r a) (i + 1)), nI (i + 1))) := by
    intro i hi
    unfold m_rnumberOf_B5
    rw [hn, if_neg (nle hi (by omega)), gd_ok hr (by decide), gd_ok (show i < 1000 by omega) (by decide), gd_ok (show i < 1000 by omega) (by decide), cl_nI (show r < 2 ^ 31 by omega), cl_nI (show i < 2 ^ 31 by omega)]
    unfold m_rnumberOf_J40
    simp only [nI_s, cntTo, rNo]
    by_cases h1 : S.a (101 + r) i = 0
    · simp [h1]
    · by_cases h2 : S.a 29 i = a
      · simp [h1, h2]
      · simp [h1, h2]
  have he : m_rnumberOf_B5 S (nI r) a (nI (cntTo (rNo S r a) n)) (nI n) = some (.inr (S, nI (cntTo (rNo S r a) n))) := by
    unfold m_rnumberOf_B5
    rw [hn, if_pos (Int32.le_refl _)]
  have hl : m_rnumberOf_L5 S (nI r) a 0 0 = some (S, nI (cntTo (rNo S r a) n)) := lp_iter (body := fun x : MS × Int32 × Int32 × Int32 × Int32 => m_rnumberOf_B5 x.1 x.2.1 x.2.2.1 x.2.2.2.1 x.2.2.2.2) (fun i => (S, nI r, a, nI (cntTo (rNo S r a) i), nI i)) n (S, nI (cntTo (rNo S r a) n)) hs he FU (fu_gt (by omega))
  unfold m_rnumberOf m_rnumberOf_J0
  rw [hl]
  rfl
