/-! TEXT: numbers are written. -/
section TXE
variable {S S' : MS} {N : Nat → Nat} {C C' : CS} {A : AS} {r rd : Nat} {w : List Nat}
theorem dgs_b {a k : Nat} : 48 + a / 10 ^ k % 10 < 256 := by omega
/-- digits from the unit k on, already written: those above -/
theorem dgs_all {a : Nat} : ∀ {k : Nat}, dgs a k = (48 + a / 10 ^ k % 10) :: (match k with | 0 => [] | k + 1 => dgs a k) := by
  intro k
  cases k with
  | zero => rw [dgs, Nat.pow_zero, Nat.div_one]
  | succ k => rfl
def rsg (n : Int64) : Int64 := if n.toInt < 0 then n else -n
theorem rsg_int (n : Int64) : (rsg n).toInt = -((n.toInt.natAbs : Nat) : Int) := by
  have hr := i64_rng n
  unfold rsg
  by_cases c : n.toInt < 0
  · rw [if_pos c]; omega
  · rw [if_neg c, Int64.toInt_neg, Int.bmod_eq_of_le (by omega) (by omega)]
    omega
theorem rsg_abs (n : Int64) : (rsg n).toInt.natAbs = n.toInt.natAbs := by
  rw [rsg_int]
  omega
theorem qr_int {n : Int64} {k : Nat} (hk : k ≤ 18) : (rsg n / U k).toInt = -((n.toInt.natAbs / 10 ^ k : Nat) : Int) := by
  rw [q_int hk, rsg_abs]
  have := rsg_int n
  by_cases c : (rsg n).toInt < 0
  · rw [if_pos c]
  · rw [if_neg c]
    have h0 : n.toInt.natAbs = 0 := by omega
    rw [h0]
    simp
theorem cW_long (G : RC N C A rd) (hw : WB C w) (n : Int64) : ∃ C', m_cWr_writeLong N 0 C n = some C' ∧ WB C' (w ++ numT n) ∧ R2 C C' := by
  obtain ⟨u0, u1, u2, u3, u4, u5, u6, u7, u8, u9, u10, u11, u12, u13, u14, u15, u16, u17, u18⟩ := G.nn
  obtain ⟨a, ha⟩ : ∃ a, a = n.toInt.natAbs := ⟨_, rfl⟩
  obtain ⟨k1, k2, k3⟩ := dK_spec (abs_lt n)
  rw [← ha] at k1 k2 k3
  obtain ⟨K, hK⟩ : ∃ K, K = dK a := ⟨_, rfl⟩
  rw [← hK] at k1 k2 k3
  have c10 : (-10 : Int64).toInt = -10 := by decide
  have c0 : (0 : Int64).toInt = 0 := by decide
  -- the unit
  have hL1 : ∀ W : CS, m_cWr_writeLong_L34 N 0 W (rsg n) 1 0 = some (W, rsg n, U K) := by
    intro W
    have := lp_run (body := fun v : CS × Int64 × Int64 × Int32 => m_cWr_writeLong_B34 N 0 v.1 v.2.1 v.2.2.1 v.2.2.2) (fun i v => v = (W, rsg n, U i, nI i)) (fun e => e = (W, rsg n, U K)) K ?_ FU (W, rsg n, 1, nI 0) (by unfold FU; omega) (by rw [U_0])
    · obtain ⟨e, h1, rfl⟩ := this
      unfold m_cWr_writeLong_L34
      exact h1
    · rintro i _ hi rfl
      unfold m_cWr_writeLong_B34
      simp only []
      have hq := qr_int (n := n) (k := i) (by omega)
      rw [← ha] at hq
      by_cases hin : i < K
      · left
        have h10 := k3 i hin
        refine ⟨_, ?_, hin, rfl⟩
        rw [if_neg (show ¬ (18 : Int32) ≤ nI i from fun h => by have := (nI_leI (a := 18) (by omega) (by omega)).mp h; omega), if_neg (U_ne (by omega)), if_neg (by rw [lg_gt, hq, c10]; omega), U_mul (by omega), nI_s]
      · right
        have e : i = K := by omega
        subst e
        refine ⟨_, ?_, rfl⟩
        by_cases c : 18 ≤ i
        · rw [if_pos (show (18 : Int32) ≤ nI i from (nI_leI (a := 18) (by omega) (by omega)).mpr c)]
        · rw [if_neg (show ¬ (18 : Int32) ≤ nI i from fun h => c ((nI_leI (a := 18) (by omega) (by omega)).mp h)), if_neg (U_ne (by omega)), if_pos (by rw [lg_gt, hq, c10]; omega)]
  -- the digits
  have hL2 : ∀ {W : CS} {v : List Nat}, R2 C W → WB W v → ∃ W', m_cWr_writeLong_L69 N 0 W (rsg n) (U K) 0 = some W' ∧ WB W' (v ++ dgs a K) ∧ R2 C W' := by
    intro W v hRW hWB
    have := lp_run (body := fun v : CS × Int64 × Int64 × Int32 => m_cWr_writeLong_B69 N 0 v.1 v.2.1 v.2.2.1 v.2.2.2) (fun i s => ∃ W1 u, s = (W1, rsg n, (if i ≤ K then U (K - i) else 0), nI i) ∧ WB W1 u ∧ R2 C W1 ∧ v ++ dgs a K = u ++ (if i ≤ K then dgs a (K - i) else [])) (fun e => WB e (v ++ dgs a K) ∧ R2 C e) (K + 1) ?_ FU (W, rsg n, U K, nI 0) (by unfold FU; omega) ⟨W, v, by rw [if_pos (by omega)]; rfl, hWB, hRW, by rw [if_pos (by omega)]; rfl⟩
    · obtain ⟨e, h1, h2, h3⟩ := this
      refine ⟨e, ?_, h2, h3⟩
      unfold m_cWr_writeLong_L69
      exact h1
    · rintro i _ hi ⟨W1, u, rfl, w1, w2, w3⟩
      have GW := w2.RC G
      by_cases hin : i ≤ K
      · left
        rw [if_pos hin] at w3
        have hq := qr_int (n := n) (k := K - i) (by omega)
        rw [← ha] at hq
        have hrem := rem_int (q := rsg n / U (K - i)) (b := a / 10 ^ (K - i)) (Or.inr hq)
        have hd : (rsg n / U (K - i) - rsg n / U (K - i) / 10 * 10).toInt = -((a / 10 ^ (K - i) % 10 : Nat) : Int) := by
          rw [hrem]
          split
          · rename_i h
            rw [hq] at h
            generalize a / 10 ^ (K - i) = Q at h ⊢
            omega
          · rfl
        obtain ⟨W2, a1, a2, a3, a4⟩ := GW.TB.put w1 (nI (48 + a / 10 ^ (K - i) % 10))
        rw [byt_nI dgs_b] at a2
        have hU : 0 < (U (K - i)).toInt := by
          rw [U_int (by omega)]
          have : 0 < 10 ^ (K - i) := Nat.pow_pos (by omega)
          generalize (10 : Nat) ^ (K - i) = P at this ⊢
          omega
        refine ⟨(W2, rsg n, (if i + 1 ≤ K then U (K - (i + 1)) else 0), nI (i + 1)), ?_, by omega, W2, _, rfl, a2, w2.trans a3, ?_⟩
        · show m_cWr_writeLong_B69 N 0 W1 (rsg n) (if i ≤ K then U (K - i) else 0) (nI i) = _
          rw [if_pos hin]
          unfold m_cWr_writeLong_B69
          rw [if_neg (show ¬ (19 : Int32) ≤ nI i from fun h => by have := (nI_leI (a := 19) (by omega) (by omega)).mp h; omega), if_neg (by rw [lg_lez, c0]; omega), gl_ok (by omega), if_neg (U_ne (by omega)), GW.TB.2.2.2.1, gn_s (by omega), dig32n (Nat.mod_lt _ (by omega)) hd, a1, ob_ok, nI_s]
          by_cases c : i + 1 ≤ K
          · rw [if_pos c, show K - i = (K - (i + 1)) + 1 by omega, U_div (by omega)]
          · rw [if_neg c, show K - i = 0 by omega, U_0d]
        · rw [w3, dgs_all, List.append_assoc]
          congr 1
          by_cases c : i + 1 ≤ K
          · rw [if_pos c, show K - i = (K - (i + 1)) + 1 by omega]
            rfl
          · rw [if_neg c, show K - i = 0 by omega]
            rfl
      · right
        rw [if_neg hin] at w3
        refine ⟨W1, ?_, by rw [w3, List.append_nil]; exact w1, w2⟩
        show m_cWr_writeLong_B69 N 0 W1 (rsg n) (if i ≤ K then U (K - i) else 0) (nI i) = _
        rw [if_neg hin]
        unfold m_cWr_writeLong_B69
        by_cases c : 19 ≤ i
        · rw [if_pos (show (19 : Int32) ≤ nI i from (nI_leI (a := 19) (by omega) (by omega)).mpr c)]
        · rw [if_neg (show ¬ (19 : Int32) ≤ nI i from fun h => c ((nI_leI (a := 19) (by omega) (by omega)).mp h)), if_pos (by rw [lg_lez]; exact Int.le_refl _)]
  have hJ15 : ∀ {W : CS} {v : List Nat}, R2 C W → WB W v → ∃ W', m_cWr_writeLong_J15 N 0 W n = some W' ∧ WB W' (v ++ dgs a K) ∧ R2 C W' := by
    intro W v hRW hWB
    obtain ⟨W', h1, h2, h3⟩ := hL2 hRW hWB
    refine ⟨W', ?_, h2, h3⟩
    have hJ : m_cWr_writeLong_J15 N 0 W n = m_cWr_writeLong_J27 N 0 W (rsg n) := by
      unfold m_cWr_writeLong_J15 rsg
      by_cases c : n.toInt < 0
      · rw [if_neg (by rw [lg_ge, c0]; omega), if_pos c]
      · rw [if_pos (by rw [lg_ge, c0]; omega), if_neg c]
    rw [hJ]
    unfold m_cWr_writeLong_J27 m_cWr_writeLong_J66 m_cWr_writeLong_J116
    rw [hL1 W, ob_ok]
    simp only []
    rw [h1, ob_ok]
  unfold m_cWr_writeLong m_cWr_writeLong_J0 numT
  rw [← ha, ← hK]
  by_cases c : n.toInt < 0
  · rw [if_neg (by rw [lg_ge, c0]; omega), if_pos c, gl_ok (by omega), G.TB.2.2.2.1, gn_s (by omega)]
    obtain ⟨W, a1, a2, a3, a4⟩ := G.TB.put hw 45
    obtain ⟨W', b1, b2', b3⟩ := hJ15 a3 a2
    refine ⟨W', by rw [a1, ob_ok, b1], ?_, b3⟩
    rw [show byt 45 = 45 from byt_nI (x := 45) (by omega), List.append_assoc] at b2'
    exact b2'
  · rw [if_pos (by rw [lg_ge, c0]; omega), if_neg c]
    exact hJ15 R2.refl hw
theorem pW_long (hw : WR S w) (hl : w.length + 20 ≤ 999999990) (n : Int64) : ∃ S', m_rdigits2 S n = some S' ∧ WR S' (w ++ numT n) ∧ W4 S S' := by
  obtain ⟨a, ha⟩ : ∃ a, a = n.toInt.natAbs := ⟨_, rfl⟩
  obtain ⟨k1, k2, k3⟩ := dK_spec (abs_lt n)
  rw [← ha] at k1 k2 k3
  obtain ⟨K, hK⟩ : ∃ K, K = dK a := ⟨_, rfl⟩
  rw [← hK] at k1 k2 k3
  have c10 : (-10 : Int64).toInt = -10 := by decide
  have c0 : (0 : Int64).toInt = 0 := by decide
  have hL1 : ∀ W : MS, m_rdigits2_L14 W n 1 = some (W, n, U K) := by
    intro W
    have := lp_run (body := fun v : MS × Int64 × Int64 => m_rdigits2_B14 v.1 v.2.1 v.2.2) (fun i v => v = (W, n, U i)) (fun e => e = (W, n, U K)) K ?_ FU (W, n, 1) (by unfold FU; omega) (by rw [U_0])
    · obtain ⟨e, h1, rfl⟩ := this
      unfold m_rdigits2_L14
      exact h1
    · rintro i _ hi rfl
      unfold m_rdigits2_B14 m_rdigits2_J34
      simp only []
      have hq := q_int (n := n) (k := i) (by omega)
      rw [← ha] at hq
      rw [if_neg (U_ne (by omega)), if_neg (U_ne (by omega))]
      by_cases hin : i < K
      · left
        have h10 := k3 i hin
        refine ⟨_, ?_, hin, rfl⟩
        rw [U_mul (by omega)]
        generalize a / 10 ^ i = Q at hq h10
        by_cases c : n.toInt < 0
        · rw [if_pos c] at hq
          rw [if_neg (by rw [lg_ge, hq, t10]; omega), if_neg (by rw [lg_gt, hq, c10]; omega)]
        · rw [if_neg c] at hq
          rw [if_pos (by rw [lg_ge, hq, t10]; omega)]
      · right
        have e : i = K := by omega
        subst e
        refine ⟨_, ?_, rfl⟩
        generalize a / 10 ^ i = Q at hq k2
        by_cases c : n.toInt < 0
        · rw [if_pos c] at hq
          rw [if_neg (by rw [lg_ge, hq, t10]; omega), if_pos (by rw [lg_gt, hq, c10]; omega)]
        · rw [if_neg c] at hq
          rw [if_neg (by rw [lg_ge, hq, t10]; omega), if_pos (by rw [lg_gt, hq, c10]; omega)]
  have hL2 : ∀ {W : MS} {v : List Nat}, W4 S W → WR W v → v.length + 19 ≤ 999999990 → ∃ W', m_rdigits2_L46 W n (U K) = some W' ∧ WR W' (v ++ dgs a K) ∧ W4 S W' := by
    intro W v hRW hWB hvl
    have := lp_run (body := fun v : MS × Int64 × Int64 => m_rdigits2_B46 v.1 v.2.1 v.2.2) (fun i s => ∃ W1 u, s = (W1, n, (if i ≤ K then U (K - i) else 0)) ∧ WR W1 u ∧ W4 S W1 ∧ u.length = v.length + i ∧ v ++ dgs a K = u ++ (if i ≤ K then dgs a (K - i) else [])) (fun e => WR e (v ++ dgs a K) ∧ W4 S e) (K + 1) ?_ FU (W, n, U K) (by unfold FU; omega) ⟨W, v, by rw [if_pos (by omega)]; rfl, hWB, hRW, by omega, by rw [if_pos (by omega)]; rfl⟩
    · obtain ⟨e, h1, h2, h3⟩ := this
      refine ⟨e, ?_, h2, h3⟩
      unfold m_rdigits2_L46
      exact h1
    · rintro i _ hi ⟨W1, u, rfl, w1, w2, wl, w3⟩
      by_cases hin : i ≤ K
      · left
        rw [if_pos hin] at w3
        have hq := q_int (n := n) (k := K - i) (by omega)
        rw [← ha] at hq
        have hor : (n / U (K - i)).toInt = ((a / 10 ^ (K - i) : Nat) : Int) ∨ (n / U (K - i)).toInt = -((a / 10 ^ (K - i) : Nat) : Int) := by
          rw [hq]; split
          · exact Or.inr rfl
          · exact Or.inl rfl
        have hrem := rem_int hor
        have hdl : a / 10 ^ (K - i) % 10 < 10 := Nat.mod_lt _ (by omega)
        obtain ⟨W2, a1, a2, a3⟩ := pW_put w1 (by omega) (nI (48 + a / 10 ^ (K - i) % 10))
        rw [byt_nI dgs_b] at a2
        have hU : 0 < (U (K - i)).toInt := by
          rw [U_int (by omega)]
          have : 0 < 10 ^ (K - i) := Nat.pow_pos (by omega)
          generalize (10 : Nat) ^ (K - i) = P at this ⊢
          omega
        have hJ81 : ∀ t : Int64, t.toInt = ((a / 10 ^ (K - i) % 10 : Nat) : Int) → m_rdigits2_J81 W1 n (U (K - i)) t 48 = some (.inl (W2, n, U (K - i) / 10)) := by
          intro t ht
          unfold m_rdigits2_J81
          rw [dig32 hdl ht, show (48 : Int32) = nI 48 from by decide, nI_add, a1, ob_ok]
        refine ⟨(W2, n, (if i + 1 ≤ K then U (K - (i + 1)) else 0)), ?_, by omega, W2, _, rfl, a2, w2.trans a3, by rw [List.length_append]; simp; omega, ?_⟩
        · show m_rdigits2_B46 W1 n (if i ≤ K then U (K - i) else 0) = _
          rw [if_pos hin]
          unfold m_rdigits2_B46
          rw [if_neg (by rw [lg_lez, c0]; omega), if_neg (U_ne (by omega))]
          have hfin : (Sum.inl (W2, n, U (K - i) / 10) : (MS × Int64 × Int64) ⊕ MS) = .inl (W2, n, (if i + 1 ≤ K then U (K - (i + 1)) else 0)) := by
            by_cases c : i + 1 ≤ K
            · rw [if_pos c, show K - i = (K - (i + 1)) + 1 by omega, U_div (by omega)]
            · rw [if_neg c, show K - i = 0 by omega, U_0d]
          generalize a / 10 ^ (K - i) % 10 = D at hrem hJ81 hdl
          by_cases c : 0 ≤ (n / U (K - i) - n / U (K - i) / 10 * 10).toInt
          · rw [if_pos (by rw [lg_ge, c0]; exact c), hJ81 _ (by rw [hrem]; rw [hrem] at c; revert c; split <;> intros <;> omega), hfin]
          · have hneg : (-(n / U (K - i) - n / U (K - i) / 10 * 10)).toInt = (D : Int) := by
              rw [Int64.toInt_neg, hrem]
              rw [hrem] at c
              revert c
              split
              · intro c; omega
              · intro c
                rw [Int.bmod_eq_of_le (by omega) (by omega)]
                omega
            rw [if_neg (by rw [lg_ge, c0]; exact c), hJ81 _ hneg, hfin]
        · rw [w3, dgs_all, List.append_assoc]
          congr 1
          by_cases c : i + 1 ≤ K
          · rw [if_pos c, show K - i = (K - (i + 1)) + 1 by omega]
            rfl
          · rw [if_neg c, show K - i = 0 by omega]
            rfl
      · right
        rw [if_neg hin] at w3
        refine ⟨W1, ?_, by rw [w3, List.append_nil]; exact w1, w2⟩
        show m_rdigits2_B46 W1 n (if i ≤ K then U (K - i) else 0) = _
        rw [if_neg hin]
        unfold m_rdigits2_B46
        rw [if_pos (by rw [lg_lez]; exact Int.le_refl _)]
  have hJ12 : ∀ {W : MS} {v : List Nat}, W4 S W → WR W v → v.length + 19 ≤ 999999990 → ∃ W', m_rdigits2_J12 W n = some W' ∧ WR W' (v ++ dgs a K) ∧ W4 S W' := by
    intro W v hRW hWB hvl
    obtain ⟨W', h1, h2, h3⟩ := hL2 hRW hWB hvl
    refine ⟨W', ?_, h2, h3⟩
    unfold m_rdigits2_J12
    rw [hL1 W, ob_ok]
    simp only []
    rw [h1, ob_ok]
  unfold m_rdigits2 m_rdigits2_J0 numT
  rw [← ha, ← hK]
  by_cases c : n.toInt < 0
  · rw [if_neg (by rw [lg_ge, c0]; omega), if_pos c]
    obtain ⟨W, a1, a2, a3⟩ := pW_put hw (by omega) 45
    obtain ⟨W', b1, b2', b3⟩ := hJ12 a3 a2 (by simp; omega)
    refine ⟨W', by rw [a1, ob_ok, b1], ?_, b3⟩
    rw [show byt 45 = 45 from byt_nI (x := 45) (by omega), List.append_assoc] at b2'
    exact b2'
  · rw [if_pos (by rw [lg_ge, c0]; omega), if_neg c]
    exact hJ12 W4.refl hw (by omega)
end TXE
