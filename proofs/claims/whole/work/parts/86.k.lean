/-! SAVED: check numbers. -/
def itc : Nat → Int32 → Int32
  | 0, x => x
  | k + 1, x => c1 (itc k x)
/-- a byte is taken in -/
def cB (x : Int32) (b : Nat) : Int32 := itc 8 (x ^^^ nI b)
def crcL (l : List Nat) : Int32 := l.foldl cB (-1)
def crcV (l : List Nat) : Int32 := crcL l ^^^ (-1)
/-- the first n bytes, zeros behind them -/
def pad (l : List Nat) (n : Nat) : List Nat := (List.range n).map (fun i => l.getD i 0)
theorem pad_s {l : List Nat} {n : Nat} : pad l (n + 1) = pad l n ++ [l.getD n 0] := by
  unfold pad
  rw [List.range_succ, List.map_append]
  rfl
theorem pad_self {l : List Nat} : ∀ {n : Nat}, n ≤ l.length → pad l n = l.take n := by
  intro n
  induction n with
  | zero => intro _; simp [pad]
  | succ n ih =>
    intro h
    rw [pad_s, ih (by omega), List.take_succ_eq_append_getElem (by omega), List.getD_eq_getElem?_getD, List.getElem?_eq_getElem (by omega)]
    rfl
theorem crcL_s {l : List Nat} {b : Nat} : crcL (l ++ [b]) = cB (crcL l) b := by
  unfold crcL
  rw [List.foldl_append]
  rfl
section SVK
variable {S S' : MS} {N : Nat → Nat} {C C' : CS} {A : AS} {r rd : Nat} {w : List Nat}
theorem cB_4 (x : Int32) (b : Nat) : cB x b = (ushr32 ((ushr32 (x ^^^ nI b) 4) ^^^ (crcT (((x ^^^ nI b) &&& 15).toNatClampNeg))) 4) ^^^ (crcT ((((ushr32 (x ^^^ nI b) 4) ^^^ (crcT (((x ^^^ nI b) &&& 15).toNatClampNeg))) &&& 15).toNatClampNeg)) := by
  rw [← c4 (x ^^^ nI b), ← c4]
  rfl
theorem and15x (x : Int32) : x &&& 15 = nI (x.toBitVec.toNat % 16) := by
  apply Int32.toBitVec_inj.mp
  apply BitVec.eq_of_toNat_eq
  rw [nI_bv, Int32.toBitVec_and, BitVec.toNat_and, show (Int32.toBitVec 15).toNat = 2 ^ 4 - 1 from by decide, Nat.and_two_pow_sub_one_eq_mod]
  omega
theorem gd15 {τ : Type} {x : Int32} {k : Option τ} : gd (x &&& 15) 16 k = k := by
  rw [and15x, gd_ok (by omega) (by omega)]
theorem k_crc (h5 : N 5 = 7) (h13 : N 13 = 7) (h6 : N 6 = 1) (h61 : C.r 6 1 0 = some 3) {bo : List Nat} (hw : RW C 3 bo.length) (hb : RB C 3 0 bo) {n : Nat} (hn : n ≤ 900000) : m_cSv_crcOf N 0 C (nI n) = some (C, crcV (pad bo n)) := by
  have := lp_run (body := fun u : CS × Int32 × Int32 × Int32 => m_cSv_crcOf_B4 N 0 u.1 u.2.1 u.2.2.1 u.2.2.2) (fun i u => u = (C, nI n, crcL (pad bo i), nI i)) (fun e => e = (C, crcL (pad bo n))) n ?_ FU (C, nI n, -1, nI 0) (by unfold FU; omega) rfl
  · obtain ⟨e, h1, rfl⟩ := this
    unfold m_cSv_crcOf m_cSv_crcOf_J0 m_cSv_crcOf_L4
    rw [show lp (fun a : CS × Int32 × Int32 × Int32 => m_cSv_crcOf_B4 N 0 a.1 a.2.1 a.2.2.1 a.2.2.2) FU (C, nI n, -1, 0) = _ from h1, ob_ok]
    rfl
  · rintro i _ hi rfl
    by_cases hin : i < n
    · left
      refine ⟨(C, nI n, crcL (pad bo (i + 1)), nI (i + 1)), ?_, hin, rfl⟩
      have hmx : (if (0 : Int32) < atI bo i then atI bo i else 0) = nI (bo.getD i 0) := by
        unfold atI
        by_cases e : i < bo.length
        · have hb1 := (hb i e).1
          rw [List.getD_eq_getElem?_getD, List.getElem?_eq_getElem e]
          simp only [Option.getD_some, e, dite_true, if_true]
          exact pos_or hb1
        · rw [List.getD_eq_getElem?_getD, List.getElem?_eq_none (by omega)]
          simp only [Option.getD_none, e, dite_false, if_false]
          rfl
      show m_cSv_crcOf_B4 N 0 C (nI n) (crcL (pad bo i)) (nI i) = _
      unfold m_cSv_crcOf_B4
      rw [if_neg (nle hin (by omega)), gl_ok (by omega), h61, gn_s (by omega), cR_atI h5 h13 hw hb (by omega), ob_ok]
      simp only []
      rw [hmx, gd15, gd15, ← cB_4, pad_s, crcL_s, nI_s]
    · right
      have e : i = n := by omega
      subst e
      refine ⟨(C, crcL (pad bo i)), ?_, rfl⟩
      show m_cSv_crcOf_B4 N 0 C (nI i) (crcL (pad bo i)) (nI i) = _
      unfold m_cSv_crcOf_B4
      rw [if_pos (Int32.le_refl _)]
theorem r_crc1 {x1 x2 x3 : Int32} : m_rcrc_L25 S x1 x2 x3 0 = some (S, x1, itc 8 x2, x3) := by
  have := lp_run (body := fun u : MS × Int32 × Int32 × Int32 × Int32 => m_rcrc_B25 u.1 u.2.1 u.2.2.1 u.2.2.2.1 u.2.2.2.2) (fun i u => u = (S, x1, itc i x2, x3, nI i)) (fun e => e = (S, x1, itc 8 x2, x3)) 8 ?_ FU (S, x1, x2, x3, nI 0) (by unfold FU; omega) rfl
  · obtain ⟨e, h1, rfl⟩ := this
    unfold m_rcrc_L25
    exact h1
  · rintro i _ hi rfl
    by_cases hin : i < 8
    · left
      refine ⟨(S, x1, itc (i + 1) x2, x3, nI (i + 1)), ?_, hin, rfl⟩
      show m_rcrc_B25 S x1 (itc i x2) x3 (nI i) = _
      unfold m_rcrc_B25 m_rcrc_J51
      rw [if_neg (show ¬ (8 : Int32) ≤ nI i from fun h => by have := (nI_leI (a := 8) (by omega) (by omega)).mp h; omega), nI_s]
      show _ = some (Sum.inl (S, x1, c1 (itc i x2), x3, nI (i + 1)))
      unfold c1
      by_cases c : itc i x2 &&& 1 = 0
      · rw [if_pos c, if_pos c]
      · rw [if_neg c, if_neg c]
    · right
      have e : i = 8 := by omega
      subst e
      refine ⟨(S, x1, itc 8 x2, x3), ?_, rfl⟩
      show m_rcrc_B25 S x1 (itc 8 x2) x3 (nI 8) = _
      unfold m_rcrc_B25
      rw [if_pos (show (8 : Int32) ≤ nI 8 by decide)]
theorem r_crc {l : List Nat} (hb : byts S 40 0 l) (hl : l.length ≤ 800000) : m_rcrc S (nI l.length) = some (S, crcV l) := by
  have := lp_run (body := fun u : MS × Int32 × Int32 × Int32 => m_rcrc_B4 u.1 u.2.1 u.2.2.1 u.2.2.2) (fun i u => u = (S, nI l.length, crcL (l.take i), nI i)) (fun e => e = (S, crcL l)) l.length ?_ FU (S, nI l.length, -1, nI 0) (by unfold FU; omega) rfl
  · obtain ⟨e, h1, rfl⟩ := this
    unfold m_rcrc m_rcrc_J0 m_rcrc_L4
    rw [show lp (fun a : MS × Int32 × Int32 × Int32 => m_rcrc_B4 a.1 a.2.1 a.2.2.1 a.2.2.2) FU (S, nI l.length, -1, 0) = _ from h1, ob_ok]
    rfl
  · rintro i _ hi rfl
    by_cases hin : i < l.length
    · left
      refine ⟨(S, nI l.length, crcL (l.take (i + 1)), nI (i + 1)), ?_, hin, rfl⟩
      have h40 := hb i hin
      rw [Nat.zero_add] at h40
      show m_rcrc_B4 S (nI l.length) (crcL (l.take i)) (nI i) = _
      unfold m_rcrc_B4
      rw [if_neg (nle hin (by omega)), gd_ok (by omega) (by omega), cl_nI (by omega), h40.2, show (255 : Int32) = nI 255 from q255, sb_and h40.1, r_crc1, ob_ok]
      simp only []
      rw [List.take_succ_eq_append_getElem hin, crcL_s, nI_s]
      rfl
    · right
      refine ⟨(S, crcL l), ?_, rfl⟩
      have e : i = l.length := by omega
      show m_rcrc_B4 S (nI l.length) (crcL (l.take i)) (nI i) = _
      unfold m_rcrc_B4
      rw [e, if_pos (Int32.le_refl _), List.take_of_length_le (Nat.le_refl _)]
end SVK
