/-! THE REFERENCE: out. -/
/-- the byte at k that out shows: 0 behind the end -/
def rOb (S : MS) (n k : Nat) : Int32 := if n ≤ k then 0 else S.a 40 k &&& 255
/-- eight bytes from b on, the first m of them -/
def rO8 (S : MS) (n b : Nat) : Nat → Int64
  | 0 => 0
  | m + 1 => (rO8 S n b m <<< ((8 : Int32).toInt64 &&& 63)) ||| (rOb S n (b + m)).toInt64
theorem pr_outN {S : MS} {i : Int32} (h : i < 0 ∨ ¬ i ≤ 8191) : m_rout S i = some (S.setI 0 1, 0) := by
  unfold m_rout m_rout_J0
  by_cases h1 : i < 0
  · rw [if_pos h1]; rfl
  · rw [if_neg h1, if_neg (h.resolve_left h1)]; rfl
theorem pr_out {S : MS} {i n : Nat} (hi : i ≤ 8191) (hn : S.i 41 = nI n) (h : n ≤ 800000) : m_rout S (nI i) = some (S.setI 0 0, rO8 (S.setI 0 0) n (8 * i) 8) := by
  have hn' : (S.setI 0 0).i 41 = nI n := hn
  have h8 : (8 : Int32) * nI i = nI (8 * i) := (Int32.ofNat_mul 8 i).symm
  have h88 : nI (8 * i) + 8 = nI (8 * i + 8) := nI_add (8 * i) 8
  have hl : m_rout_L31 (S.setI 0 0) (nI i) 0 (nI (8 * i)) = some (S.setI 0 0, rO8 (S.setI 0 0) n (8 * i) 8) := by
    refine lp_iter (body := fun a : MS × Int32 × Int64 × Int32 => m_rout_B31 a.1 a.2.1 a.2.2.1 a.2.2.2) (fun m => (S.setI 0 0, nI i, rO8 (S.setI 0 0) n (8 * i) m, nI (8 * i + m))) 8 _ ?_ ?_ FU (fu_gt (by decide))
    · intro m hm
      show m_rout_B31 (S.setI 0 0) (nI i) (rO8 (S.setI 0 0) n (8 * i) m) (nI (8 * i + m)) = _
      unfold m_rout_B31
      rw [h8, h88, if_neg (nle (show 8 * i + m < 8 * i + 8 by omega) (by omega)), hn']
      unfold m_rout_J71
      rw [rO8, rOb]
      by_cases hk : n ≤ 8 * i + m
      · rw [if_pos (nI_le hk (by omega)), if_pos hk, nI_s]; rfl
      · rw [if_neg (nle (show 8 * i + m < n by omega) (by omega)), gd_ok (show 8 * i + m < 800000 by omega) (by decide), cl_nI (show 8 * i + m < 2 ^ 31 by omega), if_neg hk, nI_s]; rfl
    · show m_rout_B31 (S.setI 0 0) (nI i) (rO8 (S.setI 0 0) n (8 * i) 8) (nI (8 * i + 8)) = _
      unfold m_rout_B31
      rw [h8, h88, if_pos (Int32.le_refl _)]
  unfold m_rout m_rout_J0
  rw [if_neg (nI_pos (by omega)), if_pos (show nI i ≤ 8191 from nI_le (show i ≤ 8191 from hi) (by decide)), h8, hl]
  rfl
