/-! THE REFERENCE: kindOf, greatest, the first half of hide. -/
theorem pr_kindOf {S : MS} {r n : Nat} {obj : Int32} (hb : rB S) (hr : r < 8) (hn : S.i 23 = nI n) (h : n ≤ 4000) (hc : ∀ o, o < n → rC S o) : m_rkindOf S (nI r) obj = some (S, if obj = 0 then 6 else match firstTo (rMk S r obj) n with | some o => S.a 11 o | none => -1) := by
  unfold m_rkindOf m_rkindOf_J0
  rw [pr_maker hb hr hn h hc]
  by_cases h0 : obj = 0
  · rw [if_pos h0, if_pos h0]; rfl
  · rw [if_neg h0, if_neg h0]
    cases hf : firstTo (rMk S r obj) n with
    | none => rfl
    | some o =>
      have ho : o < n := (firstTo_some hf).1
      show (if nI o = -2 then _ else (if nI o = -1 then _ else gd (nI o) 4000 _)) = _
      have h1 : ∀ m : Int32, m < 0 → ¬ nI o = m := fun m hm e => nI_pos (n := o) (by omega) (by rw [e]; exact hm)
      rw [if_neg (h1 _ (by decide)), if_neg (h1 _ (by decide)), gd_ok (show o < 4000 by omega) (by decide), cl_nI (by omega)]
      rfl
/-- the greatest counter among the first n OPS that r has -/
def grTo (S : MS) (r : Nat) : Nat → Int32
  | 0 => 0
  | n + 1 => if rOwn S r n then (if grTo S r n < S.a 8 n / 8 then S.a 8 n / 8 else grTo S r n) else grTo S r n
theorem pr_greatest {S : MS} {r n : Nat} (hb : rB S) (hr : r < 8) (hn : S.i 23 = nI n) (h : n ≤ 4000) (hc : ∀ o, o < n → rC S o) : m_rgreatest S (nI r) = some (S, grTo S r n) := by
  have hs : ∀ i, i < n → m_rgreatest_B4 S (nI r) (grTo S r i) (nI i) = some (.inl (S, nI r, grTo S r (i + 1), nI (i + 1))) := by
    intro i hi
    unfold m_rgreatest_B4
    rw [hn, if_neg (nle hi (by omega)), pr_owns hb hr (by omega) (hc i hi)]
    show (if b2 (rOwn S r i) = 0 then _ else _) = _
    unfold m_rgreatest_J35
    rw [grTo]
    cases ho : rOwn S r i with
    | false => rw [if_pos (show b2 false = 0 from rfl), nI_s]; rfl
    | true =>
      rw [if_neg (show ¬ b2 true = 0 by decide), gd_ok (show i < 4000 by omega) (by decide), nI_s, cl_nI (show i < 2 ^ 31 by omega)]
      rfl
  have he : m_rgreatest_B4 S (nI r) (grTo S r n) (nI n) = some (.inr (S, grTo S r n)) := by
    unfold m_rgreatest_B4
    rw [hn, if_pos (Int32.le_refl _)]
  have hl : m_rgreatest_L4 S (nI r) 0 0 = some (S, grTo S r n) := lp_iter (body := fun a : MS × Int32 × Int32 × Int32 => m_rgreatest_B4 a.1 a.2.1 a.2.2.1 a.2.2.2) (fun i => (S, nI r, grTo S r i, nI i)) n (S, grTo S r n) hs he FU (fu_gt (by omega))
  unfold m_rgreatest m_rgreatest_J0
  rw [hl]
  rfl
