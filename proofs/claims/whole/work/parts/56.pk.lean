/-! THE REFERENCE: the four counting loops of its count. -/
theorem pk_has {S : MS} {r n : Nat} (hr : r < 8) (hn : S.i 34 = nI n) (h : n ≤ 1000) : m_rcount_L67 S (nI r) 0 0 = some (S, nI (cntTo (fun c => !decide (S.a (101 + r) c = 0)) n)) := by
  refine lp_iter (body := fun a : MS × Int32 × Int32 × Int32 => m_rcount_B67 a.1 a.2.1 a.2.2.1 a.2.2.2) (fun i => (S, nI r, nI (cntTo (fun c => !decide (S.a (101 + r) c = 0)) i), nI i)) n _ ?_ ?_ FU (fu_gt (by omega))
  · intro i hi
    show m_rcount_B67 S (nI r) _ (nI i) = _
    unfold m_rcount_B67
    rw [hn, if_neg (nle hi (by omega)), gd_ok hr (by decide), gd_ok (show i < 1000 by omega) (by decide), cl_nI (show r < 2 ^ 31 by omega), cl_nI (show i < 2 ^ 31 by omega)]
    unfold m_rcount_J91
    simp only [nI_s, cntTo]
    by_cases h1 : S.a (101 + r) i = 0 <;> simp [h1]
  · show m_rcount_B67 S (nI r) _ (nI n) = _
    unfold m_rcount_B67
    rw [hn, if_pos (Int32.le_refl _)]
theorem pk_waits {S : MS} {r n : Nat} (hr : r < 8) (hn : S.i 34 = nI n) (h : n ≤ 1000) : m_rcount_L102 S (nI r) 0 0 = some (S, nI (cntTo (fun c => !decide (S.a (109 + r) c = 0)) n)) := by
  refine lp_iter (body := fun a : MS × Int32 × Int32 × Int32 => m_rcount_B102 a.1 a.2.1 a.2.2.1 a.2.2.2) (fun i => (S, nI r, nI (cntTo (fun c => !decide (S.a (109 + r) c = 0)) i), nI i)) n _ ?_ ?_ FU (fu_gt (by omega))
  · intro i hi
    show m_rcount_B102 S (nI r) _ (nI i) = _
    unfold m_rcount_B102
    rw [hn, if_neg (nle hi (by omega)), gd_ok hr (by decide), gd_ok (show i < 1000 by omega) (by decide), cl_nI (show r < 2 ^ 31 by omega), cl_nI (show i < 2 ^ 31 by omega)]
    unfold m_rcount_J126
    simp only [nI_s, cntTo]
    by_cases h1 : S.a (109 + r) i = 0 <;> simp [h1]
  · show m_rcount_B102 S (nI r) _ (nI n) = _
    unfold m_rcount_B102
    rw [hn, if_pos (Int32.le_refl _)]
theorem pk_heads {S : MS} {da dm : Nat → Nat} {r n : Nat} (hr : r < 8) (hn : S.i 34 = nI n) (h : n ≤ 1000) (hd : rDs S da dm n) : m_rcount_L137 S (nI r) 0 0 = some (S, nI (cntTo (rHd S da dm n r) n)) := by
  refine lp_iter (body := fun a : MS × Int32 × Int32 × Int32 => m_rcount_B137 a.1 a.2.1 a.2.2.1 a.2.2.2) (fun i => (S, nI r, nI (cntTo (rHd S da dm n r) i), nI i)) n _ ?_ ?_ FU (fu_gt (by omega))
  · intro i hi
    show m_rcount_B137 S (nI r) _ (nI i) = _
    unfold m_rcount_B137
    rw [hn, if_neg (nle hi (by omega)), pr_isHead hr (by omega) hn h hd]
    show (if b2 (rHd S da dm n r i) = 0 then _ else _) = _
    unfold m_rcount_J159
    simp only [nI_s, cntTo]
    cases rHd S da dm n r i with
    | false => rfl
    | true => rfl
  · show m_rcount_B137 S (nI r) _ (nI n) = _
    unfold m_rcount_B137
    rw [hn, if_pos (Int32.le_refl _)]
theorem pk_owns {S : MS} {r n : Nat} (hb : rB S) (hr : r < 8) (hn : S.i 23 = nI n) (h : n ≤ 4000) (hc : ∀ o, o < n → rC S o) : m_rcount_L176 S (nI r) 0 0 = some (S, nI (cntTo (rOwn S r) n)) := by
  refine lp_iter (body := fun a : MS × Int32 × Int32 × Int32 => m_rcount_B176 a.1 a.2.1 a.2.2.1 a.2.2.2) (fun i => (S, nI r, nI (cntTo (rOwn S r) i), nI i)) n _ ?_ ?_ FU (fu_gt (by omega))
  · intro i hi
    show m_rcount_B176 S (nI r) _ (nI i) = _
    unfold m_rcount_B176
    rw [hn, if_neg (nle hi (by omega)), pr_owns hb hr (by omega) (hc i hi)]
    show (if b2 (rOwn S r i) = 0 then _ else _) = _
    unfold m_rcount_J198
    simp only [nI_s, cntTo]
    cases rOwn S r i with
    | false => rfl
    | true => rfl
  · show m_rcount_B176 S (nI r) _ (nI n) = _
    unfold m_rcount_B176
    rw [hn, if_pos (Int32.le_refl _)]
