/-! SAVED: the reference writes an op. -/
/-- from p on w is written -/
def WQ (S : MS) (p : Nat) (w : List Nat) : Prop := S.i 41 = nI (p + w.length) ∧ p + w.length ≤ 1000000000 ∧ ∀ i (h : i < w.length), w[i] < 256 ∧ (p + i < 800000 → S.a 40 (p + i) = sb w[i])
/-- only what is written behind p has changed -/
def W5 (p : Nat) (S S' : MS) : Prop := ∃ v g, S' = (S.setA 40 g).setI 41 v ∧ ∀ i, i < p → g i = S.a 40 i
section SVF
variable {S S' : MS} {A : AS} {r p : Nat} {w : List Nat}
theorem W5.refl : W5 p S S := ⟨S.i 41, S.a 40, by rw [MS.setA_self, MS.setI_self], fun _ _ => rfl⟩
theorem W5.trans {S'' : MS} (h : W5 p S S') (g : W5 p S' S'') : W5 p S S'' := by
  obtain ⟨v, g1, rfl, h1⟩ := h
  obtain ⟨v', g2, rfl, h2⟩ := g
  refine ⟨v', g2, ?_, fun i hi => ?_⟩
  · rw [MS.setI_setA, MS.setA_setA, MS.setI_setI]
  · rw [h2 i hi, MS.a_setI, MS.a_setA, if_pos rfl]
    exact h1 i hi
theorem W5.RS (h : W5 p S S') (hR : RS S A) : RS S' A := by
  obtain ⟨v, g, rfl, _⟩ := h
  exact (hR.setA rfl).setI rfl
theorem W5.ii (h : W5 p S S') {k : Nat} (hk : k ≠ 41) : S'.i k = S.i k := by
  obtain ⟨v, g, rfl, _⟩ := h
  rw [MS.i_setI, if_neg hk, MS.i_setA]
theorem W5.aa (h : W5 p S S') {k : Nat} (hk : k ≠ 40) : S'.a k = S.a k := by
  obtain ⟨v, g, rfl, _⟩ := h
  rw [MS.a_setI, MS.a_setA, if_neg hk]
theorem W5.nn (h : W5 p S S') : S'.n = S.n := by
  obtain ⟨v, g, rfl, _⟩ := h
  rfl
theorem W5.lo (h : W5 p S S') {i : Nat} (hi : i < p) : S'.a 40 i = S.a 40 i := by
  obtain ⟨v, g, rfl, h1⟩ := h
  rw [MS.a_setI, MS.a_setA, if_pos rfl]
  exact h1 i hi
theorem q_put (hw : WQ S p w) (hl : p + w.length < 1000000000) (b : Int32) : ∃ S', m_rwrite S b = some S' ∧ WQ S' p (w ++ [byt b]) ∧ W5 p S S' := by
  obtain ⟨h1, h2, h3⟩ := hw
  unfold m_rwrite m_rwrite_J0 m_rwrite_J23
  rw [h1]
  by_cases c : 800000 ≤ p + w.length
  · rw [if_pos (show (800000 : Int32) ≤ nI (p + w.length) from (nI_leI (a := 800000) (by omega) (by omega)).mpr (by omega)), nI_s]
    refine ⟨_, rfl, ⟨?_, ?_, ?_⟩, ⟨_, S.a 40, by rw [MS.setA_self], fun _ _ => rfl⟩⟩
    · rw [MS.i_setI, if_pos rfl, List.length_append, List.length_singleton, Nat.add_assoc]
    · rw [List.length_append, List.length_singleton]; omega
    · intro i hi
      rw [List.length_append, List.length_singleton] at hi
      rw [MS.a_setI]
      by_cases e : i < w.length
      · rw [List.getElem_append_left e]
        exact h3 i e
      · have e2 : i = w.length := by omega
        subst e2
        rw [List.getElem_concat_length rfl]
        exact ⟨byt_lt _, fun h => by omega⟩
  · rw [if_neg (show ¬ (800000 : Int32) ≤ nI (p + w.length) from fun h => by have := (nI_leI (a := 800000) (by omega) (by omega)).mp h; omega), gd_ok (by omega) (by omega), cl_nI (by omega)]
    have e41 : (S.setA 40 (upd (S.a 40) (p + w.length) (vp_nar .byte b.toInt8.toInt32))).i 41 = nI (p + w.length) := h1
    rw [e41, nI_s]
    refine ⟨_, rfl, ⟨?_, ?_, ?_⟩, ⟨_, _, rfl, ?_⟩⟩
    · rw [MS.i_setI, if_pos rfl, List.length_append, List.length_singleton, Nat.add_assoc]
    · rw [List.length_append, List.length_singleton]; omega
    · intro i hi
      rw [List.length_append, List.length_singleton] at hi
      rw [MS.a_setI, MS.a_setA, if_pos rfl]
      unfold upd
      by_cases e : i < w.length
      · rw [List.getElem_append_left e, if_neg (by omega)]
        exact h3 i e
      · have e2 : i = w.length := by omega
        subst e2
        rw [List.getElem_concat_length rfl, if_pos rfl, vp_nar_byte, sb_byt]
        refine ⟨byt_lt _, fun _ => ?_⟩
        simp
    · intro i hi
      unfold upd
      rw [if_neg (by omega)]
theorem q_b (hw : WQ S p w) (hl : p + w.length < 1000000000) {b : Nat} (hb : b < 256) : ∃ S', m_rwrite S (nI b) = some S' ∧ WQ S' p (w ++ [b]) ∧ W5 p S S' := by
  have := q_put hw hl (nI b)
  rw [byt_nI hb] at this
  exact this
theorem byt_sb {x : Nat} (h : x < 256) : byt (sb x) = x := by
  have h1 := sb_byt (sb x)
  have h2 : (sb x).toInt8.toInt32 = sb x := by
    unfold sb
    rw [Int8.toInt8_toInt32]
  rw [h2] at h1
  exact (sb_inj (byt_lt _) h).mp h1
theorem q_num (hw : WQ S p w) (hl : p + w.length + 10 ≤ 1000000000) (x : Int64) : ∃ S', m_rgroup S x = some S' ∧ WQ S' p (w ++ grp (uN x)) ∧ W5 p S S' := by
  have := lp_run (body := fun v : MS × Int64 => m_rgroup_B2 v.1 v.2) (fun i v => ∃ W y w', v = (W, y) ∧ i ≤ 9 ∧ w'.length = w.length + i ∧ WQ W p w' ∧ w' ++ gN (9 - i) (uN y) = w ++ grp (uN x) ∧ W5 p S W ∧ uN y < 2 ^ (64 - 7 * i)) (fun e => ∃ W y w', e = (W, y) ∧ WQ W p w' ∧ w'.length ≤ w.length + 9 ∧ w' ++ [uN y] = w ++ grp (uN x) ∧ W5 p S W ∧ uN y < 128) 9 ?_ FU (S, x) (by unfold FU; omega) ⟨S, x, w, rfl, by omega, rfl, hw, rfl, W5.refl, uN_lt x⟩
  · obtain ⟨e, h1, W, y, w', rfl, h2, h2l, h3, h4, h5⟩ := this
    obtain ⟨S', k1, k2, k3⟩ := q_b h2 (by omega) (b := uN y) (by omega)
    refine ⟨S', ?_, by rw [← h3]; exact k2, h4.trans k3⟩
    unfold m_rgroup m_rgroup_J0 m_rgroup_L2
    rw [h1, ob_ok]
    simp only []
    rw [uN_32 (by omega), k1, ob_ok]
  · rintro i _ hi ⟨W, y, w', rfl, hi9, hwl, h1, h2, h3, h4⟩
    have hg := uN_grp y
    by_cases hy : uN y < 128
    · right
      have hg2 : gN (9 - i) (uN y) = [uN y] := by
        cases h9 : 9 - i with
        | zero => rfl
        | succ k => rw [gN, if_pos hy]
      rw [hg2] at h2
      refine ⟨(W, y), ?_, W, y, w', rfl, h1, by omega, h2, h3, hy⟩
      show m_rgroup_B2 W y = _
      unfold m_rgroup_B2
      rw [if_neg (hg.mpr hy).1, if_pos (hg.mpr hy).2]
    · left
      have hi8 : i ≤ 8 := by
        rcases Nat.lt_or_ge i 9 with h | h
        · omega
        · rw [show i = 9 by omega] at h4
          omega
      obtain ⟨S', k1, k2, k3⟩ := q_b h1 (by omega) (b := uN y % 128 + 128) (by omega)
      refine ⟨(S', ushr64 y 7), ?_, by omega, S', ushr64 y 7, w' ++ [uN y % 128 + 128], rfl, by omega, by simp; omega, k2, ?_, h3.trans k3, ?_⟩
      · show m_rgroup_B2 W y = _
        have hJ : m_rgroup_J16 W y = some (.inl (S', ushr64 y 7)) := by
          unfold m_rgroup_J16
          rw [uN_low, k1, ob_ok]
        unfold m_rgroup_B2
        by_cases c : lg_cmp y 0 < 0
        · rw [if_pos c, hJ]
        · rw [if_neg c, if_neg (fun h => hy (hg.mp ⟨c, h⟩)), hJ]
      · rw [← h2, show 9 - i = (9 - (i + 1)) + 1 by omega, gN, if_neg hy, uN_shr, List.append_assoc]
        rfl
      · rw [uN_shr]
        have hp2 : 2 ^ (64 - 7 * i) = 128 * 2 ^ (64 - 7 * (i + 1)) := by
          rw [show 64 - 7 * i = 7 + (64 - 7 * (i + 1)) by omega, Nat.pow_add]
        rw [hp2] at h4
        exact Nat.div_lt_of_lt_mul h4
theorem q_n (hw : WQ S p w) (hl : p + w.length + 10 ≤ 1000000000) {n : Nat} (hn : n < 2 ^ 31) : ∃ S', m_rgroup S (nI n).toInt64 = some S' ∧ WQ S' p (w ++ grp n) ∧ W5 p S S' := by
  have := q_num hw hl (nI n).toInt64
  rw [uN_of hn] at this
  exact this
/-- kept bytes are written -/
theorem q_kept (hw : WQ S p w) {q : Nat} {k : List Nat} (hk : ∀ i (h : i < k.length), k[i] < 256 ∧ S.a 26 (q + i) = sb k[i]) (hq : q + k.length ≤ 24576) (hl : p + w.length + k.length ≤ 1000000000) {α ε : Type} {body : α → Option (α ⊕ ε)} (f : MS → Int32 → α) (g : MS → ε)
    (hs : ∀ W i, W5 p S W → (hi : i < k.length) → body (f W (nI i)) = ob (m_rwrite W (sb k[i])) (fun o => some (.inl (f o (nI (i + 1)))))) (he : ∀ W, W5 p S W → body (f W (nI k.length)) = some (.inr (g W))) :
    ∃ S', lp body FU (f S (nI 0)) = some (g S') ∧ WQ S' p (w ++ k) ∧ W5 p S S' := by
  have := lp_run (body := body) (fun i v => ∃ W, v = f W (nI i) ∧ WQ W p (w ++ k.take i) ∧ W5 p S W) (fun e => ∃ W, e = g W ∧ WQ W p (w ++ k) ∧ W5 p S W) k.length ?_ FU (f S (nI 0)) (by unfold FU; omega) ⟨S, rfl, by simpa using hw, W5.refl⟩
  · obtain ⟨e, h1, W, rfl, h2, h3⟩ := this
    exact ⟨W, h1, h2, h3⟩
  · rintro i _ hi ⟨W, rfl, h1, h2⟩
    by_cases hin : i < k.length
    · left
      obtain ⟨S', k1, k2, k3⟩ := q_put h1 (by simp; omega) (sb k[i])
      rw [byt_sb (hk i hin).1] at k2
      refine ⟨f S' (nI (i + 1)), ?_, hin, S', rfl, ?_, h2.trans k3⟩
      · rw [hs W i h2 hin, k1, ob_ok]
      · rw [List.take_succ_eq_append_getElem hin, ← List.append_assoc]
        exact k2
    · right
      have e : i = k.length := by omega
      subst e
      refine ⟨g W, he W h2, W, rfl, ?_, h2⟩
      rw [List.take_of_length_le (Nat.le_refl _)] at h1
      exact h1
end SVF
