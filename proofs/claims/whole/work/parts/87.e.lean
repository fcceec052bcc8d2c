/-! LOADED: the reference's tools. -/
/-- what the reference leaves while it looks at what goes out -/
def XL (S W : MS) : Prop := (∀ j, j ≠ 41 → j ≠ 75 → W.i j = S.i j) ∧ (∀ k, k ≠ 40 → k ≠ 44 → W.a k = S.a k) ∧ ∀ i, i < 400000 → W.a 40 i = S.a 40 i
/-- what goes out is bo -/
def OB (S : MS) (bo : List Nat) : Prop := S.i 76 = nI bo.length ∧ byts S 40 0 bo ∧ bo.length ≤ 224582
section LDE
variable {S S' : MS} {A : AS} {r p : Nat} {w bo : List Nat}
theorem XL.refl : XL S S := ⟨fun _ _ _ => rfl, fun _ _ _ => rfl, fun _ _ => rfl⟩
theorem XL.trans {S'' : MS} (h : XL S S') (g : XL S' S'') : XL S S'' := ⟨fun j h1 h2 => (g.1 j h1 h2).trans (h.1 j h1 h2), fun j h1 h2 => (g.2.1 j h1 h2).trans (h.2.1 j h1 h2), fun i hi => (g.2.2 i hi).trans (h.2.2 i hi)⟩
theorem XL_setI {j : Nat} {v : Int32} (h : j = 41 ∨ j = 75) : XL S (S.setI j v) := ⟨fun i h1 h2 => by rw [MS.i_setI, if_neg (by omega)], fun _ _ _ => rfl, fun _ _ => rfl⟩
theorem XL_setA {f : Nat → Int32} : XL S (S.setA 44 f) := ⟨fun _ _ _ => rfl, fun k h1 h2 => by rw [MS.a_setA, if_neg h2], fun i hi => by rw [MS.a_setA, if_neg (by omega)]⟩
theorem W5.XL (h : W5 400000 S S') : XL S S' := ⟨fun j h1 _ => h.ii h1, fun k h1 _ => h.aa h1, fun i hi => h.lo hi⟩
theorem OB.fr (h : OB S bo) (g : XL S S') : OB S' bo := by
  obtain ⟨h1, h2, h3⟩ := h
  refine ⟨by rw [g.1 76 (by decide) (by decide)]; exact h1, fun i hi => ?_, h3⟩
  rw [g.2.2 _ (by omega)]
  exact h2 i hi
theorem l_clear : ∃ f, m_risSaved_L2 S 0 = some (S.setA 44 f) ∧ ∀ c, c < 1000 → f c = 0 := by
  have := lp_run (body := fun u : MS × Int32 => m_risSaved_B2 u.1 u.2) (fun i u => ∃ f, u = (S.setA 44 f, nI i) ∧ ∀ c, c < i → f c = 0) (fun e => ∃ f, e = S.setA 44 f ∧ ∀ c, c < 1000 → f c = 0) 1000 ?_ FU (S, nI 0) (by unfold FU; omega) ⟨S.a 44, by rw [MS.setA_self], fun c hc => by omega⟩
  · obtain ⟨e, h1, f, rfl, h2⟩ := this
    refine ⟨f, ?_, h2⟩
    unfold m_risSaved_L2
    exact h1
  · rintro i _ hi ⟨f, rfl, hf⟩
    by_cases hin : i < 1000
    · left
      refine ⟨(S.setA 44 (upd f i 0), nI (i + 1)), ?_, hin, upd f i 0, rfl, ?_⟩
      · show m_risSaved_B2 (S.setA 44 f) (nI i) = _
        unfold m_risSaved_B2
        rw [if_neg (show ¬ (1000 : Int32) ≤ nI i from fun h => by have := (nI_leI (a := 1000) (by omega) (by omega)).mp h; omega), gd_ok (by omega) (by omega), cl_nI (by omega), MS.a_setA, if_pos rfl, MS.setA_setA, nI_s]
        rfl
      · intro c hc
        unfold upd
        by_cases e : c = i
        · rw [if_pos e]
        · rw [if_neg e]; exact hf c (by omega)
    · right
      refine ⟨S.setA 44 f, ?_, f, rfl, fun c hc => hf c (by omega)⟩
      show m_risSaved_B2 (S.setA 44 f) (nI i) = _
      unfold m_risSaved_B2
      rw [if_pos (show (1000 : Int32) ≤ nI i from (nI_leI (a := 1000) (by omega) (by omega)).mpr (by omega))]
theorem l_gB (hO : OB S bo) {q i : Nat} (hq : q ≤ bo.length) (hi : i < 4) (x1 : Int32) : m_rgrouped_B4 (S.setI 75 (nI q)) x1 (nI i) = if h : q < bo.length then (if 128 ≤ bo[q] then some (.inl (S.setI 75 (nI (q + 1)), x1 ||| ((nI bo[q] &&& 127) <<< ((7 * nI i) &&& 31)), nI (i + 1))) else some (.inr (.inr (S.setI 75 (nI (q + 1)), x1 ||| ((nI bo[q] &&& 127) <<< ((7 * nI i) &&& 31)))))) else some (.inr (.inr (S.setI 75 (nI q), -1))) := by
  obtain ⟨h1, h2, h3⟩ := hO
  unfold m_rgrouped_B4
  rw [if_neg (show ¬ (4 : Int32) ≤ nI i from fun h => by have := (nI_leI (a := 4) (by omega) (by omega)).mp h; omega), show (S.setI 75 (nI q)).i 75 = nI q from by rw [MS.i_setI, if_pos rfl], show (S.setI 75 (nI q)).i 76 = nI bo.length from by rw [MS.i_setI, if_neg (by decide)]; exact h1]
  by_cases e : q < bo.length
  · have hb := h2 q e
    rw [Nat.zero_add] at hb
    rw [dif_pos e, if_pos ((nI_ltI (by omega) (by omega)).mpr e), gd_ok (by omega) (by omega), cl_nI (by omega), MS.a_setI, hb.2, show (255 : Int32) = nI 255 from q255, sb_and hb.1, nI_s, nI_s, MS.setI_setI]
    by_cases e2 : 128 ≤ bo[q]
    · rw [if_pos e2, if_pos (show (128 : Int32) ≤ nI bo[q] from (nI_leI (a := 128) (by omega) (by omega)).mpr e2)]
    · rw [if_neg e2, if_neg (show ¬ (128 : Int32) ≤ nI bo[q] from fun h => e2 ((nI_leI (a := 128) (by omega) (by omega)).mp h))]
  · rw [dif_neg e, if_neg (fun h => e ((nI_ltI (by omega) (by omega)).mp h))]
/-- a number is read, whatever lies there -/
theorem l_any (hO : OB S bo) {q : Nat} (hq : q ≤ bo.length) (h75 : S.i 75 = nI q) : ∃ v q', m_rgrouped S = some (S.setI 75 (nI q'), v) ∧ q' ≤ bo.length := by
  have hS : S.setI 75 (nI q) = S := by rw [← h75, MS.setI_self]
  have := lp_run (body := fun u : MS × Int32 × Int32 => m_rgrouped_B4 u.1 u.2.1 u.2.2) (fun i u => ∃ q1 x1, u = (S.setI 75 (nI q1), x1, nI i) ∧ q1 ≤ bo.length) (fun e => ∃ q', q' ≤ bo.length ∧ (e = .inl (S.setI 75 (nI q')) ∨ ∃ v, e = .inr (S.setI 75 (nI q'), v))) 4 ?_ FU (S, 0, nI 0) (by unfold FU; omega) ⟨q, 0, by rw [hS], hq⟩
  · obtain ⟨e, h1, q', h2, h3⟩ := this
    have h1 : m_rgrouped_L4 S 0 0 = some e := by unfold m_rgrouped_L4; exact h1
    unfold m_rgrouped m_rgrouped_J0
    rcases h3 with rfl | ⟨v, rfl⟩
    · exact ⟨-1, q', by rw [h1]; rfl, h2⟩
    · exact ⟨v, q', by rw [h1]; rfl, h2⟩
  · rintro i _ hi ⟨q1, x1, rfl, hq1⟩
    by_cases hin : i < 4
    · have hB := l_gB hO hq1 hin x1
      by_cases e : q1 < bo.length
      · rw [dif_pos e] at hB
        by_cases e2 : 128 ≤ bo[q1]
        · rw [if_pos e2] at hB
          left
          exact ⟨_, hB, hin, q1 + 1, _, rfl, by omega⟩
        · rw [if_neg e2] at hB
          right
          exact ⟨_, hB, q1 + 1, by omega, Or.inr ⟨_, rfl⟩⟩
      · rw [dif_neg e] at hB
        right
        exact ⟨_, hB, q1, hq1, Or.inr ⟨_, rfl⟩⟩
    · right
      refine ⟨.inl (S.setI 75 (nI q1)), ?_, q1, hq1, Or.inl rfl⟩
      show m_rgrouped_B4 (S.setI 75 (nI q1)) x1 (nI i) = _
      unfold m_rgrouped_B4
      rw [if_pos (show (4 : Int32) ≤ nI i from (nI_leI (a := 4) (by omega) (by omega)).mpr (by omega))]
theorem sh7 {x y : Nat} (hx : x < 128) (hy : y < 128) : (nI x ||| ((nI y &&& 127) <<< ((7 * nI 1) &&& 31))) = nI (x + 128 * y) := by
  apply Int32.toBitVec_inj.mp
  apply BitVec.eq_of_toNat_eq
  rw [nI_bv, Int32.toBitVec_or, BitVec.toNat_or, nI_bv, Int32.toBitVec_shiftLeft, show ((Int32.toBitVec (((7 : Int32) * nI 1) &&& 31)).smod 32) = 7#32 from by decide, BitVec.shiftLeft_eq', BitVec.toNat_shiftLeft, show (7#32).toNat = 7 from by decide, Int32.toBitVec_and, BitVec.toNat_and, nI_bv, show (Int32.toBitVec 127).toNat = 2 ^ 7 - 1 from by decide, Nat.and_two_pow_sub_one_eq_mod, Nat.shiftLeft_eq]
  have e1 : x % 2 ^ 32 = x := by omega
  have e2 : y % 2 ^ 32 % 2 ^ 7 * 2 ^ 7 % 2 ^ 32 = 2 ^ 7 * y := by omega
  rw [e1, e2, Nat.or_comm, ← Nat.two_pow_add_eq_or_of_lt (show x < 2 ^ 7 by omega)]
  omega
theorem sh0 {x : Nat} (hx : x < 256) : ((0 : Int32) ||| ((nI x &&& 127) <<< ((7 * nI 0) &&& 31))) = nI (x % 128) := by
  apply Int32.toBitVec_inj.mp
  apply BitVec.eq_of_toNat_eq
  rw [nI_bv, Int32.toBitVec_or, BitVec.toNat_or, Int32.toBitVec_shiftLeft, show ((Int32.toBitVec (((7 : Int32) * nI 0) &&& 31)).smod 32) = 0#32 from by decide, BitVec.shiftLeft_eq', BitVec.toNat_shiftLeft, show (0#32).toNat = 0 from by decide, Int32.toBitVec_and, BitVec.toNat_and, nI_bv, show (Int32.toBitVec 127).toNat = 2 ^ 7 - 1 from by decide, Nat.and_two_pow_sub_one_eq_mod, show (Int32.toBitVec 0).toNat = 0 from by decide, Nat.shiftLeft_eq, Nat.zero_or]
  omega
/-- a number that lies there is read -/
theorem l_val (hO : OB S bo) {x : Nat} {y z : List Nat} (hx : x < 16384) (hb : bo = y ++ (grp x ++ z)) (h75 : S.i 75 = nI y.length) : m_rgrouped S = some (S.setI 75 (nI (y.length + (grp x).length)), nI x) := by
  have hS : S.setI 75 (nI y.length) = S := by rw [← h75, MS.setI_self]
  unfold m_rgrouped m_rgrouped_J0 m_rgrouped_L4 FU
  have hat : ∀ i (h : i < (grp x).length), y.length + i < bo.length ∧ ∀ h2 : y.length + i < bo.length, bo[y.length + i] = (grp x)[i] := by
    intro i hi
    have hl : bo.length = y.length + ((grp x).length + z.length) := by rw [hb, List.length_append, List.length_append]
    refine ⟨by omega, fun h2 => ?_⟩
    simp only [hb]
    rw [List.getElem_append_right (by omega), List.getElem_append_left (by omega)]
    congr 1
    omega
  by_cases e : x < 128
  · have hg : grp x = [x] := grp_1 e
    obtain ⟨a1, a2⟩ := hat 0 (by rw [hg]; simp)
    have hbq : bo[y.length]'(by omega) = x := by
      have := a2 a1
      simp only [Nat.add_zero, hg] at this
      exact this
    have hB := l_gB hO (q := y.length) (i := 0) (by omega) (by omega) 0
    rw [dif_pos (by omega), hbq, if_neg (by omega), hS, sh0 (by omega), Nat.mod_eq_of_lt e] at hB
    rw [show (1000000 : Nat) = 999999 + 1 from rfl]
    have hB0 : m_rgrouped_B4 S 0 0 = _ := hB
    simp only [lp, hB0, hg]
    rfl
  · have hg : grp x = [x % 128 + 128, x / 128] := by
      unfold grp
      rw [gN, if_neg e, gN, if_pos (by omega)]
    obtain ⟨a1, a2⟩ := hat 0 (by rw [hg]; simp)
    obtain ⟨c1, c2⟩ := hat 1 (by rw [hg]; simp)
    have hbq : bo[y.length]'(by omega) = x % 128 + 128 := by
      have := a2 a1
      simp only [Nat.add_zero, hg] at this
      exact this
    have hbq2 : bo[y.length + 1]'(by omega) = x / 128 := by
      have := c2 c1
      simp only [hg] at this
      exact this
    have hB := l_gB hO (q := y.length) (i := 0) (by omega) (by omega) 0
    rw [dif_pos (by omega), hbq, if_pos (by omega), hS, sh0 (by omega), show (x % 128 + 128) % 128 = x % 128 by omega] at hB
    have hB2 := l_gB hO (q := y.length + 1) (i := 1) (by omega) (by omega) (nI (x % 128))
    rw [dif_pos (by omega), hbq2, if_neg (by omega), sh7 (by omega) (by omega), show x % 128 + 128 * (x / 128) = x by omega] at hB2
    rw [show (1000000 : Nat) = 999998 + 1 + 1 from rfl]
    have hB0 : m_rgrouped_B4 S 0 0 = _ := hB
    simp only [lp, hB0, hB2, hg]
    rfl
/-- whether the same bytes lie there -/
theorem l_stands (hO : OB S bo) {x : List Nat} (hx : WQ S 400000 x) (hxl : x.length ≤ 399000) (hw : w <+: bo) : m_rstands S (nI w.length) (nI x.length) = some (S, b2 (decide ((w ++ x) <+: bo))) := by
  obtain ⟨h1, h2, h3⟩ := hO
  obtain ⟨z, hz⟩ := hw
  have hbl : bo.length = w.length + z.length := by rw [← hz, List.length_append]
  unfold m_rstands m_rstands_J0
  rw [h1, nI_add]
  by_cases e : w.length + x.length ≤ bo.length
  · rw [if_pos ((nI_leI (by omega) (by omega)).mpr e)]
    have hiff : ∀ k, k ≤ x.length → ((w ++ x.take k) <+: bo ↔ ∀ i (hi : i < x.length) (hi2 : i < k), bo[w.length + i]? = some x[i]) := by
      intro k
      induction k with
      | zero => intro _; simp; exact ⟨z, hz⟩
      | succ k ih =>
        intro hk
        rw [List.take_succ_eq_append_getElem (by omega), ← List.append_assoc, pre_snoc, ih (by omega)]
        have hl : (w ++ x.take k).length = w.length + k := by rw [List.length_append, List.length_take, Nat.min_eq_left (by omega)]
        rw [hl]
        constructor
        · rintro ⟨g1, g2⟩ i hi hi2
          by_cases ei : i = k
          · subst ei; exact g2
          · exact g1 i hi (by omega)
        · intro g
          exact ⟨fun i hi hi2 => g i hi (by omega), g k (by omega) (by omega)⟩
    have := lp_run (body := fun u : MS × Int32 × Int32 × Int32 => m_rstands_B14 u.1 u.2.1 u.2.2.1 u.2.2.2) (fun i u => u = (S, nI w.length, nI x.length, nI i) ∧ i ≤ x.length ∧ (w ++ x.take i) <+: bo) (fun e => (e = .inl S ∧ (w ++ x) <+: bo) ∨ (e = .inr (S, 0) ∧ ¬ (w ++ x) <+: bo)) x.length ?_ FU (S, nI w.length, nI x.length, nI 0) (by unfold FU; omega) ⟨rfl, by omega, by simp; exact ⟨z, hz⟩⟩
    · obtain ⟨e, k1, k2⟩ := this
      have k1 : m_rstands_L14 S (nI w.length) (nI x.length) 0 = some e := by unfold m_rstands_L14; exact k1
      rw [k1]
      rcases k2 with ⟨rfl, k3⟩ | ⟨rfl, k3⟩
      · rw [decide_eq_true k3]; rfl
      · rw [decide_eq_false k3]; rfl
    · rintro i _ hi ⟨rfl, hi2, hpi⟩
      by_cases hin : i < x.length
      · have hxi := hx.2.2 i hin
        have hbi := h2 (w.length + i) (by omega)
        rw [Nat.zero_add] at hbi
        have hB : m_rstands_B14 S (nI w.length) (nI x.length) (nI i) = (if sb bo[w.length + i] = sb x[i] then some (.inl (S, nI w.length, nI x.length, nI (i + 1))) else some (.inr (.inr (S, 0)))) := by
          unfold m_rstands_B14
          rw [if_neg (nle hin (by omega)), nI_add, gd_ok (by omega) (by omega), show (400000 : Int32) + nI i = nI (400000 + i) from nI_add 400000 i, gd_ok (by omega) (by omega), cl_nI (by omega), cl_nI (by omega), hbi.2, hxi.2 (by omega), nI_s]
        have hsb := sb_inj hbi.1 hxi.1
        by_cases e3 : bo[w.length + i] = x[i]
        · left
          refine ⟨_, by show m_rstands_B14 S (nI w.length) (nI x.length) (nI i) = _; rw [hB, if_pos (hsb.mpr e3)], hin, rfl, by omega, ?_⟩
          rw [List.take_succ_eq_append_getElem hin, ← List.append_assoc, pre_snoc]
          refine ⟨hpi, ?_⟩
          rw [List.length_append, List.length_take, Nat.min_eq_left hi2, List.getElem?_eq_getElem (by omega), e3]
        · right
          refine ⟨_, by show m_rstands_B14 S (nI w.length) (nI x.length) (nI i) = _; rw [hB, if_neg (fun h => e3 (hsb.mp h))], Or.inr ⟨rfl, ?_⟩⟩
          intro h
          have h5 := (hiff x.length (Nat.le_refl _)).mp (by rw [List.take_length]; exact h) i hin hin
          rw [List.getElem?_eq_getElem (by omega)] at h5
          exact e3 (Option.some.inj h5)
      · right
        refine ⟨.inl S, ?_, Or.inl ⟨rfl, ?_⟩⟩
        · show m_rstands_B14 S (nI w.length) (nI x.length) (nI i) = _
          unfold m_rstands_B14
          rw [show i = x.length by omega, if_pos (Int32.le_refl _)]
        · rw [List.take_of_length_le (by omega)] at hpi
          exact hpi
  · rw [if_neg (fun h => e ((nI_leI (by omega) (by omega)).mp h)), decide_eq_false]
    · rfl
    · intro h
      have := h.length_le
      rw [List.length_append] at this
      omega
end LDE
