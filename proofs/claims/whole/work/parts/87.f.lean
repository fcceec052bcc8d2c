/-! LOADED: the reference goes through the changes. -/
/-- the state of the reference's loop over the changes: t tells what has been found, x2 and x3 the last one -/
def LST (t : Nat → Nat) (x2 x3 : Int32) : Prop := (x2 = -1 ∧ x3 = 0 ∧ ∀ b, t b = 0) ∨ (∃ a, a < 8 ∧ x2 = nI a ∧ x3 = nI (t a) ∧ 1 ≤ t a ∧ ∀ b, a < b → t b = 0)
section LDF
variable {S S' : MS} {A : AS} {r p : Nat} {w bo : List Nat}
theorem chs_snoc (hA : AI A) {t : Nat → Nat} (ht : ∀ a, t a ≤ A.hv a a) {a : Nat} (ha : a < 8) (h1 : t a + 1 ≤ A.hv a a) (hz : ∀ b, a < b → t b = 0) : A.chs (fun b => if b = a then t a + 1 else t b) = A.chs t ++ [A.ch a (t a + 1)] := by
  obtain ⟨c, c1, c2, c3, c4, c5⟩ := fc_some hA (a := a) (k := t a + 1) (by omega) h1
  have ht2 : ∀ b, (fun b => if b = a then t a + 1 else t b) b ≤ A.hv b b := by
    intro b
    show (if b = a then t a + 1 else t b) ≤ A.hv b b
    by_cases e : b = a
    · rw [if_pos e, e]; exact h1
    · rw [if_neg e]; exact ht b
  rw [c2]
  apply srt_uniq (fun c => 2000 * A.ca c + A.cu c)
  · exact chs_srt hA ht2
  · rw [List.pairwise_append]
    refine ⟨chs_srt hA ht, List.pairwise_singleton _ _, fun d hd e he => ?_⟩
    rw [List.mem_singleton] at he
    rw [he]
    have hd2 := (chs_mem hA ht).mp hd
    have hcu := cu_le hA hd2.1
    have hg := hA.2.1.1 d hd2.1
    show 2000 * A.ca d + A.cu d < 2000 * A.ca c + A.cu c
    rw [c4, c5]
    rcases Nat.lt_trichotomy (A.ca d) a with h | h | h
    · omega
    · have := hd2.2
      rw [h] at this
      omega
    · have := hd2.2
      rw [hz _ h] at this
      omega
  · intro d
    rw [chs_mem hA ht2, List.mem_append, List.mem_singleton, chs_mem hA ht]
    show d < A.m ∧ A.cu d ≤ (if A.ca d = a then t a + 1 else t (A.ca d)) ↔ _
    constructor
    · rintro ⟨h2, h3⟩
      by_cases e : A.ca d = a
      · rw [if_pos e] at h3
        by_cases e2 : A.cu d = t a + 1
        · right
          exact cu_inj hA.2.1.2.1 h2 c3 (by rw [e, c4]) (by rw [e2, c5])
        · left
          exact ⟨h2, by rw [e]; omega⟩
      · rw [if_neg e] at h3
        exact Or.inl ⟨h2, h3⟩
    · rintro (⟨h2, h3⟩ | rfl)
      · refine ⟨h2, ?_⟩
        by_cases e : A.ca d = a
        · rw [if_pos e]
          rw [e] at h3
          omega
        · rw [if_neg e]; exact h3
      · exact ⟨c3, by rw [c4, if_pos rfl]; omega⟩
/-- the next change follows the last one -/
theorem chs_next (hA : AI A) {t t' : Nat → Nat} (ht : ∀ a, t a ≤ A.hv a a) (ht' : ∀ a, t' a ≤ A.hv a a) {c : Nat} {y : List Nat} (h : A.chs t = A.chs t' ++ c :: y) {x2 x3 : Int32} (hl : LST t' x2 x3) :
    c < A.m ∧ A.cu c = t' (A.ca c) + 1 ∧ (∀ b, A.ca c < b → t' b = 0) := by
  have hm := hA.1.2.1
  have hcm : c ∈ A.chs t := by rw [h]; simp
  have hc := (chs_mem hA ht).mp hcm
  have hg := hA.2.1.1 c hc.1
  have hs := chs_srt hA ht
  have hn := (chs_nodup hA ht).1
  rw [h] at hs hn
  have hD : ∀ d, d ∈ A.chs t' → 2000 * A.ca d + A.cu d < 2000 * A.ca c + A.cu c := fun d hd => (List.pairwise_append.mp hs).2.2 d hd c (by simp)
  have hR : ∀ d, d ∈ y → 2000 * A.ca c + A.cu c < 2000 * A.ca d + A.cu d := fun d hd => (List.pairwise_cons.mp (List.pairwise_append.mp hs).2.1).1 d hd
  have hnD : c ∉ A.chs t' := fun hd => by have := hD c hd; omega
  have hlt : t' (A.ca c) < A.cu c := by
    rcases Nat.lt_or_ge (t' (A.ca c)) (A.cu c) with h2 | h2
    · exact h2
    · exact absurd ((chs_mem hA ht').mpr ⟨hc.1, h2⟩) hnD
  have hzero : ∀ b, A.ca c < b → t' b = 0 := by
    intro b hb
    rcases Nat.eq_zero_or_pos (t' b) with h2 | h2
    · exact h2
    · exfalso
      obtain ⟨d, d1, d2, d3, d4, d5⟩ := fc_some hA (a := b) (k := 1) (by omega) (by have := ht' b; omega)
      have := hD d ((chs_mem hA ht').mpr ⟨d3, by rw [d4, d5]; exact h2⟩)
      rw [d4, d5] at this
      have hcu := cu_le hA hc.1
      omega
  refine ⟨hc.1, ?_, hzero⟩
  by_cases e : A.cu c = 1
  · omega
  · obtain ⟨d, d1, d2, d3, d4, d5⟩ := fc_some hA (a := A.ca c) (k := A.cu c - 1) (by omega) (by omega)
    have hdm : d ∈ A.chs t := (chs_mem hA ht).mpr ⟨d3, by rw [d4, d5]; omega⟩
    rw [h, List.mem_append, List.mem_cons] at hdm
    rcases hdm with h2 | h2 | h2
    · have := ((chs_mem hA ht').mp h2).2
      rw [d4, d5] at this
      omega
    · rw [h2] at d5; omega
    · have := hR d h2
      rw [d4, d5] at this
      omega
/-- what is true in the loop over the changes -/
def LI (S : MS) (A : AS) (bo : List Nat) (n : Nat) (i : Nat) (u : MS × Int32 × Int32 × Int32 × Int32) : Prop :=
  ∃ W t x2 x3, u = (W, nI n, x2, x3, nI i) ∧ RS W A ∧ XL S W ∧ (∀ a, t a ≤ A.hv a a) ∧ (A.chs t).length = i ∧ LST t x2 x3 ∧ (grp n ++ (A.chs t).flatMap A.chB) <+: bo ∧ W.i 75 = nI (grp n ++ (A.chs t).flatMap A.chB).length ∧ (∀ c, c < 1000 → W.a 44 c = b2 (decide (c ∈ A.chs t))) ∧
    ∀ s : Nat → Nat, (∀ a, s a ≤ A.hv a a) → bo = sv4 (A.svd s) → A.chs t <+: A.chs s
/-- how the loop ends -/
def LO (S : MS) (A : AS) (bo : List Nat) (n : Nat) (e : MS ⊕ (MS × Int32)) : Prop :=
  (∃ W t, e = .inl W ∧ RS W A ∧ XL S W ∧ (∀ a, t a ≤ A.hv a a) ∧ (A.chs t).length = n ∧ (grp n ++ (A.chs t).flatMap A.chB) <+: bo ∧ W.i 75 = nI (grp n ++ (A.chs t).flatMap A.chB).length ∧ (∀ c, c < 1000 → W.a 44 c = b2 (decide (c ∈ A.chs t))) ∧ ∀ s : Nat → Nat, (∀ a, s a ≤ A.hv a a) → bo = sv4 (A.svd s) → A.chs t <+: A.chs s) ∨
  (∃ W, e = .inr (W, 0) ∧ RS W A ∧ XL S W ∧ ∀ s : Nat → Nat, (∀ a, s a ≤ A.hv a a) → bo ≠ sv4 (A.svd s))
theorem grp_byte {n : Nat} (hn : n < 2097152) : ∀ (b : Nat), b ∈ grp n → b < 256 := by
  have h : ∀ f m, m < 2 ^ (7 * f + 8) → ∀ b, b ∈ gN f m → b < 256 := by
    intro f
    induction f with
    | zero => intro m hm b hb; rw [gN, List.mem_singleton] at hb; omega
    | succ f ih =>
      intro m hm b hb
      rw [gN] at hb
      split at hb
      · rw [List.mem_singleton] at hb; omega
      · rw [List.mem_cons] at hb
        rcases hb with hb | hb
        · omega
        · refine ih (m / 128) ?_ b hb
          rw [show 7 * (f + 1) + 8 = 7 + (7 * f + 8) by omega, Nat.pow_add] at hm
          exact Nat.div_lt_of_lt_mul hm
  exact h 9 n (by omega)
set_option maxHeartbeats 2000000 in
theorem l_step (hA : AI A) (hK : LOK A) (hO : OB S bo) {n i : Nat} (hn : n ≤ A.m) (hin : i < n) (hns : ∀ s : Nat → Nat, (∀ a, s a ≤ A.hv a a) → bo = sv4 (A.svd s) → sumTo s 8 = n) {u : MS × Int32 × Int32 × Int32 × Int32} (hI : LI S A bo n i u) :
    (∃ u', m_risSaved_B93 u.1 u.2.1 u.2.2.1 u.2.2.2.1 u.2.2.2.2 = some (.inl u') ∧ LI S A bo n (i + 1) u') ∨ (∃ e, m_risSaved_B93 u.1 u.2.1 u.2.2.1 u.2.2.2.1 u.2.2.2.2 = some (.inr e) ∧ LO S A bo n e) := by
  have hm := hA.1.2.1
  obtain ⟨W, t, x2, x3, rfl, hR, hX, ht, hlen, hL, hpre, h75, h44, hgood⟩ := hI
  have hOW := hO.fr hX
  simp only []
  generalize hw : grp n ++ (A.chs t).flatMap A.chB = w at hpre h75
  have hwl : w.length ≤ bo.length := hpre.length_le
  have hbl := hO.2.2
  obtain ⟨v1, q1, g1, g2⟩ := l_any hOW hwl h75
  have hOW1 : OB (W.setI 75 (nI q1)) bo := hOW.fr (XL_setI (Or.inr rfl))
  obtain ⟨v2, q2, g3, g4⟩ := l_any hOW1 g2 (by rw [MS.i_setI, if_pos rfl])
  rw [MS.setI_setI] at g3
  -- what lies there, if all is right
  have hK2 : ∀ s : Nat → Nat, (∀ a, s a ≤ A.hv a a) → bo = sv4 (A.svd s) → ∃ c, c < A.m ∧ A.cu c = t (A.ca c) + 1 ∧ (∀ b, A.ca c < b → t b = 0) ∧ v1 = nI (A.ca c) ∧ v2 = nI (A.cu c) ∧ (w ++ A.chB c) <+: bo ∧ (A.chs t ++ [c]) <+: A.chs s := by
    intro s hs hbs
    obtain ⟨y, hy⟩ := hgood s hs hbs
    have hsl := chs_len hA hs
    rw [hns s hs hbs] at hsl
    cases y with
    | nil =>
      rw [List.append_nil] at hy
      rw [← hy] at hsl
      omega
    | cons c y =>
      obtain ⟨k1, k2, k3⟩ := chs_next hA hs ht hy.symm hL
      have hca := (hA.2.1.1 c k1).1
      have hcu := cu_le hA k1
      have hbo : bo = w ++ (A.chB c ++ (y.flatMap A.chB ++ by4 (crcV (A.svd s)))) := by
        rw [hbs]
        unfold sv4
        have e : A.svd s = w ++ (A.chB c ++ y.flatMap A.chB) := by
          rw [← hw]
          unfold AS.svd
          rw [hns s hs hbs, ← hy, List.flatMap_append, List.flatMap_cons, List.append_assoc]
        rw [e]
        simp only [List.append_assoc]
      have hcb : A.chB c = grp (A.ca c) ++ (grp (A.cu c) ++ (grp (A.cdl c).length ++ ((A.cdl c).flatMap (fun d => grp (A.ca d) ++ grp (A.cu d)) ++ (grp (A.cf c) ++ (grp (A.cz c) ++ (A.cops c).flatMap A.opB))))) := rfl
      have r1 := l_val hOW (x := A.ca c) (y := w) (by omega) (by rw [hbo, hcb]; simp only [List.append_assoc]; rfl) h75
      rw [g1] at r1
      have r1' := Prod.mk.inj (Option.some.inj r1)
      have hq1 : nI q1 = nI (w.length + (grp (A.ca c)).length) := by
        have := congrArg (fun M : MS => M.i 75) r1'.1
        simp only [MS.i_setI, if_true] at this
        exact this
      have r2 := l_val hOW1 (x := A.cu c) (y := w ++ grp (A.ca c)) (by omega) (by rw [hbo, hcb]; simp only [List.append_assoc]; rfl) (by rw [MS.i_setI, if_pos rfl, List.length_append]; exact hq1)
      rw [MS.setI_setI, g3] at r2
      have r2' := Prod.mk.inj (Option.some.inj r2)
      refine ⟨c, k1, k2, k3, r1'.2, r2'.2, ⟨_, by rw [hbo]; simp only [List.append_assoc]; rfl⟩, ⟨y, by rw [← hy]; simp⟩⟩
  have hR2 : RS (W.setI 75 (nI q2)) A := hR.setI rfl
  have hX2 : XL S (W.setI 75 (nI q2)) := hX.trans (XL_setI (Or.inr rfl))
  have hfail : (∀ s : Nat → Nat, (∀ a, s a ≤ A.hv a a) → bo ≠ sv4 (A.svd s)) → LO S A bo n (.inr (W.setI 75 (nI q2), 0)) := fun h => Or.inr ⟨_, rfl, hR2, hX2, h⟩
  have hpreB : m_risSaved_B93 W (nI n) x2 x3 (nI i) = (if v1 < 0 then some (.inr (.inr (W.setI 75 (nI q2), 0))) else (if 7 < v1 then some (.inr (.inr (W.setI 75 (nI q2), 0))) else (if 1 ≤ v2 then (if v1 = x2 then (if v2 = x3 + 1 then m_risSaved_J168 (W.setI 75 (nI q2)) (nI n) (nI i) (W.i 75) v1 v2 else some (.inr (.inr (W.setI 75 (nI q2), 0)))) else (if v1 < x2 then some (.inr (.inr (W.setI 75 (nI q2), 0))) else (if v2 = 1 then m_risSaved_J168 (W.setI 75 (nI q2)) (nI n) (nI i) (W.i 75) v1 v2 else some (.inr (.inr (W.setI 75 (nI q2), 0)))))) else some (.inr (.inr (W.setI 75 (nI q2), 0)))))) := by
    unfold m_risSaved_B93 m_risSaved_J135 m_risSaved_J166
    rw [if_neg (nle hin (by omega)), g1, ob_ok]
    simp only []
    rw [g3, ob_ok]
  by_cases c1 : v1 < 0
  · right
    refine ⟨_, by rw [hpreB, if_pos c1], hfail (fun s hs hb => ?_)⟩
    obtain ⟨c, k1, _, _, k4, _⟩ := hK2 s hs hb
    rw [k4] at c1
    have h1 := (hA.2.1.1 c k1).1
    exact nI_pos (by omega) c1
  rw [if_neg c1] at hpreB
  obtain ⟨a, ha31, rfl⟩ := nI_of (x := v1) c1
  by_cases c2 : (7 : Int32) < nI a
  · right
    refine ⟨_, by rw [hpreB, if_pos c2], hfail (fun s hs hb => ?_)⟩
    obtain ⟨c, k1, _, _, k4, _⟩ := hK2 s hs hb
    have h1 := (hA.2.1.1 c k1).1
    have h2 := (nI_eq (by omega) (by omega)).mp k4
    have h3 := (nI_ltI (a := 7) (by omega) (by omega)).mp c2
    omega
  rw [if_neg c2] at hpreB
  have ha : a < 8 := by
    rcases Nat.lt_or_ge a 8 with h | h
    · exact h
    · exact absurd ((nI_ltI (a := 7) (by omega) (by omega)).mpr (by omega)) c2
  by_cases c3 : (1 : Int32) ≤ v2
  case neg =>
    right
    refine ⟨_, by rw [hpreB, if_neg c3], hfail (fun s hs hb => ?_)⟩
    obtain ⟨c, k1, _, _, _, k5, _⟩ := hK2 s hs hb
    rw [k5] at c3
    have h1 := (hA.2.1.1 c k1).2.1
    have hcu := cu_le hA k1
    exact c3 ((nI_leI (a := 1) (by omega) (by omega)).mpr h1)
  rw [if_pos c3] at hpreB
  have hv2n : ¬ v2 < nI 0 := fun h => by
    have h1 : (0 : Int32) < 1 := by decide
    have h2 := Int32.lt_of_lt_of_le h1 c3
    exact Int32.lt_irrefl (Int32.lt_trans h2 h)
  obtain ⟨k, hk31, rfl⟩ := nI_of hv2n
  have hk1 : 1 ≤ k := (nI_leI (a := 1) (by omega) (by omega)).mp c3
  -- whether it follows the last one
  have htb : ∀ b, t b ≤ 1000 := fun b => by have := ht b; have := hv_m hA b; omega
  have hfol : (m_risSaved_B93 W (nI n) x2 x3 (nI i) = m_risSaved_J168 (W.setI 75 (nI q2)) (nI n) (nI i) (W.i 75) (nI a) (nI k) ∧ k = t a + 1 ∧ ∀ b, a < b → t b = 0) ∨ (m_risSaved_B93 W (nI n) x2 x3 (nI i) = some (.inr (.inr (W.setI 75 (nI q2), 0))) ∧ ¬ (k = t a + 1 ∧ ∀ b, a < b → t b = 0)) := by
    rcases hL with ⟨e2, e3, e4⟩ | ⟨a0, l1, e2, e3, l2, l3⟩
    · have hne : ¬ nI a = x2 := by
        rw [e2]
        intro h
        have h3 : (-1 : Int32) < 0 := by decide
        rw [← h] at h3
        exact nI_pos (by omega) h3
      have hnl : ¬ nI a < x2 := by
        rw [e2]
        intro h
        exact nI_pos (by omega) (Int32.lt_trans h (by decide))
      rw [if_neg hne, if_neg hnl] at hpreB
      by_cases c4 : nI k = 1
      · left
        have := (nI_eq (b := 1) (by omega) (by omega)).mp c4
        rw [if_pos c4] at hpreB
        exact ⟨hpreB, by rw [e4]; omega, fun b _ => e4 b⟩
      · right
        rw [if_neg c4] at hpreB
        refine ⟨hpreB, fun h => c4 ?_⟩
        rw [h.1, e4]
        rfl
    · by_cases c4 : nI a = x2
      · have hae : a = a0 := (nI_eq (by omega) (by omega)).mp (c4.trans e2)
        have hta := htb a0
        rw [if_pos c4] at hpreB
        by_cases c5 : nI k = x3 + 1
        · left
          rw [if_pos c5] at hpreB
          have h5 : nI k = nI (t a0 + 1) := by rw [c5, e3]; exact nI_add _ 1
          have := (nI_eq (by omega) (by omega)).mp h5
          exact ⟨hpreB, by rw [hae]; exact this, by rw [hae]; exact l3⟩
        · right
          rw [if_neg c5] at hpreB
          refine ⟨hpreB, fun h => c5 ?_⟩
          rw [h.1, hae, e3]
          exact (nI_add _ 1).symm
      · have hae : a ≠ a0 := fun h => c4 (by rw [h, e2])
        rw [if_neg c4] at hpreB
        by_cases c5 : nI a < x2
        · right
          rw [if_pos c5] at hpreB
          rw [e2] at c5
          have h5 := (nI_ltI (by omega) (by omega)).mp c5
          refine ⟨hpreB, fun h => ?_⟩
          have := h.2 a0 h5
          omega
        · rw [if_neg c5] at hpreB
          have hag : a0 < a := by
            rcases Nat.lt_or_ge a a0 with h | h
            · exact absurd (by rw [e2]; exact (nI_ltI (by omega) (by omega)).mpr h) c5
            · omega
          have h0 := l3 a hag
          by_cases c6 : nI k = 1
          · left
            have := (nI_eq (b := 1) (by omega) (by omega)).mp c6
            rw [if_pos c6] at hpreB
            exact ⟨hpreB, by omega, fun b hb => l3 b (by omega)⟩
          · right
            rw [if_neg c6] at hpreB
            refine ⟨hpreB, fun h => c6 ?_⟩
            rw [h.1, h0]
            rfl
  rcases hfol with ⟨hJ, hka, hz⟩ | ⟨hJ, hno⟩
  case inr =>
    right
    refine ⟨_, hJ, hfail (fun s hs hb => ?_)⟩
    obtain ⟨c, k1, k2, k3, k4, k5, _⟩ := hK2 s hs hb
    have hca := (hA.2.1.1 c k1).1
    have hcu := cu_le hA k1
    have e1 := (nI_eq (by omega) (by omega)).mp k4
    have e2 := (nI_eq (by omega) (by omega)).mp k5
    exact hno ⟨by rw [e1, e2]; exact k2, by rw [e1]; exact k3⟩
  rw [hJ]
  unfold m_risSaved_J168
  rw [pS_find hR2 hA ha, ob_ok]
  simp only []
  cases hfc : A.fc a (nI k) with
  | none =>
    right
    refine ⟨_, by rw [show cI none = -1 from rfl, if_neg (show ¬ (0 : Int32) ≤ -1 by decide)], hfail (fun s hs hb => ?_)⟩
    obtain ⟨c, k1, k2, k3, k4, k5, _⟩ := hK2 s hs hb
    have hg := hA.2.1.1 c k1
    have hcu := cu_le hA k1
    have e1 := (nI_eq (by omega) (by omega)).mp k4
    have e2 := (nI_eq (by omega) (by omega)).mp k5
    obtain ⟨d, d1, _⟩ := fc_some hA (a := a) (k := k) hk1 (by rw [e1, e2]; exact hg.2.2.1)
    rw [hfc] at d1
    cases d1
  | some c =>
    have hf := fc_lt hfc
    have hcu := cu_le hA hf.1
    have hck : A.cu c = k := (nI_eq (by omega) (by omega)).mp hf.2.2
    have hcg := hA.2.1.1 c hf.1
    have hkv : k ≤ A.hv a a := by rw [← hck, ← hf.2.1]; exact hcg.2.2.1
    have hch : A.ch a k = c := by rw [← hck, ← hf.2.1]; exact ch_cu hA hf.1
    rw [show cI (some c) = nI c from rfl, if_pos (show (0 : Int32) ≤ nI c from (nI_leI (a := 0) (by omega) (by omega)).mpr (Nat.zero_le _))]
    have hw0 : WQ ((W.setI 75 (nI q2)).setI 41 400000) 400000 [] := ⟨by rw [MS.i_setI, if_pos rfl]; rfl, by simp, fun i hi => absurd hi (Nat.not_lt_zero _)⟩
    obtain ⟨W3, s1, s2, s3⟩ := q_chg (hR2.setI (k := 41) rfl) hA hf.1 hw0 (by simp)
    rw [List.nil_append] at s2
    have hX3 : XL S W3 := (hX2.trans (XL_setI (Or.inl rfl))).trans s3.XL
    have hR3 : RS W3 A := s3.RS (hR2.setI rfl)
    have hcl : (A.chB c).length ≤ 224576 := by
      have := chB_sum hA hK (l := [c]) (List.pairwise_singleton _ _) (fun d hd => by rw [List.mem_singleton.mp hd]; exact hf.1)
      simpa using this
    have hst := l_stands (hO.fr hX3) s2 (by omega) hpre
    rw [s1, ob_ok, s2.1, show nI (400000 + (A.chB c).length) - 400000 = nI (A.chB c).length from by
      rw [show (400000 : Int32) = nI 400000 from by decide, sub_nI (by omega), Nat.add_sub_cancel_left], h75, hst, ob_ok]
    simp only []
    by_cases hpc : (w ++ A.chB c) <+: bo
    · left
      rw [decide_eq_true hpc, if_neg (show ¬ b2 true = 0 by decide), gd_ok (by omega) (by omega), cl_nI (by omega), s2.1]
      have hv75 : nI w.length + nI (400000 + (A.chB c).length) - 400000 = nI (w ++ A.chB c).length := by
        rw [nI_add, List.length_append, show (400000 : Int32) = nI 400000 from by decide, sub_nI (by omega), show w.length + (400000 + (A.chB c).length) - 400000 = w.length + (A.chB c).length by omega]
      rw [hv75, nI_s]
      have hsn := chs_snoc hA ht ha (by rw [← hka]; exact hkv) hz
      rw [← hka, hch] at hsn
      have hfl : (A.chs (fun b => if b = a then k else t b)).flatMap A.chB = (A.chs t).flatMap A.chB ++ A.chB c := by
        rw [hsn, List.flatMap_append, List.flatMap_cons, List.flatMap_nil, List.append_nil]
      have hfw : grp n ++ (A.chs (fun b => if b = a then k else t b)).flatMap A.chB = w ++ A.chB c := by
        rw [hfl, ← List.append_assoc, hw]
      refine ⟨_, rfl, _, fun b => if b = a then k else t b, nI a, nI k, rfl, (hR3.setI rfl).setA rfl, (hX3.trans (XL_setI (Or.inr rfl))).trans XL_setA, ?_, ?_, Or.inr ⟨a, ha, rfl, ?_, ?_, ?_⟩, ?_, ?_, ?_, ?_⟩
      · intro b
        show (if b = a then k else t b) ≤ A.hv b b
        by_cases e : b = a
        · rw [if_pos e, e]; exact hkv
        · rw [if_neg e]; exact ht b
      · rw [hsn, List.length_append, hlen]; rfl
      · show nI k = nI (if a = a then k else t a)
        rw [if_pos rfl]
      · show 1 ≤ (if a = a then k else t a)
        rw [if_pos rfl]; exact hk1
      · intro b hb
        show (if b = a then k else t b) = 0
        rw [if_neg (by omega)]
        exact hz b hb
      · rw [hfw]; exact hpc
      · rw [hfw, MS.i_setA, MS.i_setI, if_pos rfl]
      · intro d hd
        rw [MS.a_setA, if_pos rfl, hsn]
        unfold upd
        by_cases e : d = c
        · rw [if_pos e, e, decide_eq_true (by simp)]; rfl
        · have e44 : W3.a 44 = W.a 44 := by
            rw [s3.aa (by decide), MS.a_setI, MS.a_setI]
          rw [if_neg e, e44, h44 d hd]
          congr 1
          rw [decide_eq_decide, List.mem_append, List.mem_singleton]
          exact ⟨Or.inl, fun h => h.resolve_right e⟩
      · intro s hs hb
        obtain ⟨d, k1, k2, k3, k4, k5, k6, k7⟩ := hK2 s hs hb
        have hdg := hA.2.1.1 d k1
        have hdu := cu_le hA k1
        have e1 := (nI_eq (by omega) (by omega)).mp k4
        have e2 := (nI_eq (by omega) (by omega)).mp k5
        have hdc : d = c := cu_inj hA.2.1.2.1 k1 hf.1 (by rw [← e1, hf.2.1]) (by rw [← e2, hck])
        rw [hsn, ← hdc]
        exact k7
    · right
      rw [decide_eq_false hpc, if_pos (show b2 false = 0 by decide)]
      refine ⟨_, rfl, Or.inr ⟨W3, rfl, hR3, hX3, fun s hs hb => ?_⟩⟩
      obtain ⟨d, k1, k2, k3, k4, k5, k6, k7⟩ := hK2 s hs hb
      have hdg := hA.2.1.1 d k1
      have hdu := cu_le hA k1
      have e1 := (nI_eq (by omega) (by omega)).mp k4
      have e2 := (nI_eq (by omega) (by omega)).mp k5
      have hdc : d = c := cu_inj hA.2.1.2.1 k1 hf.1 (by rw [← e1, hf.2.1]) (by rw [← e2, hck])
      rw [hdc] at k6
      exact hpc k6
end LDF
