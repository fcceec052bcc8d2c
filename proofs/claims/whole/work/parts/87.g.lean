/-! LOADED: isSaved. -/
section LDG
variable {S S' : MS} {N : Nat → Nat} {C C' : CS} {A : AS} {r rd p : Nat} {w bo : List Nat}
theorem by4_at {v : Int32} {i : Nat} (h : i < 4) : (by4 v)[i]'(by rw [by4_len]; exact h) = byt (ushr32 v (24 - 8 * nI i)) := by
  rcases (show i = 0 ∨ i = 1 ∨ i = 2 ∨ i = 3 by omega) with rfl | rfl | rfl | rfl
  · rfl
  · rfl
  · rfl
  · show byt v = byt (ushr32 v (24 - 8 * nI 3))
    rw [show (24 : Int32) - 8 * nI 3 = nI 0 from by decide, ushr0']
theorem l_crc4 (hO : OB S bo) {q : Nat} (hq : q + 4 = bo.length) (h75 : S.i 75 = nI q) (v : Int32) : m_risSaved_L277 S v 0 = some (if bo.drop q = by4 v then .inl S else .inr (S, 0)) := by
  obtain ⟨h1, h2, h3⟩ := hO
  have hdl : (bo.drop q).length = 4 := by rw [List.length_drop]; omega
  have := lp_run (body := fun u : MS × Int32 × Int32 => m_risSaved_B277 u.1 u.2.1 u.2.2) (fun i u => u = (S, v, nI i) ∧ i ≤ 4 ∧ (bo.drop q).take i = (by4 v).take i) (fun e => e = if bo.drop q = by4 v then .inl S else .inr (S, 0)) 4 ?_ FU (S, v, nI 0) (by unfold FU; omega) ⟨rfl, by omega, rfl⟩
  · obtain ⟨e, k1, rfl⟩ := this
    unfold m_risSaved_L277
    exact k1
  · rintro i _ hi ⟨rfl, hi4, hpre⟩
    by_cases hin : i < 4
    · have hb := h2 (q + i) (by omega)
      rw [Nat.zero_add] at hb
      have hB : m_risSaved_B277 S v (nI i) = (if nI bo[q + i] = nI (byt (ushr32 v (24 - 8 * nI i))) then some (.inl (S, v, nI (i + 1))) else some (.inr (.inr (S, 0)))) := by
        unfold m_risSaved_B277
        rw [if_neg (show ¬ (4 : Int32) ≤ nI i from fun h => by have := (nI_leI (a := 4) (by omega) (by omega)).mp h; omega), h75, nI_add, gd_ok (by omega) (by omega), cl_nI (by omega), hb.2, and255 (ushr32 v (24 - 8 * nI i)), show (255 : Int32) = nI 255 from q255, sb_and hb.1, nI_s]
      have hbl := byt_lt (ushr32 v (24 - 8 * nI i))
      have hgd : (bo.drop q)[i]'(by omega) = bo[q + i] := List.getElem_drop
      have hby := by4_at (v := v) hin
      by_cases e : bo[q + i] = byt (ushr32 v (24 - 8 * nI i))
      · left
        refine ⟨_, by show m_risSaved_B277 S v (nI i) = _; rw [hB, if_pos (by rw [e])], hin, rfl, by omega, ?_⟩
        rw [List.take_succ_eq_append_getElem (by omega), List.take_succ_eq_append_getElem (by rw [by4_len]; omega), hpre, hgd, hby, e]
      · right
        refine ⟨_, by show m_risSaved_B277 S v (nI i) = _; rw [hB, if_neg (fun h => e ((nI_eq (by omega) (by omega)).mp h))], ?_⟩
        rw [if_neg]
        intro h
        apply e
        rw [← hgd, ← hby]
        simp only [h]
    · right
      have e : i = 4 := by omega
      subst e
      refine ⟨.inl S, ?_, ?_⟩
      · show m_risSaved_B277 S v (nI 4) = _
        unfold m_risSaved_B277
        rw [if_pos (show (4 : Int32) ≤ nI 4 by decide)]
      · rw [if_pos]
        rw [List.take_of_length_le (by omega), List.take_of_length_le (by rw [by4_len]; omega)] at hpre
        exact hpre
set_option maxHeartbeats 1000000 in
theorem r_isSaved (hR : RS S A) (hA : AI A) (hK : LOK A) (hO : OB S bo) : ∃ W ok t, m_risSaved S = some (W, b2 ok) ∧ RS W A ∧ XL S W ∧ (ok = true → (∀ a, t a ≤ A.hv a a) ∧ bo = sv4 (A.svd t) ∧ ∀ c, c < 1000 → W.a 44 c = b2 (decide (c ∈ A.chs t))) ∧ (ok = false → ∀ s : Nat → Nat, (∀ a, s a ≤ A.hv a a) → bo ≠ sv4 (A.svd s)) := by
  have hm := hA.1.2.1
  have hbl := hO.2.2
  obtain ⟨f, hf1, hf2⟩ := l_clear (S := S)
  obtain ⟨S1, hS1⟩ : ∃ S1, S1 = (S.setA 44 f).setI 75 0 := ⟨_, rfl⟩
  have hR1 : RS S1 A := by rw [hS1]; exact (hR.setA rfl).setI rfl
  have hX1 : XL S S1 := by rw [hS1]; exact XL_setA.trans (XL_setI (Or.inr rfl))
  have hO1 := hO.fr hX1
  have h175 : S1.i 75 = nI 0 := by rw [hS1, MS.i_setI, if_pos rfl]; rfl
  have h144 : ∀ c, c < 1000 → S1.a 44 c = 0 := by intro c hc; rw [hS1, MS.a_setI, MS.a_setA, if_pos rfl]; exact hf2 c hc
  obtain ⟨v, q, g1, g2⟩ := l_any hO1 (Nat.zero_le _) h175
  have hgood : ∀ s : Nat → Nat, (∀ a, s a ≤ A.hv a a) → bo = sv4 (A.svd s) → v = nI (sumTo s 8) ∧ sumTo s 8 ≤ A.m ∧ grp (sumTo s 8) <+: bo := by
    intro s hs hb
    obtain ⟨hsl, hsm⟩ := svd_len hA hK hs
    have hbo : bo = [] ++ (grp (sumTo s 8) ++ ((A.chs s).flatMap A.chB ++ by4 (crcV (A.svd s)))) := by
      rw [hb]
      unfold sv4 AS.svd
      simp only [List.append_assoc, List.nil_append]
    have r1 := l_val hO1 (x := sumTo s 8) (y := []) (by omega) hbo h175
    rw [g1] at r1
    have hlen := chs_len hA hs
    obtain ⟨n1, n2⟩ := chs_nodup hA hs
    have h3 := nodup_len A.m _ n1 n2
    refine ⟨(Prod.mk.inj (Option.some.inj r1)).2, by omega, ⟨(A.chs s).flatMap A.chB ++ by4 (crcV (A.svd s)), ?_⟩⟩
    exact hbo.symm
  have hR2 : RS (S1.setI 75 (nI q)) A := hR1.setI rfl
  have hX2 : XL S (S1.setI 75 (nI q)) := hX1.trans (XL_setI (Or.inr rfl))
  have h34 : (S1.setI 75 (nI q)).i 34 = nI A.m := hR2.1.2.1
  unfold m_risSaved m_risSaved_J0
  rw [hf1, ob_ok, ← hS1, g1, ob_ok]
  simp only []
  rw [h34]
  by_cases c1 : v < 0
  · refine ⟨S1.setI 75 (nI q), false, fun _ => 0, by rw [if_pos c1]; rfl, hR2, hX2, fun h => (by cases h), fun _ s hs hb => ?_⟩
    obtain ⟨k1, k2, _⟩ := hgood s hs hb
    rw [k1] at c1
    exact nI_pos (by omega) c1
  rw [if_neg c1]
  obtain ⟨n, hn31, rfl⟩ := nI_of (x := v) c1
  by_cases c2 : n ≤ A.m
  case neg =>
    refine ⟨S1.setI 75 (nI q), false, fun _ => 0, by rw [if_neg (fun h => c2 ((nI_leI (by omega) (by omega)).mp h))]; rfl, hR2, hX2, fun h => (by cases h), fun _ s hs hb => ?_⟩
    obtain ⟨k1, k2, _⟩ := hgood s hs hb
    have := (nI_eq (by omega) (by omega)).mp k1
    omega
  rw [if_pos ((nI_leI (by omega) (by omega)).mpr c2)]
  have hns : ∀ s : Nat → Nat, (∀ a, s a ≤ A.hv a a) → bo = sv4 (A.svd s) → sumTo s 8 = n := by
    intro s hs hb
    obtain ⟨k1, k2, _⟩ := hgood s hs hb
    exact ((nI_eq (by omega) (by omega)).mp k1).symm
  have hw0 : WQ ((S1.setI 75 (nI q)).setI 41 400000) 400000 [] := ⟨by rw [MS.i_setI, if_pos rfl]; rfl, by simp, fun i hi => absurd hi (Nat.not_lt_zero _)⟩
  obtain ⟨S3, s1, s2, s3⟩ := q_n hw0 (by simp) (n := n) (by omega)
  rw [List.nil_append] at s2
  have hgl := grp_len n
  have hX3 : XL S S3 := (hX2.trans (XL_setI (Or.inl rfl))).trans s3.XL
  have hR3 : RS S3 A := s3.RS (hR2.setI rfl)
  have h344 : ∀ c, c < 1000 → S3.a 44 c = 0 := by
    intro c hc
    rw [s3.aa (by decide), MS.a_setI, MS.a_setI]
    exact h144 c hc
  have hst := l_stands (w := []) (hO.fr hX3) s2 (by omega) List.nil_prefix
  rw [List.nil_append] at hst
  have h41 : S3.i 41 - 400000 = nI (grp n).length := by
    rw [s2.1, show (400000 : Int32) = nI 400000 from by decide, sub_nI (by omega), Nat.add_sub_cancel_left]
  rw [s1, ob_ok, h41, show m_rstands S3 0 (nI (grp n).length) = _ from hst, ob_ok]
  simp only []
  by_cases c3 : grp n <+: bo
  case neg =>
    rw [decide_eq_false c3, if_pos (show b2 false = 0 by decide)]
    refine ⟨S3, false, fun _ => 0, rfl, hR3, hX3, fun h => (by cases h), fun _ s hs hb => ?_⟩
    obtain ⟨k1, k2, k3⟩ := hgood s hs hb
    rw [hns s hs hb] at k3
    exact c3 k3
  rw [decide_eq_true c3, if_neg (show ¬ b2 true = 0 by decide), h41]
  obtain ⟨S4, hS4⟩ : ∃ S4, S4 = S3.setI 75 (nI (grp n).length) := ⟨_, rfl⟩
  rw [← hS4]
  have hchz : A.chs (fun _ => 0) = [] := by
    unfold AS.chs
    simp
  have hI0 : LI S A bo n 0 (S4, nI n, -1, 0, nI 0) := by
    refine ⟨S4, fun _ => 0, -1, 0, rfl, by rw [hS4]; exact hR3.setI rfl, by rw [hS4]; exact hX3.trans (XL_setI (Or.inr rfl)), fun _ => Nat.zero_le _, by rw [hchz]; rfl, Or.inl ⟨rfl, rfl, fun _ => rfl⟩, by rw [hchz]; simpa using c3, by rw [hchz, hS4, MS.i_setI, if_pos rfl]; simp, ?_, fun s hs hb => by rw [hchz]; exact List.nil_prefix⟩
    intro c hc
    rw [hS4, MS.a_setI, h344 c hc, hchz, decide_eq_false (List.not_mem_nil)]
    rfl
  have hloop := lp_run (body := fun u : MS × Int32 × Int32 × Int32 × Int32 => m_risSaved_B93 u.1 u.2.1 u.2.2.1 u.2.2.2.1 u.2.2.2.2) (fun i u => LI S A bo n i u) (fun e => LO S A bo n e) n ?_ FU (S4, nI n, -1, 0, nI 0) (by unfold FU; omega) hI0
  · obtain ⟨e, k1, k2⟩ := hloop
    have k1 : m_risSaved_L93 S4 (nI n) (-1) 0 0 = some e := by unfold m_risSaved_L93; exact k1
    rw [k1]
    rcases k2 with ⟨W, t, rfl, hRW, hXW, ht, hlen, hpre, h75, h44, hgd⟩ | ⟨W, rfl, hRW, hXW, hno⟩
    · rw [oe_l]
      have hsum := chs_len hA ht
      have hsv : grp n ++ (A.chs t).flatMap A.chB = A.svd t := by
        unfold AS.svd
        rw [← hsum, hlen]
      rw [hsv] at hpre h75
      have hpl := hpre.length_le
      have hOW := hO.fr hXW
      have hby : byts W 40 0 (A.svd t) := by
        intro i hi
        have hb := hOW.2.1 i (by omega)
        obtain ⟨z, hz⟩ := hpre
        have e : bo[i]'(by omega) = (A.svd t)[i] := by
          simp only [← hz]
          rw [List.getElem_append_left hi]
        rw [← e]
        exact hb
      have hcrc := r_crc hby (by omega)
      rw [h75, hcrc, ob_ok]
      simp only []
      rw [hOW.1, h75, show nI (A.svd t).length + 4 = nI ((A.svd t).length + 4) from nI_add _ 4]
      by_cases c4 : bo.length = (A.svd t).length + 4
      · rw [if_pos (by rw [c4]), l_crc4 hOW (by omega) h75]
        have hdr : bo = A.svd t ++ bo.drop (A.svd t).length := by
          obtain ⟨z, hz⟩ := hpre
          rw [← hz, List.drop_left]
        by_cases c5 : bo.drop (A.svd t).length = by4 (crcV (A.svd t))
        · rw [if_pos c5]
          refine ⟨W, true, t, rfl, hRW, hXW, fun _ => ⟨ht, ?_, h44⟩, fun h => (by cases h)⟩
          rw [c5] at hdr
          exact hdr
        · rw [if_neg c5]
          refine ⟨W, false, t, rfl, hRW, hXW, fun h => (by cases h), fun _ s hs hb => ?_⟩
          obtain ⟨y, hy⟩ := hgd s hs hb
          have hsl := chs_len hA hs
          rw [hns s hs hb, ← hy, List.length_append, hlen] at hsl
          have hy0 : y = [] := List.length_eq_zero_iff.mp (by omega)
          rw [hy0, List.append_nil] at hy
          have hse : A.svd s = A.svd t := by
            unfold AS.svd
            rw [hns s hs hb, ← hy, ← hsum, hlen]
          rw [hse] at hb
          apply c5
          rw [hb]
          unfold sv4
          rw [List.drop_left]
      · rw [if_neg (fun h => c4 ((nI_eq (by omega) (by omega)).mp h))]
        refine ⟨W, false, t, rfl, hRW, hXW, fun h => (by cases h), fun _ s hs hb => ?_⟩
        obtain ⟨y, hy⟩ := hgd s hs hb
        have hsl := chs_len hA hs
        rw [hns s hs hb, ← hy, List.length_append, hlen] at hsl
        have hy0 : y = [] := List.length_eq_zero_iff.mp (by omega)
        rw [hy0, List.append_nil] at hy
        have hse : A.svd s = A.svd t := by
          unfold AS.svd
          rw [hns s hs hb, ← hy, ← hsum, hlen]
        rw [hse] at hb
        apply c4
        rw [hb]
        unfold sv4
        rw [List.length_append, by4_len]
    · rw [oe_r]
      exact ⟨W, false, fun _ => 0, rfl, hRW, hXW, fun h => (by cases h), fun _ => hno⟩
  · intro i u hi hI
    by_cases hin : i < n
    · rcases l_step hA hK hO c2 hin hns hI with ⟨u', k1, k2⟩ | ⟨e, k1, k2⟩
      · exact Or.inl ⟨u', k1, hin, k2⟩
      · exact Or.inr ⟨e, k1, k2⟩
    · right
      obtain ⟨W, t, x2, x3, rfl, hRW, hXW, ht, hlen, hL, hpre, h75, h44, hgd⟩ := hI
      have e : i = n := by omega
      subst e
      refine ⟨.inl W, ?_, Or.inl ⟨W, t, rfl, hRW, hXW, ht, hlen, hpre, h75, h44, hgd⟩⟩
      show m_risSaved_B93 W (nI i) x2 x3 (nI i) = _
      unfold m_risSaved_B93
      rw [if_pos (Int32.le_refl _)]
end LDG
