/-! THE CALL look. -/
section CLP
variable {S S' : MS} {N : Nat → Nat} {C C' : CS} {A : AS} {r rd : Nat} {bi bf bs bo : List Nat} {ji jf js a : Nat}
/-- all of RS but the replicas -/
def RS7 (S : MS) (A : AS) : Prop := R_n S A ∧ R_op S A ∧ R_tx S A ∧ R_pr S A ∧ R_od S A ∧ R_cg S A ∧ R_dp S A
theorem RS.r7 (h : RS S A) (hi : ∀ k, k = 23 ∨ k = 34 ∨ k = 27 ∨ k = 25 ∨ k = 35 → S'.i k = S.i k) (hn : S'.n = S.n) (ha : ∀ k, k < 39 → S'.a k = S.a k) : RS7 S' A := by
  unfold RS R_n R_op R_tx R_pr R_od R_cg R_dp at h
  unfold RS7 R_n R_op R_tx R_pr R_od R_cg R_dp
  rw [hi 23 (by simp), hi 34 (by simp), hi 27 (by simp), hi 25 (by simp), hi 35 (by simp), hn, ha 8 (by omega), ha 9 (by omega), ha 10 (by omega), ha 11 (by omega), ha 12 (by omega), ha 13 (by omega), ha 20 (by omega), ha 21 (by omega), ha 14 (by omega), ha 15 (by omega), ha 16 (by omega), ha 17 (by omega), ha 26 (by omega), ha 18 (by omega), ha 19 (by omega), ha 24 (by omega), ha 28 (by omega), ha 29 (by omega), ha 30 (by omega), ha 31 (by omega), ha 32 (by omega), ha 33 (by omega)]
  exact ⟨h.1, h.2.1, h.2.2.1, h.2.2.2.1, h.2.2.2.2.1, h.2.2.2.2.2.1, h.2.2.2.2.2.2.1⟩
theorem RS_lo {x : Option Nat} {g : Nat → Int32} (hR : RS S A) (hr : r < 8) (hg : ∀ d, d < 1000 → (g d = 0 ∨ g d = 1) ∧ (A.m ≤ d → g d = 0) ∧ ∀ c, x = some c → g d = b2 (A.cloB c d)) : RS (((S.setI 0 (nI 0)).setA 39 (upd (S.a 39) r (cI x))).setA (117 + r) g) (A.lo r x) := by
  have h7 : RS7 (((S.setI 0 (nI 0)).setA 39 (upd (S.a 39) r (cI x))).setA (117 + r) g) A := by
    refine hR.r7 ?_ rfl ?_
    · intro k hk
      rw [MS.i_setA, MS.i_setA, MS.i_setI, if_neg (by omega)]
    · intro k hk
      rw [MS.a_setA, if_neg (by omega), MS.a_setA, if_neg (by omega), MS.a_setI]
  refine ⟨h7.1, h7.2.1, h7.2.2.1, h7.2.2.2.1, h7.2.2.2.2.1, h7.2.2.2.2.2.1, h7.2.2.2.2.2.2, ?_⟩
  intro q hq
  have h := hR.2.2.2.2.2.2.2 q hq
  rw [lo_lk]
  refine ⟨?_, ?_⟩
  · rw [MS.a_setA, if_neg (by omega), MS.a_setA, if_pos rfl]
    unfold upd
    by_cases e : q = r
    · rw [if_pos e, if_pos e]
    · rw [if_neg e, if_neg e]; exact h.1
  · intro c hc
    have hh := h.2 c hc
    rw [MS.a_setA, MS.a_setA, MS.a_setA, if_neg (show ¬ 101 + q = 117 + r by omega), if_neg (show ¬ 109 + q = 117 + r by omega), MS.a_setA, if_neg (show ¬ 101 + q = 39 by omega), MS.a_setA, if_neg (show ¬ 109 + q = 39 by omega), MS.a_setI]
    refine ⟨hh.1, hh.2.1, ?_⟩
    by_cases e : q = r
    · rw [if_pos (by omega), if_pos e]
      exact hg c hc
    · rw [if_neg (by omega), if_neg e, MS.a_setA, if_neg (show ¬ 117 + q = 39 by omega), MS.a_setI]
      exact hh.2.2
/-- the reference's first loop: c alone -/
theorem look_one {S0 : MS} {m c : Nat} (hr : r < 8) (hm : S0.i 34 = nI m) (hm1 : m ≤ 1000) (hc : c < 1000) : ∃ g, m_rlook_L88 S0 (nI r) (nI c) (nI 0) = some (S0.setA (117 + r) g, nI r, nI c) ∧ ∀ d, g d = if d < m then b2 (decide (d = c)) else S0.a (117 + r) d := by
  have := lp_run (body := fun w : MS × Int32 × Int32 × Int32 => m_rlook_B88 w.1 w.2.1 w.2.2.1 w.2.2.2) (fun i w => w = (S0.setA (117 + r) (fun d => if d < i then b2 (decide (d = c)) else S0.a (117 + r) d), nI r, nI c, nI i)) (fun e => ∃ g, e = (S0.setA (117 + r) g, nI r, nI c) ∧ ∀ d, g d = if d < m then b2 (decide (d = c)) else S0.a (117 + r) d) m ?_ FU (S0, nI r, nI c, nI 0) (by unfold FU; omega) (by
    rw [show (fun d => if d < 0 then b2 (decide (d = c)) else S0.a (117 + r) d) = S0.a (117 + r) from funext (fun d => by rw [if_neg (by omega)]), MS.setA_self])
  · obtain ⟨e, h1, g, rfl, h2⟩ := this
    refine ⟨g, ?_, h2⟩
    unfold m_rlook_L88
    exact h1
  · rintro i _ hi rfl
    by_cases hin : i < m
    · left
      refine ⟨(S0.setA (117 + r) (fun d => if d < i + 1 then b2 (decide (d = c)) else S0.a (117 + r) d), nI r, nI c, nI (i + 1)), ?_, hin, rfl⟩
      show m_rlook_B88 (S0.setA (117 + r) (fun d => if d < i then b2 (decide (d = c)) else S0.a (117 + r) d)) (nI r) (nI c) (nI i) = _
      unfold m_rlook_B88 m_rlook_J117
      have hw : ∀ v : Bool, v = decide (i = c) → upd (fun d => if d < i then b2 (decide (d = c)) else S0.a (117 + r) d) i (b2 v) = fun d => if d < i + 1 then b2 (decide (d = c)) else S0.a (117 + r) d := by
        intro v hv
        funext d
        unfold upd
        by_cases e : d = i
        · rw [if_pos e, if_pos (by omega), hv, e]
        · rw [if_neg e]
          show (if d < i then _ else _) = _
          by_cases e2 : d < i
          · rw [if_pos e2, if_pos (by omega)]
          · rw [if_neg e2, if_neg (by omega)]
      have hgR : ∀ {τ : Type} (y : Option τ), gR r y = y := fun y => if_pos hr
      rw [MS.i_setA, hm, if_neg (nle hin (by omega)), gd_ok hr (by omega), cl_nI (by omega), hgR, hgR, gd_ok (by omega) (by omega), cl_nI (by omega), MS.a_setA, if_pos rfl, MS.setA_setA, MS.setA_setA]
      rw [show nI i + 1 = nI (i + 1) from nI_add _ _]
      by_cases e : i = c
      · rw [if_pos (by rw [e]), show vp_nar .boolean 1 = b2 true from by decide, hw true (by simp [e])]
      · rw [if_neg (fun h => e ((nI_eq (by omega) (by omega)).mp h)), show vp_nar .boolean 0 = b2 false from by decide, hw false (by simp [e]), gd_ok (by omega) (by omega)]
    · right
      refine ⟨(S0.setA (117 + r) (fun d => if d < i then b2 (decide (d = c)) else S0.a (117 + r) d), nI r, nI c), ?_, _, rfl, ?_⟩
      · show m_rlook_B88 (S0.setA (117 + r) (fun d => if d < i then b2 (decide (d = c)) else S0.a (117 + r) d)) (nI r) (nI c) (nI i) = _
        unfold m_rlook_B88
        rw [MS.i_setA, hm, show i = m by omega, if_pos (Int32.le_refl _)]
      · intro d
        rw [show i = m by omega]
/-- the reference marks what a change depends on -/
theorem look_deps {S0 : MS} {j t : Nat} {da : Nat → Nat} {dl : Nat → List Nat} (hr : r < 8) (hj : j < 1000) (h1 : S0.a 31 j = nI (da j)) (h2 : S0.a 32 j = nI (dl j).length) (h3 : da j + (dl j).length ≤ t) (ht : t ≤ 10000) (h5 : ∀ k (h : k < (dl j).length), S0.a 33 (da j + k) = nI (dl j)[k]) (h6 : ∀ d, d ∈ dl j → d < 1000) (g0 : Nat → Int32) :
    ∃ g, m_rlook_L151 (S0.setA (117 + r) g0) (nI r) (nI j) (nI 0) = some (S0.setA (117 + r) g, nI r, nI j) ∧ ∀ d, g d = if d ∈ dl j then 1 else g0 d := by
  have e31 : ∀ g, (S0.setA (117 + r) g).a 31 = S0.a 31 := fun g => by rw [MS.a_setA, if_neg (by omega)]
  have e32 : ∀ g, (S0.setA (117 + r) g).a 32 = S0.a 32 := fun g => by rw [MS.a_setA, if_neg (by omega)]
  have e33 : ∀ g, (S0.setA (117 + r) g).a 33 = S0.a 33 := fun g => by rw [MS.a_setA, if_neg (by omega)]
  have := lp_run (body := fun w : MS × Int32 × Int32 × Int32 => m_rlook_B151 w.1 w.2.1 w.2.2.1 w.2.2.2) (fun i w => ∃ g, w = (S0.setA (117 + r) g, nI r, nI j, nI i) ∧ ∀ d, g d = if d ∈ (dl j).take i then 1 else g0 d) (fun e => ∃ g, e = (S0.setA (117 + r) g, nI r, nI j) ∧ ∀ d, g d = if d ∈ dl j then 1 else g0 d) (dl j).length ?_ FU (S0.setA (117 + r) g0, nI r, nI j, nI 0) (by unfold FU; omega) ⟨g0, rfl, fun d => by simp⟩
  · obtain ⟨e, h1, g, rfl, h2⟩ := this
    refine ⟨g, ?_, h2⟩
    unfold m_rlook_L151
    exact h1
  · rintro i _ hi ⟨g, rfl, hg⟩
    by_cases hin : i < (dl j).length
    · left
      have hd := h6 _ (List.getElem_mem hin)
      refine ⟨(S0.setA (117 + r) (upd g (dl j)[i] 1), nI r, nI j, nI (i + 1)), ?_, hin, _, rfl, ?_⟩
      · show m_rlook_B151 (S0.setA (117 + r) g) (nI r) (nI j) (nI i) = _
        unfold m_rlook_B151
        rw [gd_ok hj (by omega), cl_nI (show j < 2 ^ 31 by omega), e32, h2, if_neg (nle hin (by omega)), gd_ok hr (by omega), gd_ok hj (by omega), e31, h1, nI_add, gd_ok (by omega) (by omega), cl_nI (show da j + i < 2 ^ 31 by omega), e33, h5 i hin, gd_ok hd (by omega), cl_nI (show (dl j)[i] < 2 ^ 31 by omega), cl_nI (show r < 2 ^ 31 by omega), MS.a_setA, if_pos rfl, MS.setA_setA]
        rw [show nI i + 1 = nI (i + 1) from nI_add _ _]
        rfl
      · intro d
        unfold upd
        rw [List.take_succ_eq_append_getElem hin]
        by_cases e : d = (dl j)[i]
        · rw [if_pos e, if_pos (List.mem_append.mpr (Or.inr (List.mem_singleton.mpr e)))]
        · rw [if_neg e, hg d]
          by_cases e2 : d ∈ (dl j).take i
          · rw [if_pos e2, if_pos (List.mem_append.mpr (Or.inl e2))]
          · rw [if_neg e2, if_neg (fun h => (List.mem_append.mp h).elim e2 (fun h => e (List.mem_singleton.mp h)))]
    · right
      refine ⟨(S0.setA (117 + r) g, nI r, nI j), ?_, _, rfl, ?_⟩
      · show m_rlook_B151 (S0.setA (117 + r) g) (nI r) (nI j) (nI i) = _
        unfold m_rlook_B151
        rw [gd_ok hj (by omega), cl_nI (show j < 2 ^ 31 by omega), e32, h2, show i = (dl j).length by omega, if_pos (Int32.le_refl _)]
      · intro d
        rw [hg d, List.take_of_length_le (by omega)]
def dnI (c i : Nat) : Int32 := if i ≤ c then nI (c - i) else -1
theorem eq_sub' {e c i : Nat} (h1 : ¬ c < e + i) (h2 : c < e + (i + 1)) : e = c - i := by omega
theorem dnI_s {c i : Nat} (h : i ≤ c) : nI (c - i) + (-1) = dnI c (i + 1) := by
  unfold dnI
  by_cases e : i + 1 ≤ c
  · rw [if_pos e]
    have : nI (c - i) = nI (c - (i + 1)) + 1 := by rw [nI_s]; congr 1; omega
    rw [this, Int32.add_assoc, show (1 : Int32) + -1 = 0 from by decide, Int32.add_zero]
  · rw [if_neg e, show c - i = 0 by omega]
    decide
/-- all that c depends on is marked -/
theorem look_clo {S0 : MS} {c : Nat} (hR : R_dp S0 A) (hA : AI A) (hr : r < 8) (hc : c < A.m) (g0 : Nat → Int32) (hg0 : ∀ d, d < 1000 → g0 d = if d < A.m then b2 (decide (d = c)) else 0) :
    ∃ g, m_rlook_L128 (S0.setA (117 + r) g0) (nI r) (nI c) = some (S0.setA (117 + r) g, nI r) ∧ ∀ d, d < 1000 → g d = b2 (A.cloB c d) := by
  obtain ⟨t, da, dl, h1, h2, h3⟩ := hR
  have hm := hA.1.2.1
  have hC := hA.2.1
  have key : ∀ d, d < A.m → (A.clo c d ↔ d = c ∨ ∃ e, A.clo c e ∧ A.dp e d = true) := by
    intro d hd
    constructor
    · intro h
      by_cases e : d = c
      · exact Or.inl e
      · exact Or.inr (clo_parent hC hc h e)
    · rintro (rfl | ⟨e, g1, g2⟩)
      · exact clo_refl hC hd
      · exact clo_trans hC hc g1 (hC.2.2.2.2.2.2.1 e d g1.1 g2).2
  have := lp_run (body := fun w : MS × Int32 × Int32 => m_rlook_B128 w.1 w.2.1 w.2.2) (fun i w => ∃ g, w = (S0.setA (117 + r) g, nI r, dnI c i) ∧ ∀ d, d < 1000 → (g d = 0 ∨ g d = 1) ∧ (g d = 1 ↔ d = c ∨ ∃ e, c < e + i ∧ A.clo c e ∧ A.dp e d = true)) (fun e => ∃ g, e = (S0.setA (117 + r) g, nI r) ∧ ∀ d, d < 1000 → g d = b2 (A.cloB c d)) (c + 1) ?_ FU (S0.setA (117 + r) g0, nI r, nI c) (by unfold FU; omega) ⟨g0, by unfold dnI; rw [if_pos (by omega)]; rfl, fun d hd => by
    rw [hg0 d hd]
    by_cases e : d < A.m
    · rw [if_pos e]
      by_cases e2 : d = c
      · rw [decide_eq_true e2]
        exact ⟨Or.inr rfl, fun _ => Or.inl e2, fun _ => rfl⟩
      · rw [decide_eq_false e2]
        refine ⟨Or.inl rfl, fun h => absurd h (by decide), ?_⟩
        rintro (h | ⟨e3, g1, g2, g3⟩)
        · exact absurd h e2
        · have := (hC.2.2.2.1 c e3 hc g2).1
          omega
    · rw [if_neg e]
      refine ⟨Or.inl rfl, fun h => absurd h (by decide), ?_⟩
      rintro (h | ⟨e3, g1, g2, g3⟩)
      · omega
      · have := (hC.2.2.2.2.2.2.1 e3 d g2.1 g3).1
        have := g2.1
        omega⟩
  · obtain ⟨e, h1, g, rfl, h2⟩ := this
    refine ⟨g, ?_, h2⟩
    unfold m_rlook_L128
    exact h1
  · rintro i _ hi ⟨g, rfl, hg⟩
    by_cases hin : i < c + 1
    · left
      have hj : c - i < A.m := by omega
      obtain ⟨a1, a2, a3, a4, a5, a6⟩ := h3 (c - i) hj
      have hdx : dnI c i = nI (c - i) := by unfold dnI; rw [if_pos (by omega)]
      have hgj := hg (c - i) (by omega)
      have hclo : g (c - i) = 1 ↔ A.clo c (c - i) := by
        rw [hgj.2, key _ hj]
        constructor
        · rintro (h | ⟨e, _, g2, g3⟩)
          · exact Or.inl h
          · exact Or.inr ⟨e, g2, g3⟩
        · rintro (h | ⟨e, g2, g3⟩)
          · exact Or.inl h
          · have := (hC.2.2.2.2.2.2.1 e _ g2.1 g3).1
            exact Or.inr ⟨e, by omega, g2, g3⟩
      obtain ⟨g', hg', hgd'⟩ := look_deps (S0 := S0) (j := c - i) (t := t) (da := da) (dl := dl) hr (by omega) a1 a2 a3 (by omega) a6 (fun d hd => by have := (hC.2.2.2.2.2.2.1 _ d hj ((a5 d).mp hd)).1; omega) g
      by_cases e : g (c - i) = 0
      · refine ⟨(S0.setA (117 + r) g, nI r, dnI c (i + 1)), ?_, hin, g, rfl, ?_⟩
        · show m_rlook_B128 (S0.setA (117 + r) g) (nI r) (dnI c i) = _
          rw [hdx]
          unfold m_rlook_B128 m_rlook_J192
          rw [if_neg (nI_pos (by omega)), gd_ok hr (by omega), gd_ok (by omega) (by omega), cl_nI (show r < 2 ^ 31 by omega), cl_nI (by omega), MS.a_setA, if_pos rfl, if_pos e, dnI_s (by omega)]
        · intro d hd
          refine ⟨(hg d hd).1, ?_⟩
          rw [(hg d hd).2]
          constructor
          · rintro (h | ⟨e2, g1, g2, g3⟩)
            · exact Or.inl h
            · exact Or.inr ⟨e2, by omega, g2, g3⟩
          · rintro (h | ⟨e2, g1, g2, g3⟩)
            · exact Or.inl h
            · by_cases e3 : c < e2 + i
              · exact Or.inr ⟨e2, e3, g2, g3⟩
              · have : e2 = c - i := eq_sub' e3 g1
                rw [this, ← hclo, e] at g2
                exact absurd g2 (by decide)
      · have hg1 : g (c - i) = 1 := hgj.1.resolve_left e
        refine ⟨(S0.setA (117 + r) g', nI r, dnI c (i + 1)), ?_, hin, g', rfl, ?_⟩
        · show m_rlook_B128 (S0.setA (117 + r) g) (nI r) (dnI c i) = _
          rw [hdx]
          unfold m_rlook_B128 m_rlook_J192
          rw [if_neg (nI_pos (by omega)), gd_ok hr (by omega), gd_ok (by omega) (by omega), cl_nI (show r < 2 ^ 31 by omega), cl_nI (show c - i < 2 ^ 31 by omega), MS.a_setA, if_pos rfl, if_neg e, show m_rlook_L151 (S0.setA (117 + r) g) (nI r) (nI (c - i)) 0 = _ from hg']
          simp only [ob_ok]
          rw [dnI_s (by omega)]
        · intro d hd
          rw [hgd' d]
          by_cases e2 : d ∈ dl (c - i)
          · rw [if_pos e2]
            refine ⟨Or.inr rfl, fun _ => Or.inr ⟨c - i, by omega, hclo.mp hg1, (a5 d).mp e2⟩, fun _ => rfl⟩
          · rw [if_neg e2]
            refine ⟨(hg d hd).1, ?_⟩
            rw [(hg d hd).2]
            constructor
            · rintro (h | ⟨e3, g1, g2, g3⟩)
              · exact Or.inl h
              · exact Or.inr ⟨e3, by omega, g2, g3⟩
            · rintro (h | ⟨e3, g1, g2, g3⟩)
              · exact Or.inl h
              · by_cases e4 : c < e3 + i
                · exact Or.inr ⟨e3, e4, g2, g3⟩
                · have : e3 = c - i := eq_sub' e4 g1
                  rw [this, ← a5] at g3
                  exact absurd g3 e2
    · right
      have hi1 : i = c + 1 := by omega
      subst hi1
      refine ⟨(S0.setA (117 + r) g, nI r), ?_, g, rfl, ?_⟩
      · show m_rlook_B128 (S0.setA (117 + r) g) (nI r) (dnI c (c + 1)) = _
        unfold m_rlook_B128 dnI
        rw [if_neg (show ¬ c + 1 ≤ c by omega), if_pos (show (-1 : Int32) < 0 by decide)]
      · intro d hd
        have h := hg d hd
        have hiff : g d = 1 ↔ A.cloB c d = true := by
          rw [cloB_iff, h.2]
          constructor
          · intro hh
            have hdm : d < A.m := by
              rcases hh with rfl | ⟨e, _, g2, g3⟩
              · exact hc
              · have := (hC.2.2.2.2.2.2.1 e d g2.1 g3).1
                have := g2.1
                omega
            rw [key d hdm]
            rcases hh with h | ⟨e, _, g2, g3⟩
            · exact Or.inl h
            · exact Or.inr ⟨e, g2, g3⟩
          · intro hh
            rcases (key d hh.1).mp hh with h | ⟨e, g2, g3⟩
            · exact Or.inl h
            · exact Or.inr ⟨e, by omega, g2, g3⟩
        cases hb : A.cloB c d with
        | true => exact hiff.mpr hb
        | false =>
          rcases h.1 with h0 | h1
          · exact h0
          · rw [hiff, hb] at h1
            cases h1
end CLP
