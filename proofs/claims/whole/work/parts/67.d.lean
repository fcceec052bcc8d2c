/-! THE REFERENCE: what follows make: PRED, key, place, string. -/
section SP
variable {S : MS} {A : AS}
variable {r : Nat} {x : Option Nat} {act : Nat} {num : Int64} {ins : Nat} {par : Option Nat} {s : Nat} {key pre : List Nat} {pl : Nat} {Lx Os : List Nat}
theorem RS_pl {v : Nat} (h : RS S (A.mk r x act num ins par s key pre pl Lx Os)) : RS (S.setA 10 (upd (S.a 10) A.n (nI v))) (A.mk r x act num ins par s key pre v Lx Os) := by
  refine ⟨h.1, ?_, h.2.2.1, h.2.2.2.1, h.2.2.2.2.1, h.2.2.2.2.2.1, h.2.2.2.2.2.2.1, fun q hq => ?_⟩
  · intro o ho
    obtain ⟨a1, a2, a3, a4⟩ := h.2.1 o ho
    refine ⟨a1, a2, ?_, a4⟩
    show upd (S.a 10) A.n (nI v) o = _
    rw [mk_pl] at a3 ⊢
    by_cases e : o = A.n
    · subst e; rw [upd_at, if_pos rfl]
    · rw [upd_ne e, if_neg e]
      rw [if_neg e] at a3
      exact a3
  · have h2 := h.2.2.2.2.2.2.2 q hq
    refine ⟨h2.1, fun c hc => ?_⟩
    simp only [MS.i_setI, MS.a_setI, MS.n_setI, MS.i_setA, MS.a_setA, MS.n_setA, MS.i_setN, MS.a_setN, MS.n_setN]
    rw [if_neg (by omega), if_neg (by omega), if_neg (by omega)]
    exact h2.2 c hc
theorem RS_ins {v : Nat} (h : RS S (A.mk r x act num ins par s key pre pl Lx Os)) : RS (S.setA 20 (upd (S.a 20) A.n (nI v))) (A.mk r x act num v par s key pre pl Lx Os) := by
  refine ⟨h.1, ?_, h.2.2.1, h.2.2.2.1, h.2.2.2.2.1, h.2.2.2.2.2.1, h.2.2.2.2.2.2.1, fun q hq => ?_⟩
  · intro o ho
    obtain ⟨a1, a2, a3, a4, a5, a6, a7, a8⟩ := h.2.1 o ho
    refine ⟨a1, a2, a3, a4, a5, a6, ?_, a8⟩
    show upd (S.a 20) A.n (nI v) o = _
    rw [mk_ins] at a7 ⊢
    by_cases e : o = A.n
    · subst e; rw [upd_at, if_pos rfl]
    · rw [upd_ne e, if_neg e]
      rw [if_neg e] at a7
      exact a7
  · have h2 := h.2.2.2.2.2.2.2 q hq
    refine ⟨h2.1, fun c hc => ?_⟩
    simp only [MS.i_setI, MS.a_setI, MS.n_setI, MS.i_setA, MS.a_setA, MS.n_setA, MS.i_setN, MS.a_setN, MS.n_setN]
    rw [if_neg (by omega), if_neg (by omega), if_neg (by omega)]
    exact h2.2 c hc
/-- the reference's rows of the replicas are untouched by a write elsewhere -/
theorem R_rp_setA {k : Nat} {f : Nat → Int32} (h : R_rp S A) (h1 : k ≠ 39) (h2 : k < 101) : R_rp (S.setA k f) A := by
  intro q hq
  have h3 := h q hq
  refine ⟨by rw [MS.a_setA, if_neg (Ne.symm h1)]; exact h3.1, fun c hc => ?_⟩
  simp only [MS.i_setI, MS.a_setI, MS.n_setI, MS.i_setA, MS.a_setA, MS.n_setA, MS.i_setN, MS.a_setN, MS.n_setN]
  rw [if_neg (by omega), if_neg (by omega), if_neg (by omega)]
  exact h3.2 c hc
theorem pS_follows {cs : List Nat} {cf : Bool} (hR : RS S (A.mk r x act num ins par s key [] pl Lx Os)) (hn : A.n < 4000) {t : Nat} (ht : S.i 25 = nI t) (h18 : S.a 18 A.n = nI t) (ht8 : t ≤ 8 * A.n)
    (hc : rowN (S.a 46) cs) (hcl : S.i 47 = nI cs.length) (hcs : ∀ c, c ∈ cs → c < A.n) (hc8 : cs.length ≤ 8) (hact : ∀ c, c ∈ cs → A.act c ≤ 10) :
    ∃ (f g : Nat → Int32) (v : Int32), m_rfollows S (nI A.n) (b2 cf) = some (((S.setA 24 f).setA 19 g).setI 25 v) ∧
      RS (((S.setA 24 f).setA 19 g).setI 25 v) (A.mk r x act num ins par s key (cs.reverse.filter (fun c => !cf || decide (A.act c = 5))) pl Lx Os) := by
  let q : Nat → Bool := fun c => !cf || decide (A.act c = 5)
  obtain ⟨t0, pa, p1, p2, p3⟩ := hR.2.2.2.1
  obtain rfl : t0 = t := by
    rw [ht] at p1
    rw [mk_n] at p2
    exact ((nI_eq (by omega) (by omega)).mp p1).symm
  have hpn := p3 A.n (by rw [mk_n]; omega)
  rw [mk_pre, if_pos rfl] at hpn
  have hlen : ∀ k, ((cs.drop k).reverse.filter q).length ≤ cs.length - k := by
    intro k
    have := List.length_filter_le q (cs.drop k).reverse
    rw [List.length_reverse, List.length_drop] at this
    exact this
  have h11 : ∀ c, c ∈ cs → S.a 11 c = nI (A.act c) := by
    intro c hc
    have h1 := (hR.2.1 c (by rw [mk_n]; have := hcs c hc; omega)).2.2.2.1
    rw [mk_act, if_neg (by have := hcs c hc; omega)] at h1
    exact h1
  have := lp_run (body := fun a : MS × Int32 × Int32 × Int32 => m_rfollows_B7 a.1 a.2.1 a.2.2.1 a.2.2.2)
    (fun i a => ∃ (k : Nat) (f g : Nat → Int32), i + k = cs.length ∧ a = (((S.setA 24 f).setA 19 g).setI 25 (nI (t0 + ((cs.drop k).reverse.filter q).length)), nI A.n, b2 cf, nI k - nI 1) ∧
      (∀ j, j < t0 → f j = S.a 24 j) ∧ (∀ j (h : j < ((cs.drop k).reverse.filter q).length), f (t0 + j) = nI ((cs.drop k).reverse.filter q)[j]) ∧ (∀ o, o ≠ A.n → g o = S.a 19 o) ∧ g A.n = nI ((cs.drop k).reverse.filter q).length)
    (fun e => ∃ (f g : Nat → Int32), e = ((S.setA 24 f).setA 19 g).setI 25 (nI (t0 + (cs.reverse.filter q).length)) ∧
      (∀ j, j < t0 → f j = S.a 24 j) ∧ (∀ j (h : j < (cs.reverse.filter q).length), f (t0 + j) = nI (cs.reverse.filter q)[j]) ∧ (∀ o, o ≠ A.n → g o = S.a 19 o) ∧ g A.n = nI (cs.reverse.filter q).length) cs.length ?_ FU (S, nI A.n, b2 cf, nI cs.length - nI 1) (by unfold FU; omega) ?_
  · obtain ⟨e, h1, f, g, rfl, f1, f2, g1, g2⟩ := this
    refine ⟨f, g, nI (t0 + (cs.reverse.filter q).length), ?_, ?_⟩
    · have h1' : m_rfollows_L7 S (nI A.n) (b2 cf) (nI cs.length - nI 1) = _ := h1
      unfold m_rfollows m_rfollows_J0
      simp only [q0, q1, hcl, h1', ob_ok]
    · have hl := hlen 0
      rw [List.drop_zero] at hl
      refine ⟨hR.1, hR.2.1, hR.2.2.1, ?_, hR.2.2.2.2.1, hR.2.2.2.2.2.1, hR.2.2.2.2.2.2.1, R_rp_setA (R_rp_setA hR.2.2.2.2.2.2.2 (by decide) (by decide)) (by decide) (by decide)⟩
      refine ⟨t0 + (cs.reverse.filter q).length, fun o => if o = A.n then t0 else pa o, by simp only [MS.i_setI, MS.a_setI, MS.n_setI, MS.i_setA, MS.a_setA, MS.n_setA, MS.i_setN, MS.a_setN, MS.n_setN, if_true], by rw [mk_n]; omega, ?_⟩
      intro o ho
      rw [mk_n] at ho
      have hp := p3 o (by rw [mk_n]; exact ho)
      rw [mk_pre] at hp
      rw [mk_pre]
      simp only [MS.i_setI, MS.a_setI, MS.n_setI, MS.i_setA, MS.a_setA, MS.n_setA, MS.i_setN, MS.a_setN, MS.n_setN, Nat.reduceEqDiff, if_false, if_true]
      by_cases e : o = A.n
      · subst e
        simp only [if_true] at hp ⊢
        exact ⟨h18, g2, Nat.le_refl _, f2⟩
      · simp only [if_neg e] at hp ⊢
        refine ⟨hp.1, by rw [g1 o e]; exact hp.2.1, by have := hp.2.2.1; omega, ?_⟩
        intro k hk
        rw [f1 _ (by have := hp.2.2.1; omega)]
        exact hp.2.2.2 k hk
  · rintro i _ hi ⟨k, f, g, hk, rfl, f1, f2, g1, g2⟩
    unfold m_rfollows_B7 m_rfollows_J33 m_rfollows_J68
    cases k with
    | zero =>
      right
      simp only [q0, m1lt, if_true]
      simp only [List.drop_zero] at f2 g2 ⊢
      exact ⟨_, rfl, f, g, rfl, f1, f2, g1, g2⟩
    | succ k =>
      left
      have hkl : k < cs.length := by omega
      have hck := hcs _ (List.getElem_mem hkl)
      have hak := hact _ (List.getElem_mem hkl)
      have hl := hlen (k + 1)
      have hdec : (cs.drop k).reverse.filter q = (cs.drop (k+1)).reverse.filter q ++ (if q cs[k] then [cs[k]] else []) := by
        rw [drop_cons hkl, List.filter_append]
        congr 1
        cases hq : q cs[k] <;> simp [hq]
      simp (disch := omega) only [gd_ok, cl_nI, nI_s, nI_add, nI_leI, nI_ltI, nI_eq, if_pos, if_neg, q0, q1, q2, q3, q4, q5, q6, q7, q8, q9, q10, MS.i_setI, MS.a_setI, MS.n_setI, MS.i_setA, MS.a_setA, MS.n_setA, MS.i_setN, MS.a_setN, MS.n_setN, ↓reduceIte, Nat.reduceEqDiff, b2_0, b2_1, b2_nn, n0_or, n1_or, n10, n01, dec1, dec2, ob_ok, oe_l, oe_r,hc k hkl, h11 _ (List.getElem_mem hkl), g2]
      have hyes : q cs[k] = true → ∃ (k' : Nat) (f' g' : Nat → Int32), i + 1 + k' = cs.length ∧ ((((((S.setA 24 f).setA 19 g).setI 25 (nI (t0 + ((cs.drop (k+1)).reverse.filter q).length))).setA 24 (upd f (t0 + ((cs.drop (k+1)).reverse.filter q).length) (nI cs[k]))).setI 25 (nI (t0 + ((cs.drop (k+1)).reverse.filter q).length + 1))).setA 19 (upd g A.n (nI (((cs.drop (k+1)).reverse.filter q).length + 1))), nI A.n, b2 cf, nI k - nI 1) = (((S.setA 24 f').setA 19 g').setI 25 (nI (t0 + ((cs.drop k').reverse.filter q).length)), nI A.n, b2 cf, nI k' - nI 1) ∧
          (∀ j, j < t0 → f' j = S.a 24 j) ∧ (∀ j (h : j < ((cs.drop k').reverse.filter q).length), f' (t0 + j) = nI ((cs.drop k').reverse.filter q)[j]) ∧ (∀ o, o ≠ A.n → g' o = S.a 19 o) ∧ g' A.n = nI ((cs.drop k').reverse.filter q).length := by
        intro hq
        rw [hq, if_pos rfl] at hdec
        refine ⟨k, upd f (t0 + ((cs.drop (k+1)).reverse.filter q).length) (nI cs[k]), upd g A.n (nI (((cs.drop (k+1)).reverse.filter q).length + 1)), by omega, ?_, ?_, ?_, ?_, ?_⟩
        · rw [hdec]
          simp only [MS.setI_setA, MS.setI_setI, List.length_append, List.length_singleton]
          rw [MS.setA_comm (S.setA 24 f) _ _ (by decide : 19 ≠ 24), MS.setA_setA, MS.setA_setA, Nat.add_assoc]
        · intro j hj
          rw [upd_ne (by omega)]
          exact f1 j hj
        · intro j hj
          simp only [hdec] at hj ⊢
          simp only [List.length_append, List.length_singleton] at hj
          by_cases e : j = ((cs.drop (k+1)).reverse.filter q).length
          · subst e
            rw [upd_at]
            simp
          · rw [upd_ne (by omega), List.getElem_append_left (by omega)]
            exact f2 j (by omega)
        · intro o ho
          rw [upd_ne ho]
          exact g1 o ho
        · rw [upd_at, hdec]
          simp
      have hno : q cs[k] = false → ∃ (k' : Nat) (f' g' : Nat → Int32), i + 1 + k' = cs.length ∧ (((S.setA 24 f).setA 19 g).setI 25 (nI (t0 + ((cs.drop (k+1)).reverse.filter q).length)), nI A.n, b2 cf, nI k - nI 1) = (((S.setA 24 f').setA 19 g').setI 25 (nI (t0 + ((cs.drop k').reverse.filter q).length)), nI A.n, b2 cf, nI k' - nI 1) ∧
          (∀ j, j < t0 → f' j = S.a 24 j) ∧ (∀ j (h : j < ((cs.drop k').reverse.filter q).length), f' (t0 + j) = nI ((cs.drop k').reverse.filter q)[j]) ∧ (∀ o, o ≠ A.n → g' o = S.a 19 o) ∧ g' A.n = nI ((cs.drop k').reverse.filter q).length := by
        intro hq
        rw [hq] at hdec
        simp only [Bool.false_eq_true, if_false, List.append_nil] at hdec
        refine ⟨k, f, g, by omega, by rw [hdec], f1, ?_, g1, by rw [hdec]; exact g2⟩
        intro j hj
        simp only [hdec] at hj ⊢
        exact f2 j hj
      cases cf with
      | false =>
        simp only [if_true]
        exact ⟨_, rfl, by omega, hyes (by simp [q])⟩
      | true =>
        simp only [Bool.true_eq_false, if_false]
        by_cases c5 : A.act cs[k] = 5
        · rw [if_pos c5]
          exact ⟨_, rfl, by omega, hyes (by simp [q, c5])⟩
        · rw [if_neg c5]
          exact ⟨_, rfl, by omega, hno (by simp [q, c5])⟩
  · refine ⟨cs.length, S.a 24, S.a 19, by omega, ?_, fun _ _ => rfl, ?_, fun _ _ => rfl, ?_⟩
    · rw [List.drop_length, MS.setA_self, MS.setA_self]
      simp only [List.reverse_nil, List.filter_nil, List.length_nil, Nat.add_zero]
      rw [← ht, MS.setI_self]
    · intro j hj
      rw [List.drop_length] at hj
      simp at hj
    · rw [List.drop_length]
      exact hpn.2.1
theorem bytes_nar {y : Nat} : vp_nar .byte (sb y) = sb y := by
  rw [vp_nar_byte]
  unfold sb
  simp
theorem pS_keep {b p kn : Nat} {k : List Nat} (hb : b = 1 ∨ b = 2 ∨ b = 3 ∨ b = 62) (hk : byts S b p k) (hp : p + k.length ≤ 8300) (hkn : S.i 27 = nI kn) (hkl : kn + k.length ≤ 24576) :
    ∃ f : Nat → Int32, m_rkeep S b (nI p) (nI k.length) = some ((S.setA 26 f).setI 27 (nI (kn + k.length)), nI kn) ∧ (∀ i (h : i < k.length), f (kn + i) = sb k[i]) ∧ ∀ j, j < kn → f j = S.a 26 j := by
  have := lp_run (body := fun a : MS × Nat × Int32 × Int32 × Int32 => m_rkeep_B3 a.1 a.2.1 a.2.2.1 a.2.2.2.1 a.2.2.2.2) (fun i a => ∃ f : Nat → Int32, a = (S.setA 26 f, b, nI p, nI k.length, nI i) ∧ (∀ j (h : j < k.length), j < i → f (kn + j) = sb k[j]) ∧ ∀ j, j < kn → f j = S.a 26 j)
    (fun e => ∃ f : Nat → Int32, e = (S.setA 26 f, nI k.length) ∧ (∀ j (h : j < k.length), f (kn + j) = sb k[j]) ∧ ∀ j, j < kn → f j = S.a 26 j) k.length ?_ FU (S, b, nI p, nI k.length, nI 0) (by unfold FU; omega) ⟨S.a 26, by rw [MS.setA_self], fun j h h2 => by omega, fun _ _ => rfl⟩
  · obtain ⟨e, h1, f, rfl, f1, f2⟩ := this
    refine ⟨f, ?_, f1, f2⟩
    have h1' : m_rkeep_L3 S b (nI p) (nI k.length) (nI 0) = some (S.setA 26 f, nI k.length) := h1
    unfold m_rkeep m_rkeep_J0
    simp (disch := omega) only [gd_ok, cl_nI, nI_s, nI_add, nI_leI, nI_ltI, nI_eq, if_pos, if_neg, q0, q1, q2, q3, q4, q5, q6, q7, q8, q9, q10, MS.i_setI, MS.a_setI, MS.n_setI, MS.i_setA, MS.a_setA, MS.n_setA, MS.i_setN, MS.a_setN, MS.n_setN, ↓reduceIte, Nat.reduceEqDiff, b2_0, b2_1, b2_nn, n0_or, n1_or, n10, n01, dec1, dec2, ob_ok, oe_l, oe_r,h1', hkn]
    congr 2
    rw [← nI_add]
    rw [Int32.add_sub_cancel]
  · rintro i _ hi ⟨f, rfl, f1, f2⟩
    unfold m_rkeep_B3
    by_cases hin : i < k.length
    · left
      have hki := hk i hin
      rw [gB_ok hb]
      simp (disch := omega) only [gd_ok, cl_nI, nI_s, nI_add, nI_leI, nI_ltI, nI_eq, if_pos, if_neg, q0, q1, q2, q3, q4, q5, q6, q7, q8, q9, q10, MS.i_setI, MS.a_setI, MS.n_setI, MS.i_setA, MS.a_setA, MS.n_setA, MS.i_setN, MS.a_setN, MS.n_setN, ↓reduceIte, Nat.reduceEqDiff, b2_0, b2_1, b2_nn, n0_or, n1_or, n10, n01, dec1, dec2, ob_ok, oe_l, oe_r,hkn]
      rw [hki.2, bytes_nar]
      refine ⟨_, rfl, hin, upd f (kn + i) (sb k[i]), ?_, ?_, ?_⟩
      · rw [MS.setA_setA]
      · intro j hj hji
        by_cases e : j = i
        · subst e; rw [upd_at]
        · rw [upd_ne (by omega)]
          exact f1 j hj (by omega)
      · intro j hj
        rw [upd_ne (by omega)]
        exact f2 j hj
    · right
      simp (disch := omega) only [gd_ok, cl_nI, nI_s, nI_add, nI_leI, nI_ltI, nI_eq, if_pos, if_neg, q0, q1, q2, q3, q4, q5, q6, q7, q8, q9, q10, MS.i_setI, MS.a_setI, MS.n_setI, MS.i_setA, MS.a_setA, MS.n_setA, MS.i_setN, MS.a_setN, MS.n_setN, ↓reduceIte, Nat.reduceEqDiff, b2_0, b2_1, b2_nn, n0_or, n1_or, n10, n01, dec1, dec2, ob_ok, oe_l, oe_r]
      exact ⟨_, rfl, f, rfl, fun j h => f1 j h (by omega), f2⟩
end SP
