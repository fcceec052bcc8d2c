/-! THE REFERENCE: what is in the view, hidden, visible. -/
section SB
variable {S : MS} {A : AS}
theorem id_lt (h : AI A) {o : Nat} (ho : o < A.n) : A.id o < 40000 := by
  have := (h.2.2.1.1 o ho).2.2.2.1
  have := h.1.1
  omega
theorem oi_lt (h : AI A) {o : Nat} (ho : o < A.n) : A.oi (A.obj o) < 40000 := by
  unfold AS.oi
  split
  · omega
  · rename_i m hm
    exact id_lt h (by have := (h.2.2.1.2.2.2.1 o m ho hm).1; omega)
theorem chg_lt (h : AI A) {o : Nat} (ho : o < A.n) {c : Nat} (hc : A.chg o = some c) : c < A.m := by
  have := h.2.2.1.2.2.1 o ho
  rw [hc] at this
  exact this.1
theorem pS_in (hR : RS S A) (hA : AI A) {r o : Nat} (hr : r < 8) (ho : o < A.n) : m_rin S (nI r) (nI o) = some (S, b2 (A.inV r o)) := by
  have hn := hA.1.1
  have hm := hA.1.2.1
  have hb : rB S := by
    intro r c hr hc
    have h1 := (hR.2.2.2.2.2.2.2 r hr).2 c hc
    refine ⟨?_, h1.2.2.1⟩
    rw [h1.1]
    exact b2_or _
  have hop := hR.2.1 o ho
  have hcl : ∀ c, A.chg o = some c → c < 1000 := fun c hc => by have := chg_lt hA ho hc; omega
  have hc : rC S o := by
    intro h1
    rw [hop.2.2.2.2.2.1] at h1 ⊢
    rw [cI_neg hcl] at h1
    cases hx : A.chg o with
    | none => exact absurd hx h1
    | some c => exact ⟨c, hcl c hx, rfl⟩
  rw [pr_in hb hr (by omega) hc]
  congr 3
  rw [Bool.eq_iff_iff, inV_ref hA.2.1 hA.2.2.1.2.2.1 ho (hA.2.2.1.1 o ho).1]
  unfold rIn
  have hg : S.a 21 o = 0 ↔ A.gone o = 0 := by
    rw [hop.2.2.2.2.2.2.2.1]
    exact nI_eq (b := 0) (by have := (hA.2.2.1.1 o ho).2.2.2.2.2.1; omega) (by decide)
  have hrp := hR.2.2.2.2.2.2.2 r hr
  have hlk : ∀ c, A.lk r = some c → c < 1000 := fun c hc => by have := (hA.2.1.2.2.2.2.2.2.2.2.1 r c hc).1; omega
  have hl : 0 ≤ S.a 39 r ↔ A.lk r ≠ none := by rw [hrp.1]; exact cI_neg hlk
  have hch : 0 ≤ S.a 13 o ↔ A.chg o ≠ none := by rw [hop.2.2.2.2.2.1]; exact cI_neg hcl
  have how : S.a 12 o = nI r ↔ A.own o = r := by
    rw [hop.2.2.2.2.1]
    exact nI_eq (by have := (hA.2.2.1.1 o ho).1; omega) (by omega)
  simp only [Bool.and_eq_true, decide_eq_true_eq, hg, and_congr_right_iff]
  intro _
  cases hx : A.chg o with
  | none =>
    rw [if_neg (by rw [hch, hx]; simp)]
    simp only [how, hl, Bool.and_eq_true, decide_eq_true_eq, Bool.not_eq_true', decide_eq_false_iff_not, ne_eq, Classical.not_not]
  | some c =>
    have hc1 := hcl c hx
    have h13 : S.a 13 o = nI c := by rw [hop.2.2.2.2.2.1, hx]; rfl
    rw [if_pos (by rw [hch, hx]; simp), h13, cl_nI (by omega)]
    have hcm := chg_lt hA ho hx
    cases hy : A.lk r with
    | none =>
      rw [if_neg (by rw [hl, hy]; simp), (hrp.2 c hc1).1]
      rw [decide_eq_true_eq, q1, b2_1, hasB_iff]
      unfold AS.has
      simp [hcm]
    | some c0 =>
      rw [if_pos (by rw [hl, hy]; simp), (hrp.2 c hc1).2.2.2.2 c0 hy]
      rw [decide_eq_true_eq, q1, b2_1, cloB_iff]
      unfold AS.clo
      simp [hcm]
theorem pS_hide1 (hn : S.i 23 = nI A.n) (h : A.n ≤ 4000) {x : Int32} : ∃ f : Nat → Int32, m_rhide_L2 S x (nI 0) = some (S.setA 45 f, x) ∧ ∀ o, o < A.n → f o = 0 := by
  have := lp_run (body := fun a : MS × Int32 × Int32 => m_rhide_B2 a.1 a.2.1 a.2.2) (fun i a => ∃ f : Nat → Int32, a = (S.setA 45 f, x, nI i) ∧ ∀ o, o < i → f o = 0) (fun e => ∃ f : Nat → Int32, e = (S.setA 45 f, x) ∧ ∀ o, o < A.n → f o = 0) A.n ?_ FU (S, x, 0) (by unfold FU; omega) ⟨S.a 45, by rw [MS.setA_self]; rfl, by intro o h; omega⟩
  · obtain ⟨e, h1, f, rfl, h3⟩ := this
    exact ⟨f, h1, h3⟩
  · rintro i _ hi ⟨f, rfl, hf⟩
    unfold m_rhide_B2
    simp only [MS.i_setA, hn]
    by_cases hin : i < A.n
    · left
      simp (disch := omega) only [gd_ok, cl_nI, nI_s, nI_add, nI_leI, nI_ltI, nI_eq, if_pos, if_neg, q0, q1, q2, q3, q4, q5, q6, q7, q8, q9, q10, MS.i_setI, MS.a_setI, MS.n_setI, MS.i_setA, MS.a_setA, MS.n_setA, MS.i_setN, MS.a_setN, MS.n_setN]
      refine ⟨_, rfl, hin, upd f i 0, ?_, ?_⟩
      · simp [MS.setA_setA, nar_b0]
      · intro o ho
        unfold upd
        split
        · rfl
        · exact hf o (by omega)
    · right
      simp (disch := omega) only [gd_ok, cl_nI, nI_s, nI_add, nI_leI, nI_ltI, nI_eq, if_pos, if_neg, q0, q1, q2, q3, q4, q5, q6, q7, q8, q9, q10, MS.i_setI, MS.a_setI, MS.n_setI, MS.i_setA, MS.a_setA, MS.n_setA, MS.i_setN, MS.a_setN, MS.n_setN]
      exact ⟨_, rfl, f, rfl, fun o ho => hf o (by omega)⟩
/-- hidden by the first k ops -/
def hidT (A : AS) (r k o : Nat) : Bool := (List.range k).any (fun p => A.inV r p && !decide (A.act p = 10) && (A.pre p).contains o)
theorem hidT_s {r k o : Nat} : hidT A r (k + 1) o = (hidT A r k o || (A.inV r k && !decide (A.act k = 10) && (A.pre k).contains o)) := by
  unfold hidT
  rw [List.range_succ, List.any_append]
  simp
theorem pS_hide2 (hR : RS S A) (hA : AI A) {r p : Nat} (hp : p < A.n) {f : Nat → Int32} :
    ∃ g : Nat → Int32, m_rhide_L58 (S.setA 45 f) (nI r) (nI p) (nI 0) = some (S.setA 45 g, nI r, nI p) ∧ ∀ o, g o = if (A.pre p).contains o then nI 1 else f o := by
  have hn := hA.1.1
  obtain ⟨t, pa, h1, h2, h3⟩ := hR.2.2.2.1
  obtain ⟨e1, e2, e3, e4⟩ := h3 p hp
  have hlen := (hA.2.2.1.2.2.2.2.2.2.1 p hp).1
  have hpre := (hA.2.2.1.2.2.2.2.2.2.1 p hp).2.2
  have := lp_run (body := fun a : MS × Int32 × Int32 × Int32 => m_rhide_B58 a.1 a.2.1 a.2.2.1 a.2.2.2) (fun i a => ∃ g : Nat → Int32, a = (S.setA 45 g, nI r, nI p, nI i) ∧ ∀ o, g o = if ((A.pre p).take i).contains o then nI 1 else f o)
    (fun e => ∃ g : Nat → Int32, e = (S.setA 45 g, nI r, nI p) ∧ ∀ o, g o = if (A.pre p).contains o then nI 1 else f o) (A.pre p).length ?_ FU (S.setA 45 f, nI r, nI p, 0) (by unfold FU; omega) ⟨f, rfl, by simp⟩
  · obtain ⟨e, h1, f, rfl, h3⟩ := this
    exact ⟨f, h1, h3⟩
  · rintro i _ hi ⟨g, rfl, hg⟩
    unfold m_rhide_B58
    by_cases hin : i < (A.pre p).length
    · left
      have hq := hpre _ (List.getElem_mem hin)
      simp (disch := omega) only [gd_ok, cl_nI, nI_s, nI_add, nI_leI, nI_ltI, nI_eq, if_pos, if_neg, q0, q1, q2, q3, q4, q5, q6, q7, q8, q9, q10, MS.i_setI, MS.a_setI, MS.n_setI, MS.i_setA, MS.a_setA, MS.n_setA, MS.i_setN, MS.a_setN, MS.n_setN, ↓reduceIte, Nat.reduceEqDiff, b2_0, b2_1, b2_nn, n0_or, n1_or, n10, n01, dec1, dec2, ob_ok, oe_l, oe_r]
      rw [e1, e2]
      simp (disch := omega) only [gd_ok, cl_nI, nI_s, nI_add, nI_leI, nI_ltI, nI_eq, if_pos, if_neg, q0, q1, q2, q3, q4, q5, q6, q7, q8, q9, q10, MS.i_setI, MS.a_setI, MS.n_setI, MS.i_setA, MS.a_setA, MS.n_setA, MS.i_setN, MS.a_setN, MS.n_setN, ↓reduceIte, Nat.reduceEqDiff, b2_0, b2_1, b2_nn, n0_or, n1_or, n10, n01, dec1, dec2, ob_ok, oe_l, oe_r]
      rw [e4 i hin]
      simp (disch := omega) only [gd_ok, cl_nI, nI_s, nI_add, nI_leI, nI_ltI, nI_eq, if_pos, if_neg, q0, q1, q2, q3, q4, q5, q6, q7, q8, q9, q10, MS.i_setI, MS.a_setI, MS.n_setI, MS.i_setA, MS.a_setA, MS.n_setA, MS.i_setN, MS.a_setN, MS.n_setN, ↓reduceIte, Nat.reduceEqDiff, b2_0, b2_1, b2_nn, n0_or, n1_or, n10, n01, dec1, dec2, ob_ok, oe_l, oe_r]
      refine ⟨_, rfl, hin, upd g (A.pre p)[i] (nI 1), ?_, ?_⟩
      · simp only [MS.setA_setA, nar_b1]; rfl
      · intro o
        rw [take_s hin]
        unfold upd
        rw [hg o]
        by_cases e : o = (A.pre p)[i]
        · simp [e]
        · simp [e]
    · right
      simp (disch := omega) only [gd_ok, cl_nI, nI_s, nI_add, nI_leI, nI_ltI, nI_eq, if_pos, if_neg, q0, q1, q2, q3, q4, q5, q6, q7, q8, q9, q10, MS.i_setI, MS.a_setI, MS.n_setI, MS.i_setA, MS.a_setA, MS.n_setA, MS.i_setN, MS.a_setN, MS.n_setN, ↓reduceIte, Nat.reduceEqDiff, b2_0, b2_1, b2_nn, n0_or, n1_or, n10, n01, dec1, dec2, ob_ok, oe_l, oe_r]
      rw [e2]
      simp (disch := omega) only [gd_ok, cl_nI, nI_s, nI_add, nI_leI, nI_ltI, nI_eq, if_pos, if_neg, q0, q1, q2, q3, q4, q5, q6, q7, q8, q9, q10, MS.i_setI, MS.a_setI, MS.n_setI, MS.i_setA, MS.a_setA, MS.n_setA, MS.i_setN, MS.a_setN, MS.n_setN, ↓reduceIte, Nat.reduceEqDiff, b2_0, b2_1, b2_nn, n0_or, n1_or, n10, n01, dec1, dec2, ob_ok, oe_l, oe_r]
      refine ⟨_, rfl, g, rfl, ?_⟩
      intro o
      rw [hg o, List.take_of_length_le (by omega)]
theorem pS_hide (hR : RS S A) (hA : AI A) {r : Nat} (hr : r < 8) : ∃ f : Nat → Int32, m_rhide S (nI r) = some (S.setA 45 f) ∧ ∀ o, o < A.n → f o = b2 (A.hidB r o) := by
  have hn := hA.1.1
  obtain ⟨f0, h1, h2⟩ := pS_hide1 (x := nI r) hR.1.1 hA.1.1
  have := lp_run (body := fun a : MS × Int32 × Int32 => m_rhide_B25 a.1 a.2.1 a.2.2) (fun i a => ∃ g : Nat → Int32, a = (S.setA 45 g, nI r, nI i) ∧ ∀ o, o < A.n → g o = b2 (hidT A r i o))
    (fun e => ∃ g : Nat → Int32, e = S.setA 45 g ∧ ∀ o, o < A.n → g o = b2 (A.hidB r o)) A.n ?_ FU (S.setA 45 f0, nI r, 0) (by unfold FU; omega) ⟨f0, rfl, by intro o ho; rw [h2 o ho]; rfl⟩
  · obtain ⟨e, h3, f, rfl, h4⟩ := this
    refine ⟨f, ?_, h4⟩
    have h3' : m_rhide_L25 (S.setA 45 f0) (nI r) (nI 0) = some (S.setA 45 f) := h3
    unfold m_rhide m_rhide_J0
    simp only [q0, h1, ob_ok, h3']
  · rintro i _ hi ⟨g, rfl, hg⟩
    have hR' : RS (S.setA 45 g) A := hR.setA rfl
    unfold m_rhide_B25
    simp only [MS.i_setA, hR.1.1]
    by_cases hin : i < A.n
    · left
      have hact := (hA.2.2.1.1 i hin).2.2.2.2.1
      have h11 := (hR.2.1 i hin).2.2.2.1
      simp (disch := omega) only [gd_ok, cl_nI, nI_s, nI_add, nI_leI, nI_ltI, nI_eq, if_pos, if_neg, q0, q1, q2, q3, q4, q5, q6, q7, q8, q9, q10, MS.i_setI, MS.a_setI, MS.n_setI, MS.i_setA, MS.a_setA, MS.n_setA, MS.i_setN, MS.a_setN, MS.n_setN, ↓reduceIte, Nat.reduceEqDiff, b2_0, b2_1, b2_nn, n0_or, n1_or, n10, n01, dec1, dec2, ob_ok, oe_l, oe_r]
      simp only [pS_in hR' hA hr hin, ob_ok]
      simp (disch := omega) only [gd_ok, cl_nI, nI_s, nI_add, nI_leI, nI_ltI, nI_eq, if_pos, if_neg, q0, q1, q2, q3, q4, q5, q6, q7, q8, q9, q10, MS.i_setI, MS.a_setI, MS.n_setI, MS.i_setA, MS.a_setA, MS.n_setA, MS.i_setN, MS.a_setN, MS.n_setN, ↓reduceIte, Nat.reduceEqDiff, b2_0, b2_1, b2_nn, n0_or, n1_or, n10, n01, dec1, dec2, ob_ok, oe_l, oe_r]
      rw [h11]
      unfold m_rhide_J93
      simp (disch := omega) only [gd_ok, cl_nI, nI_s, nI_add, nI_leI, nI_ltI, nI_eq, if_pos, if_neg, q0, q1, q2, q3, q4, q5, q6, q7, q8, q9, q10, MS.i_setI, MS.a_setI, MS.n_setI, MS.i_setA, MS.a_setA, MS.n_setA, MS.i_setN, MS.a_setN, MS.n_setN, ↓reduceIte, Nat.reduceEqDiff, b2_0, b2_1, b2_nn, n0_or, n1_or, n10, n01, dec1, dec2, ob_ok, oe_l, oe_r]
      obtain ⟨g', h5, h6⟩ := pS_hide2 hR hA (r := r) hin (f := g)
      by_cases hv : A.inV r i = false
      · rw [if_pos hv]
        refine ⟨_, rfl, hin, g, rfl, ?_⟩
        intro o ho
        rw [hidT_s, hv, hg o ho]
        simp
      · rw [if_neg hv]
        by_cases ha : A.act i = 10
        · rw [if_pos ha]
          refine ⟨_, rfl, hin, g, rfl, ?_⟩
          intro o ho
          rw [hidT_s, ha, hg o ho]
          simp
        · rw [if_neg ha]
          simp only [h5, ob_ok]
          refine ⟨_, rfl, hin, g', by rw [nI_add], ?_⟩
          intro o ho
          rw [hidT_s, h6 o, hg o ho]
          simp only [Bool.not_eq_false] at hv
          rw [hv]
          cases hc : (A.pre i).contains o <;> simp [ha, b2, q1]
    · right
      simp (disch := omega) only [gd_ok, cl_nI, nI_s, nI_add, nI_leI, nI_ltI, nI_eq, if_pos, if_neg, q0, q1, q2, q3, q4, q5, q6, q7, q8, q9, q10, MS.i_setI, MS.a_setI, MS.n_setI, MS.i_setA, MS.a_setA, MS.n_setA, MS.i_setN, MS.a_setN, MS.n_setN, ↓reduceIte, Nat.reduceEqDiff, b2_0, b2_1, b2_nn, n0_or, n1_or, n10, n01, dec1, dec2, ob_ok, oe_l, oe_r]
      refine ⟨_, rfl, g, rfl, ?_⟩
      intro o ho
      rw [hg o ho]
      have : i = A.n := by omega
      rw [this]
      rfl
theorem pS_visible (hR : RS S A) (hA : AI A) {r o : Nat} (hr : r < 8) (ho : o < A.n) (hh : S.a 45 o = b2 (A.hidB r o)) : m_rvisible S (nI r) (nI o) = some (S, b2 (A.visB r o)) := by
  have hn := hA.1.1
  have hact := (hA.2.2.1.1 o ho).2.2.2.2.1
  have h11 := (hR.2.1 o ho).2.2.2.1
  unfold m_rvisible m_rvisible_J0
  simp only [pS_in hR hA hr ho, ob_ok]
  simp (disch := omega) only [gd_ok, cl_nI, nI_s, nI_add, nI_leI, nI_ltI, nI_eq, if_pos, if_neg, q0, q1, q2, q3, q4, q5, q6, q7, q8, q9, q10, MS.i_setI, MS.a_setI, MS.n_setI, MS.i_setA, MS.a_setA, MS.n_setA, MS.i_setN, MS.a_setN, MS.n_setN, ↓reduceIte, Nat.reduceEqDiff, b2_0, b2_1, b2_nn, n0_or, n1_or, n10, n01, dec1, dec2, ob_ok, oe_l, oe_r]
  rw [h11, hh]
  unfold m_rvisible_J33 m_rvisible_J34
  simp (disch := omega) only [gd_ok, cl_nI, nI_s, nI_add, nI_leI, nI_ltI, nI_eq, if_pos, if_neg, q0, q1, q2, q3, q4, q5, q6, q7, q8, q9, q10, MS.i_setI, MS.a_setI, MS.n_setI, MS.i_setA, MS.a_setA, MS.n_setA, MS.i_setN, MS.a_setN, MS.n_setN, ↓reduceIte, Nat.reduceEqDiff, b2_0, b2_1, b2_nn, n0_or, n1_or, n10, n01, dec1, dec2, ob_ok, oe_l, oe_r]
  unfold AS.visB
  cases hv : A.inV r o
  · simp [b2_f]
  · by_cases ha : 8 < A.act o
    · have : ¬ A.act o ≤ 8 := by omega
      simp [ha, this, b2_f]
    · have : A.act o ≤ 8 := by omega
      cases hq : A.hidB r o <;> simp [ha, this, b2_t, b2_f]
end SB
