/-! THE REFERENCE: objects, keys, candidates. -/
theorem sb_and {x : Nat} (h : x < 256) : sb x &&& nI 255 = nI x := sc_k8 x h
theorem sb_inj {x y : Nat} (hx : x < 256) (hy : y < 256) : sb x = sb y ↔ x = y := by
  constructor
  · intro h
    have h1 := sb_and hx
    rw [h, sb_and hy] at h1
    exact ((nI_eq (by omega) (by omega)).mp h1).symm
  · rintro rfl; rfl
/-- the row b holds the bytes k from place p on -/
def byts (S : MS) (b p : Nat) (k : List Nat) : Prop := ∀ i (h : i < k.length), k[i] < 256 ∧ S.a b (p + i) = sb k[i]
section SD
variable {S : MS} {A : AS}
theorem pS_maker (hR : RS S A) (hA : AI A) {r : Nat} (hr : r < 8) (i : Int32) :
    (i = nI 0 ∧ m_rmaker S (nI r) i = some (S, -nI 1)) ∨
    (∃ o, o < A.n ∧ A.inV r o = true ∧ i = nI (A.id o) ∧ 6 ≤ A.act o ∧ A.act o ≤ 8 ∧ m_rmaker S (nI r) i = some (S, nI o)) ∨
    (i ≠ nI 0 ∧ (∀ o, o < A.n → A.inV r o = true → i = nI (A.id o) → ¬ (6 ≤ A.act o ∧ A.act o ≤ 8)) ∧ m_rmaker S (nI r) i = some (S, -nI 2)) := by
  have hn := hA.1.1
  unfold m_rmaker m_rmaker_J0
  simp only [q0, q1, q2]
  by_cases hi : i = nI 0
  · rw [if_pos hi]
    exact Or.inl ⟨hi, rfl⟩
  · rw [if_neg hi]
    have := lp_run (body := fun a : MS × Int32 × Int32 × Int32 => m_rmaker_B8 a.1 a.2.1 a.2.2.1 a.2.2.2) (fun k a => a = (S, nI r, i, nI k) ∧ ∀ o, o < k → A.inV r o = true → i = nI (A.id o) → ¬ (6 ≤ A.act o ∧ A.act o ≤ 8))
      (fun e => (∃ o, o < A.n ∧ A.inV r o = true ∧ i = nI (A.id o) ∧ 6 ≤ A.act o ∧ A.act o ≤ 8 ∧ e = .inr (S, nI o)) ∨ ((∀ o, o < A.n → A.inV r o = true → i = nI (A.id o) → ¬ (6 ≤ A.act o ∧ A.act o ≤ 8)) ∧ e = .inl S)) A.n ?_ FU (S, nI r, i, nI 0) (by unfold FU; omega) ⟨rfl, by intro o h; omega⟩
    · obtain ⟨e, h1, h2⟩ := this
      have h1' : m_rmaker_L8 S (nI r) i (nI 0) = some e := h1
      rw [h1']
      rcases h2 with ⟨o, h3, h4, h5, h6, h7, rfl⟩ | ⟨h3, rfl⟩
      · exact Or.inr (Or.inl ⟨o, h3, h4, h5, h6, h7, rfl⟩)
      · exact Or.inr (Or.inr ⟨hi, h3, rfl⟩)
    · rintro k _ hk ⟨rfl, hp⟩
      unfold m_rmaker_B8 m_rmaker_J59
      simp only [hR.1.1]
      by_cases hin : k < A.n
      · have hop := rop hR hA k hin
        have hact := (hA.2.2.1.1 k hin).2.2.2.2.1
        simp (disch := omega) only [gd_ok, cl_nI, nI_s, nI_add, nI_leI, nI_ltI, nI_eq, if_pos, if_neg, q0, q1, q2, q3, q4, q5, q6, q7, q8, q9, q10, MS.i_setI, MS.a_setI, MS.n_setI, MS.i_setA, MS.a_setA, MS.n_setA, MS.i_setN, MS.a_setN, MS.n_setN, ↓reduceIte, Nat.reduceEqDiff, b2_0, b2_1, b2_nn, n0_or, n1_or, n10, n01, dec1, dec2, ob_ok, oe_l, oe_r,hop.1, hop.2.2.2.1, pS_in hR hA hr hin]
        by_cases h1 : nI (A.id k) = i
        · rw [if_pos h1]
          by_cases h2 : A.inV r k = false
          · rw [if_pos h2]
            left
            refine ⟨_, rfl, hin, rfl, ?_⟩
            intro o ho hv
            by_cases e : o = k
            · subst e; rw [h2] at hv; cases hv
            · exact hp o (by omega) hv
          · rw [if_neg h2]
            by_cases h3 : A.act k < 6
            · rw [if_pos h3]
              left
              refine ⟨_, rfl, hin, rfl, ?_⟩
              intro o ho hv he
              by_cases e : o = k
              · subst e; omega
              · exact hp o (by omega) hv he
            · rw [if_neg h3]
              by_cases h4 : 8 < A.act k
              · rw [if_pos h4]
                left
                refine ⟨_, rfl, hin, rfl, ?_⟩
                intro o ho hv he
                by_cases e : o = k
                · subst e; omega
                · exact hp o (by omega) hv he
              · rw [if_neg h4]
                right
                exact ⟨_, rfl, Or.inl ⟨k, hin, by simpa using h2, h1.symm, by omega, by omega, rfl⟩⟩
        · rw [if_neg h1]
          left
          refine ⟨_, rfl, hin, rfl, ?_⟩
          intro o ho hv he
          by_cases e : o = k
          · subst e; exact absurd he.symm h1
          · exact hp o (by omega) hv he
      · right
        simp (disch := omega) only [gd_ok, cl_nI, nI_s, nI_add, nI_leI, nI_ltI, nI_eq, if_pos, if_neg, q0, q1, q2, q3, q4, q5, q6, q7, q8, q9, q10, MS.i_setI, MS.a_setI, MS.n_setI, MS.i_setA, MS.a_setA, MS.n_setA, MS.i_setN, MS.a_setN, MS.n_setN, ↓reduceIte, Nat.reduceEqDiff, b2_0, b2_1, b2_nn, n0_or, n1_or, n10, n01, dec1, dec2, ob_ok, oe_l, oe_r]
        exact ⟨_, rfl, Or.inr ⟨fun o ho => hp o (by omega), rfl⟩⟩
theorem plc_lt (hA : AI A) {o : Nat} (ho : o < A.n) : A.plc o < 40000 := by
  unfold AS.plc
  split
  · rename_i h
    unfold AS.oi
    split
    · omega
    · rename_i m hm
      exact id_lt hA (by have := ((hA.2.2.1.2.2.2.2.1 o ho h).2.2.2.2.2 m hm).1; omega)
  · split
    · omega
    · exact id_lt hA (((hA.2.2.1.2.2.2.2.2.2.2.2.1 _).2.1 _).mp (sp_L hA ho)).1
/-- an object's number, as the view resolves it -/
theorem pS_kind (hR : RS S A) (hA : AI A) {r : Nat} (hr : r < 8) (i : Int32) :
    (∃ x, A.oV r x ∧ i = nI (A.oi x) ∧ m_rkindOf S (nI r) i = some (S, nI (A.kd x))) ∨
    ((∀ x, A.oV r x → i ≠ nI (A.oi x)) ∧ m_rkindOf S (nI r) i = some (S, -nI 1)) := by
  have hn := hA.1.1
  unfold m_rkindOf m_rkindOf_J0 m_rkindOf_J33
  simp only [q0, q1, q2, q6]
  rcases pS_maker hR hA hr i with ⟨h1, h2⟩ | ⟨o, h1, h2, h3, h4, h5, h6⟩ | ⟨h1, h2, h3⟩
  · rw [h2]
    left
    exact ⟨none, trivial, h1, rfl⟩
  · rw [h6]
    left
    refine ⟨some o, ⟨h1, h2, h4, h5⟩, h3, ?_⟩
    have e1 : ¬ nI o = -nI 2 := by
      intro e
      have := nI_pos' (n := o) (by omega)
      rw [e] at this
      exact absurd this (by decide)
    have e2 : ¬ nI o = -nI 1 := by
      intro e
      have := nI_pos' (n := o) (by omega)
      rw [e] at this
      exact absurd this (by decide)
    simp only [ob_ok]
    rw [if_neg e1, if_neg e2, gd_ok (by omega) (by decide), cl_nI (by omega), (rop hR hA o h1).2.2.2.1]
    rfl
  · rw [h3]
    right
    refine ⟨?_, rfl⟩
    intro x hx he
    cases x with
    | none => exact h1 he
    | some o => exact h2 o hx.1 hx.2.1 he ⟨hx.2.2.1, hx.2.2.2⟩
theorem pS_sameKey (hR : RS S A) (hA : AI A) {o b p : Nat} {k : List Nat} (ho : o < A.n) (hb : b = 1 ∨ b = 2 ∨ b = 3 ∨ b = 62) (hk : byts S b p k) (hp : p + k.length ≤ 8300) :
    m_rsameKey S (nI o) b (nI p) (nI k.length) = some (S, b2 (decide (A.key o = k))) := by
  have hn := hA.1.1
  have hkn := hA.1.2.2.1
  obtain ⟨t1, t2, _, _, _, t6, t7, _⟩ := hR.2.2.1 o ho
  unfold m_rsameKey m_rsameKey_J0
  simp only [q0, q1]
  simp (disch := omega) only [gd_ok, cl_nI, nI_s, nI_add, nI_leI, nI_ltI, nI_eq, if_pos, if_neg, q0, q1, q2, q3, q4, q5, q6, q7, q8, q9, q10, MS.i_setI, MS.a_setI, MS.n_setI, MS.i_setA, MS.a_setA, MS.n_setA, MS.i_setN, MS.a_setN, MS.n_setN, ↓reduceIte, Nat.reduceEqDiff, b2_0, b2_1, b2_nn, n0_or, n1_or, n10, n01, dec1, dec2, ob_ok, oe_l, oe_r]
  rw [t2]
  simp (disch := omega) only [gd_ok, cl_nI, nI_s, nI_add, nI_leI, nI_ltI, nI_eq, if_pos, if_neg, q0, q1, q2, q3, q4, q5, q6, q7, q8, q9, q10, MS.i_setI, MS.a_setI, MS.n_setI, MS.i_setA, MS.a_setA, MS.n_setA, MS.i_setN, MS.a_setN, MS.n_setN, ↓reduceIte, Nat.reduceEqDiff, b2_0, b2_1, b2_nn, n0_or, n1_or, n10, n01, dec1, dec2, ob_ok, oe_l, oe_r]
  by_cases hl : (A.key o).length = k.length
  · rw [if_pos hl]
    have := lp_run (body := fun a : MS × Int32 × Nat × Int32 × Int32 × Int32 => m_rsameKey_B16 a.1 a.2.1 a.2.2.1 a.2.2.2.1 a.2.2.2.2.1 a.2.2.2.2.2) (fun i a => a = (S, nI o, b, nI p, nI k.length, nI i) ∧ (A.key o).take i = k.take i)
      (fun e => (A.key o = k ∧ e = .inl S) ∨ (A.key o ≠ k ∧ e = .inr (S, nI 0))) k.length ?_ FU (S, nI o, b, nI p, nI k.length, nI 0) (by unfold FU; omega) ⟨rfl, rfl⟩
    · obtain ⟨e, h1, h2⟩ := this
      have h1' : m_rsameKey_L16 S (nI o) b (nI p) (nI k.length) (nI 0) = some e := h1
      rw [h1']
      rcases h2 with ⟨h3, rfl⟩ | ⟨h3, rfl⟩
      · simp only [oe_l, h3, decide_true]; rfl
      · simp only [oe_r, h3, decide_false]; rfl
    · rintro i _ hi ⟨rfl, hp'⟩
      unfold m_rsameKey_B16
      by_cases hin : i < k.length
      · have h14 := t1 (by intro e; rw [e] at hl; simp at hl; omega)
        simp (disch := omega) only [gd_ok, cl_nI, nI_s, nI_add, nI_leI, nI_ltI, nI_eq, if_pos, if_neg, q0, q1, q2, q3, q4, q5, q6, q7, q8, q9, q10, MS.i_setI, MS.a_setI, MS.n_setI, MS.i_setA, MS.a_setA, MS.n_setA, MS.i_setN, MS.a_setN, MS.n_setN, ↓reduceIte, Nat.reduceEqDiff, b2_0, b2_1, b2_nn, n0_or, n1_or, n10, n01, dec1, dec2, ob_ok, oe_l, oe_r]
        rw [h14, gB_ok hb]
        simp (disch := omega) only [gd_ok, cl_nI, nI_s, nI_add, nI_leI, nI_ltI, nI_eq, if_pos, if_neg, q0, q1, q2, q3, q4, q5, q6, q7, q8, q9, q10, MS.i_setI, MS.a_setI, MS.n_setI, MS.i_setA, MS.a_setA, MS.n_setA, MS.i_setN, MS.a_setN, MS.n_setN, ↓reduceIte, Nat.reduceEqDiff, b2_0, b2_1, b2_nn, n0_or, n1_or, n10, n01, dec1, dec2, ob_ok, oe_l, oe_r]
        have hki := hk i hin
        have hti := t7 i (by omega)
        rw [hki.2, hti.2]
        by_cases e : (A.key o)[i]'(by omega) = k[i]
        · rw [if_pos (by rw [e])]
          left
          refine ⟨_, rfl, hin, rfl, ?_⟩
          rw [List.take_succ_eq_append_getElem hin, List.take_succ_eq_append_getElem (by omega), hp', e]
        · rw [if_neg (by rw [sb_inj hti.1 hki.1]; exact e)]
          right
          refine ⟨_, rfl, Or.inr ⟨?_, rfl⟩⟩
          intro h
          apply e
          simp only [h]
      · right
        simp (disch := omega) only [gd_ok, cl_nI, nI_s, nI_add, nI_leI, nI_ltI, nI_eq, if_pos, if_neg, q0, q1, q2, q3, q4, q5, q6, q7, q8, q9, q10, MS.i_setI, MS.a_setI, MS.n_setI, MS.i_setA, MS.a_setA, MS.n_setA, MS.i_setN, MS.a_setN, MS.n_setN, ↓reduceIte, Nat.reduceEqDiff, b2_0, b2_1, b2_nn, n0_or, n1_or, n10, n01, dec1, dec2, ob_ok, oe_l, oe_r]
        refine ⟨_, rfl, Or.inl ⟨?_, rfl⟩⟩
        rw [List.take_of_length_le (by omega), List.take_of_length_le (by omega)] at hp'
        exact hp'
  · rw [if_neg hl]
    have : A.key o ≠ k := fun e => hl (by rw [e])
    simp [this, b2_f]
/-- those of the reference's order that pass, greatest first -/
theorem od_desc {od : List Nat} (hA : AI A) (hn : od.Nodup) (hm : ∀ o, o ∈ od ↔ o < A.n) (hs : od.Pairwise (fun a b => A.id a ≤ A.id b)) {q : Nat → Bool} {r : Nat} (hq : ∀ o, q o = true → A.inV r o = true) : (od.reverse.filter q).Pairwise (fun a b => A.id b < A.id a) := by
  have h1 : (od.reverse).Pairwise (fun a b => b ≠ a ∧ A.id b ≤ A.id a) := by
    rw [List.pairwise_reverse]
    exact List.Pairwise.and hn hs
  refine List.Pairwise.imp_of_mem ?_ (h1.filter q)
  intro a b ha hb hab
  rw [List.mem_filter, List.mem_reverse, hm] at ha hb
  have : A.id b ≠ A.id a := fun e => hab.1 (inV_inj hA hb.1 ha.1 (hq b hb.2) (hq a ha.2) e)
  omega
theorem drop_cons {l : List Nat} {j : Nat} (h : j < l.length) : (l.drop j).reverse = (l.drop (j + 1)).reverse ++ [l[j]] := by
  rw [List.drop_eq_getElem_cons h, List.reverse_cons]
/-- the row f begins with the numbers of l -/
def rowN (f : Nat → Int32) (l : List Nat) : Prop := ∀ i (h : i < l.length), f i = nI l[i]
theorem rowN_snoc {f : Nat → Int32} {l : List Nat} {x : Nat} (h : rowN f l) : rowN (upd f l.length (nI x)) (l ++ [x]) := by
  intro i hi
  unfold upd
  by_cases e : i = l.length
  · subst e; simp
  · have : i < l.length := by simp at hi; omega
    rw [if_neg e, h i this, List.getElem_append_left this]
theorem pS_keyCand (hR : RS S A) (hA : AI A) {r : Nat} (hr : r < 8) {x : Option Nat} (hx : A.oV r x) (hkd : A.kd x = 6) {b p : Nat} {k : List Nat} (hb : b = 1 ∨ b = 2 ∨ b = 3 ∨ b = 62) (hk : byts S b p k) (hp : p + k.length ≤ 8300) (hk0 : k ≠ []) :
    ∃ f g : Nat → Int32, m_rkeyCandidates S (nI r) (nI (A.oi x)) b (nI p) (nI k.length) = some (((S.setA 45 f).setA 46 g).setI 47 (nI (A.kc r x k).length)) ∧ rowN g (A.kc r x k) ∧ ∀ o, o < A.n → f o = b2 (A.hidB r o) := by
  have hn := hA.1.1
  have hxl := oV_lt hA hx
  obtain ⟨f, h1, h2⟩ := pS_hide hR hA hr
  obtain ⟨od, o1, o2, o3, o4, o5⟩ := hR.2.2.2.2.1
  let q : Nat → Bool := fun o => A.visB r o && decide (A.oi (A.obj o) = A.oi x) && decide (A.ins o = 0) && decide (A.key o ≠ []) && decide (A.key o = k)
  have hqe : A.kc r x k = od.reverse.filter q := by
    apply desc_ext A.id
    · unfold AS.kc
      split
      · exact List.Pairwise.nil
      · exact cd_desc hA
    · exact od_desc hA o3 o4 o5 (r := r) (q := q) (by
        intro o ho
        simp only [q, Bool.and_eq_true] at ho
        exact vis_inV ho.1.1.1.1)
    · intro o
      rw [kc_iff hA hx hkd hk0, List.mem_filter, List.mem_reverse, o4]
      simp only [q, Bool.and_eq_true, decide_eq_true_eq, and_assoc]
  have := lp_run (body := fun a : MS × Int32 × Int32 × Nat × Int32 × Int32 × Int32 => m_rkeyCandidates_B18 a.1 a.2.1 a.2.2.1 a.2.2.2.1 a.2.2.2.2.1 a.2.2.2.2.2.1 a.2.2.2.2.2.2)
    (fun i a => ∃ (j : Nat) (g : Nat → Int32), i + j = A.n ∧ a = (((S.setA 45 f).setA 46 g).setI 47 (nI ((od.drop j).reverse.filter q).length), nI r, nI (A.oi x), b, nI p, nI k.length, nI j - nI 1) ∧ rowN g ((od.drop j).reverse.filter q))
    (fun e => ∃ g : Nat → Int32, e = ((S.setA 45 f).setA 46 g).setI 47 (nI (od.reverse.filter q).length) ∧ rowN g (od.reverse.filter q)) A.n ?_ FU (((S.setA 45 f).setI 47 (nI 0)), nI r, nI (A.oi x), b, nI p, nI k.length, nI A.n - nI 1) (by unfold FU; omega) ?_
  · obtain ⟨e, h3, g, rfl, h4⟩ := this
    refine ⟨f, g, ?_, by rw [hqe]; exact h4, h2⟩
    have h3' : m_rkeyCandidates_L18 ((S.setA 45 f).setI 47 (nI 0)) (nI r) (nI (A.oi x)) b (nI p) (nI k.length) (nI A.n - nI 1) = some (((S.setA 45 f).setA 46 g).setI 47 (nI (od.reverse.filter q).length)) := h3
    unfold m_rkeyCandidates m_rkeyCandidates_J0
    rw [h1]
    simp only [ob_ok, q0, q1, MS.i_setA, hR.1.1, h3', hqe]
  · rintro i _ hi ⟨j, g, hij, rfl, hg⟩
    have hR' : RS (((S.setA 45 f).setA 46 g).setI 47 (nI ((od.drop j).reverse.filter q).length)) A := ((hR.setA rfl).setA rfl).setI rfl
    have hk' : byts (((S.setA 45 f).setA 46 g).setI 47 (nI ((od.drop j).reverse.filter q).length)) b p k := by
      intro i hi
      simp only [MS.i_setI, MS.a_setI, MS.n_setI, MS.i_setA, MS.a_setA, MS.n_setA, MS.i_setN, MS.a_setN, MS.n_setN]
      rw [if_neg (by omega), if_neg (by omega)]
      exact hk i hi
    unfold m_rkeyCandidates_B18 m_rkeyCandidates_J108
    cases j with
    | zero =>
      right
      simp only [q0, m1lt, if_true]
      exact ⟨_, rfl, g, by simp, by simpa using hg⟩
    | succ j =>
      left
      have hj : j < od.length := by omega
      have ho : od[j] < A.n := (o4 _).mp (List.getElem_mem hj)
      have hop := rop hR hA _ ho
      have htx := hR.2.2.1 _ ho
      have hid := oi_lt hA ho
      have hkl : (A.key od[j]).length ≤ 24576 := by have := htx.2.2.2.2.2.1; have := hA.1.2.2.1; omega
      have hins := (hA.2.2.1.1 _ ho).2.2.2.2.2.2
      have hll : ((od.drop (j+1)).reverse.filter q).length < A.n := by
        have := List.length_filter_le q (od.drop (j+1)).reverse
        rw [List.length_reverse, List.length_drop] at this
        omega
      have hvis := pS_visible hR' hA hr ho (by simp only [MS.i_setI, MS.a_setI, MS.n_setI, MS.i_setA, MS.a_setA, MS.n_setA, MS.i_setN, MS.a_setN, MS.n_setN]; exact h2 _ ho)
      have hsk := pS_sameKey hR' hA ho hb hk' hp
      simp (disch := omega) only [gd_ok, cl_nI, nI_s, nI_add, nI_leI, nI_ltI, nI_eq, if_pos, if_neg, q0, q1, q2, q3, q4, q5, q6, q7, q8, q9, q10, MS.i_setI, MS.a_setI, MS.n_setI, MS.i_setA, MS.a_setA, MS.n_setA, MS.i_setN, MS.a_setN, MS.n_setN, ↓reduceIte, Nat.reduceEqDiff, b2_0, b2_1, b2_nn, n0_or, n1_or, n10, n01, dec1, dec2, ob_ok, oe_l, oe_r,o2 j hj, hvis, hsk, hop.2.1, hop.2.2.2.2.2.2.1, htx.2.1]
      have hdec : (od.drop j).reverse.filter q = (od.drop (j+1)).reverse.filter q ++ (if q od[j] then [od[j]] else []) := by
        rw [drop_cons hj, List.filter_append]
        congr 1
        cases hq : q od[j] <;> simp [hq]
      have hno : q od[j] = false → ∃ (j' : Nat) (g' : Nat → Int32), i + 1 + j' = A.n ∧ (((S.setA 45 f).setA 46 g).setI 47 (nI ((od.drop (j+1)).reverse.filter q).length), nI r, nI (A.oi x), b, nI p, nI k.length, nI j - nI 1) = (((S.setA 45 f).setA 46 g').setI 47 (nI ((od.drop j').reverse.filter q).length), nI r, nI (A.oi x), b, nI p, nI k.length, nI j' - nI 1) ∧ rowN g' ((od.drop j').reverse.filter q) := by
        intro hq
        rw [hq] at hdec
        simp at hdec
        exact ⟨j, g, by omega, by simp [hdec], by simpa [hdec] using hg⟩
      by_cases hq : q od[j] = true
      · have hq' := hq
        simp only [q, Bool.and_eq_true, decide_eq_true_eq] at hq'
        obtain ⟨⟨⟨⟨c1, c2⟩, c3⟩, c4⟩, c5⟩ := hq'
        rw [if_neg (by simp [c1]), if_pos c2, if_pos c3, if_neg (by simpa using c4), if_neg (by simp [c5])]
        refine ⟨_, rfl, by omega, j, upd g ((od.drop (j+1)).reverse.filter q).length (nI od[j]), by omega, ?_, ?_⟩
        · rw [hdec, if_pos hq]
          simp only [MS.setI_setA, MS.setI_setI, MS.setA_setA, List.length_append, List.length_singleton]
        · rw [hdec, if_pos hq]
          exact rowN_snoc hg
      · have hq0 : q od[j] = false := by simpa using hq
        split
        · exact ⟨_, rfl, by omega, hno hq0⟩
        · rename_i c1
          split
          · rename_i c2
            split
            · rename_i c3
              split
              · exact ⟨_, rfl, by omega, hno hq0⟩
              · rename_i c4
                split
                · exact ⟨_, rfl, by omega, hno hq0⟩
                · rename_i c5
                  exfalso
                  apply hq
                  simp only [q, Bool.and_eq_true, decide_eq_true_eq]
                  exact ⟨⟨⟨⟨by simpa using c1, c2⟩, c3⟩, by simpa using c4⟩, by simpa using c5⟩
            · exact ⟨_, rfl, by omega, hno hq0⟩
          · exact ⟨_, rfl, by omega, hno hq0⟩
  · exact ⟨A.n, S.a 46, by omega, by rw [List.drop_of_length_le (by omega), show (S.setA 45 f).setA 46 (S.a 46) = S.setA 45 f from MS.setA_self (S.setA 45 f) 46]; rfl, by rw [List.drop_of_length_le (by omega)]; intro i h; simp at h⟩
theorem pS_elCand (hR : RS S A) (hA : AI A) {r : Nat} (hr : r < 8) {s : Nat} (hs : s < A.n) (hsv : A.inV r s = true) (hss : A.sp s = s) (hkd : A.kd (A.obj s) ≠ 6) (hh : ∀ o, o < A.n → S.a 45 o = b2 (A.hidB r o)) :
    ∃ g : Nat → Int32, m_relementCandidates S (nI r) (nI (A.oi (A.obj s))) (nI (A.id s)) = some ((S.setA 46 g).setI 47 (nI (A.cd r s).length)) ∧ rowN g (A.cd r s) := by
  have hn := hA.1.1
  have hxl := oi_lt hA hs
  have hil := id_lt hA hs
  obtain ⟨od, o1, o2, o3, o4, o5⟩ := hR.2.2.2.2.1
  let q : Nat → Bool := fun o => A.visB r o && decide (A.oi (A.obj o) = A.oi (A.obj s)) && decide (A.key o = []) && decide ((if A.ins o = 1 then A.id o else A.plc o) = A.id s)
  have hqe : A.cd r s = od.reverse.filter q := by
    apply desc_ext A.id
    · exact cd_desc hA
    · exact od_desc hA o3 o4 o5 (r := r) (q := q) (by
        intro o ho
        simp only [q, Bool.and_eq_true] at ho
        exact vis_inV ho.1.1.1)
    · intro o
      rw [ec_iff hA hs hsv hss hkd, List.mem_filter, List.mem_reverse, o4]
      simp only [q, Bool.and_eq_true, decide_eq_true_eq, and_assoc]
  have := lp_run (body := fun a : MS × Int32 × Int32 × Int32 × Int32 => m_relementCandidates_B13 a.1 a.2.1 a.2.2.1 a.2.2.2.1 a.2.2.2.2)
    (fun i a => ∃ (j : Nat) (g : Nat → Int32), i + j = A.n ∧ a = ((S.setA 46 g).setI 47 (nI ((od.drop j).reverse.filter q).length), nI r, nI (A.oi (A.obj s)), nI (A.id s), nI j - nI 1) ∧ rowN g ((od.drop j).reverse.filter q))
    (fun e => ∃ g : Nat → Int32, e = (S.setA 46 g).setI 47 (nI (od.reverse.filter q).length) ∧ rowN g (od.reverse.filter q)) A.n ?_ FU ((S.setI 47 (nI 0)), nI r, nI (A.oi (A.obj s)), nI (A.id s), nI A.n - nI 1) (by unfold FU; omega) ?_
  · obtain ⟨e, h3, g, rfl, h4⟩ := this
    refine ⟨g, ?_, by rw [hqe]; exact h4⟩
    have h3' : m_relementCandidates_L13 (S.setI 47 (nI 0)) (nI r) (nI (A.oi (A.obj s))) (nI (A.id s)) (nI A.n - nI 1) = some ((S.setA 46 g).setI 47 (nI (od.reverse.filter q).length)) := h3
    unfold m_relementCandidates m_relementCandidates_J0
    simp only [ob_ok, q0, q1, MS.i_setA, hR.1.1, h3', hqe]
  · rintro i _ hi ⟨j, g, hij, rfl, hg⟩
    have hR' : RS ((S.setA 46 g).setI 47 (nI ((od.drop j).reverse.filter q).length)) A := (hR.setA rfl).setI rfl
    unfold m_relementCandidates_B13 m_relementCandidates_J85 m_relementCandidates_J110
    cases j with
    | zero =>
      right
      simp only [q0, m1lt, if_true]
      exact ⟨_, rfl, g, by simp, by simpa using hg⟩
    | succ j =>
      left
      have hj : j < od.length := by omega
      have ho : od[j] < A.n := (o4 _).mp (List.getElem_mem hj)
      have hop := rop hR hA _ ho
      have htx := hR.2.2.1 _ ho
      have hid := oi_lt hA ho
      have hid2 := id_lt hA ho
      have hpl := plc_lt hA ho
      have hkl : (A.key od[j]).length ≤ 24576 := by have := htx.2.2.2.2.2.1; have := hA.1.2.2.1; omega
      have hins := (hA.2.2.1.1 _ ho).2.2.2.2.2.2
      have hll : ((od.drop (j+1)).reverse.filter q).length < A.n := by
        have := List.length_filter_le q (od.drop (j+1)).reverse
        rw [List.length_reverse, List.length_drop] at this
        omega
      have hvis := pS_visible hR' hA hr ho (by simp only [MS.i_setI, MS.a_setI, MS.n_setI, MS.i_setA, MS.a_setA, MS.n_setA, MS.i_setN, MS.a_setN, MS.n_setN]; exact hh _ ho)
      simp (disch := omega) only [gd_ok, cl_nI, nI_s, nI_add, nI_leI, nI_ltI, nI_eq, if_pos, if_neg, q0, q1, q2, q3, q4, q5, q6, q7, q8, q9, q10, MS.i_setI, MS.a_setI, MS.n_setI, MS.i_setA, MS.a_setA, MS.n_setA, MS.i_setN, MS.a_setN, MS.n_setN, ↓reduceIte, Nat.reduceEqDiff, b2_0, b2_1, b2_nn, n0_or, n1_or, n10, n01, dec1, dec2, ob_ok, oe_l, oe_r,o2 j hj, hvis, hop.1, hop.2.1, hop.2.2.1, hop.2.2.2.2.2.2.1, htx.2.1]
      have hdec : (od.drop j).reverse.filter q = (od.drop (j+1)).reverse.filter q ++ (if q od[j] then [od[j]] else []) := by
        rw [drop_cons hj, List.filter_append]
        congr 1
        cases hq : q od[j] <;> simp [hq]
      have hno : q od[j] = false → ∃ (j' : Nat) (g' : Nat → Int32), i + 1 + j' = A.n ∧ ((S.setA 46 g).setI 47 (nI ((od.drop (j+1)).reverse.filter q).length), nI r, nI (A.oi (A.obj s)), nI (A.id s), nI j - nI 1) = ((S.setA 46 g').setI 47 (nI ((od.drop j').reverse.filter q).length), nI r, nI (A.oi (A.obj s)), nI (A.id s), nI j' - nI 1) ∧ rowN g' ((od.drop j').reverse.filter q) := by
        intro hq
        rw [hq] at hdec
        simp at hdec
        exact ⟨j, g, by omega, by simp [hdec], by simpa [hdec] using hg⟩
      have hyes : q od[j] = true → ∃ (j' : Nat) (g' : Nat → Int32), i + 1 + j' = A.n ∧ ((((S.setA 46 g).setI 47 (nI ((od.drop (j+1)).reverse.filter q).length)).setA 46 (upd g ((od.drop (j+1)).reverse.filter q).length (nI od[j]))).setI 47 (nI (((od.drop (j+1)).reverse.filter q).length + 1)), nI r, nI (A.oi (A.obj s)), nI (A.id s), nI j - nI 1) = ((S.setA 46 g').setI 47 (nI ((od.drop j').reverse.filter q).length), nI r, nI (A.oi (A.obj s)), nI (A.id s), nI j' - nI 1) ∧ rowN g' ((od.drop j').reverse.filter q) := by
        intro hq
        refine ⟨j, upd g ((od.drop (j+1)).reverse.filter q).length (nI od[j]), by omega, ?_, ?_⟩
        · rw [hdec, if_pos hq]
          simp only [MS.setI_setA, MS.setI_setI, MS.setA_setA, List.length_append, List.length_singleton]
        · rw [hdec, if_pos hq]
          exact rowN_snoc hg
      have hqq : q od[j] = true ↔ A.visB r od[j] = true ∧ A.oi (A.obj od[j]) = A.oi (A.obj s) ∧ A.key od[j] = [] ∧ (if A.ins od[j] = 1 then A.id od[j] else A.plc od[j]) = A.id s := by
        simp only [q, Bool.and_eq_true, decide_eq_true_eq, and_assoc]
      have hno' : ¬ q od[j] = true → _ := fun h => hno (by simpa using h)
      rw [hqq] at hyes hno'
      split
      · exact ⟨_, rfl, by omega, hno' (by simp_all)⟩
      · split
        · split
          · split
            · split
              · exact ⟨_, rfl, by omega, hyes (by simp_all)⟩
              · exact ⟨_, rfl, by omega, hno' (by simp_all)⟩
            · have : A.ins od[j] = 1 := by omega
              split
              · exact ⟨_, rfl, by omega, hyes (by simp_all)⟩
              · exact ⟨_, rfl, by omega, hno' (by simp_all)⟩
          · exact ⟨_, rfl, by omega, hno' (by rename_i h; intro hh; exact h (by rw [hh.2.2.1]; rfl))⟩
        · exact ⟨_, rfl, by omega, hno' (by simp_all)⟩
  · exact ⟨A.n, S.a 46, by omega, by rw [List.drop_of_length_le (by omega), MS.setA_self]; rfl, by rw [List.drop_of_length_le (by omega)]; intro i h; simp at h⟩
end SD
