/-! THE REFERENCE: marks, places, how many, counters. -/
section SF
variable {S : MS} {A : AS}
/-- a spot that shows something -/
def AS.flB (A : AS) (r s : Nat) : Bool := !(A.cd r s).isEmpty
/-- the spots of an object that show something -/
def AS.fl (A : AS) (r : Nat) (x : Option Nat) : List Nat := (A.L x).filter (A.flB r)
theorem flB_iff {r s : Nat} : A.flB r s = true ↔ A.cd r s ≠ [] := by unfold AS.flB; simp
theorem fl_el (hA : AI A) {r : Nat} {x : Option Nat} (hkd : A.kd x ≠ 6) : A.fl r x = (A.el r x).filter (A.flB r) := by
  unfold AS.fl AS.el
  rw [List.filter_filter]
  apply List.filter_congr
  intro s hs
  cases h : A.flB r s with
  | false => rfl
  | true =>
    have h1 := L_ins hA hkd hs
    rw [flB_iff] at h
    rw [(cd_inV hA (by rw [h1.2.1]; exact hkd) h).2]
    rfl
theorem el_mem (hA : AI A) {r : Nat} {x : Option Nat} (hkd : A.kd x ≠ 6) {s : Nat} (h : s ∈ A.el r x) : s < A.n ∧ A.obj s = x ∧ A.sp s = s ∧ A.ins s = 1 ∧ A.inV r s = true := by
  unfold AS.el at h
  rw [List.mem_filter] at h
  obtain ⟨a, b, c, d⟩ := L_ins hA hkd h.1
  exact ⟨a, b, c, d, h.2⟩
theorem el_len (hA : AI A) {r : Nat} {x : Option Nat} : (A.el r x).length ≤ A.n := by
  have hL := hA.2.2.1.2.2.2.2.2.2.2.2.1 x
  refine Nat.le_trans (List.length_filter_le _ _) ?_
  exact nodup_len A.n _ hL.1 (fun s hs => ((hL.2.1 s).mp hs).1)
/-- marked by the first i ops -/
def mkT (A : AS) (r : Nat) (x : Option Nat) (i s : Nat) : Bool := (List.range i).any (fun o => A.visB r o && decide (A.oi (A.obj o) = A.oi x) && decide (A.key o = []) && decide ((if A.ins o = 1 then A.id o else A.plc o) = A.id s))
theorem mkT_s {r i s : Nat} {x : Option Nat} : mkT A r x (i + 1) s = (mkT A r x i s || (A.visB r i && decide (A.oi (A.obj i) = A.oi x) && decide (A.key i = []) && decide ((if A.ins i = 1 then A.id i else A.plc i) = A.id s))) := by
  unfold mkT
  rw [List.range_succ, List.any_append]
  simp
theorem mkT_n (hA : AI A) {r s : Nat} {x : Option Nat} (hkd : A.kd x ≠ 6) (hs : s ∈ A.el r x) : mkT A r x A.n s = A.flB r s := by
  obtain ⟨h1, h2, h3, h4, h5⟩ := el_mem hA hkd hs
  rw [Bool.eq_iff_iff, flB_iff]
  unfold mkT
  simp only [List.any_eq_true, List.mem_range, Bool.and_eq_true, decide_eq_true_eq]
  subst h2
  constructor
  · rintro ⟨o, g1, ⟨⟨g2, g3⟩, g4⟩, g5⟩
    have := (ec_iff hA h1 h5 h3 hkd (o := o)).mpr ⟨g1, g2, g3, g4, g5⟩
    exact List.ne_nil_of_mem this
  · intro h
    obtain ⟨o, ho⟩ := List.exists_mem_of_ne_nil _ h
    obtain ⟨g1, g2, g3, g4, g5⟩ := (ec_iff hA h1 h5 h3 hkd).mp ho
    exact ⟨o, g1, ⟨⟨g2, g3⟩, g4⟩, g5⟩
theorem pS_mark1 (hA : AI A) {r : Nat} {x : Option Nat} (hl : S.i 50 = nI (A.el r x).length) {y z : Int32} : ∃ t : Nat → Int32, m_rmark_L2 S y z (nI 0) = some (S.setA 51 t, y, z) ∧ ∀ e, e < (A.el r x).length → t e = nI 0 := by
  have hn := hA.1.1
  have hel := el_len hA (r := r) (x := x)
  have := lp_run (body := fun a : MS × Int32 × Int32 × Int32 => m_rmark_B2 a.1 a.2.1 a.2.2.1 a.2.2.2) (fun i a => ∃ f : Nat → Int32, a = (S.setA 51 f, y, z, nI i) ∧ ∀ o, o < i → f o = nI 0) (fun e => ∃ f : Nat → Int32, e = (S.setA 51 f, y, z) ∧ ∀ o, o < (A.el r x).length → f o = nI 0) (A.el r x).length ?_ FU (S, y, z, nI 0) (by unfold FU; omega) ⟨S.a 51, by rw [MS.setA_self], by intro o h; omega⟩
  · obtain ⟨e, h1, f, rfl, h3⟩ := this
    exact ⟨f, h1, h3⟩
  · rintro i _ hi ⟨f, rfl, hf⟩
    unfold m_rmark_B2
    by_cases hin : i < (A.el r x).length
    · left
      simp (disch := omega) only [gd_ok, cl_nI, nI_s, nI_add, nI_leI, nI_ltI, nI_eq, if_pos, if_neg, q0, q1, q2, q3, q4, q5, q6, q7, q8, q9, q10, MS.i_setI, MS.a_setI, MS.n_setI, MS.i_setA, MS.a_setA, MS.n_setA, MS.i_setN, MS.a_setN, MS.n_setN, ↓reduceIte, Nat.reduceEqDiff, b2_0, b2_1, b2_nn, n0_or, n1_or, n10, n01, dec1, dec2, ob_ok, oe_l, oe_r,hl, nar_b0]
      refine ⟨_, rfl, hin, upd f i (nI 0), ?_, ?_⟩
      · simp only [MS.setA_setA]
      · intro o ho
        unfold upd
        split
        · rfl
        · exact hf o (by omega)
    · right
      simp (disch := omega) only [gd_ok, cl_nI, nI_s, nI_add, nI_leI, nI_ltI, nI_eq, if_pos, if_neg, q0, q1, q2, q3, q4, q5, q6, q7, q8, q9, q10, MS.i_setI, MS.a_setI, MS.n_setI, MS.i_setA, MS.a_setA, MS.n_setA, MS.i_setN, MS.a_setN, MS.n_setN, ↓reduceIte, Nat.reduceEqDiff, b2_0, b2_1, b2_nn, n0_or, n1_or, n10, n01, dec1, dec2, ob_ok, oe_l, oe_r,hl]
      exact ⟨_, rfl, f, rfl, fun o ho => hf o (by omega)⟩
theorem pS_mark2 (hR : RS S A) (hA : AI A) {r k : Nat} {x : Option Nat} (hkd : A.kd x ≠ 6) (hl : S.i 50 = nI (A.el r x).length) (hg : rowN (S.a 48) (A.el r x)) {y z u : Int32} (hk : k < 40000) {t : Nat → Int32} :
    ∃ t' : Nat → Int32, m_rmark_L93 (S.setA 51 t) y z u (nI k) (nI 0) = some (S.setA 51 t', y, z, u) ∧ ∀ e (h : e < (A.el r x).length), t' e = if A.id (A.el r x)[e] = k then nI 1 else t e := by
  have hn := hA.1.1
  have hel := el_len hA (r := r) (x := x)
  have := lp_run (body := fun a : MS × Int32 × Int32 × Int32 × Int32 × Int32 => m_rmark_B93 a.1 a.2.1 a.2.2.1 a.2.2.2.1 a.2.2.2.2.1 a.2.2.2.2.2) (fun i a => ∃ f : Nat → Int32, a = (S.setA 51 f, y, z, u, nI k, nI i) ∧ ∀ e (h : e < (A.el r x).length), f e = if A.id (A.el r x)[e] = k ∧ e < i then nI 1 else t e)
    (fun e => ∃ f : Nat → Int32, e = (S.setA 51 f, y, z, u) ∧ ∀ e (h : e < (A.el r x).length), f e = if A.id (A.el r x)[e] = k then nI 1 else t e) (A.el r x).length ?_ FU (S.setA 51 t, y, z, u, nI k, nI 0) (by unfold FU; omega) ⟨t, rfl, by intro e h; rw [if_neg (by omega)]⟩
  · obtain ⟨e, h1, f, rfl, h3⟩ := this
    exact ⟨f, h1, h3⟩
  · rintro i _ hi ⟨f, rfl, hf⟩
    unfold m_rmark_B93 m_rmark_J127
    by_cases hin : i < (A.el r x).length
    · left
      have hm := el_mem hA hkd (List.getElem_mem hin)
      have hid := id_lt hA hm.1
      simp (disch := omega) only [gd_ok, cl_nI, nI_s, nI_add, nI_leI, nI_ltI, nI_eq, if_pos, if_neg, q0, q1, q2, q3, q4, q5, q6, q7, q8, q9, q10, MS.i_setI, MS.a_setI, MS.n_setI, MS.i_setA, MS.a_setA, MS.n_setA, MS.i_setN, MS.a_setN, MS.n_setN, ↓reduceIte, Nat.reduceEqDiff, b2_0, b2_1, b2_nn, n0_or, n1_or, n10, n01, dec1, dec2, ob_ok, oe_l, oe_r,hl, hg i hin, (rop hR hA _ hm.1).1, nar_b1]
      by_cases e : A.id (A.el r x)[i] = k
      · rw [if_pos e]
        refine ⟨_, rfl, hin, upd f i (nI 1), ?_, ?_⟩
        · simp only [MS.setA_setA]
        · intro j hj
          unfold upd
          by_cases e2 : j = i
          · subst e2; simp [e]
          · rw [if_neg e2, hf j hj]
            have : (A.id (A.el r x)[j] = k ∧ j < i) ↔ (A.id (A.el r x)[j] = k ∧ j < i + 1) := by omega
            simp only [this]
      · rw [if_neg e]
        refine ⟨_, rfl, hin, f, rfl, ?_⟩
        intro j hj
        rw [hf j hj]
        have : (A.id (A.el r x)[j] = k ∧ j < i) ↔ (A.id (A.el r x)[j] = k ∧ j < i + 1) := by
          by_cases e2 : j = i
          · subst e2; simp [e]
          · omega
        simp only [this]
    · right
      simp (disch := omega) only [gd_ok, cl_nI, nI_s, nI_add, nI_leI, nI_ltI, nI_eq, if_pos, if_neg, q0, q1, q2, q3, q4, q5, q6, q7, q8, q9, q10, MS.i_setI, MS.a_setI, MS.n_setI, MS.i_setA, MS.a_setA, MS.n_setA, MS.i_setN, MS.a_setN, MS.n_setN, ↓reduceIte, Nat.reduceEqDiff, b2_0, b2_1, b2_nn, n0_or, n1_or, n10, n01, dec1, dec2, ob_ok, oe_l, oe_r,hl]
      refine ⟨_, rfl, f, rfl, ?_⟩
      intro j hj
      rw [hf j hj]
      have : (A.id (A.el r x)[j] = k ∧ j < i) ↔ (A.id (A.el r x)[j] = k) := by omega
      simp only [this]
theorem pS_mark (hR : RS S A) (hA : AI A) {r : Nat} (hr : r < 8) {x : Option Nat} (hx : A.oV r x) (hkd : A.kd x ≠ 6) (hl : S.i 50 = nI (A.el r x).length) (hg : rowN (S.a 48) (A.el r x)) (hh : ∀ o, o < A.n → S.a 45 o = b2 (A.hidB r o)) :
    ∃ t : Nat → Int32, m_rmark S (nI r) (nI (A.oi x)) = some (S.setA 51 t) ∧ ∀ e (h : e < (A.el r x).length), t e = b2 (A.flB r (A.el r x)[e]) := by
  have hn := hA.1.1
  have hxl := oV_lt hA hx
  obtain ⟨t0, h1, h2⟩ := pS_mark1 hA hl (y := nI r) (z := nI (A.oi x))
  have := lp_run (body := fun a : MS × Int32 × Int32 × Int32 => m_rmark_B25 a.1 a.2.1 a.2.2.1 a.2.2.2) (fun i a => ∃ t : Nat → Int32, a = (S.setA 51 t, nI r, nI (A.oi x), nI i) ∧ ∀ e (h : e < (A.el r x).length), t e = b2 (mkT A r x i (A.el r x)[e]))
    (fun e => ∃ t : Nat → Int32, e = S.setA 51 t ∧ ∀ e (h : e < (A.el r x).length), t e = b2 (A.flB r (A.el r x)[e])) A.n ?_ FU (S.setA 51 t0, nI r, nI (A.oi x), nI 0) (by unfold FU; omega) ⟨t0, rfl, fun e he => by rw [h2 e he]; rfl⟩
  · obtain ⟨e, h3, t, rfl, h4⟩ := this
    refine ⟨t, ?_, h4⟩
    have h3' : m_rmark_L25 (S.setA 51 t0) (nI r) (nI (A.oi x)) (nI 0) = some (S.setA 51 t) := h3
    unfold m_rmark m_rmark_J0
    simp only [q0, h1, ob_ok, h3']
  · rintro i _ hi ⟨t, rfl, ht⟩
    have hR' : RS (S.setA 51 t) A := hR.setA rfl
    unfold m_rmark_B25 m_rmark_J88 m_rmark_J133
    by_cases hin : i < A.n
    · left
      have hop := rop hR hA _ hin
      have htx := hR.2.2.1 _ hin
      have hid := oi_lt hA hin
      have hid2 := id_lt hA hin
      have hpl := plc_lt hA hin
      have hkl : (A.key i).length ≤ 24576 := by have := htx.2.2.2.2.2.1; have := hA.1.2.2.1; omega
      have hins := (hA.2.2.1.1 _ hin).2.2.2.2.2.2
      have hvis := pS_visible hR' hA hr hin (by simp only [MS.i_setI, MS.a_setI, MS.n_setI, MS.i_setA, MS.a_setA, MS.n_setA, MS.i_setN, MS.a_setN, MS.n_setN]; exact hh _ hin)
      obtain ⟨t1, g1, g2⟩ := pS_mark2 hR hA hkd hl hg hpl (y := nI r) (z := nI (A.oi x)) (u := nI i) (t := t)
      obtain ⟨t2, g3, g4⟩ := pS_mark2 hR hA hkd hl hg hid2 (y := nI r) (z := nI (A.oi x)) (u := nI i) (t := t)
      simp (disch := omega) only [gd_ok, cl_nI, nI_s, nI_add, nI_leI, nI_ltI, nI_eq, if_pos, if_neg, q0, q1, q2, q3, q4, q5, q6, q7, q8, q9, q10, MS.i_setI, MS.a_setI, MS.n_setI, MS.i_setA, MS.a_setA, MS.n_setA, MS.i_setN, MS.a_setN, MS.n_setN, ↓reduceIte, Nat.reduceEqDiff, b2_0, b2_1, b2_nn, n0_or, n1_or, n10, n01, dec1, dec2, ob_ok, oe_l, oe_r,hR.1.1, hvis, hop.1, hop.2.1, hop.2.2.1, hop.2.2.2.2.2.2.1, htx.2.1, g1, g3]
      have hsame : (A.visB r i && decide (A.oi (A.obj i) = A.oi x) && decide (A.key i = [])) = false → ∃ t' : Nat → Int32, (S.setA 51 t, nI r, nI (A.oi x), nI (i + 1)) = (S.setA 51 t', nI r, nI (A.oi x), nI (i + 1)) ∧ ∀ e (h : e < (A.el r x).length), t' e = b2 (mkT A r x (i + 1) (A.el r x)[e]) := by
        intro hq
        refine ⟨t, rfl, ?_⟩
        intro e he
        rw [mkT_s, hq, ht e he]
        simp
      by_cases c1 : A.visB r i = false
      · rw [if_pos c1]
        exact ⟨_, rfl, hin, hsame (by simp [c1])⟩
      · rw [if_neg c1]
        by_cases c2 : A.oi (A.obj i) = A.oi x
        · rw [if_pos c2]
          by_cases c3 : (A.key i).length ≤ 0
          · rw [if_pos c3]
            have c3' : A.key i = [] := List.length_eq_zero_iff.mp (by omega)
            by_cases c4 : A.ins i = 0
            · rw [if_pos c4]
              refine ⟨_, rfl, hin, t1, rfl, ?_⟩
              intro e he
              rw [g2 e he, mkT_s, ht e he, if_neg (by omega : ¬ A.ins i = 1)]
              simp only [Bool.not_eq_false] at c1
              rw [c1]
              by_cases c5 : A.id (A.el r x)[e] = A.plc i
              · simp [c2, c3', c5, b2_t]
              · simp [c2, c3', c5, Ne.symm c5]
            · rw [if_neg c4]
              refine ⟨_, rfl, hin, t2, rfl, ?_⟩
              intro e he
              rw [g4 e he, mkT_s, ht e he, if_pos (by omega : A.ins i = 1)]
              simp only [Bool.not_eq_false] at c1
              rw [c1]
              by_cases c5 : A.id (A.el r x)[e] = A.id i
              · simp [c2, c3', c5, b2_t]
              · simp [c2, c3', c5, Ne.symm c5]
          · rw [if_neg c3]
            exact ⟨_, rfl, hin, hsame (by
              have : A.key i ≠ [] := by intro e; rw [e] at c3; simp at c3
              simp [this])⟩
        · rw [if_neg c2]
          exact ⟨_, rfl, hin, hsame (by simp [c2])⟩
    · right
      simp (disch := omega) only [gd_ok, cl_nI, nI_s, nI_add, nI_leI, nI_ltI, nI_eq, if_pos, if_neg, q0, q1, q2, q3, q4, q5, q6, q7, q8, q9, q10, MS.i_setI, MS.a_setI, MS.n_setI, MS.i_setA, MS.a_setA, MS.n_setA, MS.i_setN, MS.a_setN, MS.n_setN, ↓reduceIte, Nat.reduceEqDiff, b2_0, b2_1, b2_nn, n0_or, n1_or, n10, n01, dec1, dec2, ob_ok, oe_l, oe_r,hR.1.1]
      refine ⟨_, rfl, t, rfl, ?_⟩
      intro e he
      have : i = A.n := by omega
      rw [ht e he, this, mkT_n hA hkd (List.getElem_mem he)]
/-- the reference's state behind list and mark -/
def LMS (A : AS) (r : Nat) (x : Option Nat) (S S' : MS) : Prop := ∃ f c g t : Nat → Int32, S' = ((((S.setA 45 f).setA 49 c).setA 48 g).setI 50 (nI (A.el r x).length)).setA 51 t ∧ rowN g (A.el r x) ∧ (∀ o, o < A.n → f o = b2 (A.hidB r o)) ∧ ∀ e (h : e < (A.el r x).length), t e = b2 (A.flB r (A.el r x)[e])
theorem pS_lm (hR : RS S A) (hA : AI A) {r : Nat} (hr : r < 8) {x : Option Nat} (hx : A.oV r x) (hkd : A.kd x ≠ 6) :
    ∃ S1 S', m_rlist S (nI r) (nI (A.oi x)) = some S1 ∧ m_rmark S1 (nI r) (nI (A.oi x)) = some S' ∧ LMS A r x S S' := by
  obtain ⟨f, c, g, h1, h2, h3⟩ := pS_list hR hA hr hx hkd
  obtain ⟨t, h4, h5⟩ := pS_mark (S := (((S.setA 45 f).setA 49 c).setA 48 g).setI 50 (nI (A.el r x).length)) ((((hR.setA rfl).setA rfl).setA rfl).setI rfl) hA hr hx hkd (by simp only [MS.i_setI, MS.a_setI, MS.n_setI, MS.i_setA, MS.a_setA, MS.n_setA, MS.i_setN, MS.a_setN, MS.n_setN]; rfl) h2 h3
  exact ⟨_, _, h1, h4, f, c, g, t, rfl, h2, h3, h5⟩
theorem LMS.RS {r : Nat} {x : Option Nat} {S' : MS} (h : LMS A r x S S') (hR : RS S A) : RS S' A := by
  obtain ⟨f, c, g, t, rfl, _⟩ := h
  exact ((((hR.setA rfl).setA rfl).setA rfl).setI rfl).setA rfl
theorem LMS.get {r : Nat} {x : Option Nat} {S' : MS} (h : LMS A r x S S') : S'.i 50 = nI (A.el r x).length ∧ rowN (S'.a 48) (A.el r x) ∧ (∀ o, o < A.n → S'.a 45 o = b2 (A.hidB r o)) ∧ ∀ e (h : e < (A.el r x).length), S'.a 51 e = b2 (A.flB r (A.el r x)[e]) := by
  obtain ⟨f, c, g, t, rfl, h2, h3, h4⟩ := h
  exact ⟨rfl, h2, h3, h4⟩
theorem filter_take {l : List Nat} {q : Nat → Bool} {e : Nat} (he : e < l.length) (hq : q l[e] = true) : (l.filter q)[((l.take e).filter q).length]? = some l[e] := by
  have : l = l.take e ++ l[e] :: l.drop (e + 1) := by
    rw [← List.drop_eq_getElem_cons he, List.take_append_drop]
  have h2 : l.filter q = (l.take e).filter q ++ l[e] :: (l.drop (e + 1)).filter q := by
    conv => lhs; rw [this]
    rw [List.filter_append, List.filter_cons_of_pos hq]
  rw [h2]
  simp
/-- where the i-th that shows stands among the elements -/
theorem pS_at (hR : RS S A) (hA : AI A) {r : Nat} (hr : r < 8) {x : Option Nat} (hx : A.oV r x) (hkd : A.kd x ≠ 6) (i : Int32) :
    ∃ S', LMS A r x S S' ∧ ((∃ k s e, i = nI k ∧ k < 2 ^ 31 ∧ (A.fl r x)[k]? = some s ∧ e < A.n ∧ (A.el r x)[e]? = some s ∧ m_rat S (nI r) (nI (A.oi x)) i = some (S', nI e)) ∨
      ((∀ k, k < (A.fl r x).length → i ≠ nI k) ∧ m_rat S (nI r) (nI (A.oi x)) i = some (S', -nI 1))) := by
  have hn := hA.1.1
  have hel := el_len hA (r := r) (x := x)
  obtain ⟨S1, S', h1, h2, h3⟩ := pS_lm hR hA hr hx hkd
  obtain ⟨g1, g2, g3, g4⟩ := h3.get
  refine ⟨S', h3, ?_⟩
  rw [fl_el hA hkd]
  have := lp_run (body := fun a : MS × Int32 × Int32 × Int32 => m_rat_B18 a.1 a.2.1 a.2.2.1 a.2.2.2) (fun e a => a = (S', i, nI (((A.el r x).take e).filter (A.flB r)).length, nI e) ∧ ∀ k, k < (((A.el r x).take e).filter (A.flB r)).length → i ≠ nI k)
    (fun o => (∃ k s e, i = nI k ∧ k < 2 ^ 31 ∧ ((A.el r x).filter (A.flB r))[k]? = some s ∧ e < A.n ∧ (A.el r x)[e]? = some s ∧ o = .inr (S', nI e)) ∨ ((∀ k, k < ((A.el r x).filter (A.flB r)).length → i ≠ nI k) ∧ o = .inl S')) (A.el r x).length ?_ FU (S', i, nI 0, nI 0) (by unfold FU; omega) ⟨rfl, by intro k hk; simp at hk⟩
  · obtain ⟨o, h4, h5⟩ := this
    have h4' : m_rat_L18 S' i (nI 0) (nI 0) = some o := h4
    unfold m_rat m_rat_J0
    simp only [q0, q1, h1, h2, ob_ok, h4']
    rcases h5 with ⟨k, s, e, a1, a2, a3, a4, a5, rfl⟩ | ⟨a1, rfl⟩
    · exact Or.inl ⟨k, s, e, a1, a2, a3, a4, a5, rfl⟩
    · exact Or.inr ⟨a1, rfl⟩
  · rintro e _ he ⟨rfl, hk⟩
    unfold m_rat_B18 m_rat_J52
    by_cases hin : e < (A.el r x).length
    · have hll : (((A.el r x).take e).filter (A.flB r)).length ≤ e := by
        refine Nat.le_trans (List.length_filter_le _ _) ?_
        rw [List.length_take]
        omega
      have hts : ((A.el r x).take (e + 1)).filter (A.flB r) = ((A.el r x).take e).filter (A.flB r) ++ (if A.flB r (A.el r x)[e] then [(A.el r x)[e]] else []) := by
        rw [List.take_succ_eq_append_getElem hin, List.filter_append]
        congr 1
        cases hq : A.flB r (A.el r x)[e] <;> simp [hq]
      simp (disch := omega) only [gd_ok, cl_nI, nI_s, nI_add, nI_leI, nI_ltI, nI_eq, if_pos, if_neg, q0, q1, q2, q3, q4, q5, q6, q7, q8, q9, q10, MS.i_setI, MS.a_setI, MS.n_setI, MS.i_setA, MS.a_setA, MS.n_setA, MS.i_setN, MS.a_setN, MS.n_setN, ↓reduceIte, Nat.reduceEqDiff, b2_0, b2_1, b2_nn, n0_or, n1_or, n10, n01, dec1, dec2, ob_ok, oe_l, oe_r,g1, g4 e hin]
      by_cases c1 : A.flB r (A.el r x)[e] = false
      · rw [if_pos c1]
        left
        refine ⟨_, rfl, hin, ?_, ?_⟩
        · rw [hts, c1]; simp
        · rw [hts, c1]; simpa using hk
      · rw [if_neg c1]
        have c1' : A.flB r (A.el r x)[e] = true := by simpa using c1
        by_cases c2 : nI (((A.el r x).take e).filter (A.flB r)).length = i
        · rw [if_pos c2]
          right
          refine ⟨_, rfl, Or.inl ⟨_, (A.el r x)[e], e, c2.symm, by omega, filter_take hin c1', by omega, by simp [hin], rfl⟩⟩
        · rw [if_neg c2]
          left
          refine ⟨_, rfl, hin, ?_, ?_⟩
          · rw [hts, if_pos c1']; simp
          · rw [hts, if_pos c1']
            intro k hk2
            simp at hk2
            rcases Nat.lt_or_ge k (((A.el r x).take e).filter (A.flB r)).length with h7 | h7
            · exact hk k h7
            · have : k = (((A.el r x).take e).filter (A.flB r)).length := by omega
              rw [this]
              exact fun h => c2 h.symm
    · right
      simp (disch := omega) only [gd_ok, cl_nI, nI_s, nI_add, nI_leI, nI_ltI, nI_eq, if_pos, if_neg, q0, q1, q2, q3, q4, q5, q6, q7, q8, q9, q10, MS.i_setI, MS.a_setI, MS.n_setI, MS.i_setA, MS.a_setA, MS.n_setA, MS.i_setN, MS.a_setN, MS.n_setN, ↓reduceIte, Nat.reduceEqDiff, b2_0, b2_1, b2_nn, n0_or, n1_or, n10, n01, dec1, dec2, ob_ok, oe_l, oe_r,g1]
      refine ⟨_, rfl, Or.inr ⟨?_, rfl⟩⟩
      rw [List.take_of_length_le (by omega)] at hk
      exact hk
theorem pS_indices (hR : RS S A) (hA : AI A) {r : Nat} (hr : r < 8) {x : Option Nat} (hx : A.oV r x) (hkd : A.kd x ≠ 6) :
    ∃ S', LMS A r x S S' ∧ m_rindices S (nI r) (nI (A.oi x)) = some (S', nI (A.fl r x).length) := by
  have hn := hA.1.1
  have hel := el_len hA (r := r) (x := x)
  obtain ⟨S1, S', h1, h2, h3⟩ := pS_lm hR hA hr hx hkd
  obtain ⟨g1, g2, g3, g4⟩ := h3.get
  refine ⟨S', h3, ?_⟩
  rw [fl_el hA hkd]
  have := lp_run (body := fun a : MS × Int32 × Int32 => m_rindices_B17 a.1 a.2.1 a.2.2) (fun e a => a = (S', nI (((A.el r x).take e).filter (A.flB r)).length, nI e))
    (fun o => o = (S', nI ((A.el r x).filter (A.flB r)).length)) (A.el r x).length ?_ FU (S', nI 0, nI 0) (by unfold FU; omega) rfl
  · obtain ⟨o, h4, rfl⟩ := this
    have h4' : m_rindices_L17 S' (nI 0) (nI 0) = _ := h4
    unfold m_rindices m_rindices_J0
    simp only [q0, h1, h2, ob_ok, h4']
  · rintro e _ he rfl
    unfold m_rindices_B17 m_rindices_J39
    by_cases hin : e < (A.el r x).length
    · left
      have hts : ((A.el r x).take (e + 1)).filter (A.flB r) = ((A.el r x).take e).filter (A.flB r) ++ (if A.flB r (A.el r x)[e] then [(A.el r x)[e]] else []) := by
        rw [List.take_succ_eq_append_getElem hin, List.filter_append]
        congr 1
        cases hq : A.flB r (A.el r x)[e] <;> simp [hq]
      simp (disch := omega) only [gd_ok, cl_nI, nI_s, nI_add, nI_leI, nI_ltI, nI_eq, if_pos, if_neg, q0, q1, q2, q3, q4, q5, q6, q7, q8, q9, q10, MS.i_setI, MS.a_setI, MS.n_setI, MS.i_setA, MS.a_setA, MS.n_setA, MS.i_setN, MS.a_setN, MS.n_setN, ↓reduceIte, Nat.reduceEqDiff, b2_0, b2_1, b2_nn, n0_or, n1_or, n10, n01, dec1, dec2, ob_ok, oe_l, oe_r,g1, g4 e hin]
      rw [hts]
      by_cases c1 : A.flB r (A.el r x)[e] = false
      · rw [if_pos c1, c1]
        exact ⟨_, rfl, hin, by simp⟩
      · rw [if_neg c1, if_pos (by simpa using c1)]
        exact ⟨_, rfl, hin, by simp⟩
    · right
      simp (disch := omega) only [gd_ok, cl_nI, nI_s, nI_add, nI_leI, nI_ltI, nI_eq, if_pos, if_neg, q0, q1, q2, q3, q4, q5, q6, q7, q8, q9, q10, MS.i_setI, MS.a_setI, MS.n_setI, MS.i_setA, MS.a_setA, MS.n_setA, MS.i_setN, MS.a_setN, MS.n_setN, ↓reduceIte, Nat.reduceEqDiff, b2_0, b2_1, b2_nn, n0_or, n1_or, n10, n01, dec1, dec2, ob_ok, oe_l, oe_r,g1]
      rw [List.take_of_length_le (by omega)]
      exact ⟨_, rfl, rfl⟩
/-! counters -/
def addT (A : AS) (r c : Nat) : Nat → Int64
  | 0 => A.num c
  | o + 1 => if A.inV r o && decide (A.act o = 10) && (A.pre o).contains c then addT A r c o + A.num o else addT A r c o
theorem addT_s {r c o : Nat} : addT A r c (o + 1) = if A.inV r o && decide (A.act o = 10) && (A.pre o).contains c then addT A r c o + A.num o else addT A r c o := rfl
/-- what a counter shows -/
def AS.ctr (A : AS) (r c : Nat) : Int64 := addT A r c A.n
theorem pS_counter1 (hR : RS S A) (hA : AI A) {o c : Nat} (ho : o < A.n) (hc : c < A.n) {y : Int32} {v : Int64} :
    m_rcounter_L47 S y (nI c) v (nI o) (nI 0) = some (S, y, nI c, if (A.pre o).contains c then v + A.num o else v, nI o) := by
  have hn := hA.1.1
  obtain ⟨t, pa, h1, h2, h3⟩ := hR.2.2.2.1
  obtain ⟨e1, e2, e3, e4⟩ := h3 o ho
  have hlen := (hA.2.2.1.2.2.2.2.2.2.1 o ho).1
  have hasc := (hA.2.2.1.2.2.2.2.2.2.1 o ho).2.1
  have hpre := (hA.2.2.1.2.2.2.2.2.2.1 o ho).2.2
  have := lp_run (body := fun a : MS × Int32 × Int32 × Int64 × Int32 × Int32 => m_rcounter_B47 a.1 a.2.1 a.2.2.1 a.2.2.2.1 a.2.2.2.2.1 a.2.2.2.2.2) (fun i a => a = (S, y, nI c, (if ((A.pre o).take i).contains c then v + A.num o else v), nI o, nI i))
    (fun e => e = (S, y, nI c, (if (A.pre o).contains c then v + A.num o else v), nI o)) (A.pre o).length ?_ FU (S, y, nI c, v, nI o, nI 0) (by unfold FU; omega) (by simp)
  · obtain ⟨e, h1, rfl⟩ := this
    exact h1
  · rintro i _ hi rfl
    unfold m_rcounter_B47 m_rcounter_J88
    by_cases hin : i < (A.pre o).length
    · left
      have hq := hpre _ (List.getElem_mem hin)
      simp (disch := omega) only [gd_ok, cl_nI, nI_s, nI_add, nI_leI, nI_ltI, nI_eq, if_pos, if_neg, q0, q1, q2, q3, q4, q5, q6, q7, q8, q9, q10, MS.i_setI, MS.a_setI, MS.n_setI, MS.i_setA, MS.a_setA, MS.n_setA, MS.i_setN, MS.a_setN, MS.n_setN, ↓reduceIte, Nat.reduceEqDiff, b2_0, b2_1, b2_nn, n0_or, n1_or, n10, n01, dec1, dec2, ob_ok, oe_l, oe_r,e1, e2, e4 i hin, (rop hR hA o ho).2.2.2.2.2.2.2.2]
      rw [take_s hin]
      by_cases e : (A.pre o)[i] = c
      · rw [if_pos e]
        have hnot : c ∉ (A.pre o).take i := by
          intro hm
          rw [List.mem_take_iff_getElem] at hm
          obtain ⟨k, hk, he⟩ := hm
          have h7 := List.pairwise_iff_getElem.mp hasc k i (by omega) hin (by omega)
          rw [he, e] at h7
          omega
        refine ⟨_, rfl, hin, ?_⟩
        simp [hnot, e]
      · rw [if_neg e]
        refine ⟨_, rfl, hin, ?_⟩
        simp [Ne.symm e]
    · right
      simp (disch := omega) only [gd_ok, cl_nI, nI_s, nI_add, nI_leI, nI_ltI, nI_eq, if_pos, if_neg, q0, q1, q2, q3, q4, q5, q6, q7, q8, q9, q10, MS.i_setI, MS.a_setI, MS.n_setI, MS.i_setA, MS.a_setA, MS.n_setA, MS.i_setN, MS.a_setN, MS.n_setN, ↓reduceIte, Nat.reduceEqDiff, b2_0, b2_1, b2_nn, n0_or, n1_or, n10, n01, dec1, dec2, ob_ok, oe_l, oe_r,e2]
      rw [List.take_of_length_le (by omega)]
      exact ⟨_, rfl, rfl⟩
theorem pS_counter (hR : RS S A) (hA : AI A) {r c : Nat} (hr : r < 8) (hc : c < A.n) : m_rcounter S (nI r) (nI c) = some (S, A.ctr r c) := by
  have hn := hA.1.1
  have := lp_run (body := fun a : MS × Int32 × Int32 × Int64 × Int32 => m_rcounter_B10 a.1 a.2.1 a.2.2.1 a.2.2.2.1 a.2.2.2.2) (fun i a => a = (S, nI r, nI c, addT A r c i, nI i))
    (fun e => e = (S, A.ctr r c)) A.n ?_ FU (S, nI r, nI c, A.num c, nI 0) (by unfold FU; omega) rfl
  · obtain ⟨e, h1, rfl⟩ := this
    have h1' : m_rcounter_L10 S (nI r) (nI c) (A.num c) (nI 0) = some (S, A.ctr r c) := h1
    unfold m_rcounter m_rcounter_J0
    simp (disch := omega) only [gd_ok, cl_nI, nI_s, nI_add, nI_leI, nI_ltI, nI_eq, if_pos, if_neg, q0, q1, q2, q3, q4, q5, q6, q7, q8, q9, q10, MS.i_setI, MS.a_setI, MS.n_setI, MS.i_setA, MS.a_setA, MS.n_setA, MS.i_setN, MS.a_setN, MS.n_setN, ↓reduceIte, Nat.reduceEqDiff, b2_0, b2_1, b2_nn, n0_or, n1_or, n10, n01, dec1, dec2, ob_ok, oe_l, oe_r,(rop hR hA c hc).2.2.2.2.2.2.2.2, h1']
  · rintro i _ hi rfl
    unfold m_rcounter_B10 m_rcounter_J94
    by_cases hin : i < A.n
    · left
      have hact := (hA.2.2.1.1 i hin).2.2.2.2.1
      simp (disch := omega) only [gd_ok, cl_nI, nI_s, nI_add, nI_leI, nI_ltI, nI_eq, if_pos, if_neg, q0, q1, q2, q3, q4, q5, q6, q7, q8, q9, q10, MS.i_setI, MS.a_setI, MS.n_setI, MS.i_setA, MS.a_setA, MS.n_setA, MS.i_setN, MS.a_setN, MS.n_setN, ↓reduceIte, Nat.reduceEqDiff, b2_0, b2_1, b2_nn, n0_or, n1_or, n10, n01, dec1, dec2, ob_ok, oe_l, oe_r,hR.1.1, pS_in hR hA hr hin, (rop hR hA i hin).2.2.2.1, pS_counter1 hR hA hin hc]
      rw [addT_s]
      by_cases c1 : A.inV r i = false
      · rw [if_pos c1]
        exact ⟨_, rfl, hin, by simp [c1]⟩
      · rw [if_neg c1]
        by_cases c2 : A.act i = 10
        · rw [if_pos c2]
          refine ⟨_, rfl, hin, ?_⟩
          simp only [Bool.not_eq_false] at c1
          simp only [c1, c2, decide_true, Bool.true_and, nI_add]
        · rw [if_neg c2]
          exact ⟨_, rfl, hin, by simp [c2]⟩
    · right
      simp (disch := omega) only [gd_ok, cl_nI, nI_s, nI_add, nI_leI, nI_ltI, nI_eq, if_pos, if_neg, q0, q1, q2, q3, q4, q5, q6, q7, q8, q9, q10, MS.i_setI, MS.a_setI, MS.n_setI, MS.i_setA, MS.a_setA, MS.n_setA, MS.i_setN, MS.a_setN, MS.n_setN, ↓reduceIte, Nat.reduceEqDiff, b2_0, b2_1, b2_nn, n0_or, n1_or, n10, n01, dec1, dec2, ob_ok, oe_l, oe_r,hR.1.1]
      have : i = A.n := by omega
      exact ⟨_, rfl, by rw [this]; rfl⟩
end SF
