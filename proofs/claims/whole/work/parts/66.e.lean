/-! THE REFERENCE: the elements of a list, marks, places. -/
/-- a chain from h on -/
def lst (f : Nat → Int32) : Int32 → List Nat → Prop
  | h, [] => h = -nI 1
  | h, a :: l => h = nI a ∧ lst f (f a) l
theorem lst_congr {f g : Nat → Int32} : ∀ {l : List Nat} {h : Int32}, (∀ x, x ∈ l → f x = g x) → lst f h l → lst g h l := by
  intro l
  induction l with
  | nil => intro h _ h1; exact h1
  | cons a l ih =>
    intro h he h1
    refine ⟨h1.1, ?_⟩
    rw [← he a (by simp)]
    exact ih (fun x hx => he x (by simp [hx])) h1.2
theorem lst_new {f : Nat → Int32} {h : Int32} {l : List Nat} {o : Nat} (h1 : lst f h l) (ho : o ∉ l) : lst (upd f o h) (nI o) (o :: l) := by
  refine ⟨rfl, ?_⟩
  have : upd f o h o = h := by simp [upd]
  rw [this]
  refine lst_congr ?_ h1
  intro x hx
  unfold upd
  rw [if_neg (by rintro rfl; exact ho hx)]
theorem lst_ins {f : Nat → Int32} {p o : Nat} {b : List Nat} : ∀ {a : List Nat} {h : Int32}, lst f h (a ++ p :: b) → o ∉ a ++ p :: b → (a ++ p :: b).Nodup → lst (upd (upd f o (f p)) p (nI o)) h (a ++ p :: o :: b) := by
  intro a
  induction a with
  | nil =>
    intro h h1 ho hn
    simp only [List.nil_append, List.mem_cons, not_or, List.nodup_cons] at *
    refine ⟨h1.1, ?_⟩
    have e1 : upd (upd f o (f p)) p (nI o) p = nI o := by simp [upd]
    have e2 : upd (upd f o (f p)) p (nI o) o = f p := by simp [upd, ho.1]
    rw [e1]
    refine ⟨rfl, ?_⟩
    rw [e2]
    refine lst_congr ?_ h1.2
    intro x hx
    unfold upd
    rw [if_neg (by rintro rfl; exact hn.1 hx), if_neg (by rintro rfl; exact ho.2 hx)]
  | cons y a ih =>
    intro h h1 ho hn
    simp only [List.cons_append, List.mem_cons, not_or, List.nodup_cons] at *
    refine ⟨h1.1, ?_⟩
    have e1 : upd (upd f o (f p)) p (nI o) y = f y := by
      unfold upd
      rw [if_neg (by rintro rfl; exact hn.1 (by simp)), if_neg (by rintro rfl; exact ho.1 rfl)]
    rw [e1]
    exact ih h1.2 ho.2 hn.2
section SE
variable {S : MS} {A : AS}
theorem L_ins (hA : AI A) {x : Option Nat} (hk : A.kd x ≠ 6) {s : Nat} (hs : s ∈ A.L x) : s < A.n ∧ A.obj s = x ∧ A.sp s = s ∧ A.ins s = 1 := by
  have h1 := ((hA.2.2.1.2.2.2.2.2.2.2.2.1 x).2.1 s).mp hs
  refine ⟨h1.1, h1.2.1, h1.2.2, ?_⟩
  have h2 := (hA.2.2.1.1 s h1.1).2.2.2.2.2.2
  rcases Nat.lt_or_ge (A.ins s) 1 with h3 | h3
  · have h4 := (hA.2.2.1.2.2.2.2.2.1 s h1.1 (by omega)).2.2.2.2.1 (by rw [h1.2.1]; exact hk)
    have := h4.2.1
    omega
  · omega
theorem ins_L (hA : AI A) {s : Nat} (hs : s < A.n) (hi : A.ins s = 1) : s ∈ A.L (A.obj s) := by
  rw [(hA.2.2.1.2.2.2.2.2.2.2.2.1 _).2.1]
  exact ⟨hs, rfl, (hA.2.2.1.2.2.2.2.1 s hs hi).1⟩
/-- the search for an element in the chain -/
theorem pS_chain (hR : RS S A) (hA : AI A) {x1 x2 x3 x4 : Int32} {o p : Nat} (ho : o < A.n) (hp : p < A.n) (hpl : A.plc o = A.id p) {a b : List Nat} {h : Int32} (hl : lst (S.a 49) h (a ++ p :: b)) (hlt : ∀ y, y ∈ a → y < A.n ∧ A.id y ≠ A.id p) (hlen : a.length ≤ 4000) :
    m_rlist_L89 S x1 x2 x3 x4 (nI o) h = some (S, x1, x2, x3, x4, nI o, nI p) := by
  have hn := hA.1.1
  have hpi := id_lt hA hp
  have hop := rop hR hA o ho
  have := lp_run (body := fun a : MS × Int32 × Int32 × Int32 × Int32 × Int32 × Int32 => m_rlist_B89 a.1 a.2.1 a.2.2.1 a.2.2.2.1 a.2.2.2.2.1 a.2.2.2.2.2.1 a.2.2.2.2.2.2)
    (fun i c => ∃ (a' : List Nat) (h' : Int32), i + a'.length = a.length ∧ c = (S, x1, x2, x3, x4, nI o, h') ∧ lst (S.a 49) h' (a' ++ p :: b) ∧ ∀ y, y ∈ a' → y < A.n ∧ A.id y ≠ A.id p)
    (fun e => e = (S, x1, x2, x3, x4, nI o, nI p)) a.length ?_ FU (S, x1, x2, x3, x4, nI o, h) (by unfold FU; omega) ⟨a, h, by omega, rfl, hl, hlt⟩
  · obtain ⟨e, h1, rfl⟩ := this
    exact h1
  · rintro i _ hi ⟨a', h', hi', rfl, hl', hlt'⟩
    unfold m_rlist_B89
    cases a' with
    | nil =>
      right
      have e := hl'.1
      subst e
      simp (disch := omega) only [gd_ok, cl_nI, nI_s, nI_add, nI_leI, nI_ltI, nI_eq, if_pos, if_neg, q0, q1, q2, q3, q4, q5, q6, q7, q8, q9, q10, MS.i_setI, MS.a_setI, MS.n_setI, MS.i_setA, MS.a_setA, MS.n_setA, MS.i_setN, MS.a_setN, MS.n_setN, ↓reduceIte, Nat.reduceEqDiff, b2_0, b2_1, b2_nn, n0_or, n1_or, n10, n01, dec1, dec2, ob_ok, oe_l, oe_r,(rop hR hA p hp).1, hop.2.2.1, hpl]
      exact ⟨_, rfl, rfl⟩
    | cons y a' =>
      left
      have e := hl'.1
      subst e
      have hy := hlt' y (by simp)
      have hyi := id_lt hA hy.1
      simp (disch := omega) only [gd_ok, cl_nI, nI_s, nI_add, nI_leI, nI_ltI, nI_eq, if_pos, if_neg, q0, q1, q2, q3, q4, q5, q6, q7, q8, q9, q10, MS.i_setI, MS.a_setI, MS.n_setI, MS.i_setA, MS.a_setA, MS.n_setA, MS.i_setN, MS.a_setN, MS.n_setN, ↓reduceIte, Nat.reduceEqDiff, b2_0, b2_1, b2_nn, n0_or, n1_or, n10, n01, dec1, dec2, ob_ok, oe_l, oe_r,(rop hR hA y hy.1).1, hop.2.2.1, hpl]
      refine ⟨_, rfl, by simp at hi'; omega, a', S.a 49 y, by simp at hi'; omega, rfl, hl'.2, fun z hz => hlt' z (by simp [hz])⟩
/-- the elements in the view -/
def AS.el (A : AS) (r : Nat) (x : Option Nat) : List Nat := (A.L x).filter (A.inV r)
theorem pS_list (hR : RS S A) (hA : AI A) {r : Nat} (hr : r < 8) {x : Option Nat} (hx : A.oV r x) (hkd : A.kd x ≠ 6) :
    ∃ f c g : Nat → Int32, m_rlist S (nI r) (nI (A.oi x)) = some ((((S.setA 45 f).setA 49 c).setA 48 g).setI 50 (nI (A.el r x).length)) ∧ rowN g (A.el r x) ∧ ∀ o, o < A.n → f o = b2 (A.hidB r o) := by
  have hn := hA.1.1
  have hxl := oV_lt hA hx
  obtain ⟨f, h1, h2⟩ := pS_hide hR hA hr
  obtain ⟨od, o1, o2, o3, o4, o5⟩ := hR.2.2.2.2.1
  have hL := hA.2.2.1.2.2.2.2.2.2.2.2.1 x
  let w : Nat → Nat → Bool := fun i o => (od.take i).contains o && A.inV r o
  have hlen : ∀ q : Nat → Bool, ((A.L x).filter q).length ≤ A.n := by
    intro q
    refine Nat.le_trans (List.length_filter_le _ _) ?_
    exact nodup_len A.n _ hL.1 (fun s hs => ((hL.2.1 s).mp hs).1)
  have A1 := lp_run (body := fun a : MS × Int32 × Int32 × Int32 × Int32 => m_rlist_B10 a.1 a.2.1 a.2.2.1 a.2.2.2.1 a.2.2.2.2)
    (fun i a => ∃ (c : Nat → Int32) (h : Int32), a = ((S.setA 45 f).setA 49 c, nI r, nI (A.oi x), h, nI i) ∧ lst c h ((A.L x).filter (w i)))
    (fun e => ∃ (c : Nat → Int32) (h : Int32), e = ((S.setA 45 f).setA 49 c, h) ∧ lst c h ((A.L x).filter (A.inV r))) A.n ?_ FU (S.setA 45 f, nI r, nI (A.oi x), -nI 1, nI 0) (by unfold FU; omega) ?_
  · obtain ⟨e, h3, c, h, rfl, h4⟩ := A1
    have h3' : m_rlist_L10 (S.setA 45 f) (nI r) (nI (A.oi x)) (-nI 1) (nI 0) = some ((S.setA 45 f).setA 49 c, h) := h3
    have hel : (A.el r x).length ≤ A.n := hlen _
    have A2 := lp_run (body := fun a : MS × Int32 => m_rlist_B155 a.1 a.2)
      (fun i a => ∃ (g : Nat → Int32) (h : Int32), i ≤ (A.el r x).length ∧ a = ((((S.setA 45 f).setA 49 c).setA 48 g).setI 50 (nI i), h) ∧ lst c h ((A.el r x).drop i) ∧ rowN g ((A.el r x).take i))
      (fun e => ∃ g : Nat → Int32, e = (((S.setA 45 f).setA 49 c).setA 48 g).setI 50 (nI (A.el r x).length) ∧ rowN g (A.el r x)) (A.el r x).length ?_ FU (((S.setA 45 f).setA 49 c).setI 50 (nI 0), h) (by unfold FU; omega) ?_
    · obtain ⟨e, h5, g, rfl, h6⟩ := A2
      refine ⟨f, c, g, ?_, h6, h2⟩
      have h5' : m_rlist_L155 (((S.setA 45 f).setA 49 c).setI 50 (nI 0)) h = some ((((S.setA 45 f).setA 49 c).setA 48 g).setI 50 (nI (A.el r x).length)) := h5
      unfold m_rlist m_rlist_J0
      simp only [q0, q1, h1, ob_ok, h3', h5']
    · rintro i _ hi ⟨g, h, hil, rfl, hl, hg⟩
      unfold m_rlist_B155
      by_cases hin : i < (A.el r x).length
      · left
        rw [List.drop_eq_getElem_cons hin] at hl
        obtain ⟨rfl, hl⟩ := hl
        have hm := List.getElem_mem hin
        have hmn : (A.el r x)[i] < A.n := (L_ins hA hkd (List.mem_filter.mp hm).1).1
        simp (disch := omega) only [gd_ok, cl_nI, nI_s, nI_add, nI_leI, nI_ltI, nI_eq, if_pos, if_neg, q0, q1, q2, q3, q4, q5, q6, q7, q8, q9, q10, MS.i_setI, MS.a_setI, MS.n_setI, MS.i_setA, MS.a_setA, MS.n_setA, MS.i_setN, MS.a_setN, MS.n_setN, ↓reduceIte, Nat.reduceEqDiff, b2_0, b2_1, b2_nn, n0_or, n1_or, n10, n01, dec1, dec2, ob_ok, oe_l, oe_r]
        refine ⟨_, rfl, hin, upd g i (nI (A.el r x)[i]), c (A.el r x)[i], by omega, ?_, hl, ?_⟩
        · simp only [MS.setI_setA, MS.setI_setI, MS.setA_setA]
        · rw [List.take_succ_eq_append_getElem hin]
          have := rowN_snoc (x := (A.el r x)[i]) hg
          rw [List.length_take, Nat.min_eq_left (by omega)] at this
          exact this
      · right
        rw [List.drop_of_length_le (by omega)] at hl
        have e : h = -nI 1 := hl
        subst e
        simp only [q0, m1lt', if_true]
        refine ⟨_, rfl, g, ?_, ?_⟩
        · have : i = (A.el r x).length := by omega
          rw [this]
        · rw [List.take_of_length_le (by omega)] at hg
          exact hg
    · refine ⟨S.a 48, h, by omega, ?_, h4, ?_⟩
      · rw [show ((S.setA 45 f).setA 49 c).setA 48 (S.a 48) = (S.setA 45 f).setA 49 c from MS.setA_self ((S.setA 45 f).setA 49 c) 48]
      · intro i hi; simp at hi
  · rintro i _ hi ⟨c, h, rfl, hl⟩
    have hR' : RS ((S.setA 45 f).setA 49 c) A := (hR.setA rfl).setA rfl
    unfold m_rlist_B10 m_rlist_J141
    by_cases hin : i < A.n
    · left
      have hj : i < od.length := by omega
      have ho : od[i] < A.n := (o4 _).mp (List.getElem_mem hj)
      have hop := rop hR hA _ ho
      have hid := oi_lt hA ho
      have hid2 := id_lt hA ho
      have hpl := plc_lt hA ho
      have hins := (hA.2.2.1.1 _ ho).2.2.2.2.2.2
      have hnt : od[i] ∉ od.take i := by
        intro hm
        rw [List.mem_take_iff_getElem] at hm
        obtain ⟨k, hk, he⟩ := hm
        have := (List.getElem_inj o3).mp he
        omega
      have hsame : (A.inV r od[i] = true → A.ins od[i] = 1 → A.obj od[i] ≠ x) → (A.L x).filter (w (i + 1)) = (A.L x).filter (w i) := by
        intro hno
        apply List.filter_congr
        intro y hy
        simp only [w]
        rw [take_s hj]
        by_cases e : y = od[i]
        · subst e
          have hy' := L_ins hA hkd hy
          cases hv : A.inV r od[i] with
          | false => simp
          | true => exact absurd hy'.2.1 (hno hv hy'.2.2.2)
        · simp [e]
      have hvi := pS_in hR' hA hr ho
      simp (disch := omega) only [gd_ok, cl_nI, nI_s, nI_add, nI_leI, nI_ltI, nI_eq, if_pos, if_neg, q0, q1, q2, q3, q4, q5, q6, q7, q8, q9, q10, MS.i_setI, MS.a_setI, MS.n_setI, MS.i_setA, MS.a_setA, MS.n_setA, MS.i_setN, MS.a_setN, MS.n_setN, ↓reduceIte, Nat.reduceEqDiff, b2_0, b2_1, b2_nn, n0_or, n1_or, n10, n01, dec1, dec2, ob_ok, oe_l, oe_r,hR.1.1, o2 i hj, hvi, hop.1, hop.2.1, hop.2.2.1, hop.2.2.2.2.2.2.1]
      by_cases c1 : A.inV r od[i] = false
      · rw [if_pos c1]
        exact ⟨_, rfl, hin, c, h, rfl, by rw [hsame (by simp [c1])]; exact hl⟩
      · rw [if_neg c1]
        have c1' : A.inV r od[i] = true := by simpa using c1
        by_cases c2 : A.ins od[i] = 0
        · rw [if_pos c2]
          exact ⟨_, rfl, hin, c, h, rfl, by rw [hsame (by simp [c2])]; exact hl⟩
        · rw [if_neg c2]
          have c2' : A.ins od[i] = 1 := by omega
          by_cases c3 : A.oi (A.obj od[i]) = A.oi x
          · rw [if_pos c3]
            rw [oi_inj hA (obj_inV hA ho c1') hx] at c3
            have hoL : od[i] ∈ A.L x := by rw [← c3]; exact ins_L hA ho c2'
            have hI := hA.2.2.1.2.2.2.2.1 _ ho c2'
            have hstep := rga_step (w := w i) (o := od[i]) (hL.2.2.2 hkd) hL.1 hoL (inV_gone c1')
              (by simp [w, hnt]) (by
                intro y hy
                simp only [w, Bool.and_eq_true, List.contains_iff_mem] at hy
                obtain ⟨hy1, hy2⟩ := hy
                have hyn : y < A.n := (o4 y).mp (List.mem_of_mem_take hy1)
                rw [List.mem_take_iff_getElem] at hy1
                obtain ⟨k, hk, he⟩ := hy1
                have h7 := List.pairwise_iff_getElem.mp o5 k i (by omega) hj (by omega)
                have h8 : A.id y ≠ A.id od[i] := by
                  intro e2
                  have := inV_inj hA hyn ho hy2 c1' e2
                  rw [← he] at this
                  have := (List.getElem_inj o3).mp this
                  omega
                rw [← he] at h8 ⊢
                omega) (by
                intro p hp
                have h6 := hI.2.2.2.2.2 p hp
                have hpv : A.inV r p = true := inV_seen hA.2.1 hA.2.2.1.2.2.1 ho c1' (h6.2.2.2.2 (inV_gone c1'))
                simp only [w, Bool.and_eq_true, List.contains_iff_mem]
                refine ⟨?_, hpv⟩
                have hpm : p ∈ od := (o4 p).mpr (by omega)
                rw [List.mem_iff_getElem] at hpm
                obtain ⟨k, hk, he⟩ := hpm
                rw [List.mem_take_iff_getElem]
                refine ⟨k, ?_, he⟩
                rcases Nat.lt_or_ge k i with h7 | h7
                · omega
                · exfalso
                  have h9 := h6.2.2.2.1
                  rcases Nat.lt_or_ge i k with h8 | h8
                  · have := List.pairwise_iff_getElem.mp o5 i k hj hk h8
                    rw [he] at this
                    omega
                  · have : k = i := by omega
                    subst this
                    rw [he] at h9
                    omega)
            have hfil : (A.L x).filter (fun y => w i y || decide (y = od[i])) = (A.L x).filter (w (i + 1)) := by
              apply List.filter_congr
              intro y hy
              simp only [w]
              rw [take_s hj]
              by_cases e : y = od[i]
              · subst e; simp [c1']
              · simp [e]
            rw [hfil] at hstep
            have hnl : od[i] ∉ (A.L x).filter (w i) := by
              intro hm
              have := (List.mem_filter.mp hm).2
              simp [w, hnt] at this
            cases hpo : A.par od[i] with
            | none =>
              have hp0 : A.plc od[i] = 0 := by unfold AS.plc; rw [if_pos c2', hpo]; rfl
              rw [if_pos hp0]
              rw [hpo] at hstep
              simp only [insA] at hstep
              refine ⟨_, rfl, hin, upd c od[i] h, nI od[i], ?_, ?_⟩
              · simp only [MS.setA_setA]
              · rw [← hstep]
                exact lst_new hl hnl
            | some p =>
              have h6 := hI.2.2.2.2.2 p hpo
              have hpn : p < A.n := by omega
              have hpe : A.plc od[i] = A.id p := by unfold AS.plc; rw [if_pos c2', hpo]; rfl
              have hp0 : ¬ A.plc od[i] = 0 := by
                have := (hA.2.2.1.1 p hpn).2.2.1
                omega
              rw [if_neg hp0]
              rw [hpo] at hstep
              have hpv : A.inV r p = true := inV_seen hA.2.1 hA.2.2.1.2.2.1 ho c1' (h6.2.2.2.2 (inV_gone c1'))
              have hpm : p ∈ (A.L x).filter (w i) := by
                have hpL : p ∈ A.L x := by rw [← c3, ← h6.2.2.1]; exact ins_L hA hpn h6.2.1
                rw [List.mem_filter]
                refine ⟨hpL, ?_⟩
                have hm1 : p ∈ (A.L x).filter (w (i + 1)) ∨ True := Or.inr trivial
                simp only [w, Bool.and_eq_true, List.contains_iff_mem]
                refine ⟨?_, hpv⟩
                have hpm : p ∈ od := (o4 p).mpr (by omega)
                rw [List.mem_iff_getElem] at hpm
                obtain ⟨k, hk, he⟩ := hpm
                rw [List.mem_take_iff_getElem]
                refine ⟨k, ?_, he⟩
                rcases Nat.lt_or_ge k i with h7 | h7
                · omega
                · exfalso
                  have h9 := h6.2.2.2.1
                  rcases Nat.lt_or_ge i k with h8 | h8
                  · have := List.pairwise_iff_getElem.mp o5 i k hj hk h8
                    rw [he] at this
                    omega
                  · have : k = i := by omega
                    subst this
                    rw [he] at h9
                    omega
              obtain ⟨a, b, hab⟩ := List.append_of_mem hpm
              have hnd : ((A.L x).filter (w i)).Nodup := hL.1.sublist List.filter_sublist
              rw [hab] at hl hnl hnd hstep
              have hpa : p ∉ a := by
                intro hm
                rw [List.nodup_append] at hnd
                exact hnd.2.2 p hm p (by simp) rfl
              have hch := pS_chain hR' hA (x1 := nI r) (x2 := nI (A.oi x)) (x3 := h) (x4 := nI i) ho hpn hpe (a := a) (b := b) (h := h) hl (by
                intro y hy
                have hym : y ∈ (A.L x).filter (w i) := by rw [hab]; simp [hy]
                rw [List.mem_filter] at hym
                have hyn := (L_ins hA hkd hym.1).1
                refine ⟨hyn, ?_⟩
                intro e
                have hyv : A.inV r y = true := by
                  have := hym.2
                  simp only [w, Bool.and_eq_true] at this
                  exact this.2
                have := inV_inj hA hyn hpn hyv hpv e
                subst this
                exact hpa hy) (by
                have := hlen (w i)
                rw [hab] at this
                simp at this
                omega)
              simp (disch := omega) only [gd_ok, cl_nI, nI_s, nI_add, nI_leI, nI_ltI, nI_eq, if_pos, if_neg, q0, q1, q2, q3, q4, q5, q6, q7, q8, q9, q10, MS.i_setI, MS.a_setI, MS.n_setI, MS.i_setA, MS.a_setA, MS.n_setA, MS.i_setN, MS.a_setN, MS.n_setN, ↓reduceIte, Nat.reduceEqDiff, b2_0, b2_1, b2_nn, n0_or, n1_or, n10, n01, dec1, dec2, ob_ok, oe_l, oe_r,hch]
              rw [insA_at hpa] at hstep
              refine ⟨_, rfl, hin, upd (upd c od[i] (c p)) p (nI od[i]), h, ?_, ?_⟩
              · simp only [MS.setA_setA]
              · rw [← hstep]
                exact lst_ins hl hnl hnd
          · rw [if_neg c3]
            refine ⟨_, rfl, hin, c, h, rfl, ?_⟩
            rw [hsame (by intro _ _ e; exact c3 (by rw [e]))]
            exact hl
    · right
      simp (disch := omega) only [gd_ok, cl_nI, nI_s, nI_add, nI_leI, nI_ltI, nI_eq, if_pos, if_neg, q0, q1, q2, q3, q4, q5, q6, q7, q8, q9, q10, MS.i_setI, MS.a_setI, MS.n_setI, MS.i_setA, MS.a_setA, MS.n_setA, MS.i_setN, MS.a_setN, MS.n_setN, ↓reduceIte, Nat.reduceEqDiff, b2_0, b2_1, b2_nn, n0_or, n1_or, n10, n01, dec1, dec2, ob_ok, oe_l, oe_r,hR.1.1]
      refine ⟨_, rfl, c, h, rfl, ?_⟩
      have e : (A.L x).filter (w i) = (A.L x).filter (A.inV r) := by
        apply List.filter_congr
        intro y hy
        have hyn := ((hL.2.1 y).mp hy).1
        simp only [w]
        rw [List.take_of_length_le (by omega)]
        simp [(o4 y).mpr hyn]
      rw [← e]
      exact hl
  · refine ⟨S.a 49, -nI 1, ?_, ?_⟩
    · rw [show (S.setA 45 f).setA 49 (S.a 49) = S.setA 45 f from MS.setA_self (S.setA 45 f) 49]
    · have : (A.L x).filter (w 0) = [] := by
        rw [List.filter_eq_nil_iff]
        intro y _
        simp [w]
      rw [this]
      rfl
end SE
