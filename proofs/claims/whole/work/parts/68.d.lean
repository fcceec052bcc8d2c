/-! THE CLASS: gather. -/
/-- the state with another struck, found, size and round -/
def CS.vs (C : CS) (g : Nat → Int32) (h : Nat → Option Nat) (sz rd : Int32) : CS := (fun k f j => if k = 3 ∧ f = 14 then g j else if k = 10 ∧ f = 3 ∧ j = 0 then sz else if k = 10 ∧ f = 4 ∧ j = 0 then rd else C.i k f j, C.l, C.r, C.a, fun k j p => if k = 15 ∧ j = 1 then h p else C.q k j p, C.z)
def updO (f : Nat → Option Nat) (k : Nat) (v : Option Nat) : Nat → Option Nat := fun j => if j = k then v else f j
section VS
variable {C : CS} {g : Nat → Int32} {h : Nat → Option Nat} {sz rd : Int32}
theorem vs_i (k f j : Nat) : (C.vs g h sz rd).i k f j = if k = 3 ∧ f = 14 then g j else if k = 10 ∧ f = 3 ∧ j = 0 then sz else if k = 10 ∧ f = 4 ∧ j = 0 then rd else C.i k f j := id rfl
theorem vs_l : (C.vs g h sz rd).l = C.l := id rfl
theorem vs_r : (C.vs g h sz rd).r = C.r := id rfl
theorem vs_a : (C.vs g h sz rd).a = C.a := id rfl
theorem vs_z : (C.vs g h sz rd).z = C.z := id rfl
theorem vs_q (k j p : Nat) : (C.vs g h sz rd).q k j p = if k = 15 ∧ j = 1 then h p else C.q k j p := id rfl
theorem vs_self : C.vs (C.i 3 14) (C.q 15 1) (C.i 10 3 0) (C.i 10 4 0) = C := by
  apply CS_ext <;> intros <;> try rfl
  · rw [vs_i]
    split
    · rename_i hh; rw [hh.1, hh.2]
    · split
      · rename_i hh; rw [hh.1, hh.2.1, hh.2.2]
      · split
        · rename_i hh; rw [hh.1, hh.2.1, hh.2.2]
        · rfl
  · rw [vs_q]
    split
    · rename_i hh; rw [hh.1, hh.2]
    · rfl
theorem vs_struck {j : Nat} {v : Int32} : (C.vs g h sz rd).setI 3 14 j v = C.vs (upd g j v) h sz rd := by
  apply CS_ext <;> intros <;> try rfl
  rw [CS.i_setI, vs_i, vs_i]
  unfold upd
  split
  · rename_i hh; rw [hh.1, hh.2.1, hh.2.2]; simp
  · split
    · rename_i h1 h2
      rw [if_neg]
      rintro rfl
      exact h1 ⟨h2.1, h2.2, rfl⟩
    · rfl
theorem vs_size {v : Int32} : (C.vs g h sz rd).setI 10 3 0 v = C.vs g h v rd := by
  apply CS_ext <;> intros <;> try rfl
  rw [CS.i_setI, vs_i, vs_i]
  split
  · rename_i hh; rw [hh.1, hh.2.1, hh.2.2]; simp
  · split
    · rfl
    · simp_all
theorem vs_round {v : Int32} : (C.vs g h sz rd).setI 10 4 0 v = C.vs g h sz v := by
  apply CS_ext <;> intros <;> try rfl
  rw [CS.i_setI, vs_i, vs_i]
  split
  · rename_i hh; rw [hh.1, hh.2.1, hh.2.2]; simp
  · split
    · rfl
    · split
      · rfl
      · simp_all
theorem vs_found {p : Nat} {v : Option Nat} : (C.vs g h sz rd).setQ 15 1 p v = C.vs g (updO h p v) sz rd := by
  apply CS_ext <;> intros <;> try rfl
  rw [CS.q_setQ, vs_q, vs_q]
  unfold updO
  split
  · rename_i hh; rw [hh.1, hh.2.1, hh.2.2]; simp
  · split
    · rename_i h1 h2
      rw [if_neg]
      rintro rfl
      exact h1 ⟨h2.1, h2.2, rfl⟩
    · rfl
theorem vs_vs {g' : Nat → Int32} {h' : Nat → Option Nat} {sz' rd' : Int32} : (C.vs g h sz rd).vs g' h' sz' rd' = C.vs g' h' sz' rd' := by
  apply CS_ext <;> intros <;> try rfl
  · rw [vs_i, vs_i, vs_i]
    split
    · rfl
    · split
      · rfl
      · split <;> rfl
  · rw [vs_q, vs_q, vs_q]
    split <;> rfl
theorem nz_vs : nz (C.vs g h sz rd) = nz C := by
  apply CS_ext <;> intros <;> try rfl
  · show (if _ then _ else (C.vs g h sz rd).i _ _ _) = (if _ then _ else C.i _ _ _)
    rw [vs_i]
    split
    · rfl
    · rename_i hh
      rw [if_neg (fun h => hh (Or.inr h)), if_neg (fun h => hh (Or.inl ⟨h.1, Or.inl h.2.1⟩)), if_neg (fun h => hh (Or.inl ⟨h.1, Or.inr h.2.1⟩))]
  · show (if _ then _ else (C.vs g h sz rd).q _ _ _) = (if _ then _ else C.q _ _ _)
    rw [vs_q]
    split <;> rfl
end VS
section GA
variable {N : Nat → Nat} {C : CS} {A : AS} {r rd : Nat}
/-- the state that the view may have left is the class's state still -/
theorem RC.vs (G : RC N C A rd) {g : Nat → Int32} {h : Nat → Option Nat} {sz : Int32} {rd' : Nat} (hg : ∀ j, j < A.n + 1 → ∃ t, t ≤ rd' ∧ g j = nI t) (hh : ∀ p y, h p = some y → y < A.n + 1) : RC N (C.vs g h sz (nI rd')) A rd' :=
  G.scr nz_vs ⟨rfl, hg, hh⟩
theorem VC.vs (hv : VC C A r) {g : Nat → Int32} {h : Nat → Option Nat} {sz rd' : Int32} : VC (C.vs g h sz rd') A r := hv
theorem chn_cons {nx : Nat → Option Nat} {h : Option Nat} {a : Nat} {l : List Nat} : chn nx h (a :: l) ↔ h = some a ∧ chn nx (nx a) l := Iff.rfl
theorem cV_strike (G : RC N C A rd) (hA : AI A) {o : Nat} (ho : o < A.n) {g : Nat → Int32} {h : Nat → Option Nat} {sz : Int32} {v : Int32} :
    ∃ g', m_cVw_strikePreds N 0 (C.vs g h sz v) (o + 1) = some (C.vs g' h sz v) ∧ ∀ j, g' j = if ∃ q, q ∈ A.pre o ∧ j = q + 1 then v else g j := by
  obtain ⟨u0, u1, u2, u3, u4, u5, u6, u7, u8, u9, u10, u11, u12, u13, u14, u15, u16, u17, u18⟩ := G.nn
  have hp := G.pr o ho
  have hlen := (hA.2.2.1.2.2.2.2.2.2.1 o ho).1
  have hmem := (hA.2.2.1.2.2.2.2.2.2.1 o ho).2.2
  unfold m_cVw_strikePreds m_cVw_strikePreds_J0 m_cVw_strikePreds_J37
  cases hpo : A.pre o with
  | nil =>
    rw [hpo] at hp
    simp only at hp
    have hB : m_cVw_strikePreds_B2 N 0 (C.vs g h sz v) (some (o + 1)) (nI 0) = some (.inr (C.vs g h sz v)) := by
      unfold m_cVw_strikePreds_B2
      simp (disch := omega) only [gd_ok, cl_nI, nI_s, nI_add, nI_leI, nI_ltI, nI_eq, if_pos, if_neg, q0, q1, q2, q3, q4, q5, q6, q7, q8, q9, q10, CS.i_setI, CS.l_setI, CS.r_setI, CS.a_setI, CS.q_setI, CS.z_setI, CS.i_setL, CS.l_setL, CS.r_setL, CS.a_setL, CS.q_setL, CS.z_setL, CS.i_setR, CS.l_setR, CS.r_setR, CS.a_setR, CS.q_setR, CS.z_setR, CS.i_setA, CS.l_setA, CS.r_setA, CS.a_setA, CS.q_setA, CS.z_setA, CS.i_setQ, CS.l_setQ, CS.r_setQ, CS.a_setQ, CS.q_setQ, CS.z_setQ, CS.i_setF, CS.l_setF, CS.r_setF, CS.a_setF, CS.q_setF, CS.z_setF, CS.i_new, CS.l_new, CS.r_new, CS.a_new, CS.q_new, CS.z_new, Nat.reduceEqDiff, false_and, true_and, and_false, and_true, if_true, if_false, b2_0, b2_1, b2_nn, n0_or, n1_or, n10, n01, dec1, dec2, ob_ok, oe_l, oe_r, gl_ok, gle_ok, gn_s, gv_ok, gv_none, on_none, onSome,u3, vs_r, hp]
    refine ⟨g, ?_, fun j => by simp⟩
    have : m_cVw_strikePreds_L2 N 0 (C.vs g h sz v) (some (o + 1)) (nI 0) = some (C.vs g h sz v) := by
      unfold m_cVw_strikePreds_L2
      show lp _ (999999 + 1) _ = _
      rw [lp]
      simp only [hB]
    rw [q0, this]
    rfl
  | cons a l =>
    rw [hpo] at hp hlen hmem
    obtain ⟨jp, p1, p2, p3, p4, p5⟩ := hp
    have := lp_run (body := fun c : CS × Option Nat × Int32 => m_cVw_strikePreds_B2 N 0 c.1 c.2.1 c.2.2) (fun i c => ∃ g', c = (C.vs g' h sz v, some (o + 1), nI i) ∧ ∀ j, g' j = if ∃ q, q ∈ (a :: l).take i ∧ j = q + 1 then v else g j)
      (fun e => ∃ g', e = C.vs g' h sz v ∧ ∀ j, g' j = if ∃ q, q ∈ a :: l ∧ j = q + 1 then v else g j) (a :: l).length ?_ FU (C.vs g h sz v, some (o + 1), nI 0) (by unfold FU; omega) ⟨g, rfl, fun j => by simp⟩
    · obtain ⟨e, e1, g', rfl, e2⟩ := this
      refine ⟨g', ?_, e2⟩
      have e1' : m_cVw_strikePreds_L2 N 0 (C.vs g h sz v) (some (o + 1)) (nI 0) = some (C.vs g' h sz v) := e1
      rw [q0, e1']
      rfl
    · rintro i _ hi ⟨g', rfl, hg⟩
      unfold m_cVw_strikePreds_B2
      by_cases hin : i < (a :: l).length
      · left
        have hm := hmem _ (List.getElem_mem hin)
        simp (disch := omega) only [gd_ok, cl_nI, nI_s, nI_add, nI_leI, nI_ltI, nI_eq, if_pos, if_neg, q0, q1, q2, q3, q4, q5, q6, q7, q8, q9, q10, CS.i_setI, CS.l_setI, CS.r_setI, CS.a_setI, CS.q_setI, CS.z_setI, CS.i_setL, CS.l_setL, CS.r_setL, CS.a_setL, CS.q_setL, CS.z_setL, CS.i_setR, CS.l_setR, CS.r_setR, CS.a_setR, CS.q_setR, CS.z_setR, CS.i_setA, CS.l_setA, CS.r_setA, CS.a_setA, CS.q_setA, CS.z_setA, CS.i_setQ, CS.l_setQ, CS.r_setQ, CS.a_setQ, CS.q_setQ, CS.z_setQ, CS.i_setF, CS.l_setF, CS.r_setF, CS.a_setF, CS.q_setF, CS.z_setF, CS.i_new, CS.l_new, CS.r_new, CS.a_new, CS.q_new, CS.z_new, Nat.reduceEqDiff, false_and, true_and, and_false, and_true, if_true, if_false, b2_0, b2_1, b2_nn, n0_or, n1_or, n10, n01, dec1, dec2, ob_ok, oe_l, oe_r, gl_ok, gle_ok, gn_s, gv_ok, gv_none, on_none, onSome,u3, vs_r, vs_q, vs_z, vs_i, p3, p4, p5 i hin, u10, vs_struck]
        refine ⟨_, rfl, hin, upd g' ((a :: l)[i] + 1) v, rfl, ?_⟩
        intro j
        unfold upd
        rw [hg j]
        have hts : (a :: l).take (i + 1) = (a :: l).take i ++ [(a :: l)[i]] := List.take_succ_eq_append_getElem hin
        rw [hts]
        by_cases e : j = (a :: l)[i] + 1
        · rw [if_pos e, if_pos ⟨_, List.mem_append.mpr (Or.inr (List.mem_singleton.mpr rfl)), e⟩]
        · rw [if_neg e]
          have : (∃ q, q ∈ (a :: l).take i ∧ j = q + 1) ↔ (∃ q, q ∈ (a :: l).take i ++ [(a :: l)[i]] ∧ j = q + 1) := by
            constructor
            · rintro ⟨q, h1, h2⟩; exact ⟨q, List.mem_append.mpr (Or.inl h1), h2⟩
            · rintro ⟨q, h1, h2⟩
              rcases List.mem_append.mp h1 with h3 | h3
              · exact ⟨q, h3, h2⟩
              · rw [List.mem_singleton] at h3
                rw [h3] at h2
                exact absurd h2 e
          simp only [this]
      · right
        simp (disch := omega) only [gd_ok, cl_nI, nI_s, nI_add, nI_leI, nI_ltI, nI_eq, if_pos, if_neg, q0, q1, q2, q3, q4, q5, q6, q7, q8, q9, q10, CS.i_setI, CS.l_setI, CS.r_setI, CS.a_setI, CS.q_setI, CS.z_setI, CS.i_setL, CS.l_setL, CS.r_setL, CS.a_setL, CS.q_setL, CS.z_setL, CS.i_setR, CS.l_setR, CS.r_setR, CS.a_setR, CS.q_setR, CS.z_setR, CS.i_setA, CS.l_setA, CS.r_setA, CS.a_setA, CS.q_setA, CS.z_setA, CS.i_setQ, CS.l_setQ, CS.r_setQ, CS.a_setQ, CS.q_setQ, CS.z_setQ, CS.i_setF, CS.l_setF, CS.r_setF, CS.a_setF, CS.q_setF, CS.z_setF, CS.i_new, CS.l_new, CS.r_new, CS.a_new, CS.q_new, CS.z_new, Nat.reduceEqDiff, false_and, true_and, and_false, and_true, if_true, if_false, b2_0, b2_1, b2_nn, n0_or, n1_or, n10, n01, dec1, dec2, ob_ok, oe_l, oe_r, gl_ok, gle_ok, gn_s, gv_ok, gv_none, on_none, onSome,u3, vs_r, vs_z, p3, p4]
        refine ⟨_, rfl, g', rfl, ?_⟩
        intro j
        rw [hg j, List.take_of_length_le (by omega)]
theorem cV_gather (G : RC N C A rd) (hA : AI A) (hv : VC C A r) {s : Nat} (hs : s < A.n) (hss : A.sp s = s) (hrd : rd < 2 ^ 30) :
    ∃ g h, m_cVw_gather N 0 C (A.sj s) = some (C.vs g h (nI (A.cd r s).length) (nI (rd + 1))) ∧ (∀ j, j < A.n + 1 → ∃ t, t ≤ rd + 1 ∧ g j = nI t) ∧ (∀ p y, h p = some y → y < A.n + 1) ∧ ∀ k (hk : k < (A.cd r s).length), h k = some ((A.cd r s)[k] + 1) := by
  obtain ⟨u0, u1, u2, u3, u4, u5, u6, u7, u8, u9, u10, u11, u12, u13, u14, u15, u16, u17, u18⟩ := G.nn
  obtain ⟨s1, s2, s3, s4, s5, s6, s7, s8, s9, s10, s11, s12, s13, s14, s15, s16, s17, s18, s19, s20, s21⟩ := G.st
  obtain ⟨l1, l2, l3⟩ := G.ln.1 s hs hss
  have hO := hA.2.2.1.2.2.2.2.2.2.2.2.2 s
  have hz1 := G.sz.2.1
  have hOn : (A.O s).length ≤ A.n := nodup_len A.n _ hO.1 (fun o ho => ((hO.2.1 o).mp ho).1)
  have hnn := hA.1.1
  have hcl := cd_len hA (r := r) (s := s)
  have hfl : ∀ i, (((A.O s).take i).filter (A.visB r)).length ≤ (A.cd r s).length := by
    intro i
    unfold AS.cd
    exact ((List.take_sublist i (A.O s)).filter _).length_le
  have := lp_run (body := fun c : CS × Option Nat => m_cVw_gather_B20 N 0 c.1 c.2) (fun i c => ∃ g h x, c = (C.vs g h (nI (((A.O s).take i).filter (A.visB r)).length) (nI (rd + 1)), x) ∧ chn (C.r 3 12) x (((A.O s).drop i).map (· + 1)) ∧ (∀ j, j < A.n + 1 → ∃ t, t ≤ rd + 1 ∧ g j = nI t) ∧ (∀ p y, h p = some y → y < A.n + 1) ∧
      (∀ k (hk : k < (((A.O s).take i).filter (A.visB r)).length), h k = some ((((A.O s).take i).filter (A.visB r))[k] + 1)) ∧ ∀ o, o < A.n → (g (o + 1) = nI (rd + 1) ↔ ∃ p, p ∈ (A.O s).take i ∧ A.inV r p = true ∧ A.act p ≠ 10 ∧ o ∈ A.pre p))
    (fun e => ∃ g h, e = C.vs g h (nI (A.cd r s).length) (nI (rd + 1)) ∧ (∀ j, j < A.n + 1 → ∃ t, t ≤ rd + 1 ∧ g j = nI t) ∧ (∀ p y, h p = some y → y < A.n + 1) ∧ ∀ k (hk : k < (A.cd r s).length), h k = some ((A.cd r s)[k] + 1)) (A.O s).length ?_ FU (C.vs (C.i 3 14) (C.q 15 1) (nI 0) (nI (rd + 1)), C.r 7 1 (A.sj s)) (by unfold FU; omega) ?_
  · obtain ⟨e, e1, g, h, rfl, e2, e3, e4⟩ := this
    refine ⟨g, h, ?_, e2, e3, e4⟩
    have e1' : m_cVw_gather_L20 N 0 (C.vs (C.i 3 14) (C.q 15 1) (nI 0) (nI (rd + 1))) (C.r 7 1 (A.sj s)) = _ := e1
    unfold m_cVw_gather m_cVw_gather_J0
    have hst : (C.setI 10 3 0 (nI 0)).setI 10 4 0 (nI (rd + 1)) = C.vs (C.i 3 14) (C.q 15 1) (nI 0) (nI (rd + 1)) := by
      conv => lhs; rw [← vs_self (C := C)]
      rw [vs_size, vs_round]
    simp (disch := omega) only [gd_ok, cl_nI, nI_s, nI_add, nI_leI, nI_ltI, nI_eq, if_pos, if_neg, q0, q1, q2, q3, q4, q5, q6, q7, q8, q9, q10, CS.i_setI, CS.l_setI, CS.r_setI, CS.a_setI, CS.q_setI, CS.z_setI, CS.i_setL, CS.l_setL, CS.r_setL, CS.a_setL, CS.q_setL, CS.z_setL, CS.i_setR, CS.l_setR, CS.r_setR, CS.a_setR, CS.q_setR, CS.z_setR, CS.i_setA, CS.l_setA, CS.r_setA, CS.a_setA, CS.q_setA, CS.z_setA, CS.i_setQ, CS.l_setQ, CS.r_setQ, CS.a_setQ, CS.q_setQ, CS.z_setQ, CS.i_setF, CS.l_setF, CS.r_setF, CS.a_setF, CS.q_setF, CS.z_setF, CS.i_new, CS.l_new, CS.r_new, CS.a_new, CS.q_new, CS.z_new, Nat.reduceEqDiff, false_and, true_and, and_false, and_true, if_true, if_false, b2_0, b2_1, b2_nn, n0_or, n1_or, n10, n01, dec1, dec2, ob_ok, oe_l, oe_r, gl_ok, gle_ok, gn_s, gv_ok, gv_none, on_none, onSome,u10, u7, G.2.1, hst, e1']
  · rintro i _ hi ⟨g, h, x, rfl, hx, g1, h1, h2, g2⟩
    have G' : RC N (C.vs g h (nI (((A.O s).take i).filter (A.visB r)).length) (nI (rd + 1))) A (rd + 1) := G.vs g1 h1
    unfold m_cVw_gather_B20 m_cVw_gather_J95
    by_cases hin : i < (A.O s).length
    · left
      have hdrop : (A.O s).drop i = (A.O s)[i] :: (A.O s).drop (i + 1) := List.drop_eq_getElem_cons hin
      rw [hdrop, List.map_cons, chn_cons] at hx
      obtain ⟨rfl, hx⟩ := hx
      generalize hoo : (A.O s)[i] = o at *
      have hom : o ∈ A.O s := by rw [← hoo]; exact List.getElem_mem hin
      have ho := ((hO.2.1 o).mp hom).1
      have hosp := ((hO.2.1 o).mp hom).2
      have hop := G.op o ho
      have hact := (hA.2.2.1.1 o ho).2.2.2.2.1
      have hsh := cV_shows G' hA hv.vs ho
      obtain ⟨g', st1, st2⟩ := cV_strike G hA ho (g := g) (h := h) (sz := nI (((A.O s).take i).filter (A.visB r)).length) (v := nI (rd + 1))
      have hts : (A.O s).take (i + 1) = (A.O s).take i ++ [o] := by rw [List.take_succ_eq_append_getElem hin, hoo]
      have hnp : ¬ o ∈ A.pre o := by
        intro hh
        have := ((hA.2.2.1.2.2.2.2.2.2.1 o ho).2.2 o hh).1
        omega
      -- what is hidden has been struck by one that stands before
      have hhid : (∃ p, p ∈ (A.O s).take i ∧ A.inV r p = true ∧ A.act p ≠ 10 ∧ o ∈ A.pre p) ↔ A.hid r o := by
        constructor
        · rintro ⟨p, p1, p2, p3, p4⟩
          exact ⟨p, ((hO.2.1 p).mp (List.mem_of_mem_take p1)).1, p2, p3, p4⟩
        · rintro ⟨p, p1, p2, p3, p4⟩
          refine ⟨p, ?_, p2, p3, p4⟩
          have h5 := (hA.2.2.1.2.2.2.2.2.2.1 p p1).2.2 o p4
          have hpO : p ∈ A.O s := (hO.2.1 p).mpr ⟨p1, by rw [← h5.2.1]; exact hosp⟩
          rw [List.mem_iff_getElem] at hpO
          obtain ⟨w, hw, he⟩ := hpO
          rw [List.mem_take_iff_getElem]
          refine ⟨w, ?_, he⟩
          rcases Nat.lt_or_ge w i with h6 | h6
          · omega
          · exfalso
            rcases Nat.lt_or_ge i w with h7 | h7
            · have := List.pairwise_iff_getElem.mp hO.2.2 i w hin hw h7
              rw [he, hoo] at this
              have := h5.2.2.1
              omega
            · have : w = i := by omega
              subst this
              rw [he] at hoo
              subst hoo
              exact hnp p4
      have hsame : ∀ g'', (∀ j, j < A.n + 1 → ∃ t, t ≤ rd + 1 ∧ g'' j = nI t) → A.visB r o = false → (∀ q, q < A.n → (g'' (q + 1) = nI (rd + 1) ↔ ∃ p, p ∈ (A.O s).take (i + 1) ∧ A.inV r p = true ∧ A.act p ≠ 10 ∧ q ∈ A.pre p)) →
          ∃ g1 h1 x, (C.vs g'' h (nI (((A.O s).take i).filter (A.visB r)).length) (nI (rd + 1)), C.r 3 12 (o + 1)) = (C.vs g1 h1 (nI (((A.O s).take (i + 1)).filter (A.visB r)).length) (nI (rd + 1)), x) ∧ chn (C.r 3 12) x (((A.O s).drop (i + 1)).map (· + 1)) ∧ (∀ j, j < A.n + 1 → ∃ t, t ≤ rd + 1 ∧ g1 j = nI t) ∧ (∀ p y, h1 p = some y → y < A.n + 1) ∧
      (∀ k (hk : k < (((A.O s).take (i + 1)).filter (A.visB r)).length), h1 k = some ((((A.O s).take (i + 1)).filter (A.visB r))[k] + 1)) ∧ ∀ o, o < A.n → (g1 (o + 1) = nI (rd + 1) ↔ ∃ p, p ∈ (A.O s).take (i + 1) ∧ A.inV r p = true ∧ A.act p ≠ 10 ∧ o ∈ A.pre p) := by
        intro g'' q1 q2 q3
        have hf : ((A.O s).take (i + 1)).filter (A.visB r) = ((A.O s).take i).filter (A.visB r) := by
          rw [hts, List.filter_append]
          simp [q2]
        refine ⟨g'', h, C.r 3 12 (o + 1), by rw [hf], hx, q1, h1, ?_, q3⟩
        intro k hk
        simp only [hf] at hk ⊢
        exact h2 k hk
      have hold : (A.inV r o = false ∨ A.act o = 10) → ∀ q, q < A.n → (g (q + 1) = nI (rd + 1) ↔ ∃ p, p ∈ (A.O s).take (i + 1) ∧ A.inV r p = true ∧ A.act p ≠ 10 ∧ q ∈ A.pre p) := by
        intro hno q hq
        rw [g2 q hq, hts]
        constructor
        · rintro ⟨p, p1, p2⟩; exact ⟨p, by simp [p1], p2⟩
        · rintro ⟨p, p1, p2, p3, p4⟩
          rcases List.mem_append.mp p1 with p5 | p5
          · exact ⟨p, p5, p2, p3, p4⟩
          · rw [List.mem_singleton] at p5
            subst p5
            rcases hno with h6 | h6
            · rw [h6] at p2; cases p2
            · exact absurd h6 p3
      simp (disch := omega) only [gd_ok, cl_nI, nI_s, nI_add, nI_leI, nI_ltI, nI_eq, if_pos, if_neg, q0, q1, q2, q3, q4, q5, q6, q7, q8, q9, q10, CS.i_setI, CS.l_setI, CS.r_setI, CS.a_setI, CS.q_setI, CS.z_setI, CS.i_setL, CS.l_setL, CS.r_setL, CS.a_setL, CS.q_setL, CS.z_setL, CS.i_setR, CS.l_setR, CS.r_setR, CS.a_setR, CS.q_setR, CS.z_setR, CS.i_setA, CS.l_setA, CS.r_setA, CS.a_setA, CS.q_setA, CS.z_setA, CS.i_setQ, CS.l_setQ, CS.r_setQ, CS.a_setQ, CS.q_setQ, CS.z_setQ, CS.i_setF, CS.l_setF, CS.r_setF, CS.a_setF, CS.q_setF, CS.z_setF, CS.i_new, CS.l_new, CS.r_new, CS.a_new, CS.q_new, CS.z_new, Nat.reduceEqDiff, false_and, true_and, and_false, and_true, if_true, if_false, b2_0, b2_1, b2_nn, n0_or, n1_or, n10, n01, dec1, dec2, ob_ok, oe_l, oe_r, gl_ok, gle_ok, gn_s, gv_ok, gv_none, on_none, onSome,u3, u10, vs_i, vs_r, hop.2.2.1, hsh, st1]
      by_cases c1 : A.act o = 10
      · rw [if_pos c1]
        exact ⟨_, rfl, hin, hsame g g1 (by unfold AS.visB; simp [c1]) (hold (Or.inr c1))⟩
      · rw [if_neg c1]
        by_cases c2 : A.inV r o = false
        · rw [if_pos c2]
          exact ⟨_, rfl, hin, hsame g g1 (by unfold AS.visB; simp [c2]) (hold (Or.inl c2))⟩
        · rw [if_neg c2]
          have c2' : A.inV r o = true := by simpa using c2
          have gb : ∀ j, j < A.n + 1 → ∃ t, t ≤ rd + 1 ∧ g' j = nI t := by
            intro j hj
            rw [st2 j]
            split
            · exact ⟨rd + 1, by omega, rfl⟩
            · exact g1 j hj
          have gm : ∀ q, q < A.n → (g' (q + 1) = nI (rd + 1) ↔ ∃ p, p ∈ (A.O s).take (i + 1) ∧ A.inV r p = true ∧ A.act p ≠ 10 ∧ q ∈ A.pre p) := by
            intro q hq
            rw [st2 (q + 1), hts]
            split
            · rename_i hh
              obtain ⟨q', q1, q2⟩ := hh
              have : q' = q := by omega
              subst this
              simp only [true_iff]
              exact ⟨o, by simp, c2', c1, q1⟩
            · rename_i hh
              rw [g2 q hq]
              constructor
              · rintro ⟨p, p1, p2⟩; exact ⟨p, by simp [p1], p2⟩
              · rintro ⟨p, p1, p2, p3, p4⟩
                rcases List.mem_append.mp p1 with p5 | p5
                · exact ⟨p, p5, p2, p3, p4⟩
                · rw [List.mem_singleton] at p5
                  subst p5
                  exact absurd ⟨q, p4, rfl⟩ hh
          have hstr : g' (o + 1) = nI (rd + 1) ↔ A.hid r o := by
            rw [st2 (o + 1), if_neg, g2 o ho, hhid]
            rintro ⟨q, q1, q2⟩
            have : q = o := by omega
            subst this
            exact hnp q1
          by_cases c3 : A.act o = 9
          · rw [if_pos c3]
            exact ⟨_, rfl, hin, hsame g' gb (by unfold AS.visB; simp [c3]) gm⟩
          · rw [if_neg c3]
            by_cases c4 : g' (o + 1) = nI (rd + 1)
            · rw [if_pos c4]
              refine ⟨_, rfl, hin, hsame g' gb ?_ gm⟩
              have := hidB_iff.mpr (hstr.mp c4)
              unfold AS.visB
              simp [this]
            · rw [if_neg c4]
              have hvis : A.visB r o = true := visB_iff.mpr ⟨c2', by omega, fun hh => c4 (hstr.mpr hh)⟩
              have hf : ((A.O s).take (i + 1)).filter (A.visB r) = ((A.O s).take i).filter (A.visB r) ++ [o] := by
                rw [hts, List.filter_append]
                simp [hvis]
              have hlt : (((A.O s).take i).filter (A.visB r)).length < 8 := by
                have := hfl (i + 1)
                rw [hf] at this
                simp at this
                omega
              have hz1' : (8 : Nat) = 8 := rfl
              simp (disch := omega) only [gd_ok, cl_nI, nI_s, nI_add, nI_leI, nI_ltI, nI_eq, if_pos, if_neg, q0, q1, q2, q3, q4, q5, q6, q7, q8, q9, q10, CS.i_setI, CS.l_setI, CS.r_setI, CS.a_setI, CS.q_setI, CS.z_setI, CS.i_setL, CS.l_setL, CS.r_setL, CS.a_setL, CS.q_setL, CS.z_setL, CS.i_setR, CS.l_setR, CS.r_setR, CS.a_setR, CS.q_setR, CS.z_setR, CS.i_setA, CS.l_setA, CS.r_setA, CS.a_setA, CS.q_setA, CS.z_setA, CS.i_setQ, CS.l_setQ, CS.r_setQ, CS.a_setQ, CS.q_setQ, CS.z_setQ, CS.i_setF, CS.l_setF, CS.r_setF, CS.a_setF, CS.q_setF, CS.z_setF, CS.i_new, CS.l_new, CS.r_new, CS.a_new, CS.q_new, CS.z_new, Nat.reduceEqDiff, false_and, true_and, and_false, and_true, if_true, if_false, b2_0, b2_1, b2_nn, n0_or, n1_or, n10, n01, dec1, dec2, ob_ok, oe_l, oe_r, gl_ok, gle_ok, gn_s, gv_ok, gv_none, on_none, onSome,vs_i, vs_r, vs_z, s14, u15, hz1, vs_found, vs_size]
              refine ⟨_, rfl, hin, g', updO h (((A.O s).take i).filter (A.visB r)).length (some (o + 1)), C.r 3 12 (o + 1), ?_, hx, gb, ?_, ?_, gm⟩
              · rw [hf]; simp
              · intro p y hp
                unfold updO at hp
                split at hp
                · cases hp; omega
                · exact h1 p y hp
              · intro k hk
                simp only [hf] at hk ⊢
                simp only [List.length_append, List.length_singleton] at hk
                unfold updO
                by_cases e : k = (((A.O s).take i).filter (A.visB r)).length
                · subst e; simp
                · rw [if_neg e, List.getElem_append_left (by omega)]
                  exact h2 k (by omega)
    · right
      rw [List.drop_of_length_le (by omega)] at hx
      have e : x = none := hx
      subst e
      simp only [on_none]
      have hf : ((A.O s).take i).filter (A.visB r) = A.cd r s := by
        rw [List.take_of_length_le (by omega)]
        rfl
      rw [hf]
      refine ⟨_, rfl, g, h, rfl, g1, h1, ?_⟩
      intro k hk
      simp only [hf] at h2
      exact h2 k hk
  · refine ⟨C.i 3 14, C.q 15 1, C.r 7 1 (A.sj s), by simp, l3, ?_, G.2.2.2, ?_, ?_⟩
    · intro j hj
      obtain ⟨t, t1, t2⟩ := G.2.2.1 j hj
      exact ⟨t, by omega, t2⟩
    · intro k hk; simp at hk
    · intro o ho
      obtain ⟨t, t1, t2⟩ := G.2.2.1 (o + 1) (by omega)
      rw [t2]
      constructor
      · intro h
        have := (nI_eq (by omega) (by omega)).mp h
        omega
      · rintro ⟨p, p1, _⟩; simp at p1
end GA
