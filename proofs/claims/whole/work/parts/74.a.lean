/-! numberOf: what a counter shows. -/
section CNU
variable {N : Nat → Nat} {C C' : CS} {A : AS} {r rd : Nat}
theorem cO_hasPred (G : RC N C A rd) (hA : AI A) {o c : Nat} (ho : o < A.n) (hc : c < A.n) : m_cOp_hasPred N (o + 1) C (c + 1) = some (C, b2 ((A.pre o).contains c)) := by
  obtain ⟨u0, u1, u2, u3, u4, u5, u6, u7, u8, u9, u10, u11, u12, u13, u14, u15, u16, u17, u18⟩ := G.nn
  have hp := G.pr o ho
  have hlen := (hA.2.2.1.2.2.2.2.2.2.1 o ho).1
  have hmem := (hA.2.2.1.2.2.2.2.2.2.1 o ho).2.2
  unfold m_cOp_hasPred m_cOp_hasPred_J0 m_cOp_hasPred_J36
  cases hpo : A.pre o with
  | nil =>
    rw [hpo] at hp
    simp only at hp
    have hB : m_cOp_hasPred_B2 N (o + 1) C (some (c + 1)) (nI 0) = some (.inr (.inl C)) := by
      unfold m_cOp_hasPred_B2
      simp (disch := omega) only [gd_ok, cl_nI, nI_s, nI_add, nI_leI, nI_ltI, nI_eq, if_pos, if_neg, q0, q1, q2, q3, q4, q5, q6, q7, q8, q9, q10, CS.i_setI, CS.l_setI, CS.r_setI, CS.a_setI, CS.q_setI, CS.z_setI, CS.i_setL, CS.l_setL, CS.r_setL, CS.a_setL, CS.q_setL, CS.z_setL, CS.i_setR, CS.l_setR, CS.r_setR, CS.a_setR, CS.q_setR, CS.z_setR, CS.i_setA, CS.l_setA, CS.r_setA, CS.a_setA, CS.q_setA, CS.z_setA, CS.i_setQ, CS.l_setQ, CS.r_setQ, CS.a_setQ, CS.q_setQ, CS.z_setQ, CS.i_setF, CS.l_setF, CS.r_setF, CS.a_setF, CS.q_setF, CS.z_setF, CS.i_new, CS.l_new, CS.r_new, CS.a_new, CS.q_new, CS.z_new, Nat.reduceEqDiff, false_and, true_and, and_false, and_true, if_true, if_false, b2_0, b2_1, b2_nn, n0_or, n1_or, n10, n01, dec1, dec2, ob_ok, oe_l, oe_r, gl_ok, gle_ok, gn_s, gv_ok, gv_none, on_none, onSome,u3, hp]
    have : m_cOp_hasPred_L2 N (o + 1) C (some (c + 1)) (nI 0) = some (.inl C) := by
      unfold m_cOp_hasPred_L2
      show lp _ (999999 + 1) _ = _
      rw [lp]
      simp only [hB]
    rw [q0, this]
    rfl
  | cons a l =>
    rw [hpo] at hp hlen hmem
    obtain ⟨jp, p1, p2, p3, p4, p5⟩ := hp
    have := lp_run (body := fun w : CS × Option Nat × Int32 => m_cOp_hasPred_B2 N (o + 1) w.1 w.2.1 w.2.2) (fun i w => w = (C, some (c + 1), nI i) ∧ c ∉ (a :: l).take i)
      (fun e => e = if (a :: l).contains c then .inr (C, nI 1) else .inl C) (a :: l).length ?_ FU (C, some (c + 1), nI 0) (by unfold FU; omega) ⟨rfl, by simp⟩
    · obtain ⟨e, e1, rfl⟩ := this
      have e1' : m_cOp_hasPred_L2 N (o + 1) C (some (c + 1)) (nI 0) = _ := e1
      rw [q0, e1']
      cases h : (a :: l).contains c with
      | true => rfl
      | false => rfl
    · rintro i _ hi ⟨rfl, hnot⟩
      unfold m_cOp_hasPred_B2
      by_cases hin : i < (a :: l).length
      · have hm := hmem _ (List.getElem_mem hin)
        have h5 := p5 i hin
        simp (disch := omega) only [gd_ok, cl_nI, nI_s, nI_add, nI_leI, nI_ltI, nI_eq, if_pos, if_neg, q0, q1, q2, q3, q4, q5, q6, q7, q8, q9, q10, CS.i_setI, CS.l_setI, CS.r_setI, CS.a_setI, CS.q_setI, CS.z_setI, CS.i_setL, CS.l_setL, CS.r_setL, CS.a_setL, CS.q_setL, CS.z_setL, CS.i_setR, CS.l_setR, CS.r_setR, CS.a_setR, CS.q_setR, CS.z_setR, CS.i_setA, CS.l_setA, CS.r_setA, CS.a_setA, CS.q_setA, CS.z_setA, CS.i_setQ, CS.l_setQ, CS.r_setQ, CS.a_setQ, CS.q_setQ, CS.z_setQ, CS.i_setF, CS.l_setF, CS.r_setF, CS.a_setF, CS.q_setF, CS.z_setF, CS.i_new, CS.l_new, CS.r_new, CS.a_new, CS.q_new, CS.z_new, Nat.reduceEqDiff, false_and, true_and, and_false, and_true, if_true, if_false, b2_0, b2_1, b2_nn, n0_or, n1_or, n10, n01, dec1, dec2, ob_ok, oe_l, oe_r, gl_ok, gle_ok, gn_s, gv_ok, gv_none, on_none, onSome,u3, p3, p4, h5]
        by_cases e : (a :: l)[i] = c
        · right
          rw [if_pos (by rw [e])]
          refine ⟨_, rfl, ?_⟩
          rw [if_pos]
          rw [List.contains_iff_mem, ← e]
          exact List.getElem_mem hin
        · left
          rw [if_neg (fun h => e (by have := Option.some.inj h; omega))]
          refine ⟨_, rfl, hin, rfl, ?_⟩
          rw [List.take_succ_eq_append_getElem hin, List.mem_append]
          rintro (h | h)
          · exact hnot h
          · exact e (List.mem_singleton.mp h).symm
      · right
        simp (disch := omega) only [gd_ok, cl_nI, nI_s, nI_add, nI_leI, nI_ltI, nI_eq, if_pos, if_neg, q0, q1, q2, q3, q4, q5, q6, q7, q8, q9, q10, CS.i_setI, CS.l_setI, CS.r_setI, CS.a_setI, CS.q_setI, CS.z_setI, CS.i_setL, CS.l_setL, CS.r_setL, CS.a_setL, CS.q_setL, CS.z_setL, CS.i_setR, CS.l_setR, CS.r_setR, CS.a_setR, CS.q_setR, CS.z_setR, CS.i_setA, CS.l_setA, CS.r_setA, CS.a_setA, CS.q_setA, CS.z_setA, CS.i_setQ, CS.l_setQ, CS.r_setQ, CS.a_setQ, CS.q_setQ, CS.z_setQ, CS.i_setF, CS.l_setF, CS.r_setF, CS.a_setF, CS.q_setF, CS.z_setF, CS.i_new, CS.l_new, CS.r_new, CS.a_new, CS.q_new, CS.z_new, Nat.reduceEqDiff, false_and, true_and, and_false, and_true, if_true, if_false, b2_0, b2_1, b2_nn, n0_or, n1_or, n10, n01, dec1, dec2, ob_ok, oe_l, oe_r, gl_ok, gle_ok, gn_s, gv_ok, gv_none, on_none, onSome,u3, p3, p4]
        refine ⟨_, rfl, ?_⟩
        rw [List.take_of_length_le (by omega)] at hnot
        rw [if_neg]
        rw [List.contains_iff_mem]
        exact hnot
/-- an add in the view that counts for c -/
def AS.adB (A : AS) (r c o : Nat) : Bool := A.inV r o && decide (A.act o = 10) && (A.pre o).contains c
theorem fold_perm {f : Nat → Int64} {l1 l2 : List Nat} (h : l1.Perm l2) : ∀ v : Int64, l1.foldl (fun v o => v + f o) v = l2.foldl (fun v o => v + f o) v := by
  induction h with
  | nil => intro v; rfl
  | cons x _ ih => intro v; exact ih _
  | swap x y l =>
    intro v
    show l.foldl _ (v + f y + f x) = l.foldl _ (v + f x + f y)
    rw [Int64.add_assoc, Int64.add_comm (f y), ← Int64.add_assoc]
  | trans _ _ ih1 ih2 => intro v; rw [ih1 v, ih2 v]
theorem addT_fold {c : Nat} : ∀ n, addT A r c n = ((List.range n).filter (A.adB r c)).foldl (fun v o => v + A.num o) (A.num c) := by
  intro n
  induction n with
  | zero => rfl
  | succ n ih =>
    rw [addT_s, List.range_succ, List.filter_append, List.foldl_append, ← ih]
    cases h : (A.inV r n && decide (A.act n = 10) && (A.pre n).contains c) with
    | true =>
      rw [if_pos rfl, List.filter_cons_of_pos (show A.adB r c n = true from h), List.filter_nil]
      rfl
    | false =>
      rw [if_neg (by decide), List.filter_cons_of_neg (show ¬ A.adB r c n = true from fun h2 => by
        rw [show A.adB r c n = false from h] at h2
        cases h2), List.filter_nil]
      rfl
theorem ctr_O (hA : AI A) {c : Nat} (hc : c < A.n) : A.ctr r c = ((A.O (A.sp c)).filter (A.adB r c)).foldl (fun v o => v + A.num o) (A.num c) := by
  unfold AS.ctr
  rw [addT_fold]
  refine fold_perm ?_ _
  have hO := hA.2.2.1.2.2.2.2.2.2.2.2.2 (A.sp c)
  refine (List.perm_ext_iff_of_nodup (List.nodup_range.filter _) (hO.1.filter _)).mpr ?_
  intro o
  rw [List.mem_filter, List.mem_filter, List.mem_range, hO.2.1 o]
  constructor
  · rintro ⟨h1, h2⟩
    refine ⟨⟨h1, ?_⟩, h2⟩
    unfold AS.adB at h2
    rw [Bool.and_eq_true, List.contains_iff_mem] at h2
    have := (hA.2.2.1.2.2.2.2.2.2.1 o h1).2.2 c h2.2
    exact this.2.1.symm
  · rintro ⟨⟨h1, _⟩, h2⟩
    exact ⟨h1, h2⟩
theorem cV_numberOf (G : RC N C A rd) (hA : AI A) (hv : VC C A r) {c : Nat} (hc : c < A.n) (hsp : A.sp (A.sp c) = A.sp c) (hs : A.sp c < A.n) : m_cVw_numberOf N 0 C (c + 1) = some (C, if A.act c = 5 then A.ctr r c else A.num c) := by
  obtain ⟨u0, u1, u2, u3, u4, u5, u6, u7, u8, u9, u10, u11, u12, u13, u14, u15, u16, u17, u18⟩ := G.nn
  obtain ⟨s1, s2, s3, s4, s5, s6, s7, s8, s9, s10, s11, s12, s13, s14, s15, s16, s17, s18, s19, s20, s21⟩ := G.st
  have hnn := hA.1.1
  have hop := G.op c hc
  have hact := (hA.2.2.1.1 c hc).2.2.2.2.1
  obtain ⟨l1, l2, l3⟩ := G.ln.1 (A.sp c) hs hsp
  have hO := hA.2.2.1.2.2.2.2.2.2.2.2.2 (A.sp c)
  have hOn : (A.O (A.sp c)).length ≤ A.n := nodup_len A.n _ hO.1 (fun o ho => ((hO.2.1 o).mp ho).1)
  have h11 := hop.2.2.2.2.2.2.2.2.2.2
  have hloop : m_cVw_numberOf_L22 N 0 C (some (c + 1)) (A.num c) (C.r 7 1 (A.sj (A.sp c))) = some (C, A.ctr r c) := by
    rw [ctr_O hA hc]
    have := lp_run (body := fun w : CS × Option Nat × Int64 × Option Nat => m_cVw_numberOf_B22 N 0 w.1 w.2.1 w.2.2.1 w.2.2.2) (fun i w => ∃ x, w = (C, some (c + 1), (((A.O (A.sp c)).take i).filter (A.adB r c)).foldl (fun v o => v + A.num o) (A.num c), x) ∧ chn (C.r 3 12) x (((A.O (A.sp c)).drop i).map (· + 1)))
      (fun e => e = (C, ((A.O (A.sp c)).filter (A.adB r c)).foldl (fun v o => v + A.num o) (A.num c))) (A.O (A.sp c)).length ?_ FU (C, some (c + 1), A.num c, C.r 7 1 (A.sj (A.sp c))) (by unfold FU; omega) ⟨_, rfl, l3⟩
    · obtain ⟨e, h1, rfl⟩ := this
      unfold m_cVw_numberOf_L22
      exact h1
    · rintro i _ hi ⟨x, rfl, hx⟩
      unfold m_cVw_numberOf_B22 m_cVw_numberOf_J63
      by_cases hin : i < (A.O (A.sp c)).length
      · left
        have hdrop : (A.O (A.sp c)).drop i = (A.O (A.sp c))[i] :: (A.O (A.sp c)).drop (i + 1) := List.drop_eq_getElem_cons hin
        rw [hdrop, List.map_cons, chn_cons] at hx
        obtain ⟨rfl, hx⟩ := hx
        have hts : (((A.O (A.sp c)).take (i + 1)).filter (A.adB r c)) = (((A.O (A.sp c)).take i).filter (A.adB r c)) ++ (if A.adB r c (A.O (A.sp c))[i] then [(A.O (A.sp c))[i]] else []) := by
          rw [List.take_succ_eq_append_getElem hin, List.filter_append]
          congr 1
          cases hq : A.adB r c (A.O (A.sp c))[i] <;> simp [hq]
        rw [hts]
        have ho := ((hO.2.1 _).mp (List.getElem_mem hin)).1
        generalize (A.O (A.sp c))[i] = o at *
        generalize (((A.O (A.sp c)).take i).filter (A.adB r c)) = l
        have hoo := G.op o ho
        have hac := (hA.2.2.1.1 o ho).2.2.2.2.1
        have hsh := cV_shows G hA hv ho
        have hhp := cO_hasPred G hA ho hc
        simp (disch := omega) only [gd_ok, cl_nI, nI_s, nI_add, nI_leI, nI_ltI, nI_eq, if_pos, if_neg, q0, q1, q2, q3, q4, q5, q6, q7, q8, q9, q10, CS.i_setI, CS.l_setI, CS.r_setI, CS.a_setI, CS.q_setI, CS.z_setI, CS.i_setL, CS.l_setL, CS.r_setL, CS.a_setL, CS.q_setL, CS.z_setL, CS.i_setR, CS.l_setR, CS.r_setR, CS.a_setR, CS.q_setR, CS.z_setR, CS.i_setA, CS.l_setA, CS.r_setA, CS.a_setA, CS.q_setA, CS.z_setA, CS.i_setQ, CS.l_setQ, CS.r_setQ, CS.a_setQ, CS.q_setQ, CS.z_setQ, CS.i_setF, CS.l_setF, CS.r_setF, CS.a_setF, CS.q_setF, CS.z_setF, CS.i_new, CS.l_new, CS.r_new, CS.a_new, CS.q_new, CS.z_new, Nat.reduceEqDiff, false_and, true_and, and_false, and_true, if_true, if_false, b2_0, b2_1, b2_nn, n0_or, n1_or, n10, n01, dec1, dec2, ob_ok, oe_l, oe_r, gl_ok, gle_ok, gn_s, gv_ok, gv_none, on_none, onSome,u3, u10, hoo.2.2.1, hoo.2.2.2.1, hsh, hhp]
        unfold AS.adB
        by_cases e1 : A.act o = 10
        · rw [if_pos e1]
          by_cases e2 : A.inV r o = false
          · rw [if_pos e2]
            refine ⟨_, rfl, hin, _, ?_, hx⟩
            rw [e2]
            simp
          · rw [if_neg e2]
            have e2' : A.inV r o = true := by simpa using e2
            by_cases e3 : (A.pre o).contains c = false
            · rw [if_pos e3]
              refine ⟨_, rfl, hin, _, ?_, hx⟩
              rw [e3, Bool.and_false, if_neg (by decide), List.append_nil]
            · rw [if_neg e3]
              have e3' : (A.pre o).contains c = true := by simpa using e3
              refine ⟨_, rfl, hin, _, ?_, hx⟩
              rw [e2', e3', decide_eq_true e1, Bool.and_true, Bool.and_true, if_pos rfl, List.foldl_append]
              rfl
        · rw [if_neg e1]
          refine ⟨_, rfl, hin, _, ?_, hx⟩
          rw [decide_eq_false e1, Bool.and_false, Bool.false_and, if_neg (by decide), List.append_nil]
      · right
        rw [List.drop_eq_nil_of_le (by omega)] at hx
        have hxn : x = none := hx
        rw [hxn]
        simp (disch := omega) only [gd_ok, cl_nI, nI_s, nI_add, nI_leI, nI_ltI, nI_eq, if_pos, if_neg, q0, q1, q2, q3, q4, q5, q6, q7, q8, q9, q10, CS.i_setI, CS.l_setI, CS.r_setI, CS.a_setI, CS.q_setI, CS.z_setI, CS.i_setL, CS.l_setL, CS.r_setL, CS.a_setL, CS.q_setL, CS.z_setL, CS.i_setR, CS.l_setR, CS.r_setR, CS.a_setR, CS.q_setR, CS.z_setR, CS.i_setA, CS.l_setA, CS.r_setA, CS.a_setA, CS.q_setA, CS.z_setA, CS.i_setQ, CS.l_setQ, CS.r_setQ, CS.a_setQ, CS.q_setQ, CS.z_setQ, CS.i_setF, CS.l_setF, CS.r_setF, CS.a_setF, CS.q_setF, CS.z_setF, CS.i_new, CS.l_new, CS.r_new, CS.a_new, CS.q_new, CS.z_new, Nat.reduceEqDiff, false_and, true_and, and_false, and_true, if_true, if_false, b2_0, b2_1, b2_nn, n0_or, n1_or, n10, n01, dec1, dec2, ob_ok, oe_l, oe_r, gl_ok, gle_ok, gn_s, gv_ok, gv_none, on_none, onSome]
        rw [List.take_of_length_le (by omega)]
        exact ⟨_, rfl, rfl⟩
  unfold m_cVw_numberOf m_cVw_numberOf_J0 m_cVw_numberOf_J73
  by_cases e : A.act c = 5
  · rw [if_pos e]
    simp (disch := omega) only [gd_ok, cl_nI, nI_s, nI_add, nI_leI, nI_ltI, nI_eq, if_pos, if_neg, q0, q1, q2, q3, q4, q5, q6, q7, q8, q9, q10, CS.i_setI, CS.l_setI, CS.r_setI, CS.a_setI, CS.q_setI, CS.z_setI, CS.i_setL, CS.l_setL, CS.r_setL, CS.a_setL, CS.q_setL, CS.z_setL, CS.i_setR, CS.l_setR, CS.r_setR, CS.a_setR, CS.q_setR, CS.z_setR, CS.i_setA, CS.l_setA, CS.r_setA, CS.a_setA, CS.q_setA, CS.z_setA, CS.i_setQ, CS.l_setQ, CS.r_setQ, CS.a_setQ, CS.q_setQ, CS.z_setQ, CS.i_setF, CS.l_setF, CS.r_setF, CS.a_setF, CS.q_setF, CS.z_setF, CS.i_new, CS.l_new, CS.r_new, CS.a_new, CS.q_new, CS.z_new, Nat.reduceEqDiff, false_and, true_and, and_false, and_true, if_true, if_false, b2_0, b2_1, b2_nn, n0_or, n1_or, n10, n01, dec1, dec2, ob_ok, oe_l, oe_r, gl_ok, gle_ok, gn_s, gv_ok, gv_none, on_none, onSome,u3, u7, hop.2.2.1, hop.2.2.2.1, e, h11, hloop]
  · rw [if_neg e]
    simp (disch := omega) only [gd_ok, cl_nI, nI_s, nI_add, nI_leI, nI_ltI, nI_eq, if_pos, if_neg, q0, q1, q2, q3, q4, q5, q6, q7, q8, q9, q10, CS.i_setI, CS.l_setI, CS.r_setI, CS.a_setI, CS.q_setI, CS.z_setI, CS.i_setL, CS.l_setL, CS.r_setL, CS.a_setL, CS.q_setL, CS.z_setL, CS.i_setR, CS.l_setR, CS.r_setR, CS.a_setR, CS.q_setR, CS.z_setR, CS.i_setA, CS.l_setA, CS.r_setA, CS.a_setA, CS.q_setA, CS.z_setA, CS.i_setQ, CS.l_setQ, CS.r_setQ, CS.a_setQ, CS.q_setQ, CS.z_setQ, CS.i_setF, CS.l_setF, CS.r_setF, CS.a_setF, CS.q_setF, CS.z_setF, CS.i_new, CS.l_new, CS.r_new, CS.a_new, CS.q_new, CS.z_new, Nat.reduceEqDiff, false_and, true_and, and_false, and_true, if_true, if_false, b2_0, b2_1, b2_nn, n0_or, n1_or, n10, n01, dec1, dec2, ob_ok, oe_l, oe_r, gl_ok, gle_ok, gn_s, gv_ok, gv_none, on_none, onSome,u3, hop.2.2.1, hop.2.2.2.1]
end CNU
