section CACT
variable {S S' : MS} {A : AS} {r : Nat} {bf : List Nat}
/-- is there a counter among the candidates -/
theorem pS_actL {cs : List Nat} (h47 : S.i 47 = nI cs.length) (h46 : rowN (S.a 46) cs) (h8 : cs.length ≤ 8) (hc : ∀ c, c ∈ cs → c < 4000 ∧ S.a 11 c = nI (A.act c) ∧ A.act c ≤ 10) (y1 y2 y3 y4 : Int32) (y5 : Int64) (v0 : Bool) :
    m_ract_L47 S y1 y2 y3 y4 y5 (b2 v0) (nI 0) = some (S, y1, y2, y3, y4, y5, b2 (v0 || cs.any (fun c => decide (A.act c = 5)))) := by
  have := lp_run (body := fun a : MS × Int32 × Int32 × Int32 × Int32 × Int64 × Int32 × Int32 => m_ract_B47 a.1 a.2.1 a.2.2.1 a.2.2.2.1 a.2.2.2.2.1 a.2.2.2.2.2.1 a.2.2.2.2.2.2.1 a.2.2.2.2.2.2.2) (fun i a => a = (S, y1, y2, y3, y4, y5, b2 (v0 || (cs.take i).any (fun c => decide (A.act c = 5))), nI i))
    (fun e => e = (S, y1, y2, y3, y4, y5, b2 (v0 || cs.any (fun c => decide (A.act c = 5))))) cs.length ?_ FU (S, y1, y2, y3, y4, y5, b2 v0, nI 0) (by unfold FU; omega) (by simp)
  · obtain ⟨e, h1, rfl⟩ := this
    unfold m_ract_L47
    exact h1
  · rintro i _ hi rfl
    unfold m_ract_B47
    by_cases hin : i < cs.length
    · left
      have hm := hc _ (List.getElem_mem hin)
      have h6 := h46 i hin
      have hts : (v0 || (cs.take (i + 1)).any (fun c => decide (A.act c = 5))) = ((v0 || (cs.take i).any (fun c => decide (A.act c = 5))) || decide (A.act cs[i] = 5)) := by
        rw [List.take_succ_eq_append_getElem hin, List.any_append]
        simp [Bool.or_assoc]
      have hm1 := hm.1
      have hm3 := hm.2.2
      show ∃ a', (if S.i 47 ≤ nI i then _ else _) = _ ∧ _
      rw [h47, if_neg (fun h => absurd ((nI_leI (by omega) (by omega)).mp h) (by omega))]
      rw [hts]
      generalize (v0 || (cs.take i).any (fun c => decide (A.act c = 5))) = v
      cases v with
      | true =>
        refine ⟨_, ?_, hin, rfl⟩
        show (if b2 true = 0 then _ else _) = _
        rw [if_neg (show ¬ b2 true = 0 by decide)]
        unfold m_ract_J77 m_ract_J82
        simp (disch := omega) only [gd_ok, cl_nI, nI_s, nI_add, nI_leI, nI_ltI, nI_eq, if_pos, if_neg, q0, q1, q2, q3, q4, q5, q6, q7, q8, q9, q10, MS.i_setI, MS.a_setI, MS.n_setI, MS.i_setA, MS.a_setA, MS.n_setA, MS.i_setN, MS.a_setN, MS.n_setN, ↓reduceIte, Nat.reduceEqDiff, b2_0, b2_1, b2_nn, n0_or, n1_or, n10, n01, dec1, dec2, ob_ok, oe_l, oe_r]
        rw [Bool.true_or]
        rfl
      | false =>
        refine ⟨_, ?_, hin, rfl⟩
        show (if b2 false = 0 then _ else _) = _
        rw [if_pos (show b2 false = 0 by decide)]
        unfold m_ract_J77 m_ract_J82
        by_cases e : A.act cs[i] = 5
        · simp (disch := omega) only [gd_ok, cl_nI, nI_s, nI_add, nI_leI, nI_ltI, nI_eq, if_pos, if_neg, q0, q1, q2, q3, q4, q5, q6, q7, q8, q9, q10, MS.i_setI, MS.a_setI, MS.n_setI, MS.i_setA, MS.a_setA, MS.n_setA, MS.i_setN, MS.a_setN, MS.n_setN, ↓reduceIte, Nat.reduceEqDiff, b2_0, b2_1, b2_nn, n0_or, n1_or, n10, n01, dec1, dec2, ob_ok, oe_l, oe_r,h6, hm.2.1, e]
          rw [show (false || decide True) = true from rfl]
          rfl
        · simp (disch := omega) only [gd_ok, cl_nI, nI_s, nI_add, nI_leI, nI_ltI, nI_eq, if_pos, if_neg, q0, q1, q2, q3, q4, q5, q6, q7, q8, q9, q10, MS.i_setI, MS.a_setI, MS.n_setI, MS.i_setA, MS.a_setA, MS.n_setA, MS.i_setN, MS.a_setN, MS.n_setN, ↓reduceIte, Nat.reduceEqDiff, b2_0, b2_1, b2_nn, n0_or, n1_or, n10, n01, dec1, dec2, ob_ok, oe_l, oe_r,h6, hm.2.1]
          rw [decide_eq_false e, Bool.false_or]
          rfl
    · right
      refine ⟨_, ?_, rfl⟩
      show (if S.i 47 ≤ nI i then _ else _) = _
      rw [h47, if_pos ((nI_leI (by omega) (by omega)).mpr (by omega)), List.take_of_length_le (by omega)]
/-- a new op on a place with candidates in it: erase and add -/
theorem pS_actE (hR : RS S A) (hA : AI A) (hr : r < 8) {x : Option Nat} (hx : A.oV r x) {s act : Nat} {num : Int64} (hsm : s ∈ A.fl r x) (hact : act = 9 ∨ act = 10) (hn : A.n < 4000) (h47 : S.i 47 = nI (A.cd r s).length) (h46 : rowN (S.a 46) (A.cd r s)) (h5 : S.i 5 = nI bf.length) (hbb : byts S 2 0 bf) (hb8 : bf.length ≤ 8192) {x3 : Int32}
    (hpl : (x3 = -nI 1 ∧ A.kd x = 6 ∧ A.key s = bf ∧ A.kn + bf.length ≤ 24576) ∨ (nI 0 ≤ x3 ∧ A.kd x ≠ 6 ∧ S.i 52 = nI (A.id s))) {Lx Os : List Nat} :
    ∃ S6, ob (m_rmake S (nI r) (nI (A.oi x)) (nI act) num) (fun o_4 => (if nI act = 10 then m_ract_J174 o_4.1 x3 o_4.2 1 o_4.2 else m_ract_J174 o_4.1 x3 o_4.2 0 o_4.2)) = some (S6, nI (8 * (A.tp r + 1) + r)) ∧
      RS S6 (A.mk r x act num 0 none s (A.key s) ((A.cd r s).reverse.filter (fun c => !decide (act = 10) || decide (A.act c = 5))) (if A.kd x = 6 then 0 else A.id s) Lx Os) ∧ frS S S6 ∧ S6.i 0 = S.i 0 := by
  have hsfl := hsm
  unfold AS.fl at hsfl
  rw [List.mem_filter] at hsfl
  have hsL := L_mem hA hsfl.1
  have hcl := cd_len hA (r := r) (s := s)
  obtain ⟨S2, m1, m2, m3, m4, m5, m6⟩ := pS_make hR hA hr (oV_ltn hx) (act := act) (by omega) hn (num := num) (par := none) (s := s) (Lx := Lx) (Os := Os)
  obtain ⟨t, pa, t1, t2, _⟩ := hR.2.2.2.1
  obtain ⟨f3, g3, v3, n1, n2⟩ := pS_follows (cf := decide (act = 10)) (cs := A.cd r s) m2 hn (t := t) (by rw [m3 25 (by decide)]; exact t1) (by rw [m6]; exact t1) t2 (by
    intro i hi
    rw [m4 46 (mkA_not (by omega))]
    exact h46 i hi) (by rw [m3 47 (by decide)]; exact h47) (fun c hc => ((cd_mem hA).mp hc).1) hcl (fun c hc => (hA.2.2.1.1 c ((cd_mem hA).mp hc).1).2.2.2.2.1)
  have hi3 : ∀ j, j ≠ 23 → j ≠ 25 → (((S2.setA 24 f3).setA 19 g3).setI 25 v3).i j = S.i j := by
    intro j a1 a2
    rw [MS.i_setI, if_neg a2, MS.i_setA, MS.i_setA, m3 j a1]
  have ha3 : ∀ k, k = 1 ∨ k = 2 ∨ k = 3 ∨ k = 40 → (((S2.setA 24 f3).setA 19 g3).setI 25 v3).a k = S.a k := by
    intro k hk
    rw [MS.a_setI, MS.a_setA, if_neg (by omega), MS.a_setA, if_neg (by omega), m4 k (mkA_not (by omega))]
  generalize ((S2.setA 24 f3).setA 19 g3).setI 25 v3 = S3 at n1 n2 hi3 ha3
  have hm : ob (m_rmake S (nI r) (nI (A.oi x)) (nI act) num) (fun o_4 => (if nI act = 10 then m_ract_J174 o_4.1 x3 o_4.2 1 o_4.2 else m_ract_J174 o_4.1 x3 o_4.2 0 o_4.2)) = (if 0 ≤ x3 then gd (nI A.n) 4000 (m_ract_J226 (S3.setA 10 (upd (S3.a 10) (nI A.n).toNatClampNeg (S3.i 52))) (nI A.n)) else ob (m_rkeep S3 2 0 (S3.i 5)) (fun o_5 => gd (nI A.n) 4000 (gd (nI A.n) 4000 (m_ract_J226 ((o_5.1.setA 14 (upd (o_5.1.a 14) (nI A.n).toNatClampNeg o_5.2)).setA 15 (upd (o_5.1.a 15) (nI A.n).toNatClampNeg (o_5.1.i 5))) (nI A.n))))) := by
    rw [m1]
    simp only [ob_ok]
    unfold m_ract_J174
    rcases hact with rfl | rfl
    · rw [if_neg (show ¬ nI 9 = 10 by decide)]
      rw [show m_rfollows S2 (nI A.n) 0 = some S3 from n1]
      rfl
    · rw [if_pos (show nI 10 = 10 by decide)]
      rw [show m_rfollows S2 (nI A.n) 1 = some S3 from n1]
      rfl
  rw [hm]
  have hidv : ∀ {S6 : MS} {k : List Nat} {pre : List Nat} {pl : Nat}, RS S6 (A.mk r x act num 0 none s k pre pl Lx Os) → S6.a 8 A.n = nI (8 * (A.tp r + 1) + r) := by
    intro S6 k pre pl h
    have := (h.2.1 A.n (by show A.n < A.n + 1; omega)).1
    rw [mk_id, if_pos rfl] at this
    exact this
  rcases hpl with ⟨hx3, hkd, hkey, hkn⟩ | ⟨hx3, hkd, h52⟩
  · rw [hx3, if_neg (show ¬ (0 : Int32) ≤ -nI 1 by decide), if_pos hkd, hkey]
    obtain ⟨f4, k1, k2, k3⟩ := pS_keep (S := S3) (b := 2) (p := 0) (k := bf) (kn := A.kn) (by omega) (byts_fr hbb (ha3 2 (by omega))) (by omega) (by rw [hi3 27 (by decide) (by decide)]; exact hR.1.2.2) (by omega)
    have hR4 := RS_key hA n2 (k := bf) (f := f4) (fun i hi => ⟨(hbb i hi).1, k2 i hi⟩) k3
    have h53 : S3.i 5 = nI bf.length := by rw [hi3 5 (by decide) (by decide)]; exact h5
    have hid := hidv hR4
    refine ⟨_, ?_, hR4, ⟨?_, ?_⟩, ?_⟩
    · rw [h53, show m_rkeep S3 2 0 (nI bf.length) = _ from k1]
      unfold m_ract_J226
      have hid' := hid
      simp only [MS.i_setI, MS.a_setI, MS.n_setI, MS.i_setA, MS.a_setA, MS.n_setA, MS.i_setN, MS.a_setN, MS.n_setN, Nat.reduceEqDiff, if_false] at hid'
      simp (disch := omega) only [gd_ok, cl_nI, nI_s, nI_add, nI_leI, nI_ltI, nI_eq, if_pos, if_neg, q0, q1, q2, q3, q4, q5, q6, q7, q8, q9, q10, MS.i_setI, MS.a_setI, MS.n_setI, MS.i_setA, MS.a_setA, MS.n_setA, MS.i_setN, MS.a_setN, MS.n_setN, ↓reduceIte, Nat.reduceEqDiff, b2_0, b2_1, b2_nn, n0_or, n1_or, n10, n01, dec1, dec2, ob_ok, oe_l, oe_r,h53, hid']
    · intro j hj
      rw [MS.i_setA, MS.i_setA, MS.i_setI, if_neg (by omega), MS.i_setA, hi3 j (by omega) (by omega)]
    · intro k hk
      rw [MS.a_setA, if_neg (by omega), MS.a_setA, if_neg (by omega), MS.a_setI, MS.a_setA, if_neg (by omega), ha3 k hk]
    · rw [MS.i_setA, MS.i_setA, MS.i_setI, if_neg (by decide), MS.i_setA, hi3 0 (by decide) (by decide)]
  · have hkey : A.key s = [] := (key_nil hA hsL.1).mpr (by rw [hsL.2.1]; exact hkd)
    rw [if_pos (show (0 : Int32) ≤ x3 from hx3), if_neg hkd, hkey]
    have h523 : S3.i 52 = nI (A.id s) := by rw [hi3 52 (by decide) (by decide)]; exact h52
    have hR4 := RS_pl (v := A.id s) n2
    have hid := hidv hR4
    refine ⟨_, ?_, hR4, ⟨?_, ?_⟩, ?_⟩
    · unfold m_ract_J226
      have hid' := hid
      simp only [MS.i_setI, MS.a_setI, MS.n_setI, MS.i_setA, MS.a_setA, MS.n_setA, MS.i_setN, MS.a_setN, MS.n_setN, Nat.reduceEqDiff, if_false] at hid'
      simp (disch := omega) only [gd_ok, cl_nI, nI_s, nI_add, nI_leI, nI_ltI, nI_eq, if_pos, if_neg, q0, q1, q2, q3, q4, q5, q6, q7, q8, q9, q10, MS.i_setI, MS.a_setI, MS.n_setI, MS.i_setA, MS.a_setA, MS.n_setA, MS.i_setN, MS.a_setN, MS.n_setN, ↓reduceIte, Nat.reduceEqDiff, b2_0, b2_1, b2_nn, n0_or, n1_or, n10, n01, dec1, dec2, ob_ok, oe_l, oe_r,h523, hid']
    · intro j hj
      rw [MS.i_setA, hi3 j (by omega) (by omega)]
    · intro k hk
      rw [MS.a_setA, if_neg (by omega), ha3 k hk]
    · rw [MS.i_setA, hi3 0 (by decide) (by decide)]
end CACT
