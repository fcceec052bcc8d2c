/-! SAVED: the reference writes an op, from its start. -/
section SVH
variable {S S' : MS} {A : AS} {r p : Nat} {w : List Nat}
theorem q_val (hR : RS S A) (hA : AI A) {o : Nat} (ho : o < A.n) (hw : WQ S p w) (hl : p + w.length + 30000 ≤ 1000000000) : ∃ S', m_rsaveOp_J106 S (nI o) = m_rsaveOp_J203 S' (nI o) ∧ WQ S' p (w ++ (if A.act o = 3 ∨ A.act o = 5 ∨ A.act o = 10 then grp (uN (zz (A.num o))) else if A.act o = 4 then grp (A.str o).length ++ A.str o else [])) ∧ W5 p S S' := by
  have hnn := hA.1.1
  have hkn := hA.1.2.2.1
  have hop := hR.2.1 o ho
  have htx := hR.2.2.1 o ho
  have hac := (hA.2.2.1.1 o ho).2.2.2.2.1
  have h11 : S.a 11 o = nI (A.act o) := hop.2.2.2.1
  have hne : ∀ {q : Nat}, q < 100 → A.act o ≠ q → ¬ nI (A.act o) = nI q := fun hq h e => h ((nI_eq (by omega) (by omega)).mp e)
  have hlong : ∃ S', m_rsaveOp_J137 S (nI o) = m_rsaveOp_J147 S' (nI o) ∧ WQ S' p (w ++ grp (uN (zz (A.num o)))) ∧ W5 p S S' := by
    obtain ⟨S', k1, k2, k3⟩ := q_num hw (by omega) (zz (A.num o))
    refine ⟨S', ?_, k2, k3⟩
    unfold m_rsaveOp_J137 m_rlong2 m_rlong2_J0 m_rlong2_J22
    rw [gd_ok (by omega) (by omega), cl_nI (by omega), hop.2.2.2.2.2.2.2.2]
    unfold zz at k1
    by_cases c : 0 ≤ lg_cmp (A.num o) 0
    · rw [if_pos c] at k1 ⊢
      rw [k1, ob_ok, ob_ok]
    · rw [if_neg c] at k1 ⊢
      rw [k1, ob_ok, ob_ok]
  have hJ147 : ∀ W : MS, W5 p S W → A.act o ≠ 4 → m_rsaveOp_J147 W (nI o) = m_rsaveOp_J203 W (nI o) := by
    intro W hW h4
    unfold m_rsaveOp_J147
    rw [gd_ok (by omega) (by omega), cl_nI (by omega), hW.aa (by decide), h11, if_neg (show ¬ nI (A.act o) = 4 from hne (q := 4) (by omega) h4)]
  unfold m_rsaveOp_J106
  rw [gd_ok (by omega) (by omega), cl_nI (by omega), h11, gd_ok (by omega) (by omega), gd_ok (by omega) (by omega)]
  by_cases hL : A.act o = 3 ∨ A.act o = 5 ∨ A.act o = 10
  · obtain ⟨S', k1, k2, k3⟩ := hlong
    rw [if_pos hL]
    refine ⟨S', ?_, k2, k3⟩
    rw [← hJ147 S' k3 (by omega), ← k1]
    rcases hL with h | h | h
    · rw [if_pos (show nI (A.act o) = 3 by rw [h]; rfl)]
    · rw [if_neg (show ¬ nI (A.act o) = 3 by rw [h]; decide), if_pos (show nI (A.act o) = 5 by rw [h]; rfl)]
    · rw [if_neg (show ¬ nI (A.act o) = 3 by rw [h]; decide), if_neg (show ¬ nI (A.act o) = 5 by rw [h]; decide), if_pos (show nI (A.act o) = 10 by rw [h]; rfl)]
  · rw [if_neg hL, if_neg (show ¬ nI (A.act o) = 3 from hne (q := 3) (by omega) (by omega)), if_neg (show ¬ nI (A.act o) = 5 from hne (q := 5) (by omega) (by omega)), if_neg (show ¬ nI (A.act o) = 10 from hne (q := 10) (by omega) (by omega))]
    by_cases h4 : A.act o = 4
    · rw [if_pos h4]
      obtain ⟨S1, k1, k2, k3⟩ := q_n hw (by omega) (n := (A.str o).length) (by omega)
      have hg := grp_len (A.str o).length
      have h26 : ∀ i (h : i < (A.str o).length), (A.str o)[i] < 256 ∧ S1.a 26 (A.ba o + (A.key o).length + i) = sb (A.str o)[i] := by
        intro i hi
        rw [k3.aa (by decide)]
        exact htx.2.2.2.2.2.2.2 i hi
      obtain ⟨S2, m1, m2, m3⟩ := q_kept k2 h26 (by omega) (by simp only [List.length_append]; omega) (body := fun v : MS × Int32 × Int32 => m_rsaveOp_B170 v.1 v.2.1 v.2.2) (fun W x => (W, nI o, x)) (fun W => (W, nI o))
        (by
          intro W q hW hq
          have hW2 := k3.trans hW
          have hne : A.str o ≠ [] := by intro e; rw [e] at hq; cases hq
          show m_rsaveOp_B170 W (nI o) (nI q) = _
          unfold m_rsaveOp_B170
          rw [gd_ok (by omega) (by omega), cl_nI (by omega), hW2.aa (by decide), htx.2.2.2.1, if_neg (nle hq (by omega)), gd_ok (by omega) (by omega), hW2.aa (by decide), htx.2.2.1 hne, nI_add, gd_ok (by omega) (by omega), cl_nI (by omega), hW2.aa (by decide), (htx.2.2.2.2.2.2.2 q hq).2, nI_s])
        (by
          intro W hW
          have hW2 := k3.trans hW
          show m_rsaveOp_B170 W (nI o) (nI (A.str o).length) = _
          unfold m_rsaveOp_B170
          rw [gd_ok (by omega) (by omega), cl_nI (by omega), hW2.aa (by decide), htx.2.2.2.1, if_pos (Int32.le_refl _)])
      refine ⟨S2, ?_, by rw [← List.append_assoc]; exact m2, k3.trans m3⟩
      unfold m_rsaveOp_J147 m_rsaveOp_L170
      rw [gd_ok (by omega) (by omega), cl_nI (by omega), h11, if_pos (show nI (A.act o) = 4 by rw [h4]; rfl), gd_ok (by omega) (by omega), htx.2.2.2.1, k1, ob_ok, show lp (fun a : MS × Int32 × Int32 => m_rsaveOp_B170 a.1 a.2.1 a.2.2) FU (S1, nI o, 0) = _ from m1, ob_ok]
    · rw [if_neg h4, List.append_nil]
      exact ⟨S, hJ147 S W5.refl h4, hw, W5.refl⟩
theorem q_op (hR : RS S A) (hA : AI A) {o : Nat} (ho : o < A.n) (hw : WQ S p w) (hl : p + w.length + 100000 ≤ 1000000000) : ∃ S', m_rsaveOp S (nI o) = some S' ∧ WQ S' p (w ++ A.opB o) ∧ W5 p S S' := by
  have hnn := hA.1.1
  have hkn := hA.1.2.2.1
  have hop := rop hR hA o ho
  have htx := hR.2.2.1 o ho
  have hio := hA.2.2.1.1 o ho
  have hoi := oi_lt hA ho
  have hpc := plc_lt hA ho
  have hkey := key_nil hA ho
  obtain ⟨S1, k1, k2, k3⟩ := q_n hw (by omega) (n := A.oi (A.obj o)) (by omega)
  have g1 := grp_len (A.oi (A.obj o))
  obtain ⟨S2, m1, m2, m3⟩ := q_b k2 (by simp only [List.length_append]; omega) (b := A.act o + 16 * A.ins o) (by omega)
  have x2 := k3.trans m3
  have hplace : ∃ S3, (gd (nI o) 4000 ((if S2.a 15 o ≤ 0 then gd (nI o) 4000 (ob (m_rgroup S2 ((S2.a 10 o).toInt64)) (fun o_6 => m_rsaveOp_J106 o_6 (nI o))) else gd (nI o) 4000 (ob (m_rgroup S2 ((S2.a 15 o).toInt64)) (fun o_9 => ob (m_rsaveOp_L59 o_9 (nI o) 0) (fun b_11 => m_rsaveOp_J106 b_11.1 b_11.2)))))) = m_rsaveOp_J106 S3 (nI o) ∧ WQ S3 p (w ++ grp (A.oi (A.obj o)) ++ [A.act o + 16 * A.ins o] ++ (if A.kd (A.obj o) = 6 then grp (A.key o).length ++ A.key o else grp (A.plc o))) ∧ W5 p S2 S3 := by
    rw [gd_ok (by omega) (by omega), x2.aa (by decide), htx.2.1, gd_ok (by omega) (by omega), gd_ok (by omega) (by omega), x2.aa (by decide), hop.2.2.1]
    by_cases h6 : A.kd (A.obj o) = 6
    · have hk0 : A.key o ≠ [] := fun h => hkey.mp h h6
      have hkpos : 0 < (A.key o).length := List.length_pos_iff.mpr hk0
      rw [if_neg (fun h => by have := (nI_leI (b := 0) (by omega) (by omega)).mp h; omega), if_pos h6]
      obtain ⟨S3, n1, n2, n3⟩ := q_n m2 (by simp only [List.length_append, List.length_singleton]; omega) (n := (A.key o).length) (by omega)
      have g3 := grp_len (A.key o).length
      have x3 := x2.trans n3
      have h26 : ∀ i (h : i < (A.key o).length), (A.key o)[i] < 256 ∧ S3.a 26 (A.ba o + i) = sb (A.key o)[i] := by
        intro i hi
        rw [x3.aa (by decide)]
        exact htx.2.2.2.2.2.2.1 i hi
      obtain ⟨S4, l1, l2, l3⟩ := q_kept n2 h26 (by omega) (by simp only [List.length_append, List.length_singleton]; omega) (body := fun v : MS × Int32 × Int32 => m_rsaveOp_B59 v.1 v.2.1 v.2.2) (fun W x => (W, nI o, x)) (fun W => (W, nI o))
        (by
          intro W q hW hq
          have hW2 := x3.trans hW
          show m_rsaveOp_B59 W (nI o) (nI q) = _
          unfold m_rsaveOp_B59
          rw [gd_ok (by omega) (by omega), cl_nI (by omega), hW2.aa (by decide), htx.2.1, if_neg (nle hq (by omega)), gd_ok (by omega) (by omega), hW2.aa (by decide), htx.1 hk0, nI_add, gd_ok (by omega) (by omega), cl_nI (by omega), hW2.aa (by decide), (htx.2.2.2.2.2.2.1 q hq).2, nI_s])
        (by
          intro W hW
          have hW2 := x3.trans hW
          show m_rsaveOp_B59 W (nI o) (nI (A.key o).length) = _
          unfold m_rsaveOp_B59
          rw [gd_ok (by omega) (by omega), cl_nI (by omega), hW2.aa (by decide), htx.2.1, if_pos (Int32.le_refl _)])
      refine ⟨S4, ?_, by rw [← List.append_assoc]; exact l2, n3.trans l3⟩
      unfold m_rsaveOp_L59
      rw [n1, ob_ok, show lp (fun a : MS × Int32 × Int32 => m_rsaveOp_B59 a.1 a.2.1 a.2.2) FU (S3, nI o, 0) = _ from l1, ob_ok]
    · have hk0 : A.key o = [] := hkey.mpr h6
      rw [hk0, if_pos (show nI ([] : List Nat).length ≤ 0 by decide), if_neg h6]
      obtain ⟨S3, n1, n2, n3⟩ := q_n m2 (by simp only [List.length_append, List.length_singleton]; omega) (n := A.plc o) (by omega)
      exact ⟨S3, by rw [n1, ob_ok], n2, n3⟩
  obtain ⟨S3, n1, n2, n3⟩ := hplace
  have x3 := x2.trans n3
  have hlen7 : (w ++ grp (A.oi (A.obj o)) ++ [A.act o + 16 * A.ins o] ++ (if A.kd (A.obj o) = 6 then grp (A.key o).length ++ A.key o else grp (A.plc o))).length ≤ w.length + 24620 := by
    have g3 := grp_len (A.key o).length
    have g4 := grp_len (A.plc o)
    simp only [List.length_append, List.length_singleton]
    split
    · rw [List.length_append]; omega
    · omega
  obtain ⟨S4, l1, l2, l3⟩ := q_val (x3.RS hR) hA ho n2 (by omega)
  have x4 := x3.trans l3
  obtain ⟨S5, p1, p2, p3⟩ := q_preds (x4.RS hR) hA ho l2 (by
    have g3 := grp_len (A.str o).length
    have g4 := grp_len (uN (zz (A.num o)))
    rw [List.length_append]
    have : (if A.act o = 3 ∨ A.act o = 5 ∨ A.act o = 10 then grp (uN (zz (A.num o))) else if A.act o = 4 then grp (A.str o).length ++ A.str o else []).length ≤ 24600 := by
      split
      · omega
      · split
        · rw [List.length_append]; omega
        · simp
    omega)
  refine ⟨S5, ?_, ?_, x4.trans p3⟩
  · unfold m_rsaveOp m_rsaveOp_J0
    rw [gd_ok (by omega) (by omega), cl_nI (by omega), hop.2.1, k1, ob_ok, gd_ok (by omega) (by omega), gd_ok (by omega) (by omega), k3.aa (by decide), k3.aa (by decide), hop.2.2.2.2.2.2.1, hop.2.2.2.1]
    have hJ : ∀ z : Int32, nI (A.act o) + z = nI (A.act o + 16 * A.ins o) → m_rsaveOp_J33 S1 (nI o) z (nI (A.act o)) = some S5 := by
      intro z hz
      unfold m_rsaveOp_J33
      rw [hz, m1, ob_ok, cl_nI (by omega), n1, l1, p1]
    by_cases hi : A.ins o = 0
    · rw [hi, if_pos (show nI 0 = 0 from rfl)]
      exact hJ 0 (by rw [hi]; exact nI_add _ 0)
    · have hi1 : A.ins o = 1 := by omega
      rw [hi1, if_neg (show ¬ nI 1 = 0 by decide)]
      exact hJ 16 (by rw [hi1]; exact nI_add _ 16)
  · unfold AS.opB
    simp only [List.append_assoc] at p2 ⊢
    exact p2
end SVH
