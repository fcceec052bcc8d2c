/-! SAVED: the reference writes an op, whole. -/
section SVG
variable {S S' : MS} {A : AS} {r p : Nat} {w : List Nat}
theorem opB_len (hA : AI A) {o : Nat} (ho : o < A.n) (hx : (A.str o).length ≤ 24576) : (A.opB o).length ≤ 42 + (A.key o).length + (A.str o).length := by
  have h1 := grp_len3 (n := A.oi (A.obj o)) (by have := oi_lt hA ho; omega)
  have h2 := grp_len3 (n := A.plc o) (by have := plc_lt hA ho; omega)
  have h3 := grp_len (uN (zz (A.num o)))
  have h4 := grp_len3 (n := (A.str o).length) (by omega)
  have hpr := hA.2.2.1.2.2.2.2.2.2.1 o ho
  have h5 := grp_len1 (n := (A.pre o).length) (by omega)
  have hpl : ∀ l : List Nat, (∀ x, x ∈ l → x < A.n) → (l.flatMap (fun p => grp (A.id p))).length ≤ 3 * l.length := by
    intro l
    induction l with
    | nil => intro _; simp
    | cons a l ih =>
      intro h
      have g1 := ih (fun x hx => h x (List.mem_cons_of_mem _ hx))
      have g2 := grp_len3 (n := A.id a) (by have := id_lt hA (h a (by simp)); omega)
      rw [List.flatMap_cons, List.length_append, List.length_cons]
      omega
  have h6 := hpl (A.pre o) (fun x hx => by have := (hpr.2.2 x hx).1; omega)
  have h7 : (if A.kd (A.obj o) = 6 then grp (A.key o).length ++ A.key o else grp (A.plc o)).length ≤ 3 + (A.key o).length := by
    by_cases e : A.kd (A.obj o) = 6
    · rw [if_pos e, List.length_append]
      have hins : A.ins o = 0 := by
        have h01 := (hA.2.2.1.1 o ho).2.2.2.2.2.2
        by_cases e1 : A.ins o = 1
        · exact absurd e (hA.2.2.1.2.2.2.2.1 o ho e1).2.2.2.1
        · omega
      have hk := ((hA.2.2.1.2.2.2.2.2.1 o ho hins).2.2.2.2.2 e).2.1
      have := grp_len1 (n := (A.key o).length) (by omega)
      omega
    · rw [if_neg e]
      omega
  have h8 : (if A.act o = 3 ∨ A.act o = 5 ∨ A.act o = 10 then grp (uN (zz (A.num o))) else if A.act o = 4 then grp (A.str o).length ++ A.str o else []).length ≤ 10 + (A.str o).length := by
    split
    · omega
    · split
      · rw [List.length_append]; omega
      · simp
  unfold AS.opB
  simp only [List.length_append, List.length_singleton]
  omega
theorem q_preds (hR : RS S A) (hA : AI A) {o : Nat} (ho : o < A.n) (hw : WQ S p w) (hl : p + w.length + 1000 ≤ 1000000000) : ∃ S', m_rsaveOp_J203 S (nI o) = some S' ∧ WQ S' p (w ++ (grp (A.pre o).length ++ (A.pre o).flatMap (fun p => grp (A.id p)))) ∧ W5 p S S' := by
  have hnn := hA.1.1
  obtain ⟨t, pa, t1, t2, t3⟩ := hR.2.2.2.1
  obtain ⟨t4, t5, t6, t7⟩ := t3 o ho
  obtain ⟨hlen, hasc, hpm⟩ := hA.2.2.1.2.2.2.2.2.2.1 o ho
  have hids : ∀ i (h : i < (A.pre o).length), 8 ≤ A.id (A.pre o)[i] ∧ A.id (A.pre o)[i] < 40000 ∧ (A.pre o)[i] < A.n := by
    intro i hi
    have h1 := (hpm _ (List.getElem_mem hi)).1
    have h2 : (A.pre o)[i] < A.n := by omega
    exact ⟨(hA.2.2.1.1 _ h2).2.2.1, id_lt hA h2, h2⟩
  have hasc2 : ∀ i j (hi : i < (A.pre o).length) (hj : j < (A.pre o).length), i < j → A.id (A.pre o)[i] < A.id (A.pre o)[j] := by
    intro i j hi hj hij
    exact (List.pairwise_iff_getElem.mp hasc) i j hi hj hij
  have lastI : ∀ x, x ≤ (A.pre o).length → ∃ v, v < 40000 ∧ (∀ k (hk : k < (A.pre o).length), A.id (A.pre o)[k] ≤ v ↔ k < x) ∧ (x = 0 → v = 0) ∧ (∀ (hx : x - 1 < (A.pre o).length), 0 < x → v = A.id (A.pre o)[x - 1]) := by
    intro x hx
    by_cases e : x = 0
    · refine ⟨0, by omega, fun k hk => ?_, fun _ => rfl, fun _ h => by omega⟩
      have := hids k hk
      omega
    · have hx1 : x - 1 < (A.pre o).length := by omega
      refine ⟨A.id (A.pre o)[x - 1], (hids _ hx1).2.1, fun k hk => ?_, fun h => by omega, fun _ _ => rfl⟩
      constructor
      · intro h
        rcases Nat.lt_or_ge k x with h2 | h2
        · exact h2
        · have := hasc2 (x - 1) k hx1 hk (by omega)
          omega
      · intro h
        rcases Nat.lt_or_ge k (x - 1) with h2 | h2
        · have := hasc2 k (x - 1) hk hx1 h2
          omega
        · have e2 : k = x - 1 := by omega
          subst e2
          exact Nat.le_refl _
  -- the inner search
  have hin : ∀ (W : MS), W5 p S W → ∀ x (hx : x < (A.pre o).length) v, v < 40000 → (∀ k (hk : k < (A.pre o).length), A.id (A.pre o)[k] ≤ v ↔ k < x) → m_rsaveOp_L236 W (nI o) (nI v) (nI x) 2147483647 0 = some (W, nI o, nI x, nI (A.id (A.pre o)[x])) := by
    intro W hW x hx v hv hle
    have RW := hW.RS hR
    have := lp_run (body := fun u : MS × Int32 × Int32 × Int32 × Int32 × Int32 => m_rsaveOp_B236 u.1 u.2.1 u.2.2.1 u.2.2.2.1 u.2.2.2.2.1 u.2.2.2.2.2) (fun i u => u = (W, nI o, nI v, nI x, (if x < i then nI (A.id (A.pre o)[x]) else 2147483647), nI i)) (fun e => e = (W, nI o, nI x, nI (A.id (A.pre o)[x]))) (A.pre o).length ?_ FU (W, nI o, nI v, nI x, 2147483647, nI 0) (by unfold FU; omega) (by rw [if_neg (by omega)])
    · obtain ⟨e, h1, rfl⟩ := this
      unfold m_rsaveOp_L236
      exact h1
    · rintro i _ hi rfl
      have e19 : W.a 19 o = nI (A.pre o).length := by rw [hW.aa (by decide)]; exact t5
      by_cases hin : i < (A.pre o).length
      · left
        have e24 : W.a 24 (pa o + i) = nI (A.pre o)[i] := by rw [hW.aa (by decide)]; exact t7 i hin
        have e18 : W.a 18 o = nI (pa o) := by rw [hW.aa (by decide)]; exact t4
        have hpi := hids i hin
        have e8 : W.a 8 (A.pre o)[i] = nI (A.id (A.pre o)[i]) := (RW.2.1 _ hpi.2.2).1
        have hxi := hids x hx
        refine ⟨(W, nI o, nI v, nI x, (if x < i + 1 then nI (A.id (A.pre o)[x]) else 2147483647), nI (i + 1)), ?_, hin, rfl⟩
        show m_rsaveOp_B236 W (nI o) (nI v) (nI x) (if x < i then nI (A.id (A.pre o)[x]) else 2147483647) (nI i) = _
        unfold m_rsaveOp_B236 m_rsaveOp_J285
        rw [gd_ok (by omega) (by omega), cl_nI (by omega), e19, if_neg (nle hin (by omega)), gd_ok (by omega) (by omega), e18, nI_add, gd_ok (by omega) (by omega), cl_nI (by omega), e24, gd_ok (by omega) (by omega), cl_nI (by omega), e8, nI_s]
        by_cases c1 : A.id (A.pre o)[i] ≤ v
        · have hix := (hle i hin).mp c1
          rw [if_pos ((nI_leI (by omega) (by omega)).mpr c1), if_neg (by omega), if_neg (by omega)]
        · have hix : ¬ i < x := fun h => c1 ((hle i hin).mpr h)
          rw [if_neg (fun h => c1 ((nI_leI (by omega) (by omega)).mp h))]
          by_cases c2 : x < i
          · have := hasc2 x i hx hin c2
            rw [if_pos c2, if_pos ((nI_leI (by omega) (by omega)).mpr (by omega)), if_pos (by omega)]
          · have e : i = x := by omega
            subst e
            rw [if_neg c2, if_neg (show ¬ (2147483647 : Int32) ≤ nI (A.id (A.pre o)[i]) from fun h => by have := (nI_leI (a := 2147483647) (by omega) (by omega)).mp h; omega), if_pos (by omega)]
      · right
        refine ⟨(W, nI o, nI x, nI (A.id (A.pre o)[x])), ?_, rfl⟩
        show m_rsaveOp_B236 W (nI o) (nI v) (nI x) (if x < i then nI (A.id (A.pre o)[x]) else 2147483647) (nI i) = _
        unfold m_rsaveOp_B236
        rw [gd_ok (by omega) (by omega), cl_nI (by omega), e19, if_pos ((nI_leI (by omega) (by omega)).mpr (by omega)), if_pos (by omega)]
  obtain ⟨S1, k1, k2, k3⟩ := q_n hw (by omega) (n := (A.pre o).length) (by omega)
  have hg1 := grp_len (A.pre o).length
  have := lp_run (body := fun u : MS × Int32 × Int32 × Int32 => m_rsaveOp_B218 u.1 u.2.1 u.2.2.1 u.2.2.2) (fun i u => ∃ W v, u = (W, nI o, nI v, nI i) ∧ v < 40000 ∧ (∀ k (hk : k < (A.pre o).length), A.id (A.pre o)[k] ≤ v ↔ k < i) ∧ WQ W p (w ++ grp (A.pre o).length ++ ((A.pre o).take i).flatMap (fun p => grp (A.id p))) ∧ W5 p S W ∧ (((A.pre o).take i).flatMap (fun p => grp (A.id p))).length ≤ 10 * i) (fun e => WQ e p (w ++ grp (A.pre o).length ++ (A.pre o).flatMap (fun p => grp (A.id p))) ∧ W5 p S e) (A.pre o).length ?_ FU (S1, nI o, nI 0, nI 0) (by unfold FU; omega) ?_
  · obtain ⟨e, h1, h2, h3⟩ := this
    refine ⟨e, ?_, by rw [← List.append_assoc]; exact h2, h3⟩
    unfold m_rsaveOp_J203 m_rsaveOp_L218
    rw [gd_ok (by omega) (by omega), cl_nI (by omega), t5, k1, ob_ok, show lp (fun a : MS × Int32 × Int32 × Int32 => m_rsaveOp_B218 a.1 a.2.1 a.2.2.1 a.2.2.2) FU (S1, nI o, 0, 0) = _ from h1, ob_ok]
  · rintro i _ hi ⟨W, v, rfl, hv, hle, h1, h2, hln⟩
    have e19 : W.a 19 o = nI (A.pre o).length := by rw [h2.aa (by decide)]; exact t5
    by_cases hlt : i < (A.pre o).length
    · left
      have hpi := hids i hlt
      obtain ⟨S2, m1, m2, m3⟩ := q_n h1 (by simp only [List.length_append]; omega) (n := A.id (A.pre o)[i]) (by omega)
      have hg2 := grp_len (A.id (A.pre o)[i])
      refine ⟨(S2, nI o, nI (A.id (A.pre o)[i]), nI (i + 1)), ?_, hlt, S2, A.id (A.pre o)[i], rfl, hpi.2.1, ?_, ?_, h2.trans m3, ?_⟩
      · show m_rsaveOp_B218 W (nI o) (nI v) (nI i) = _
        unfold m_rsaveOp_B218
        rw [gd_ok (by omega) (by omega), cl_nI (by omega), e19, if_neg (nle hlt (by omega)), hin W h2 i hlt v hv hle, ob_ok]
        simp only []
        rw [m1, ob_ok, nI_s]
      · intro k hk
        constructor
        · intro h
          rcases Nat.lt_or_ge k (i + 1) with h3 | h3
          · exact h3
          · have := hasc2 i k hlt hk (by omega)
            omega
        · intro h
          rcases Nat.lt_or_ge k i with h3 | h3
          · have := hasc2 k i hk hlt h3
            omega
          · have e2 : k = i := by omega
            subst e2
            exact Nat.le_refl _
      · rw [List.take_succ_eq_append_getElem hlt, List.flatMap_append, List.flatMap_cons, List.flatMap_nil, List.append_nil, ← List.append_assoc]
        exact m2
      · rw [List.take_succ_eq_append_getElem hlt, List.flatMap_append, List.flatMap_cons, List.flatMap_nil, List.append_nil, List.length_append]
        omega
    · right
      refine ⟨W, ?_, ?_, h2⟩
      · show m_rsaveOp_B218 W (nI o) (nI v) (nI i) = _
        unfold m_rsaveOp_B218
        rw [gd_ok (by omega) (by omega), cl_nI (by omega), e19, if_pos ((nI_leI (by omega) (by omega)).mpr (by omega))]
      · rw [List.take_of_length_le (by omega)] at h1
        exact h1
  · refine ⟨S1, 0, rfl, by omega, fun k hk => ?_, by simpa using k2, k3, by simp⟩
    have := hids k hk
    omega
end SVG
