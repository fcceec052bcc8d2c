/-! SAVED: the reference writes a change. -/
section SVI
variable {S S' : MS} {A : AS} {r p : Nat} {w : List Nat}
theorem flatMap_filter {q : Nat → Bool} {g : Nat → List Nat} : ∀ {l : List Nat}, l.flatMap (fun d => if q d = true then g d else []) = (l.filter q).flatMap g := by
  intro l
  induction l with
  | nil => rfl
  | cons a l ih =>
    rw [List.flatMap_cons, ih]
    by_cases e : q a = true
    · rw [if_pos e, List.filter_cons_of_pos e, List.flatMap_cons]
    · rw [if_neg e, List.filter_cons_of_neg e, List.nil_append]
theorem range_s {α : Type} {g : Nat → List α} {n : Nat} : (List.range (n + 1)).flatMap g = (List.range n).flatMap g ++ g n := by
  rw [List.range_succ, List.flatMap_append, List.flatMap_cons, List.flatMap_nil, List.append_nil]
/-- bytes of a dependence -/
def dpB (A : AS) (c d : Nat) : List Nat := if A.dp c d = true then grp (A.ca d) ++ grp (A.cu d) else []
theorem dpB_len {c d : Nat} : (dpB A c d).length ≤ 20 := by
  unfold dpB
  have h1 := grp_len (A.ca d)
  have h2 := grp_len (A.cu d)
  split
  · rw [List.length_append]; omega
  · simp
theorem cdl_B (hA : AI A) {c : Nat} : (A.cdl c).flatMap (fun d => grp (A.ca d) ++ grp (A.cu d)) = (List.range 8).flatMap (fun a => (List.range (A.hv a a)).flatMap (fun k => dpB A c (A.ch a (k + 1)))) := by
  unfold AS.cdl
  rw [← flatMap_filter]
  unfold AS.chs
  rw [List.flatMap_assoc]
  congr 1
  funext a
  rw [List.flatMap_map]
  rfl
theorem q_dep (hR : RS S A) (hA : AI A) {c d : Nat} (hc : c < A.m) (hd : d < A.m) (hw : WQ S p w) (hl : p + w.length + 100 ≤ 1000000000) : ∃ S', m_rsaveChange_L69 S (nI c) (nI (A.ca d)) (nI (A.cu d)) (nI d) 0 = some (S', nI c, nI (A.ca d), nI (A.cu d)) ∧ WQ S' p (w ++ dpB A c d) ∧ W5 p S S' := by
  have hm := hA.1.2.1
  obtain ⟨t, da, dl, t1, t2, t3⟩ := hR.2.2.2.2.2.2.1
  obtain ⟨t4, t5, t6, t7, t8, t9⟩ := t3 c hc
  have hcu := cu_le hA hd
  have hca := (hA.2.1.1 d hd).1
  obtain ⟨l, hl0⟩ : ∃ l, l = dl c := ⟨_, rfl⟩
  rw [← hl0] at t5 t6 t7 t8 t9
  have hll : l.length ≤ 8000 := by omega
  have hdB : dpB A c d = if d ∈ l then grp (A.ca d) ++ grp (A.cu d) else [] := by
    unfold dpB
    by_cases e : A.dp c d = true
    · rw [if_pos e, if_pos ((t8 d).mpr e)]
    · rw [if_neg e, if_neg (fun h => e ((t8 d).mp h))]
  have g1 := grp_len (A.ca d)
  have g2 := grp_len (A.cu d)
  have := lp_run (body := fun u : MS × Int32 × Int32 × Int32 × Int32 × Int32 => m_rsaveChange_B69 u.1 u.2.1 u.2.2.1 u.2.2.2.1 u.2.2.2.2.1 u.2.2.2.2.2) (fun i u => ∃ W, u = (W, nI c, nI (A.ca d), nI (A.cu d), nI d, nI i) ∧ WQ W p (w ++ (if d ∈ l.take i then grp (A.ca d) ++ grp (A.cu d) else [])) ∧ W5 p S W) (fun e => ∃ W, e = (W, nI c, nI (A.ca d), nI (A.cu d)) ∧ WQ W p (w ++ dpB A c d) ∧ W5 p S W) l.length ?_ FU (S, nI c, nI (A.ca d), nI (A.cu d), nI d, nI 0) (by unfold FU; omega) ⟨S, rfl, by simpa using hw, W5.refl⟩
  · obtain ⟨e, h1, W, rfl, h2, h3⟩ := this
    refine ⟨W, ?_, h2, h3⟩
    unfold m_rsaveChange_L69
    exact h1
  · rintro i _ hi ⟨W, rfl, h1, h2⟩
    have e32 : W.a 32 c = nI l.length := by rw [h2.aa (by decide)]; exact t5
    by_cases hin : i < l.length
    · left
      have e31 : W.a 31 c = nI (da c) := by rw [h2.aa (by decide)]; exact t4
      have e33 : W.a 33 (da c + i) = nI l[i] := by rw [h2.aa (by decide)]; exact t9 i hin
      have hlm := (hA.2.1.2.2.2.2.2.2.1 c l[i] hc ((t8 _).mp (List.getElem_mem hin))).2.1
      have hB : m_rsaveChange_B69 W (nI c) (nI (A.ca d)) (nI (A.cu d)) (nI d) (nI i) = (if nI l[i] = nI d then ob (m_rgroup W (nI (A.ca d)).toInt64) (fun o_6 => ob (m_rgroup o_6 (nI (A.cu d)).toInt64) (fun o_8 => m_rsaveChange_J114 o_8 (nI c) (nI (A.ca d)) (nI (A.cu d)) (nI d) (nI i))) else m_rsaveChange_J114 W (nI c) (nI (A.ca d)) (nI (A.cu d)) (nI d) (nI i)) := by
        unfold m_rsaveChange_B69
        rw [gd_ok (by omega) (by omega), cl_nI (by omega), e32, if_neg (nle hin (by omega)), gd_ok (by omega) (by omega), e31, nI_add, gd_ok (by omega) (by omega), cl_nI (by omega), e33]
      by_cases e : l[i] = d
      · have hno : d ∉ l.take i := by
          intro h
          obtain ⟨j, hj, hjd⟩ := List.mem_iff_getElem.mp h
          rw [List.length_take] at hj
          rw [List.getElem_take] at hjd
          have := (List.pairwise_iff_getElem.mp t7) j i (by omega) hin (by omega)
          exact this (hjd.trans e.symm)
        rw [if_neg hno, List.append_nil] at h1
        obtain ⟨S1, k1, k2, k3⟩ := q_n h1 (by omega) (n := A.ca d) (by omega)
        obtain ⟨S2, m1, m2, m3⟩ := q_n k2 (by rw [List.length_append]; omega) (n := A.cu d) (by omega)
        refine ⟨(S2, nI c, nI (A.ca d), nI (A.cu d), nI d, nI (i + 1)), ?_, hin, S2, rfl, ?_, (h2.trans k3).trans m3⟩
        · show m_rsaveChange_B69 W (nI c) (nI (A.ca d)) (nI (A.cu d)) (nI d) (nI i) = _
          rw [hB, e, if_pos rfl, k1, ob_ok, m1, ob_ok]
          unfold m_rsaveChange_J114
          rw [nI_s]
        · rw [List.take_succ_eq_append_getElem hin, e, if_pos (by simp), ← List.append_assoc]
          exact m2
      · refine ⟨(W, nI c, nI (A.ca d), nI (A.cu d), nI d, nI (i + 1)), ?_, hin, W, rfl, ?_, h2⟩
        · show m_rsaveChange_B69 W (nI c) (nI (A.ca d)) (nI (A.cu d)) (nI d) (nI i) = _
          rw [hB, if_neg (fun h => e ((nI_eq (by omega) (by omega)).mp h))]
          unfold m_rsaveChange_J114
          rw [nI_s]
        · have hiff : d ∈ l.take (i + 1) ↔ d ∈ l.take i := by
            rw [List.take_succ_eq_append_getElem hin, List.mem_append, List.mem_singleton]
            constructor
            · rintro (h | h)
              · exact h
              · exact absurd h.symm e
            · exact Or.inl
          by_cases e2 : d ∈ l.take i
          · rw [if_pos (hiff.mpr e2)]
            rw [if_pos e2] at h1
            exact h1
          · rw [if_neg (fun h => e2 (hiff.mp h))]
            rw [if_neg e2] at h1
            exact h1
    · right
      refine ⟨(W, nI c, nI (A.ca d), nI (A.cu d)), ?_, W, rfl, ?_, h2⟩
      · show m_rsaveChange_B69 W (nI c) (nI (A.ca d)) (nI (A.cu d)) (nI d) (nI i) = _
        unfold m_rsaveChange_B69
        rw [gd_ok (by omega) (by omega), cl_nI (by omega), e32, show i = l.length by omega, if_pos (Int32.le_refl _)]
      · rw [List.take_of_length_le (by omega)] at h1
        rw [hdB]
        exact h1
theorem fm_len {g : Nat → List Nat} {b : Nat} (hg : ∀ i, (g i).length ≤ b) : ∀ n, ((List.range n).flatMap g).length ≤ b * n := by
  intro n
  induction n with
  | zero => simp
  | succ n ih =>
    rw [range_s, List.length_append]
    have := hg n
    rw [Nat.mul_succ]
    omega
theorem q_actor (hR : RS S A) (hA : AI A) {c a : Nat} (hc : c < A.m) (ha : a < 8) (hw : WQ S p w) (hl : p + w.length + 100000 ≤ 1000000000) : ∃ S', m_rsaveChange_L43 S (nI c) (nI a) 1 = some (S', nI c, nI a) ∧ WQ S' p (w ++ (List.range (A.hv a a)).flatMap (fun k => dpB A c (A.ch a (k + 1)))) ∧ W5 p S S' := by
  have hm := hA.1.2.1
  have hvm := hv_m hA a
  have := lp_run (body := fun u : MS × Int32 × Int32 × Int32 => m_rsaveChange_B43 u.1 u.2.1 u.2.2.1 u.2.2.2) (fun i u => ∃ W, u = (W, nI c, nI a, nI (i + 1)) ∧ i ≤ A.hv a a ∧ WQ W p (w ++ (List.range i).flatMap (fun k => dpB A c (A.ch a (k + 1)))) ∧ W5 p S W) (fun e => ∃ W, e = (W, nI c, nI a) ∧ WQ W p (w ++ (List.range (A.hv a a)).flatMap (fun k => dpB A c (A.ch a (k + 1)))) ∧ W5 p S W) (A.hv a a) ?_ FU (S, nI c, nI a, nI 1) (by unfold FU; omega) ⟨S, rfl, by omega, by simpa using hw, W5.refl⟩
  · obtain ⟨e, h1, W, rfl, h2, h3⟩ := this
    refine ⟨W, ?_, h2, h3⟩
    unfold m_rsaveChange_L43
    exact h1
  · rintro i _ hi ⟨W, rfl, hi2, h1, h2⟩
    have hlen := fm_len (g := fun k => dpB A c (A.ch a (k + 1))) (b := 20) (fun _ => dpB_len) i
    have RW := h2.RS hR
    by_cases hin : i < A.hv a a
    · left
      obtain ⟨d, d1, d2, d3, d4, d5⟩ := fc_some hA (a := a) (k := i + 1) (by omega) (by omega)
      obtain ⟨S1, k1, k2, k3⟩ := q_dep RW hA hc d3 h1 (by rw [List.length_append]; omega)
      rw [d4, d5] at k1
      refine ⟨(S1, nI c, nI a, nI (i + 1 + 1)), ?_, hin, S1, rfl, by omega, ?_, h2.trans k3⟩
      · show m_rsaveChange_B43 W (nI c) (nI a) (nI (i + 1)) = _
        unfold m_rsaveChange_B43
        rw [if_neg (show ¬ (1000 : Int32) < nI (i + 1) from fun h => by have := (nI_ltI (a := 1000) (by omega) (by omega)).mp h; omega), pS_find RW hA ha, d1, ob_ok]
        simp only []
        rw [show cI (some d) = nI d from rfl, if_pos (show (0 : Int32) ≤ nI d from (nI_leI (a := 0) (by omega) (by omega)).mpr (Nat.zero_le _)), k1, ob_ok]
        simp only []
        rw [nI_s]
      · rw [range_s, ← List.append_assoc, d2]
        exact k2
    · right
      have e : i = A.hv a a := by omega
      refine ⟨(W, nI c, nI a), ?_, W, rfl, by rw [← e]; exact h1, h2⟩
      show m_rsaveChange_B43 W (nI c) (nI a) (nI (i + 1)) = _
      unfold m_rsaveChange_B43
      by_cases c1 : 1000 < i + 1
      · rw [if_pos (show (1000 : Int32) < nI (i + 1) from (nI_ltI (a := 1000) (by omega) (by omega)).mpr c1)]
      · rw [if_neg (show ¬ (1000 : Int32) < nI (i + 1) from fun h => c1 ((nI_ltI (a := 1000) (by omega) (by omega)).mp h)), pS_find RW hA ha, fc_no hA (by omega) (by omega), ob_ok]
        simp only []
        rw [show cI none = -1 from rfl, if_neg (show ¬ (0 : Int32) ≤ -1 by decide)]
theorem q_deps (hR : RS S A) (hA : AI A) {c : Nat} (hc : c < A.m) (hw : WQ S p w) (hl : p + w.length + 1000000 ≤ 1000000000) : ∃ S', m_rsaveChange_L35 S (nI c) 0 = some (S', nI c) ∧ WQ S' p (w ++ (A.cdl c).flatMap (fun d => grp (A.ca d) ++ grp (A.cu d))) ∧ W5 p S S' := by
  have hm := hA.1.2.1
  rw [cdl_B hA]
  have hga : ∀ a, ((List.range (A.hv a a)).flatMap (fun k => dpB A c (A.ch a (k + 1)))).length ≤ 20000 := by
    intro a
    have hvm := hv_m hA a
    have := fm_len (g := fun k => dpB A c (A.ch a (k + 1))) (b := 20) (fun _ => dpB_len) (A.hv a a)
    omega
  have := lp_run (body := fun u : MS × Int32 × Int32 => m_rsaveChange_B35 u.1 u.2.1 u.2.2) (fun i u => ∃ W, u = (W, nI c, nI i) ∧ WQ W p (w ++ (List.range i).flatMap (fun a => (List.range (A.hv a a)).flatMap (fun k => dpB A c (A.ch a (k + 1))))) ∧ W5 p S W) (fun e => ∃ W, e = (W, nI c) ∧ WQ W p (w ++ (List.range 8).flatMap (fun a => (List.range (A.hv a a)).flatMap (fun k => dpB A c (A.ch a (k + 1))))) ∧ W5 p S W) 8 ?_ FU (S, nI c, nI 0) (by unfold FU; omega) ⟨S, rfl, by simpa using hw, W5.refl⟩
  · obtain ⟨e, h1, W, rfl, h2, h3⟩ := this
    refine ⟨W, ?_, h2, h3⟩
    unfold m_rsaveChange_L35
    exact h1
  · rintro i _ hi ⟨W, rfl, h1, h2⟩
    have hlen := fm_len (b := 20000) hga i
    by_cases hin : i < 8
    · left
      obtain ⟨S1, k1, k2, k3⟩ := q_actor (h2.RS hR) hA hc hin h1 (by rw [List.length_append]; omega)
      refine ⟨(S1, nI c, nI (i + 1)), ?_, hin, S1, rfl, ?_, h2.trans k3⟩
      · show m_rsaveChange_B35 W (nI c) (nI i) = _
        unfold m_rsaveChange_B35 m_rsaveChange_J126
        rw [if_neg (show ¬ (8 : Int32) ≤ nI i from fun h => by have := (nI_leI (a := 8) (by omega) (by omega)).mp h; omega), k1, ob_ok]
        simp only []
        rw [nI_s]
      · rw [range_s, ← List.append_assoc]
        exact k2
    · right
      refine ⟨(W, nI c), ?_, W, rfl, by rw [show i = 8 by omega] at h1; exact h1, h2⟩
      show m_rsaveChange_B35 W (nI c) (nI i) = _
      unfold m_rsaveChange_B35
      rw [show i = 8 by omega, if_pos (show (8 : Int32) ≤ nI 8 by decide)]
end SVI
