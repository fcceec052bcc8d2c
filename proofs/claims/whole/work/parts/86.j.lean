/-! SAVED: the reference writes a change, whole. -/
/-- an op of the change -/
def AS.oq (A : AS) (c o : Nat) : Bool := decide (A.gone o = 0) && decide (A.chg o = some c)
section SVJ
variable {S S' : MS} {A : AS} {r p : Nat} {w : List Nat}
theorem oq_iff (hA : AI A) {c o : Nat} (ho : o < A.n) : A.oq c o = true ↔ A.chg o = some c := by
  unfold AS.oq
  simp only [Bool.and_eq_true, decide_eq_true_eq]
  constructor
  · exact fun h => h.2
  · intro h
    have h1 := hA.2.2.1.2.2.1 o ho
    rw [h] at h1
    exact ⟨h1.2.1, h⟩
theorem oq_cnt (hA : AI A) {c : Nat} (hc : c < A.m) : cntTo (A.oq c) A.n = A.cz c := by
  apply Nat.le_antisymm
  · have := cnt_inj (p := A.oq c) (m := A.cz c) (fun o => A.id o / 8 - A.cf c) (n := A.n) (q := fun _ => true) ?_ ?_
    · rw [cntTo_all] at this; exact this
    · intro o ho hq
      have h1 := hA.2.2.2.1.2.2.2.2.1 o c ho ((oq_iff hA ho).mp hq)
      exact ⟨by omega, rfl⟩
    · intro o q ho hq h1 h2 he
      have e1 := (oq_iff hA ho).mp h1
      have e2 := (oq_iff hA hq).mp h2
      have g1 := hA.2.2.2.1.2.2.2.2.1 o c ho e1
      have g2 := hA.2.2.2.1.2.2.2.2.1 q c hq e2
      have k1 := hA.2.2.1.2.2.1 o ho
      have k2 := hA.2.2.1.2.2.1 q hq
      rw [e1] at k1
      rw [e2] at k2
      have i1 := hA.2.2.1.1 o ho
      have i2 := hA.2.2.1.1 q hq
      have a1 := k1.2.2.1
      have a2 := k2.2.2.1
      have he : A.id o / 8 - A.cf c = A.id q / 8 - A.cf c := he
      exact hA.2.2.1.2.1 o q ho hq k1.2.1 k2.2.1 (by omega)
  · have := cnt_inj (p := fun _ => true) (m := A.n) (fun t => A.opI (8 * (A.cf c + t) + A.ca c)) (n := A.cz c) (q := A.oq c) ?_ ?_
    · rw [cntTo_all] at this; exact this
    · intro t ht _
      obtain ⟨o, o1, o2, o3, o4, o5⟩ := cops_at hA hc ht
      have he : A.opI (8 * (A.cf c + t) + A.ca c) = o := o1
      show A.opI (8 * (A.cf c + t) + A.ca c) < A.n ∧ A.oq c (A.opI (8 * (A.cf c + t) + A.ca c)) = true
      rw [he]
      exact ⟨o2, (oq_iff hA o2).mpr o4⟩
    · intro t u ht hu _ _ he
      obtain ⟨o, o1, o2, o3, o4, o5⟩ := cops_at hA hc ht
      obtain ⟨q, q1, q2, q3, q4, q5⟩ := cops_at hA hc hu
      have he : A.opI (8 * (A.cf c + t) + A.ca c) = A.opI (8 * (A.cf c + u) + A.ca c) := he
      rw [o1, q1] at he
      rw [he, q5] at o5
      omega
theorem chg_cI (hA : AI A) {c o : Nat} (hc : c < A.m) (ho : o < A.n) : A.chg o = some c ↔ cI (A.chg o) = nI c := by
  have hm := hA.1.2.1
  cases hx : A.chg o with
  | none =>
    constructor
    · intro h; cases h
    · intro h
      have h3 : (-1 : Int32) < 0 := by decide
      rw [show (-1 : Int32) = nI c from h] at h3
      exact absurd h3 (nI_pos (by omega))
  | some d =>
    have hdm := chg_lt hA ho hx
    constructor
    · intro h; rw [Option.some.inj h]; rfl
    · intro h; rw [(nI_eq (by omega) (by omega)).mp h]
theorem q_count (hR : RS S A) (hA : AI A) {c : Nat} (hc : c < A.m) : m_rsaveChange_L141 S (nI c) 0 2147483647 0 = some (S, nI c, nI (A.cz c), nI (A.cf c)) := by
  have hnn := hA.1.1
  have hm := hA.1.2.1
  have htop := hA.2.2.2.1.2.2.2.1 c hc
  have := lp_run (body := fun u : MS × Int32 × Int32 × Int32 × Int32 => m_rsaveChange_B141 u.1 u.2.1 u.2.2.1 u.2.2.2.1 u.2.2.2.2) (fun i u => ∃ v, u = (S, nI c, nI (cntTo (A.oq c) i), nI v, nI i) ∧ v ≤ 2147483647 ∧ (∀ o, o < i → A.oq c o = true → v ≤ A.id o / 8) ∧ (v = 2147483647 ∨ ∃ o, o < i ∧ A.oq c o = true ∧ A.id o / 8 = v)) (fun e => e = (S, nI c, nI (A.cz c), nI (A.cf c))) A.n ?_ FU (S, nI c, 0, 2147483647, nI 0) (by unfold FU; omega) ⟨2147483647, rfl, by omega, fun o ho => by omega, Or.inl rfl⟩
  · obtain ⟨e, h1, rfl⟩ := this
    unfold m_rsaveChange_L141
    exact h1
  · rintro i _ hi ⟨v, rfl, hv, h1, h2⟩
    by_cases hin : i < A.n
    · left
      have hop := hR.2.1 i hin
      have hidl := id_lt hA hin
      have hcg := chg_cI hA hc hin
      have hg : A.gone i ≤ 1 := (hA.2.2.1.1 i hin).2.2.2.2.2.1
      have hB : m_rsaveChange_B141 S (nI c) (nI (cntTo (A.oq c) i)) (nI v) (nI i) = (if A.oq c i = true then m_rsaveChange_J192 S (nI c) (nI (cntTo (A.oq c) i + 1)) (if nI (A.id i / 8) < nI v then nI (A.id i / 8) else nI v) (nI i) else m_rsaveChange_J192 S (nI c) (nI (cntTo (A.oq c) i)) (nI v) (nI i)) := by
        unfold m_rsaveChange_B141
        rw [hR.1.1, if_neg (nle hin (by omega)), gd_ok (by omega) (by omega), cl_nI (by omega), hop.2.2.2.2.2.2.2.1, gd_ok (by omega) (by omega), hop.2.2.2.2.2.1, gd_ok (by omega) (by omega), hop.1, q8, pk_div (by omega) (by omega) (by omega), nI_s]
        have hoq : A.oq c i = (decide (A.gone i = 0) && decide (A.chg i = some c)) := rfl
        by_cases e1 : A.gone i = 0
        · by_cases e2 : A.chg i = some c
          · have ht : A.oq c i = true := by rw [hoq, e1, e2]; simp
            rw [e1, if_pos (show nI 0 = 0 from rfl), if_pos (hcg.mp e2), if_pos ht]
          · have ht : ¬ A.oq c i = true := by rw [hoq]; simp [e2]
            rw [e1, if_pos (show nI 0 = 0 from rfl), if_neg (fun h => e2 (hcg.mpr h)), if_neg ht]
        · have ht : ¬ A.oq c i = true := by rw [hoq]; simp [e1]
          rw [if_neg (show ¬ nI (A.gone i) = 0 from fun h => e1 ((nI_eq (b := 0) (by omega) (by omega)).mp h)), if_neg ht]
      have hcs : cntTo (A.oq c) (i + 1) = cntTo (A.oq c) i + (if A.oq c i = true then 1 else 0) := by
        rw [cntTo]
      by_cases e : A.oq c i = true
      · rw [if_pos e] at hB hcs
        by_cases c2 : A.id i / 8 < v
        · refine ⟨(S, nI c, nI (cntTo (A.oq c) (i + 1)), nI (A.id i / 8), nI (i + 1)), ?_, hin, A.id i / 8, rfl, by omega, ?_, Or.inr ⟨i, by omega, e, rfl⟩⟩
          · show m_rsaveChange_B141 S (nI c) (nI (cntTo (A.oq c) i)) (nI v) (nI i) = _
            rw [hB, if_pos ((nI_ltI (by omega) (by omega)).mpr c2), hcs]
            unfold m_rsaveChange_J192
            rw [nI_s]
          · intro o ho hq
            by_cases e3 : o = i
            · rw [e3]; exact Nat.le_refl _
            · have := h1 o (by omega) hq
              omega
        · refine ⟨(S, nI c, nI (cntTo (A.oq c) (i + 1)), nI v, nI (i + 1)), ?_, hin, v, rfl, hv, ?_, ?_⟩
          · show m_rsaveChange_B141 S (nI c) (nI (cntTo (A.oq c) i)) (nI v) (nI i) = _
            rw [hB, if_neg (fun h => c2 ((nI_ltI (by omega) (by omega)).mp h)), hcs]
            unfold m_rsaveChange_J192
            rw [nI_s]
          · intro o ho hq
            by_cases e3 : o = i
            · rw [e3]; omega
            · exact h1 o (by omega) hq
          · rcases h2 with h | ⟨o, o1, o2, o3⟩
            · exact Or.inl h
            · exact Or.inr ⟨o, by omega, o2, o3⟩
      · rw [if_neg e] at hB hcs
        refine ⟨(S, nI c, nI (cntTo (A.oq c) (i + 1)), nI v, nI (i + 1)), ?_, hin, v, rfl, hv, ?_, ?_⟩
        · show m_rsaveChange_B141 S (nI c) (nI (cntTo (A.oq c) i)) (nI v) (nI i) = _
          rw [hB, hcs]
          unfold m_rsaveChange_J192
          rw [nI_s]
          rfl
        · intro o ho hq
          by_cases e3 : o = i
          · rw [e3] at hq; exact absurd hq e
          · exact h1 o (by omega) hq
        · rcases h2 with h | ⟨o, o1, o2, o3⟩
          · exact Or.inl h
          · exact Or.inr ⟨o, by omega, o2, o3⟩
    · right
      have e : i = A.n := by omega
      subst e
      refine ⟨(S, nI c, nI (A.cz c), nI (A.cf c)), ?_, rfl⟩
      show m_rsaveChange_B141 S (nI c) (nI (cntTo (A.oq c) A.n)) (nI v) (nI A.n) = _
      unfold m_rsaveChange_B141
      obtain ⟨o, o1, o2, o3⟩ := hA.2.2.2.1.2.2.2.2.2.1 c (A.cf c) hc (Nat.le_refl _) (by omega)
      have hv1 := h1 o o1 ((oq_iff hA o1).mpr o2)
      have hve : v = A.cf c := by
        rcases h2 with h | ⟨q, q1, q2, q3⟩
        · have := (hA.2.2.1.1 o o1).2.2.2.1
          omega
        · have := (hA.2.2.2.1.2.2.2.2.1 q c q1 ((oq_iff hA q1).mp q2)).1
          omega
      rw [hR.1.1, if_pos (Int32.le_refl _), oq_cnt hA hc, hve]
theorem q_ops (hR : RS S A) (hA : AI A) {c : Nat} (hc : c < A.m) (hw : WQ S p w) (hl : p + w.length + 200000000 ≤ 1000000000) : ∃ S', m_rsaveChange_L213 S (nI c) 0 = some S' ∧ WQ S' p (w ++ (A.cops c).flatMap A.opB) ∧ W5 p S S' := by
  have hnn := hA.1.1
  have hm := hA.1.2.1
  obtain ⟨od, d1, d2, d3, d4, d5⟩ := hR.2.2.2.2.1
  have hcops : od.filter (A.oq c) = A.cops c := by
    apply srt_uniq A.id
    · have h2 : od.Pairwise (fun a b => A.id a ≤ A.id b ∧ a ≠ b) := d5.and d3
      refine List.Pairwise.imp_of_mem ?_ (List.Pairwise.filter (A.oq c) h2)
      intro a b ha hb hab
      rw [List.mem_filter] at ha hb
      have ha1 := (d4 a).mp ha.1
      have hb1 := (d4 b).mp hb.1
      have ga : A.gone a = 0 := by
        have := ha.2
        unfold AS.oq at this
        simp only [Bool.and_eq_true, decide_eq_true_eq] at this
        exact this.1
      have gb : A.gone b = 0 := by
        have := hb.2
        unfold AS.oq at this
        simp only [Bool.and_eq_true, decide_eq_true_eq] at this
        exact this.1
      rcases Nat.lt_or_eq_of_le hab.1 with h | h
      · exact h
      · exact absurd (hA.2.2.1.2.1 a b ha1 hb1 ga gb h) hab.2
    · exact cops_srt hA hc
    · intro o
      rw [List.mem_filter, cops_mem hA hc, d4]
      constructor
      · rintro ⟨h1, h2⟩
        exact ⟨h1, (oq_iff hA h1).mp h2⟩
      · rintro ⟨h1, h2⟩
        exact ⟨h1, (oq_iff hA h1).mpr h2⟩
  rw [← hcops, ← flatMap_filter]
  have hlen : ∀ l : List Nat, (∀ o, o ∈ l → o < A.n) → (l.flatMap (fun o => if A.oq c o = true then A.opB o else [])).length ≤ 25000 * l.length := by
    intro l
    induction l with
    | nil => intro _; simp
    | cons a l ih =>
      intro h
      have g1 := ih (fun x hx => h x (List.mem_cons_of_mem _ hx))
      have htx := (hR.2.2.1 a (h a (by simp))).2.2.2.2.2.1
      have hkn := hA.1.2.2.1
      have g2 := opB_len hA (h a (by simp)) (by omega)
      rw [List.flatMap_cons, List.length_append, List.length_cons]
      by_cases e : A.oq c a = true
      · rw [if_pos e]; omega
      · rw [if_neg e, List.length_nil]; omega
  have := lp_run (body := fun u : MS × Int32 × Int32 => m_rsaveChange_B213 u.1 u.2.1 u.2.2) (fun i u => ∃ W, u = (W, nI c, nI i) ∧ WQ W p (w ++ (od.take i).flatMap (fun o => if A.oq c o = true then A.opB o else [])) ∧ W5 p S W) (fun e => WQ e p (w ++ od.flatMap (fun o => if A.oq c o = true then A.opB o else [])) ∧ W5 p S e) od.length ?_ FU (S, nI c, nI 0) (by unfold FU; omega) ⟨S, rfl, by simpa using hw, W5.refl⟩
  · obtain ⟨e, h1, h2, h3⟩ := this
    refine ⟨e, ?_, h2, h3⟩
    unfold m_rsaveChange_L213
    exact h1
  · rintro i _ hi ⟨W, rfl, h1, h2⟩
    have RW := h2.RS hR
    by_cases hin : i < od.length
    · left
      have hon : od[i] < A.n := (d4 _).mp (List.getElem_mem hin)
      have hop := RW.2.1 _ hon
      have e28 : W.a 28 i = nI od[i] := by rw [h2.aa (by decide)]; exact d2 i hin
      have hcg := chg_cI hA hc hon
      have hg : A.gone od[i] ≤ 1 := (hA.2.2.1.1 _ hon).2.2.2.2.2.1
      have hB : m_rsaveChange_B213 W (nI c) (nI i) = (if A.oq c od[i] = true then ob (m_rsaveOp W (nI od[i])) (fun o_9 => m_rsaveChange_J264 o_9 (nI c) (nI i)) else m_rsaveChange_J264 W (nI c) (nI i)) := by
        unfold m_rsaveChange_B213
        rw [RW.1.1, if_neg (nle (show i < A.n by omega) (by omega)), gd_ok (by omega) (by omega), cl_nI (by omega), e28, gd_ok (by omega) (by omega), cl_nI (by omega), hop.2.2.2.2.2.2.2.1, gd_ok (by omega) (by omega), gd_ok (by omega) (by omega), hop.2.2.2.2.2.1, gd_ok (by omega) (by omega)]
        have hoq : A.oq c od[i] = (decide (A.gone od[i] = 0) && decide (A.chg od[i] = some c)) := rfl
        by_cases e1 : A.gone od[i] = 0
        · by_cases e2 : A.chg od[i] = some c
          · have ht : A.oq c od[i] = true := by rw [hoq, e1, e2]; simp
            rw [e1, if_pos (show nI 0 = 0 from rfl), if_pos (hcg.mp e2), if_pos ht]
          · have ht : ¬ A.oq c od[i] = true := by rw [hoq]; simp [e2]
            rw [e1, if_pos (show nI 0 = 0 from rfl), if_neg (fun h => e2 (hcg.mpr h)), if_neg ht]
        · have ht : ¬ A.oq c od[i] = true := by rw [hoq]; simp [e1]
          rw [if_neg (show ¬ nI (A.gone od[i]) = 0 from fun h => e1 ((nI_eq (b := 0) (by omega) (by omega)).mp h)), if_neg ht]
      have hts : (od.take (i + 1)).flatMap (fun o => if A.oq c o = true then A.opB o else []) = (od.take i).flatMap (fun o => if A.oq c o = true then A.opB o else []) ++ (if A.oq c od[i] = true then A.opB od[i] else []) := by
        rw [List.take_succ_eq_append_getElem hin, List.flatMap_append, List.flatMap_cons, List.flatMap_nil, List.append_nil]
      have hl2 := hlen (od.take i) (fun o ho => (d4 o).mp (List.mem_of_mem_take ho))
      rw [List.length_take] at hl2
      by_cases e : A.oq c od[i] = true
      · rw [if_pos e] at hB hts
        obtain ⟨S1, k1, k2, k3⟩ := q_op RW hA hon h1 (by rw [List.length_append]; omega)
        refine ⟨(S1, nI c, nI (i + 1)), ?_, hin, S1, rfl, ?_, h2.trans k3⟩
        · show m_rsaveChange_B213 W (nI c) (nI i) = _
          rw [hB, k1, ob_ok]
          unfold m_rsaveChange_J264
          rw [nI_s]
        · rw [hts, ← List.append_assoc]
          exact k2
      · rw [if_neg e] at hB hts
        rw [List.append_nil] at hts
        refine ⟨(W, nI c, nI (i + 1)), ?_, hin, W, rfl, by rw [hts]; exact h1, h2⟩
        show m_rsaveChange_B213 W (nI c) (nI i) = _
        rw [hB]
        unfold m_rsaveChange_J264
        rw [nI_s]
    · right
      refine ⟨W, ?_, ?_, h2⟩
      · show m_rsaveChange_B213 W (nI c) (nI i) = _
        unfold m_rsaveChange_B213
        rw [RW.1.1, if_pos ((nI_leI (by omega) (by omega)).mpr (by omega))]
      · rw [List.take_of_length_le (by omega)] at h1
        exact h1
theorem cdl_len (hA : AI A) (hR : RS S A) {c : Nat} (hc : c < A.m) (h8 : ∃ dl : List Nat, dl.length ≤ 8 ∧ (∀ d, d ∈ dl ↔ A.dp c d = true) ∧ dl.Pairwise (fun a b => A.ca a < A.ca b)) : (A.cdl c).length ≤ 8 := by
  obtain ⟨dl, h1, h2, h3⟩ := h8
  rw [← cdl_eq hA hc h2 h3]
  exact h1
theorem q_chg (hR : RS S A) (hA : AI A) {c : Nat} (hc : c < A.m) (hw : WQ S p w) (hl : p + w.length + 300000000 ≤ 1000000000) : ∃ S', m_rsaveChange S (nI c) = some S' ∧ WQ S' p (w ++ A.chB c) ∧ W5 p S S' := by
  have hnn := hA.1.1
  have hm := hA.1.2.1
  have hcg := hR.2.2.2.2.2.1 c hc
  have hca := (hA.2.1.1 c hc).1
  have hcu := cu_le hA hc
  have htop := hA.2.2.2.1.2.2.2.1 c hc
  obtain ⟨t, da, dl, t1, t2, t3⟩ := hR.2.2.2.2.2.2.1
  obtain ⟨t4, t5, t6, t7, t8, t9⟩ := t3 c hc
  have hdl : (dl c).length = (A.cdl c).length := by
    have hp : (dl c).Perm (A.cdl c) := by
      rw [List.perm_ext_iff_of_nodup t7]
      · intro d
        rw [t8, cdl_mem hA hc]
      · refine (List.Pairwise.filter _ (chs_srt hA (fun a => Nat.le_refl _))).imp ?_
        intro a b h e
        rw [e] at h
        omega
    exact hp.length_eq
  obtain ⟨S1, a1, a2, a3⟩ := q_n hw (by omega) (n := A.ca c) (by omega)
  have g1 := grp_len (A.ca c)
  obtain ⟨S2, b1, b2', b3⟩ := q_n a2 (by rw [List.length_append]; omega) (n := A.cu c) (by omega)
  have g2 := grp_len (A.cu c)
  obtain ⟨S3, c1, c2, c3⟩ := q_n b2' (by simp only [List.length_append]; omega) (n := (A.cdl c).length) (by rw [← hdl]; omega)
  have g3 := grp_len (A.cdl c).length
  have x2 := a3.trans b3
  have x3 := x2.trans c3
  obtain ⟨S4, d1, d2, d3⟩ := q_deps (x3.RS hR) hA hc c2 (by simp only [List.length_append]; omega)
  have x4 := x3.trans d3
  have hdl2 : ((A.cdl c).flatMap (fun d => grp (A.ca d) ++ grp (A.cu d))).length ≤ 160000 := by
    have hc8 : (A.cdl c).length ≤ 8000 := by rw [← hdl]; omega
    have : ∀ l : List Nat, (l.flatMap (fun d => grp (A.ca d) ++ grp (A.cu d))).length ≤ 20 * l.length := by
      intro l
      induction l with
      | nil => simp
      | cons a l ih =>
        have h1 := grp_len (A.ca a)
        have h2 := grp_len (A.cu a)
        rw [List.flatMap_cons, List.length_append, List.length_append, List.length_cons]
        omega
    have h := this (A.cdl c)
    omega
  obtain ⟨S5, e1, e2, e3⟩ := q_n d2 (by simp only [List.length_append]; omega) (n := A.cf c) (by omega)
  have g5 := grp_len (A.cf c)
  obtain ⟨S6, f1, f2, f3⟩ := q_n e2 (by simp only [List.length_append]; omega) (n := A.cz c) (by omega)
  have g6 := grp_len (A.cz c)
  have x6 := (x4.trans e3).trans f3
  obtain ⟨S7, h1, h2, h3⟩ := q_ops (x6.RS hR) hA hc f2 (by simp only [List.length_append]; omega)
  refine ⟨S7, ?_, ?_, x6.trans h3⟩
  · unfold m_rsaveChange m_rsaveChange_J0
    rw [gd_ok (by omega) (by omega), cl_nI (by omega), hcg.1, a1, ob_ok, gd_ok (by omega) (by omega), a3.aa (by decide), hcg.2, b1, ob_ok, gd_ok (by omega) (by omega), x2.aa (by decide), t5, hdl, c1, ob_ok, d1, ob_ok]
    simp only []
    rw [q_count (x4.RS hR) hA hc, ob_ok]
    simp only []
    rw [e1, ob_ok, f1, ob_ok, h1, ob_ok]
  · unfold AS.chB
    simp only [List.append_assoc] at h2 ⊢
    exact h2
end SVJ
