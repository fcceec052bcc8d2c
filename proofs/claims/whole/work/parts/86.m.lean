/-! SAVED: how long it is; the reference's save. -/
section SVM
variable {S S' : MS} {N : Nat → Nat} {C C' : CS} {A : AS} {r rd p : Nat} {w : List Nat}
/-- what the lengths need -/
def LOK (A : AS) : Prop := (∀ c, c < A.m → (A.cdl c).length ≤ 8) ∧ ∀ o, o < A.n → (A.str o).length ≤ 24576
theorem LOK_of (G : RC N C A rd) (hA : AI A) : LOK A := by
  refine ⟨fun c hc => ?_, fun o ho => ?_⟩
  · obtain ⟨dl, l1, l2, l3, l4, l5⟩ := (G.cg.2.2.2 c hc).2.2.2.2.2.2.2.2.2
    rw [← cdl_eq hA hc l3 l4]
    exact l2
  · have h1 := (G.kp.2 o ho).1
    have h2 := hA.1.2.2.1
    omega
theorem chB_len (hA : AI A) (hK : LOK A) {c : Nat} (hc : c < A.m) : (A.chB c).length ≤ 32 + ((A.cops c).map (fun o => 42 + ((A.key o).length + (A.str o).length))).sum := by
  have hnn := hA.1.1
  have hca := (hA.2.1.1 c hc).1
  have hcu := cu_le hA hc
  have htop := hA.2.2.2.1.2.2.2.1 c hc
  have h8 := hK.1 c hc
  have g1 := grp_len1 (n := A.ca c) (by omega)
  have g2 := grp_len2 (n := A.cu c) (by omega)
  have g3 := grp_len1 (n := (A.cdl c).length) (by omega)
  have g5 := grp_len2 (n := A.cf c) (by omega)
  have g6 := grp_len2 (n := A.cz c) (by omega)
  have hd : ∀ l : List Nat, (∀ d, d ∈ l → d < A.m) → (l.flatMap (fun d => grp (A.ca d) ++ grp (A.cu d))).length ≤ 3 * l.length := by
    intro l
    induction l with
    | nil => intro _; simp
    | cons a l ih =>
      intro h
      have k1 := ih (fun x hx => h x (List.mem_cons_of_mem _ hx))
      have ha := h a (by simp)
      have k2 := grp_len1 (n := A.ca a) (by have := (hA.2.1.1 a ha).1; omega)
      have k3 := grp_len2 (n := A.cu a) (by have := cu_le hA ha; omega)
      rw [List.flatMap_cons, List.length_append, List.length_append, List.length_cons]
      omega
  have g4 := hd (A.cdl c) (fun d hd => (hA.2.1.2.2.2.2.2.2.1 c d hc ((cdl_mem hA hc).mp hd)).2.1)
  have ho : ∀ l : List Nat, (∀ o, o ∈ l → o < A.n) → (l.flatMap A.opB).length ≤ (l.map (fun o => 42 + ((A.key o).length + (A.str o).length))).sum := by
    intro l
    induction l with
    | nil => intro _; simp
    | cons a l ih =>
      intro h
      have k1 := ih (fun x hx => h x (List.mem_cons_of_mem _ hx))
      have ha := h a (by simp)
      have k2 := opB_len hA ha (hK.2 a ha)
      rw [List.flatMap_cons, List.length_append, List.map_cons, List.sum_cons]
      omega
  have g7 := ho (A.cops c) (fun o h => ((cops_mem hA hc).mp h).1)
  unfold AS.chB
  simp only [List.length_append]
  omega
theorem sum_42 {f : Nat → Nat} : ∀ {l : List Nat}, (l.map (fun o => 42 + f o)).sum = 42 * l.length + (l.map f).sum := by
  intro l
  induction l with
  | nil => rfl
  | cons a l ih =>
    rw [List.map_cons, List.sum_cons, ih, List.map_cons, List.sum_cons, List.length_cons]
    omega
theorem chB_sum (hA : AI A) (hK : LOK A) {l : List Nat} (hn : l.Nodup) (hl : ∀ c, c ∈ l → c < A.m) : (l.flatMap A.chB).length ≤ 224576 := by
  have hnn := hA.1.1
  have hm := hA.1.2.1
  have hkn := hA.1.2.2
  have h1 : ∀ l : List Nat, (∀ c, c ∈ l → c < A.m) → (l.flatMap A.chB).length ≤ 32 * l.length + ((l.flatMap A.cops).map (fun o => 42 + ((A.key o).length + (A.str o).length))).sum := by
    intro l
    induction l with
    | nil => intro _; simp
    | cons a l ih =>
      intro h
      have k1 := ih (fun x hx => h x (List.mem_cons_of_mem _ hx))
      have k2 := chB_len hA hK (h a (by simp))
      rw [List.flatMap_cons, List.length_append, List.length_cons, List.flatMap_cons, List.map_append, List.sum_append]
      omega
  have h2 := h1 l hl
  rw [sum_42] at h2
  have hon : (l.flatMap A.cops).Nodup := by
    unfold List.Nodup
    rw [List.pairwise_flatMap]
    refine ⟨fun c hc => ?_, List.Pairwise.imp_of_mem ?_ hn⟩
    · refine (cops_srt hA (hl c hc)).imp ?_
      intro a b h e
      rw [e] at h
      omega
    · intro c d hc hd hne x hx y hy e
      have e1 := ((cops_mem hA (hl c hc)).mp hx).2
      have e2 := ((cops_mem hA (hl d hd)).mp hy).2
      rw [e, e2] at e1
      exact hne (Option.some.inj e1).symm
  have hol : ∀ o, o ∈ l.flatMap A.cops → o < A.n := by
    intro o ho
    obtain ⟨c, hc, hoc⟩ := List.mem_flatMap.mp ho
    exact ((cops_mem hA (hl c hc)).mp hoc).1
  have h3 := nodup_len A.m l hn hl
  have h4 := nodup_len A.n _ hon hol
  have h5 := kb_le (f := fun o => (A.key o).length + (A.str o).length) hon hol
  have h6 : sumN (fun o => (A.key o).length + (A.str o).length) A.n ≤ A.kn := hkn.2
  omega
theorem ch_nodup (hA : AI A) {a t : Nat} (ht : t ≤ A.hv a a) : ((List.range t).map (fun k => A.ch a (k + 1))).Nodup ∧ ∀ c, c ∈ (List.range t).map (fun k => A.ch a (k + 1)) → c < A.m := by
  rw [← ch_filter hA ht]
  refine ⟨List.Pairwise.filter _ List.nodup_range, fun c hc => ?_⟩
  rw [List.mem_filter, List.mem_range] at hc
  exact hc.1
theorem chs_nodup (hA : AI A) {t : Nat → Nat} (ht : ∀ a, t a ≤ A.hv a a) : (A.chs t).Nodup ∧ ∀ c, c ∈ A.chs t → c < A.m := by
  refine ⟨(chs_srt hA ht).imp ?_, fun c hc => ((chs_mem hA ht).mp hc).1⟩
  intro a b h e
  rw [e] at h
  omega
theorem chs_len (hA : AI A) {t : Nat → Nat} (ht : ∀ a, t a ≤ A.hv a a) : (A.chs t).length = sumTo t 8 := by
  have : ∀ n, ((List.range n).flatMap (fun a => (List.range (t a)).map (fun k => A.ch a (k + 1)))).length = sumTo t n := by
    intro n
    induction n with
    | zero => rfl
    | succ n ih => rw [range_s, List.length_append, ih, List.length_map, List.length_range]; rfl
  exact this 8
theorem svd_len (hA : AI A) (hK : LOK A) {t : Nat → Nat} (ht : ∀ a, t a ≤ A.hv a a) : (A.svd t).length ≤ 224578 ∧ sumTo t 8 ≤ 1000 := by
  have hm := hA.1.2.1
  obtain ⟨h1, h2⟩ := chs_nodup hA ht
  have h3 := nodup_len A.m _ h1 h2
  rw [chs_len hA ht] at h3
  have h4 := grp_len2 (n := sumTo t 8) (by omega)
  have h5 := chB_sum hA hK h1 h2
  unfold AS.svd
  rw [List.length_append]
  exact ⟨by omega, by omega⟩
theorem range_cut {g : Nat → List Nat} {t : Nat} : ∀ {T : Nat}, t ≤ T → (List.range T).flatMap (fun k => if k < t then g k else []) = (List.range t).flatMap g := by
  intro T h
  obtain ⟨d, rfl⟩ : ∃ d, T = t + d := ⟨T - t, by omega⟩
  induction d with
  | zero =>
    have : ∀ n, n ≤ t → (List.range n).flatMap (fun k => if k < t then g k else []) = (List.range n).flatMap g := by
      intro n
      induction n with
      | zero => intro _; rfl
      | succ n ih => intro hn; rw [range_s, range_s, ih (by omega), if_pos (by omega)]
    exact this t (Nat.le_refl _)
  | succ d ih => rw [show t + (d + 1) = t + d + 1 by omega, range_s, if_neg (by omega), List.append_nil, ih (by omega)]
theorem nch_sum (hA : AI A) : A.nch r = sumTo (A.hv r) 8 := by
  rw [← cnt_clocks hA (fun a => hA.2.1.2.2.2.2.2.1.1 r a)]
  unfold AS.nch
  refine cntTo_congr (fun c hc => ?_)
  unfold AS.hasB
  rw [decide_eq_true hc, Bool.true_and]
/-- how many changes r has -/
theorem q_nch (hR : RS S A) (hA : AI A) (hr : r < 8) : m_rsave_L41 S (nI r) 0 0 = some (S, nI r, nI (A.nch r)) := by
  have hm := hA.1.2.1
  have := lp_run (body := fun u : MS × Int32 × Int32 × Int32 => m_rsave_B41 u.1 u.2.1 u.2.2.1 u.2.2.2) (fun i u => u = (S, nI r, nI (cntTo (A.hasB r) i), nI i)) (fun e => e = (S, nI r, nI (A.nch r))) A.m ?_ FU (S, nI r, 0, nI 0) (by unfold FU; omega) rfl
  · obtain ⟨e, h1, rfl⟩ := this
    unfold m_rsave_L41
    exact h1
  · rintro i _ hi rfl
    by_cases hin : i < A.m
    · left
      refine ⟨(S, nI r, nI (cntTo (A.hasB r) (i + 1)), nI (i + 1)), ?_, hin, rfl⟩
      show m_rsave_B41 S (nI r) (nI (cntTo (A.hasB r) i)) (nI i) = _
      have hh := ((hR.2.2.2.2.2.2.2 r hr).2 i (by omega)).1
      unfold m_rsave_B41 m_rsave_J63
      rw [hR.1.2.1, if_neg (nle hin (by omega)), gd_ok (by omega) (by omega), gd_ok (by omega) (by omega), cl_nI (by omega), cl_nI (by omega), hh, cntTo, nI_s]
      cases A.hasB r i with
      | false => rfl
      | true =>
        rw [if_neg (show ¬ b2 true = 0 by decide), if_pos rfl, nI_s]
    · right
      refine ⟨(S, nI r, nI (A.nch r)), ?_, rfl⟩
      have e : i = A.m := by omega
      subst e
      show m_rsave_B41 S (nI r) (nI (cntTo (A.hasB r) A.m)) (nI A.m) = _
      unfold m_rsave_B41
      rw [hR.1.2.1, if_pos (Int32.le_refl _)]
      rfl
theorem q_sactor (hR : RS S A) (hA : AI A) (hK : LOK A) (hr : r < 8) {a : Nat} (ha : a < 8) (hw : WQ S p w) (hl : p + w.length + 400000000 ≤ 1000000000) : ∃ S', m_rsave_L86 S (nI r) (nI a) 1 = some (S', nI r, nI a) ∧ WQ S' p (w ++ ((List.range (A.hv r a)).map (fun k => A.ch a (k + 1))).flatMap A.chB) ∧ W5 p S S' := by
  have hm := hA.1.2.1
  have hvm := hv_m hA a
  have hle : A.hv r a ≤ A.hv a a := hA.2.1.2.2.2.2.2.1.1 r a
  rw [List.flatMap_map, ← range_cut hle]
  have hlen : ∀ i, i ≤ A.hv a a → ((List.range i).flatMap (fun k => if k < A.hv r a then A.chB (A.ch a (k + 1)) else [])).length ≤ 224576 := by
    intro i hi
    by_cases e : i ≤ A.hv r a
    · have e2 : (List.range i).flatMap (fun k => if k < A.hv r a then A.chB (A.ch a (k + 1)) else []) = ((List.range i).map (fun k => A.ch a (k + 1))).flatMap A.chB := by
        rw [List.flatMap_map]
        have : ∀ n, n ≤ A.hv r a → (List.range n).flatMap (fun k => if k < A.hv r a then A.chB (A.ch a (k + 1)) else []) = (List.range n).flatMap (fun k => A.chB (A.ch a (k + 1))) := by
          intro n
          induction n with
          | zero => intro _; rfl
          | succ n ih => intro hn; rw [range_s, range_s, ih (by omega), if_pos (by omega)]
        exact this i e
      rw [e2]
      obtain ⟨n1, n2⟩ := ch_nodup hA hi
      exact chB_sum hA hK n1 n2
    · rw [range_cut (g := fun k => A.chB (A.ch a (k + 1))) (by omega), ← List.flatMap_map]
      obtain ⟨n1, n2⟩ := ch_nodup hA hle
      exact chB_sum hA hK n1 n2
  have := lp_run (body := fun u : MS × Int32 × Int32 × Int32 => m_rsave_B86 u.1 u.2.1 u.2.2.1 u.2.2.2) (fun i u => ∃ W, u = (W, nI r, nI a, nI (i + 1)) ∧ i ≤ A.hv a a ∧ WQ W p (w ++ (List.range i).flatMap (fun k => if k < A.hv r a then A.chB (A.ch a (k + 1)) else [])) ∧ W5 p S W) (fun e => ∃ W, e = (W, nI r, nI a) ∧ WQ W p (w ++ (List.range (A.hv a a)).flatMap (fun k => if k < A.hv r a then A.chB (A.ch a (k + 1)) else [])) ∧ W5 p S W) (A.hv a a) ?_ FU (S, nI r, nI a, nI 1) (by unfold FU; omega) ⟨S, rfl, by omega, by simpa using hw, W5.refl⟩
  · obtain ⟨e, h1, W, rfl, h2, h3⟩ := this
    refine ⟨W, ?_, h2, h3⟩
    unfold m_rsave_L86
    exact h1
  · rintro i _ hi ⟨W, rfl, hi2, h1, h2⟩
    have hln := hlen i hi2
    have RW := h2.RS hR
    by_cases hin : i < A.hv a a
    · left
      obtain ⟨d, d1, d2, d3, d4, d5⟩ := fc_some hA (a := a) (k := i + 1) (by omega) (by omega)
      have hh := ((RW.2.2.2.2.2.2.2 r hr).2 d (by omega)).1
      have hB : m_rsave_B86 W (nI r) (nI a) (nI (i + 1)) = (if b2 (A.hasB r d) = 0 then m_rsave_J129 W (nI r) (nI a) (nI (i + 1)) else ob (m_rsaveChange W (nI d)) (fun o_8 => m_rsave_J129 o_8 (nI r) (nI a) (nI (i + 1)))) := by
        unfold m_rsave_B86
        rw [if_neg (show ¬ (1000 : Int32) < nI (i + 1) from fun h => by have := (nI_ltI (a := 1000) (by omega) (by omega)).mp h; omega), pS_find RW hA ha, d1, ob_ok]
        simp only []
        rw [show cI (some d) = nI d from rfl, if_pos (show (0 : Int32) ≤ nI d from (nI_leI (a := 0) (by omega) (by omega)).mpr (Nat.zero_le _)), gd_ok (by omega) (by omega), gd_ok (by omega) (by omega), cl_nI (by omega), cl_nI (by omega), hh]
      by_cases e : i < A.hv r a
      · have hb : A.hasB r d = true := by
          unfold AS.hasB
          simp only [Bool.and_eq_true, decide_eq_true_eq]
          exact ⟨d3, by rw [d4, d5]; omega⟩
        rw [hb, if_neg (show ¬ b2 true = 0 by decide)] at hB
        obtain ⟨S1, k1, k2, k3⟩ := q_chg RW hA d3 h1 (by rw [List.length_append]; omega)
        refine ⟨(S1, nI r, nI a, nI (i + 1 + 1)), ?_, hin, S1, rfl, by omega, ?_, h2.trans k3⟩
        · show m_rsave_B86 W (nI r) (nI a) (nI (i + 1)) = _
          rw [hB, k1, ob_ok]
          unfold m_rsave_J129
          rw [nI_s]
        · rw [range_s, if_pos e, ← List.append_assoc, d2]
          exact k2
      · have hb : A.hasB r d = false := by
          unfold AS.hasB
          rw [d4, d5, decide_eq_false (show ¬ i + 1 ≤ A.hv r a by omega), Bool.and_false]
        rw [hb, if_pos (show b2 false = 0 by decide)] at hB
        refine ⟨(W, nI r, nI a, nI (i + 1 + 1)), ?_, hin, W, rfl, by omega, ?_, h2⟩
        · show m_rsave_B86 W (nI r) (nI a) (nI (i + 1)) = _
          rw [hB]
          unfold m_rsave_J129
          rw [nI_s]
        · rw [range_s, if_neg e, List.append_nil]
          exact h1
    · right
      have e : i = A.hv a a := by omega
      refine ⟨(W, nI r, nI a), ?_, W, rfl, by rw [← e]; exact h1, h2⟩
      show m_rsave_B86 W (nI r) (nI a) (nI (i + 1)) = _
      unfold m_rsave_B86
      by_cases c1 : 1000 < i + 1
      · rw [if_pos (show (1000 : Int32) < nI (i + 1) from (nI_ltI (a := 1000) (by omega) (by omega)).mpr c1)]
      · rw [if_neg (show ¬ (1000 : Int32) < nI (i + 1) from fun h => c1 ((nI_ltI (a := 1000) (by omega) (by omega)).mp h)), pS_find RW hA ha, fc_no hA (by omega) (by omega), ob_ok]
        simp only []
        rw [show cI none = -1 from rfl, if_neg (show ¬ (0 : Int32) ≤ -1 by decide)]
theorem q_sall (hR : RS S A) (hA : AI A) (hK : LOK A) (hr : r < 8) (hw : WQ S p w) (hl : p + w.length + 500000000 ≤ 1000000000) : ∃ S', m_rsave_L77 S (nI r) 0 = some S' ∧ WQ S' p (w ++ (A.chs (A.hv r)).flatMap A.chB) ∧ W5 p S S' := by
  rw [chs_B]
  have hga : ∀ a, (((List.range (A.hv r a)).map (fun k => A.ch a (k + 1))).flatMap A.chB).length ≤ 224576 := by
    intro a
    obtain ⟨n1, n2⟩ := ch_nodup hA (hA.2.1.2.2.2.2.2.1.1 r a)
    exact chB_sum hA hK n1 n2
  have := lp_run (body := fun u : MS × Int32 × Int32 => m_rsave_B77 u.1 u.2.1 u.2.2) (fun i u => ∃ W, u = (W, nI r, nI i) ∧ WQ W p (w ++ (List.range i).flatMap (fun a => ((List.range (A.hv r a)).map (fun k => A.ch a (k + 1))).flatMap A.chB)) ∧ W5 p S W) (fun e => WQ e p (w ++ (List.range 8).flatMap (fun a => ((List.range (A.hv r a)).map (fun k => A.ch a (k + 1))).flatMap A.chB)) ∧ W5 p S e) 8 ?_ FU (S, nI r, nI 0) (by unfold FU; omega) ⟨S, rfl, by simpa using hw, W5.refl⟩
  · obtain ⟨e, h1, h2, h3⟩ := this
    refine ⟨e, ?_, h2, h3⟩
    unfold m_rsave_L77
    exact h1
  · rintro i _ hi ⟨W, rfl, h1, h2⟩
    have hlen := fm_len (b := 224576) hga i
    by_cases hin : i < 8
    · left
      obtain ⟨S1, k1, k2, k3⟩ := q_sactor (h2.RS hR) hA hK hr hin h1 (by rw [List.length_append]; omega)
      refine ⟨(S1, nI r, nI (i + 1)), ?_, hin, S1, rfl, ?_, h2.trans k3⟩
      · show m_rsave_B77 W (nI r) (nI i) = _
        unfold m_rsave_B77 m_rsave_J135
        rw [if_neg (show ¬ (8 : Int32) ≤ nI i from fun h => by have := (nI_leI (a := 8) (by omega) (by omega)).mp h; omega), k1, ob_ok]
        simp only []
        rw [nI_s]
      · rw [range_s, ← List.append_assoc]
        exact k2
    · right
      refine ⟨W, ?_, by rw [show i = 8 by omega] at h1; exact h1, h2⟩
      show m_rsave_B77 W (nI r) (nI i) = _
      unfold m_rsave_B77
      rw [show i = 8 by omega, if_pos (show (8 : Int32) ≤ nI 8 by decide)]
theorem q_crc4 (hw : WQ S p w) (hl : p + w.length + 10 ≤ 1000000000) (x : Int32) : ∃ S', m_rsave_L154 S x 24 = some S' ∧ WQ S' p (w ++ by4 x) ∧ W5 p S S' := by
  obtain ⟨S1, a1, a2, a3⟩ := q_put hw (by omega) (ushr32 x 24)
  obtain ⟨S2, b1, b2', b3⟩ := q_put a2 (by simp; omega) (ushr32 x 16)
  obtain ⟨S3, c1, c2, c3⟩ := q_put b2' (by simp; omega) (ushr32 x 8)
  obtain ⟨S4, d1, d2, d3⟩ := q_put c2 (by simp; omega) (ushr32 x 0)
  rw [show ushr32 x 0 = x from ushr0' x] at d1 d2
  refine ⟨S4, ?_, by simpa [by4] using d2, ((a3.trans b3).trans c3).trans d3⟩
  have hb : ∀ (W : MS) (y : Int32) (W' : MS), ¬ y < 0 → m_rwrite W (ushr32 x y) = some W' → m_rsave_B154 W x y = some (.inl (W', x, y + (-8))) := by
    intro W y W' h1 h2
    unfold m_rsave_B154
    rw [if_neg h1, h2, ob_ok]
  have e1 := hb S 24 S1 (by decide) a1
  have e2 := hb S1 16 S2 (by decide) b1
  have e3 := hb S2 8 S3 (by decide) c1
  have e4 := hb S3 0 S4 (by decide) (by rw [show ushr32 x 0 = x from ushr0' x]; exact d1)
  have e5 : m_rsave_B154 S4 x (-8) = some (.inr S4) := by
    unfold m_rsave_B154
    rw [if_pos (by decide)]
  unfold m_rsave_L154 FU
  rw [show (1000000 : Nat) = 999995 + 1 + 1 + 1 + 1 + 1 from rfl]
  simp only [lp, e1, show (24 : Int32) + (-8) = 16 from by decide, e2, show (16 : Int32) + (-8) = 8 from by decide, e3, show (8 : Int32) + (-8) = 0 from by decide, e4, show (0 : Int32) + (-8) = -8 from by decide, e5]
end SVM
