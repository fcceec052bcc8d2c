/-! THE CLASS: link: an op joins the chain of its spot. -/
theorem chn_front {nx : Nat → Option Nat} {h : Option Nat} {a : Nat} {l : List Nat} (h1 : chn nx h l) (ha : a ∉ l) : chn (updO nx a h) (some a) (a :: l) := by
  refine ⟨rfl, ?_⟩
  have : updO nx a h a = h := by simp [updO]
  rw [this]
  refine chn_congr ?_ h1
  intro x hx
  unfold updO
  rw [if_neg (by rintro rfl; exact ha hx)]
theorem chn_after {nx : Nat → Option Nat} {a b : Nat} {l2 : List Nat} : ∀ {l1 : List Nat} {h : Option Nat}, chn nx h (l1 ++ b :: l2) → a ∉ l1 ++ b :: l2 → (l1 ++ b :: l2).Nodup → chn (updO (updO nx a (nx b)) b (some a)) h (l1 ++ b :: a :: l2) := by
  intro l1
  induction l1 with
  | nil =>
    intro h h1 ha hn
    simp only [List.nil_append, List.mem_cons, not_or, List.nodup_cons] at *
    refine ⟨h1.1, ?_⟩
    have e1 : updO (updO nx a (nx b)) b (some a) b = some a := by simp [updO]
    have e2 : updO (updO nx a (nx b)) b (some a) a = nx b := by simp [updO, ha.1]
    rw [e1]
    refine ⟨rfl, ?_⟩
    rw [e2]
    refine chn_congr ?_ h1.2
    intro x hx
    unfold updO
    rw [if_neg (by rintro rfl; exact hn.1 hx), if_neg (by rintro rfl; exact ha.2 hx)]
  | cons y l1 ih =>
    intro h h1 ha hn
    simp only [List.cons_append, List.mem_cons, not_or, List.nodup_cons] at *
    refine ⟨h1.1, ?_⟩
    have e1 : updO (updO nx a (nx b)) b (some a) y = nx y := by
      unfold updO
      rw [if_neg (by rintro rfl; exact hn.1 (by simp)), if_neg (by rintro rfl; exact ha.1 rfl)]
    rw [e1]
    exact ih h1.2 ha.2 hn.2
/-- where link puts an op: f the ids -/
def insO (f : Nat → Nat) (v n : Nat) : List Nat → List Nat
  | [] => [n]
  | a :: l => if f a < v then n :: a :: l else a :: (l.takeWhile (fun y => decide (v < f y)) ++ n :: l.dropWhile (fun y => decide (v < f y)))
theorem insO_cons {f : Nat → Nat} {v n a : Nat} {l : List Nat} : insO f v n (a :: l) = if f a < v then n :: a :: l else a :: (l.takeWhile (fun y => decide (v < f y)) ++ n :: l.dropWhile (fun y => decide (v < f y))) := rfl
theorem tk_mem {p : Nat → Bool} {l : List Nat} {y : Nat} (h : y ∈ l.takeWhile p) : y ∈ l := (List.takeWhile_sublist p).subset h
theorem dk_mem {p : Nat → Bool} {l : List Nat} {y : Nat} (h : y ∈ l.dropWhile p) : y ∈ l := (List.dropWhile_sublist p).subset h
theorem insO_mem {f : Nat → Nat} {v n : Nat} {l : List Nat} {o : Nat} : o ∈ insO f v n l ↔ o = n ∨ o ∈ l := by
  cases l with
  | nil => simp [insO]
  | cons a l =>
    rw [insO_cons]
    split
    · simp
    · have h := List.takeWhile_append_dropWhile (p := fun y => decide (v < f y)) (l := l)
      constructor
      · intro h1
        rcases List.mem_cons.mp h1 with rfl | h1
        · simp
        · rcases List.mem_append.mp h1 with h2 | h2
          · exact Or.inr (List.mem_cons_of_mem _ (tk_mem h2))
          · rcases List.mem_cons.mp h2 with rfl | h2
            · simp
            · exact Or.inr (List.mem_cons_of_mem _ (dk_mem h2))
      · rintro (rfl | h1)
        · simp
        · rcases List.mem_cons.mp h1 with rfl | h1
          · simp
          · rw [← h] at h1
            rcases List.mem_append.mp h1 with h2 | h2
            · exact List.mem_cons_of_mem _ (by simp [h2])
            · exact List.mem_cons_of_mem _ (by simp [h2])
theorem insO_nodup {f : Nat → Nat} {v n : Nat} {l : List Nat} (h : l.Nodup) (hn : n ∉ l) : (insO f v n l).Nodup := by
  cases l with
  | nil => simp [insO]
  | cons a l =>
    rw [insO_cons]
    have ht := List.takeWhile_append_dropWhile (p := fun y => decide (v < f y)) (l := l)
    split
    · rw [List.nodup_cons]; exact ⟨hn, h⟩
    · rw [List.nodup_cons] at h
      simp only [List.mem_cons, not_or] at hn
      have hd : (l.takeWhile (fun y => decide (v < f y)) ++ n :: l.dropWhile (fun y => decide (v < f y))).Nodup := by
        have h2 := h.2
        rw [← ht, List.nodup_append] at h2
        rw [List.nodup_append]
        refine ⟨h2.1, ?_, ?_⟩
        · rw [List.nodup_cons]
          exact ⟨fun h3 => hn.2 (dk_mem h3), h2.2.1⟩
        · intro y hy z hz e
          subst e
          rcases List.mem_cons.mp hz with rfl | hz
          · exact hn.2 (tk_mem hy)
          · exact h2.2.2 y hy y hz rfl
      rw [List.nodup_cons]
      refine ⟨?_, hd⟩
      intro h3
      rcases List.mem_append.mp h3 with h4 | h4
      · exact h.1 (tk_mem h4)
      · rcases List.mem_cons.mp h4 with h5 | h5
        · exact hn.1 h5.symm
        · exact h.1 (dk_mem h5)
theorem dropWhile_head {p : Nat → Bool} : ∀ {l l' : List Nat} {y : Nat}, l.dropWhile p = y :: l' → p y = false := by
  intro l
  induction l with
  | nil => intro l' y h; cases h
  | cons a l ih =>
    intro l' y h
    rw [List.dropWhile_cons] at h
    split at h
    · exact ih h
    · rename_i hp
      cases h
      simpa using hp
theorem takeWhile_all {p : Nat → Bool} : ∀ {l : List Nat} {y : Nat}, y ∈ l.takeWhile p → p y = true := by
  intro l
  induction l with
  | nil => intro y h; cases h
  | cons a l ih =>
    intro y h
    rw [List.takeWhile_cons] at h
    split at h
    · rename_i hp
      rcases List.mem_cons.mp h with rfl | h
      · exact hp
      · exact ih h
    · cases h
theorem insO_sorted {f : Nat → Nat} {v n : Nat} {l : List Nat} (h : l.Pairwise (fun a b => f b ≤ f a)) (hn : n ∉ l) : (insO f v n l).Pairwise (fun a b => (if b = n then v else f b) ≤ (if a = n then v else f a)) := by
  have hne : ∀ y, y ∈ l → y ≠ n := fun y hy e => hn (e ▸ hy)
  have hl : l.Pairwise (fun a b => (if b = n then v else f b) ≤ (if a = n then v else f a)) := by
    refine List.Pairwise.imp_of_mem ?_ h
    intro a b ha hb hab
    rw [if_neg (hne a ha), if_neg (hne b hb)]
    exact hab
  cases l with
  | nil => simp [insO]
  | cons a l =>
    rw [List.pairwise_cons] at h
    rw [insO_cons]
    have ht := List.takeWhile_append_dropWhile (p := fun y => decide (v < f y)) (l := l)
    split
    · rename_i hlt
      rw [List.pairwise_cons]
      refine ⟨?_, hl⟩
      intro b hb
      rw [if_neg (hne b hb), if_pos rfl]
      rcases List.mem_cons.mp hb with rfl | hb
      · omega
      · have := h.1 b hb
        omega
    · rename_i hge
      have han := hne a (by simp)
      rw [List.pairwise_cons] at hl ⊢
      have hl2 := hl.2
      have h2 := h.2
      rw [← ht, List.pairwise_append] at hl2 h2
      -- what stands behind is not greater
      have hdrop : ∀ y, y ∈ l.dropWhile (fun y => decide (v < f y)) → f y ≤ v := by
        intro y hy
        cases hd : l.dropWhile (fun y => decide (v < f y)) with
        | nil => rw [hd] at hy; cases hy
        | cons z l' =>
          have hz := dropWhile_head hd
          simp only [decide_eq_false_iff_not] at hz
          rw [hd] at hy
          rcases List.mem_cons.mp hy with rfl | hy
          · omega
          · have h3 := h2.2.1
            rw [hd, List.pairwise_cons] at h3
            have := h3.1 y hy
            omega
      have hdm : ∀ y, y ∈ l.dropWhile (fun y => decide (v < f y)) → y ∈ l := fun y hy => dk_mem hy
      have htm : ∀ y, y ∈ l.takeWhile (fun y => decide (v < f y)) → y ∈ l := fun y hy => tk_mem hy
      refine ⟨?_, ?_⟩
      · intro b hb
        rcases List.mem_append.mp hb with h3 | h3
        · exact hl.1 b (htm b h3)
        · rcases List.mem_cons.mp h3 with rfl | h3
          · rw [if_pos rfl, if_neg han]; omega
          · exact hl.1 b (hdm b h3)
      · rw [List.pairwise_append]
        refine ⟨hl2.1, ?_, ?_⟩
        · rw [List.pairwise_cons]
          refine ⟨?_, hl2.2.1⟩
          intro b hb
          rw [if_pos rfl, if_neg (hne b (List.mem_cons_of_mem _ (hdm b hb)))]
          exact hdrop b hb
        · intro y hy b hb
          have hyv := takeWhile_all hy
          simp only [decide_eq_true_eq] at hyv
          rcases List.mem_cons.mp hb with rfl | hb
          · rw [if_pos rfl, if_neg (hne y (List.mem_cons_of_mem _ (htm y hy)))]; omega
          · exact hl2.2.2 y hy b hb
/-- the state with other references -/
def CS.setP (C : CS) (r' : Nat → Nat → Nat → Option Nat) : CS := (C.i, C.l, r', C.a, C.q, C.z)
theorem setR_setP {C : CS} {r' : Nat → Nat → Nat → Option Nat} {k f j : Nat} {v : Option Nat} : (C.setP r').setR k f j v = C.setP (fun k1 f1 j1 => if k1 = k ∧ f1 = f ∧ j1 = j then v else r' k1 f1 j1) := rfl
theorem setP_self {C : CS} : C.setP C.r = C := rfl
section LK
variable {N : Nat → Nat} {C : CS} {f : Nat → Nat} {n p v : Nat} {l : List Nat}
/-- link at a spot whose chain is l: f the ids, n the new op, v its id -/
theorem cS_link (hw : WF N C) (h7 : p < N 7) (h3 : N 3 = n + 2) (hid : ∀ o, o ∈ l → C.i 3 0 (o + 1) = nI (f o) ∧ f o < 40000) (hn : C.i 3 0 (n + 1) = nI v) (hv : v < 40000) (hl : ∀ o, o ∈ l → o < n) (hnd : l.Nodup) (hlen : l.length ≤ 4000) (hc : chn (C.r 3 12) (C.r 7 1 p) (l.map (· + 1))) :
    ∃ r', m_cSp_link N p C (n + 1) = some (C.setP r') ∧ WF N (C.setP r') ∧ r' 3 11 (n + 1) = some p ∧ chn (r' 3 12) (r' 7 1 p) ((insO f v n l).map (· + 1)) ∧ (∀ k g j, ¬ (k = 3 ∧ g = 11 ∧ j = n + 1) → ¬ (k = 3 ∧ g = 12 ∧ (j = n + 1 ∨ ∃ o, o ∈ l ∧ j = o + 1)) → ¬ (k = 7 ∧ g = 1 ∧ j = p) → r' k g j = C.r k g j) := by
  have f11 : (cFT.getD 3 [])[11]? = some (7 + 2) := by decide
  have f12 : (cFT.getD 3 [])[12]? = some (3 + 2) := by decide
  have f71 : (cFT.getD 7 [])[1]? = some (3 + 2) := by decide
  have hnl : n + 1 ∉ l.map (· + 1) := by
    intro h
    rw [List.mem_map] at h
    obtain ⟨o, h1, h2⟩ := h
    have := hl o h1
    omega
  have hw1 : WF N (C.setR 3 11 (n + 1) (some p)) := WF_setR hw (by
    intro t y e1 e2
    rw [f11] at e1
    have : t = 7 := by have := Option.some.inj e1; omega
    subst this
    cases e2
    exact h7)
  -- at the front
  have front : ∀ h0, chn (C.r 3 12) h0 (l.map (· + 1)) → C.r 7 1 p = h0 → m_cSp_link_J26 N p (C.setR 3 11 (n + 1) (some p)) (some (n + 1)) = some (C.setP (fun k1 f1 j1 => if k1 = 7 ∧ f1 = 1 ∧ j1 = p then some (n + 1) else if k1 = 3 ∧ f1 = 12 ∧ j1 = n + 1 then h0 else if k1 = 3 ∧ f1 = 11 ∧ j1 = n + 1 then some p else C.r k1 f1 j1)) := by
    intro h0 _ h2
    unfold m_cSp_link_J26
    simp (disch := omega) only [gd_ok, cl_nI, nI_s, nI_add, nI_leI, nI_ltI, nI_eq, if_pos, if_neg, q0, q1, q2, q3, q4, q5, q6, q7, q8, q9, q10, CS.i_setI, CS.l_setI, CS.r_setI, CS.a_setI, CS.q_setI, CS.z_setI, CS.i_setL, CS.l_setL, CS.r_setL, CS.a_setL, CS.q_setL, CS.z_setL, CS.i_setR, CS.l_setR, CS.r_setR, CS.a_setR, CS.q_setR, CS.z_setR, CS.i_setA, CS.l_setA, CS.r_setA, CS.a_setA, CS.q_setA, CS.z_setA, CS.i_setQ, CS.l_setQ, CS.r_setQ, CS.a_setQ, CS.q_setQ, CS.z_setQ, CS.i_setF, CS.l_setF, CS.r_setF, CS.a_setF, CS.q_setF, CS.z_setF, CS.i_new, CS.l_new, CS.r_new, CS.a_new, CS.q_new, CS.z_new, Nat.reduceEqDiff, false_and, true_and, and_false, and_true, if_true, if_false, b2_0, b2_1, b2_nn, n0_or, n1_or, n10, n01, dec1, dec2, ob_ok, oe_l, oe_r, gl_ok, gle_ok, gn_s, gv_ok, gv_none, on_none, onSome,h3, h2]
    rfl
  have frontOK : ∀ h0, C.r 7 1 p = h0 → (insO f v n l = n :: l) → ∃ r', (some (C.setP (fun k1 f1 j1 => if k1 = 7 ∧ f1 = 1 ∧ j1 = p then some (n + 1) else if k1 = 3 ∧ f1 = 12 ∧ j1 = n + 1 then h0 else if k1 = 3 ∧ f1 = 11 ∧ j1 = n + 1 then some p else C.r k1 f1 j1))) = some (C.setP r') ∧ WF N (C.setP r') ∧ r' 3 11 (n + 1) = some p ∧ chn (r' 3 12) (r' 7 1 p) ((insO f v n l).map (· + 1)) ∧ (∀ k g j, ¬ (k = 3 ∧ g = 11 ∧ j = n + 1) → ¬ (k = 3 ∧ g = 12 ∧ (j = n + 1 ∨ ∃ o, o ∈ l ∧ j = o + 1)) → ¬ (k = 7 ∧ g = 1 ∧ j = p) → r' k g j = C.r k g j) := by
    intro h0 e0 hins
    refine ⟨_, rfl, ?_, ?_, ?_, ?_⟩
    · refine WF_setR (C := (C.setR 3 11 (n + 1) (some p)).setR 3 12 (n + 1) h0) (WF_setR hw1 ?_) ?_
      · intro t y e1 e2
        rw [f12] at e1
        have : t = 3 := by have := Option.some.inj e1; omega
        subst this
        exact hw.1 7 1 p 3 y (by omega) h7 f71 (by rw [e0]; exact e2)
      · intro t y e1 e2
        rw [f71] at e1
        have : t = 3 := by have := Option.some.inj e1; omega
        subst this
        cases e2
        omega
    · simp
    · rw [hins, List.map_cons]
      have h5 := chn_front (a := n + 1) (by rw [← e0]; exact hc) hnl (h := h0)
      have e1 : (fun j1 => if 3 = 7 ∧ 12 = 1 ∧ j1 = p then some (n + 1) else if 3 = 3 ∧ 12 = 12 ∧ j1 = n + 1 then h0 else if 3 = 3 ∧ 12 = 11 ∧ j1 = n + 1 then some p else C.r 3 12 j1) = updO (C.r 3 12) (n + 1) h0 := by
        funext j
        unfold updO
        simp
      clear e1
      unfold updO at h5
      simpa using h5
    · intro k g j g1 g2 g3
      rw [if_neg g3, if_neg (fun h => g2 ⟨h.1, h.2.1, Or.inl h.2.2⟩), if_neg g1]
  unfold m_cSp_link m_cSp_link_J0
  cases hl' : l with
  | nil =>
    rw [hl'] at hc
    have hr : C.r 7 1 p = none := hc
    simp (disch := omega) only [gd_ok, cl_nI, nI_s, nI_add, nI_leI, nI_ltI, nI_eq, if_pos, if_neg, q0, q1, q2, q3, q4, q5, q6, q7, q8, q9, q10, CS.i_setI, CS.l_setI, CS.r_setI, CS.a_setI, CS.q_setI, CS.z_setI, CS.i_setL, CS.l_setL, CS.r_setL, CS.a_setL, CS.q_setL, CS.z_setL, CS.i_setR, CS.l_setR, CS.r_setR, CS.a_setR, CS.q_setR, CS.z_setR, CS.i_setA, CS.l_setA, CS.r_setA, CS.a_setA, CS.q_setA, CS.z_setA, CS.i_setQ, CS.l_setQ, CS.r_setQ, CS.a_setQ, CS.q_setQ, CS.z_setQ, CS.i_setF, CS.l_setF, CS.r_setF, CS.a_setF, CS.q_setF, CS.z_setF, CS.i_new, CS.l_new, CS.r_new, CS.a_new, CS.q_new, CS.z_new, Nat.reduceEqDiff, false_and, true_and, and_false, and_true, if_true, if_false, b2_0, b2_1, b2_nn, n0_or, n1_or, n10, n01, dec1, dec2, ob_ok, oe_l, oe_r, gl_ok, gle_ok, gn_s, gv_ok, gv_none, on_none, onSome,h3, hr]
    rw [front none (by rw [hl']; rfl) hr]
    have := frontOK none hr (by rw [hl']; rfl)
    rw [hl'] at this
    exact this
  | cons a l1 =>
    have hcc := hc
    rw [hl', List.map_cons, chn_cons] at hcc
    have ha := hid a (by rw [hl']; simp)
    have han := hl a (by rw [hl']; simp)
    simp (disch := omega) only [gd_ok, cl_nI, nI_s, nI_add, nI_leI, nI_ltI, nI_eq, if_pos, if_neg, q0, q1, q2, q3, q4, q5, q6, q7, q8, q9, q10, CS.i_setI, CS.l_setI, CS.r_setI, CS.a_setI, CS.q_setI, CS.z_setI, CS.i_setL, CS.l_setL, CS.r_setL, CS.a_setL, CS.q_setL, CS.z_setL, CS.i_setR, CS.l_setR, CS.r_setR, CS.a_setR, CS.q_setR, CS.z_setR, CS.i_setA, CS.l_setA, CS.r_setA, CS.a_setA, CS.q_setA, CS.z_setA, CS.i_setQ, CS.l_setQ, CS.r_setQ, CS.a_setQ, CS.q_setQ, CS.z_setQ, CS.i_setF, CS.l_setF, CS.r_setF, CS.a_setF, CS.q_setF, CS.z_setF, CS.i_new, CS.l_new, CS.r_new, CS.a_new, CS.q_new, CS.z_new, Nat.reduceEqDiff, false_and, true_and, and_false, and_true, if_true, if_false, b2_0, b2_1, b2_nn, n0_or, n1_or, n10, n01, dec1, dec2, ob_ok, oe_l, oe_r, gl_ok, gle_ok, gn_s, gv_ok, gv_none, on_none, onSome,h3, hcc.1, hn, ha.1, ha.2]
    by_cases c1 : v ≤ f a
    · rw [if_pos c1]
      have hins : insO f v n (a :: l1) = a :: (l1.takeWhile (fun y => decide (v < f y)) ++ n :: l1.dropWhile (fun y => decide (v < f y))) := by
        rw [insO_cons, if_neg (by omega)]
      -- the walk
      have := lp_run (body := fun c : CS × Option Nat × Option Nat => m_cSp_link_B45 N p c.1 c.2.1 c.2.2)
        (fun i c => ∃ b m1 m2, a :: l1 = m1 ++ b :: m2 ∧ m1.length = i ∧ c = (C.setR 3 11 (n + 1) (some p), some (n + 1), some (b + 1)) ∧ l1.takeWhile (fun y => decide (v < f y)) = (m1 ++ [b]).tail ++ m2.takeWhile (fun y => decide (v < f y)) ∧ l1.dropWhile (fun y => decide (v < f y)) = m2.dropWhile (fun y => decide (v < f y)))
        (fun e => ∃ b m1 m2, a :: l1 = m1 ++ b :: m2 ∧ e = (C.setR 3 11 (n + 1) (some p), some (n + 1), some (b + 1)) ∧ insO f v n (a :: l1) = m1 ++ b :: n :: m2) (a :: l1).length ?_ FU (C.setR 3 11 (n + 1) (some p), some (n + 1), some (a + 1)) (by rw [hl'] at hlen; unfold FU; omega) ⟨a, [], l1, rfl, rfl, rfl, by simp, rfl⟩
      · obtain ⟨e, g1, b, m1, m2, g2, rfl, g3⟩ := this
        have g1' : m_cSp_link_L45 N p (C.setR 3 11 (n + 1) (some p)) (some (n + 1)) (some (a + 1)) = some (C.setR 3 11 (n + 1) (some p), some (n + 1), some (b + 1)) := g1
        have hbl : b ∈ l := by rw [hl', g2]; simp
        have hbn := hl b hbl
        have hnb : ¬ b + 1 = n + 1 := by omega
        rw [← hl'] at g2 g3
        unfold m_cSp_link_J74
        simp (disch := omega) only [gd_ok, cl_nI, nI_s, nI_add, nI_leI, nI_ltI, nI_eq, if_pos, if_neg, q0, q1, q2, q3, q4, q5, q6, q7, q8, q9, q10, CS.i_setI, CS.l_setI, CS.r_setI, CS.a_setI, CS.q_setI, CS.z_setI, CS.i_setL, CS.l_setL, CS.r_setL, CS.a_setL, CS.q_setL, CS.z_setL, CS.i_setR, CS.l_setR, CS.r_setR, CS.a_setR, CS.q_setR, CS.z_setR, CS.i_setA, CS.l_setA, CS.r_setA, CS.a_setA, CS.q_setA, CS.z_setA, CS.i_setQ, CS.l_setQ, CS.r_setQ, CS.a_setQ, CS.q_setQ, CS.z_setQ, CS.i_setF, CS.l_setF, CS.r_setF, CS.a_setF, CS.q_setF, CS.z_setF, CS.i_new, CS.l_new, CS.r_new, CS.a_new, CS.q_new, CS.z_new, Nat.reduceEqDiff, false_and, true_and, and_false, and_true, if_true, if_false, b2_0, b2_1, b2_nn, n0_or, n1_or, n10, n01, dec1, dec2, ob_ok, oe_l, oe_r, gl_ok, gle_ok, gn_s, gv_ok, gv_none, on_none, onSome,g1', h3]
        refine ⟨fun k1 f1 j1 => if k1 = 3 ∧ f1 = 12 ∧ j1 = b + 1 then some (n + 1) else if k1 = 3 ∧ f1 = 12 ∧ j1 = n + 1 then C.r 3 12 (b + 1) else if k1 = 3 ∧ f1 = 11 ∧ j1 = n + 1 then some p else C.r k1 f1 j1, rfl, ?_, ?_, ?_, ?_⟩
        · refine WF_setR (C := (C.setR 3 11 (n + 1) (some p)).setR 3 12 (n + 1) (C.r 3 12 (b + 1))) (WF_setR hw1 ?_) ?_
          · intro t y e1 e2
            rw [f12] at e1
            have : t = 3 := by have := Option.some.inj e1; omega
            subst this
            exact hw.1 3 12 (b + 1) 3 y (by omega) (by omega) f12 e2
          · intro t y e1 e2
            rw [f12] at e1
            have : t = 3 := by have := Option.some.inj e1; omega
            subst this
            cases e2
            omega
        · have hne1 : ¬ n + 1 = b + 1 := by omega
          simp
        · have hcm : chn (C.r 3 12) (C.r 7 1 p) (m1.map (· + 1) ++ (b + 1) :: m2.map (· + 1)) := by
            rw [g2] at hc
            simpa using hc
          have hmm : m1.map (· + 1) ++ (b + 1) :: m2.map (· + 1) = l.map (· + 1) := by rw [g2]; simp
          have hndm : (l.map (· + 1)).Nodup := by
            unfold List.Nodup
            rw [List.pairwise_map]
            exact List.Pairwise.imp (fun h e => h (by omega)) hnd
          have h5 := chn_after (a := n + 1) hcm (by rw [hmm]; exact hnl) (by rw [hmm]; exact hndm)
          have e1 : (fun j1 => if 3 = 3 ∧ 12 = 12 ∧ j1 = b + 1 then some (n + 1) else if 3 = 3 ∧ 12 = 12 ∧ j1 = n + 1 then C.r 3 12 (b + 1) else if 3 = 3 ∧ 12 = 11 ∧ j1 = n + 1 then some p else C.r 3 12 j1) = updO (updO (C.r 3 12) (n + 1) (C.r 3 12 (b + 1))) (b + 1) (some (n + 1)) := by
            funext j
            unfold updO
            simp
          have e2 : (if 7 = 3 ∧ 1 = 12 ∧ p = b + 1 then some (n + 1) else if 7 = 3 ∧ 1 = 12 ∧ p = n + 1 then C.r 3 12 (b + 1) else if 7 = 3 ∧ 1 = 11 ∧ p = n + 1 then some p else C.r 7 1 p) = C.r 7 1 p := by simp
          clear e1
          unfold updO at h5
          simp only [] at e2 ⊢
          rw [e2, ← hl', g3]
          simpa using h5
        · intro k g j g1 g2' g3'
          rw [← hl'] at g2'
          show (if k = 3 ∧ g = 12 ∧ j = b + 1 then some (n + 1) else if k = 3 ∧ g = 12 ∧ j = n + 1 then C.r 3 12 (b + 1) else if k = 3 ∧ g = 11 ∧ j = n + 1 then some p else C.r k g j) = C.r k g j
          rw [if_neg (fun h => g2' ⟨h.1, h.2.1, Or.inr ⟨b, hbl, h.2.2⟩⟩), if_neg (fun h => g2' ⟨h.1, h.2.1, Or.inl h.2.2⟩), if_neg g1]
      · rintro i _ hi ⟨b, m1, m2, g2, g3, rfl, g4, g5⟩
        have hbl : b ∈ l := by rw [hl', g2]; simp
        have hbn := hl b hbl
        have hnb : ¬ b + 1 = n + 1 := by omega
        have hcm : chn (C.r 3 12) (C.r 7 1 p) (m1.map (· + 1) ++ (b + 1) :: m2.map (· + 1)) := by
          rw [hl', g2] at hc
          simpa using hc
        have hnext : chn (C.r 3 12) (C.r 3 12 (b + 1)) (m2.map (· + 1)) := by
          have : ∀ (m : List Nat) (h : Option Nat), chn (C.r 3 12) h (m ++ (b + 1) :: m2.map (· + 1)) → chn (C.r 3 12) (C.r 3 12 (b + 1)) (m2.map (· + 1)) := by
            intro m
            induction m with
            | nil => intro h h1; exact h1.2
            | cons y m ih => intro h h1; exact ih _ h1.2
          exact this _ _ hcm
        have hl1 : l1 = (m1 ++ [b]).tail ++ m2 := by
          have : a :: l1 = (m1 ++ [b]) ++ m2 := by rw [g2]; simp
          cases m1 with
          | nil => simp at this ⊢; exact this.2
          | cons y m1 => simp at this ⊢; exact this.2
        unfold m_cSp_link_B45
        cases m2 with
        | nil =>
          right
          have hr : C.r 3 12 (b + 1) = none := hnext
          simp (disch := omega) only [gd_ok, cl_nI, nI_s, nI_add, nI_leI, nI_ltI, nI_eq, if_pos, if_neg, q0, q1, q2, q3, q4, q5, q6, q7, q8, q9, q10, CS.i_setI, CS.l_setI, CS.r_setI, CS.a_setI, CS.q_setI, CS.z_setI, CS.i_setL, CS.l_setL, CS.r_setL, CS.a_setL, CS.q_setL, CS.z_setL, CS.i_setR, CS.l_setR, CS.r_setR, CS.a_setR, CS.q_setR, CS.z_setR, CS.i_setA, CS.l_setA, CS.r_setA, CS.a_setA, CS.q_setA, CS.z_setA, CS.i_setQ, CS.l_setQ, CS.r_setQ, CS.a_setQ, CS.q_setQ, CS.z_setQ, CS.i_setF, CS.l_setF, CS.r_setF, CS.a_setF, CS.q_setF, CS.z_setF, CS.i_new, CS.l_new, CS.r_new, CS.a_new, CS.q_new, CS.z_new, Nat.reduceEqDiff, false_and, true_and, and_false, and_true, if_true, if_false, b2_0, b2_1, b2_nn, n0_or, n1_or, n10, n01, dec1, dec2, ob_ok, oe_l, oe_r, gl_ok, gle_ok, gn_s, gv_ok, gv_none, on_none, onSome,h3, hr]
          refine ⟨_, rfl, b, m1, [], g2, rfl, ?_⟩
          rw [hins, g4, g5]
          simp only [List.takeWhile_nil, List.dropWhile_nil, List.append_nil]
          cases m1 with
          | nil => simp at g2 ⊢; exact g2.1
          | cons y m1 => simp at g2 ⊢; exact g2.1
        | cons c m2 =>
          rw [List.map_cons, chn_cons] at hnext
          have hcl : c ∈ l := by rw [hl', g2]; simp
          have hcn := hl c hcl
          have hcid := hid c hcl
          have hcne : ¬ c + 1 = n + 1 := by omega
          simp (disch := omega) only [gd_ok, cl_nI, nI_s, nI_add, nI_leI, nI_ltI, nI_eq, if_pos, if_neg, q0, q1, q2, q3, q4, q5, q6, q7, q8, q9, q10, CS.i_setI, CS.l_setI, CS.r_setI, CS.a_setI, CS.q_setI, CS.z_setI, CS.i_setL, CS.l_setL, CS.r_setL, CS.a_setL, CS.q_setL, CS.z_setL, CS.i_setR, CS.l_setR, CS.r_setR, CS.a_setR, CS.q_setR, CS.z_setR, CS.i_setA, CS.l_setA, CS.r_setA, CS.a_setA, CS.q_setA, CS.z_setA, CS.i_setQ, CS.l_setQ, CS.r_setQ, CS.a_setQ, CS.q_setQ, CS.z_setQ, CS.i_setF, CS.l_setF, CS.r_setF, CS.a_setF, CS.q_setF, CS.z_setF, CS.i_new, CS.l_new, CS.r_new, CS.a_new, CS.q_new, CS.z_new, Nat.reduceEqDiff, false_and, true_and, and_false, and_true, if_true, if_false, b2_0, b2_1, b2_nn, n0_or, n1_or, n10, n01, dec1, dec2, ob_ok, oe_l, oe_r, gl_ok, gle_ok, gn_s, gv_ok, gv_none, on_none, onSome,h3, hnext.1, hcid.1, hcid.2, hn]
          by_cases c2 : f c ≤ v
          · rw [if_pos c2]
            right
            refine ⟨_, rfl, b, m1, c :: m2, g2, rfl, ?_⟩
            rw [hins, g4, g5, List.takeWhile_cons_of_neg (by simp; omega), List.dropWhile_cons_of_neg (by simp; omega)]
            cases m1 with
            | nil => simp at g2 ⊢; exact g2.1
            | cons y m1 => simp at g2 ⊢; exact g2.1
          · rw [if_neg c2]
            left
            refine ⟨_, rfl, by rw [g2]; simp; omega, c, m1 ++ [b], m2, by rw [g2]; simp, by simp; omega, rfl, ?_, ?_⟩
            · rw [g4, List.takeWhile_cons_of_pos (by simp; omega)]
              cases m1 with
              | nil => simp
              | cons y m1 => simp
            · rw [g5, List.dropWhile_cons_of_pos (by simp; omega)]
    · rw [if_neg c1]
      rw [front (some (a + 1)) (by rw [← hcc.1]; exact hc) hcc.1]
      have hins : insO f v n l = n :: l := by
        rw [hl', insO_cons, if_pos (by omega)]
      have := frontOK (some (a + 1)) hcc.1 hins
      rw [hl'] at this
      exact this
end LK
