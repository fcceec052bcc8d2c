/-! THE REFERENCE: make. -/
section SN
variable {S : MS} {A : AS}
theorem oi_mk {r : Nat} {x y : Option Nat} {act : Nat} {num : Int64} {ins : Nat} {par : Option Nat} {s : Nat} {key pre : List Nat} {pl : Nat} {Lx Os : List Nat} (h : ∀ m, y = some m → m < A.n) : (A.mk r x act num ins par s key pre pl Lx Os).oi y = A.oi y := by
  cases y with
  | none => rfl
  | some m =>
    have := h m rfl
    simp only [AS.oi]
    rw [mk_id, if_neg (by omega)]
theorem upd_at {f : Nat → Int32} {k : Nat} {v : Int32} : upd f k v k = v := by simp [upd]
theorem upd_ne {f : Nat → Int32} {k j : Nat} {v : Int32} (h : j ≠ k) : upd f k v j = f j := by simp [upd, h]
theorem updL_at {f : Nat → Int64} {k : Nat} {v : Int64} : vp_updL f k v k = v := by simp [vp_updL]
theorem updL_ne {f : Nat → Int64} {k j : Nat} {v : Int64} (h : j ≠ k) : vp_updL f k v j = f j := by simp [vp_updL, h]
/-- the rows that make writes -/
def mkA : List Nat := [8, 9, 10, 11, 12, 13, 15, 17, 18, 19, 20, 21, 28]
theorem RS_mk {S1 : MS} (hR : RS S A) (hA : AI A) {r : Nat} (hr : r < 8) {x : Option Nat} (hx : ∀ m, x = some m → m < A.n) {act : Nat} {num : Int64} {par : Option Nat} {s : Nat} {Lx Os : List Nat} (hn : A.n < 4000)
    (h23 : S1.i 23 = nI (A.n + 1)) (hi : ∀ j, j ≠ 23 → S1.i j = S.i j) (hk : ∀ k, k ∉ mkA → S1.a k = S.a k)
    (h8 : S1.a 8 = upd (S.a 8) A.n (nI (8 * (A.tp r + 1) + r))) (h9 : S1.a 9 = upd (S.a 9) A.n (nI (A.oi x))) (h10 : S1.a 10 = upd (S.a 10) A.n (nI 0)) (h11 : S1.a 11 = upd (S.a 11) A.n (nI act)) (h12 : S1.a 12 = upd (S.a 12) A.n (nI r)) (h13 : S1.a 13 = upd (S.a 13) A.n (-nI 1))
    (h15 : S1.a 15 = upd (S.a 15) A.n (nI 0)) (h17 : S1.a 17 = upd (S.a 17) A.n (nI 0)) (h18 : S1.a 18 = upd (S.a 18) A.n (S.i 25)) (h19 : S1.a 19 = upd (S.a 19) A.n (nI 0)) (h20 : S1.a 20 = upd (S.a 20) A.n (nI 0)) (h21 : S1.a 21 = upd (S.a 21) A.n (nI 0))
    (h22 : S1.n 22 = vp_updL (S.n 22) A.n (if act = 3 ∨ act = 5 ∨ act = 10 then num else 0))
    (hod : ∃ (od : List Nat) (i : Nat) (g : Nat → Int32), i ≤ A.n ∧ od.length = A.n ∧ od.Nodup ∧ (∀ o, o ∈ od ↔ o < A.n) ∧ od.Pairwise (fun a b => A.id a ≤ A.id b) ∧ S1.a 28 = upd g i (nI A.n) ∧
      (∀ k (h : k < od.length), k < i → A.id od[k] ≤ 8 * (A.tp r + 1) + r) ∧ (∀ k (h : k < od.length), i ≤ k → 8 * (A.tp r + 1) + r < A.id od[k]) ∧ (∀ k (h : k < od.length), k < i → g k = nI od[k]) ∧ (∀ k (h : k < od.length), i ≤ k → g (k + 1) = nI od[k])) :
    RS S1 (A.mk r x act num 0 par s [] [] 0 Lx Os) := by
  refine ⟨⟨?_, ?_, ?_⟩, ?_, ?_, ?_, ?_, ?_, ?_, ?_⟩
  · rw [h23]; rfl
  · rw [hi 34 (by decide)]; exact hR.1.2.1
  · rw [hi 27 (by decide)]; exact hR.1.2.2
  · intro o ho
    rw [mk_n] at ho
    rw [h8, h9, h10, h11, h12, h13, h20, h21, h22, mk_id, mk_obj, mk_pl, mk_act, mk_own, mk_chg, mk_ins, mk_gone, mk_num]
    by_cases e : o = A.n
    · subst e
      simp only [upd_at, updL_at, if_true]
      rw [oi_mk hx]
      exact ⟨by trivial, by trivial, by trivial, by trivial, by trivial, by trivial, by trivial, by trivial, by trivial⟩
    · simp only [upd_ne e, updL_ne e, if_neg e]
      rw [oi_mk (fun m hm => by have := (hA.2.2.1.2.2.2.1 o m (by omega) hm).1; omega)]
      exact hR.2.1 o (by omega)
  · intro o ho
    rw [mk_n] at ho
    rw [mk_key, mk_ba, mk_str, mk_kn, mk_act, hk 14 (by decide), hk 16 (by decide), hk 26 (by decide), h15, h17]
    by_cases e : o = A.n
    · subst e
      simp only [upd_at, if_true]
      refine ⟨fun h => absurd rfl h, rfl, fun h => absurd rfl h, rfl, fun _ => by trivial, by simp, ?_, ?_⟩
      · intro i h; simp at h
      · intro i h; simp at h
    · simp only [upd_ne e, if_neg e]
      exact hR.2.2.1 o (by omega)
  · obtain ⟨t, pa, g1, g2, g3⟩ := hR.2.2.2.1
    refine ⟨t, fun o => if o = A.n then t else pa o, by rw [hi 25 (by decide)]; exact g1, by rw [mk_n]; omega, ?_⟩
    intro o ho
    rw [mk_n] at ho
    rw [mk_pre, h18, h19, hk 24 (by decide)]
    by_cases e : o = A.n
    · subst e
      simp only [upd_at, if_true]
      refine ⟨g1, rfl, by simp, ?_⟩
      intro i h; simp at h
    · simp only [upd_ne e, if_neg e]
      exact g3 o (by omega)
  · obtain ⟨od, i, g, hi1, hl, hnd, hm, hs, h28, a1, a2, a3, a4⟩ := hod
    refine ⟨od.take i ++ A.n :: od.drop i, ?_, ?_, ?_, ?_, ?_⟩
    · rw [mk_n]; simp; omega
    · intro k hk2
      simp only [List.length_append, List.length_cons, List.length_take, List.length_drop] at hk2
      rw [h28]
      by_cases e1 : k = i
      · subst e1
        rw [upd_at, List.getElem_append_right (by simp; omega)]
        simp [Nat.min_eq_left (show k ≤ od.length by omega)]
      · rw [upd_ne e1]
        rcases Nat.lt_or_ge k i with e2 | e2
        · rw [List.getElem_append_left (by simp; omega), List.getElem_take]
          exact a3 k (by omega) e2
        · rw [List.getElem_append_right (by simp; omega)]
          have : ∀ (q : Nat) (hq : q < (A.n :: od.drop i).length), q = k - i → (A.n :: od.drop i)[q] = od[k - 1]'(by omega) := by
            intro q hq e3
            obtain ⟨w, rfl⟩ : ∃ w, q = w + 1 := ⟨q - 1, by omega⟩
            simp only [List.getElem_cons_succ, List.getElem_drop]
            congr 1
            omega
          rw [this _ _ (by simp; omega)]
          have := a4 (k - 1) (by omega) (by omega)
          rw [show k - 1 + 1 = k by omega] at this
          exact this
    · have hnot : A.n ∉ od := fun h => by have := (hm A.n).mp h; omega
      rw [List.nodup_append]
      refine ⟨hnd.sublist (List.take_sublist _ _), ?_, ?_⟩
      · rw [List.nodup_cons]
        exact ⟨fun h => hnot (List.mem_of_mem_drop h), hnd.sublist (List.drop_sublist _ _)⟩
      · intro a ha b hb e
        subst e
        rcases List.mem_cons.mp hb with rfl | hb
        · exact hnot (List.mem_of_mem_take ha)
        · have : (od.take i ++ od.drop i).Nodup := by rw [List.take_append_drop]; exact hnd
          rw [List.nodup_append] at this
          exact this.2.2 a ha a hb rfl
    · intro o
      rw [mk_n, List.mem_append, List.mem_cons]
      have h2 := hm o
      rw [← List.take_append_drop i od, List.mem_append] at h2
      constructor
      · rintro (h | h | h)
        · have := h2.mp (Or.inl h); omega
        · omega
        · have := h2.mp (Or.inr h); omega
      · intro h
        by_cases e : o = A.n
        · exact Or.inr (Or.inl e)
        · rcases h2.mpr (by omega) with h | h
          · exact Or.inl h
          · exact Or.inr (Or.inr h)
    · have hne : ∀ o, o ∈ od → o ≠ A.n := fun o h e => by have := (hm o).mp h; omega
      rw [List.pairwise_append]
      refine ⟨?_, ?_, ?_⟩
      · refine List.Pairwise.imp_of_mem ?_ (hs.sublist (List.take_sublist i od))
        intro a b ha hb hab
        rw [mk_id, mk_id, if_neg (hne a (List.mem_of_mem_take ha)), if_neg (hne b (List.mem_of_mem_take hb))]
        exact hab
      · rw [List.pairwise_cons]
        refine ⟨?_, ?_⟩
        · intro b hb
          rw [mk_id, mk_id, if_pos rfl, if_neg (hne b (List.mem_of_mem_drop hb))]
          rw [List.mem_drop_iff_getElem] at hb
          obtain ⟨w, hw, rfl⟩ := hb
          have := a2 (i + w) (by omega) (by omega)
          omega
        · refine List.Pairwise.imp_of_mem ?_ (hs.sublist (List.drop_sublist i od))
          intro a b ha hb hab
          rw [mk_id, mk_id, if_neg (hne a (List.mem_of_mem_drop ha)), if_neg (hne b (List.mem_of_mem_drop hb))]
          exact hab
      · intro a ha b hb
        have hna := hne a (List.mem_of_mem_take ha)
        have ha' := ha
        rw [List.mem_take_iff_getElem] at ha'
        obtain ⟨w, hw, he⟩ := ha'
        have h1 := a1 w (by omega) (by omega)
        rw [he] at h1
        rw [mk_id, mk_id, if_neg hna]
        rcases List.mem_cons.mp hb with rfl | hb
        · rw [if_pos rfl]; exact h1
        · rw [if_neg (hne b (List.mem_of_mem_drop hb))]
          rw [List.mem_drop_iff_getElem] at hb
          obtain ⟨v, hv, rfl⟩ := hb
          have := a2 (i + v) (by omega) (by omega)
          omega
  · intro c hc
    rw [hk 29 (by decide), hk 30 (by decide)]
    exact hR.2.2.2.2.2.1 c hc
  · obtain ⟨t, da, dl, g1, g2, g3⟩ := hR.2.2.2.2.2.2.1
    refine ⟨t, da, dl, by rw [hi 35 (by decide)]; exact g1, g2, ?_⟩
    intro c hc
    rw [hk 31 (by decide), hk 32 (by decide), hk 33 (by decide)]
    exact g3 c hc
  · intro q hq
    have hw : ∀ j, 101 ≤ j → j ∉ mkA := by
      intro j hj
      unfold mkA
      simp
      omega
    rw [hk 39 (by decide), hk (101 + q) (hw _ (by omega)), hk (109 + q) (hw _ (by omega)), hk (117 + q) (hw _ (by omega))]
    exact hR.2.2.2.2.2.2.2 q hq
theorem pS_make (hR : RS S A) (hA : AI A) {r : Nat} (hr : r < 8) {x : Option Nat} (hx : ∀ m, x = some m → m < A.n) {act : Nat} (hact : act ≤ 10) {num : Int64} {par : Option Nat} {s : Nat} {Lx Os : List Nat} (hn : A.n < 4000) :
    ∃ S1, m_rmake S (nI r) (nI (A.oi x)) (nI act) num = some (S1, nI A.n) ∧ RS S1 (A.mk r x act num 0 par s [] [] 0 Lx Os) ∧ (∀ j, j ≠ 23 → S1.i j = S.i j) ∧ (∀ k, k ∉ mkA → S1.a k = S.a k) ∧ S1.n 61 = S.n 61 ∧ S1.a 18 A.n = S.i 25 := by
  have htp := (hA.2.2.2.1.1 r).2
  obtain ⟨od, o1, o2, o3, o4, o5⟩ := hR.2.2.2.2.1
  let nm : Int64 := if act = 3 ∨ act = 5 ∨ act = 10 then num else 0
  let B : MS := ((((((((((((((S.setA 8 (upd (S.a 8) A.n (nI (8 * (A.tp r + 1) + r)))).setA 9 (upd (S.a 9) A.n (nI (A.oi x)))).setA 10 (upd (S.a 10) A.n (nI 0))).setA 11 (upd (S.a 11) A.n (nI act))).setN 22 (vp_updL (S.n 22) A.n nm)).setA 12 (upd (S.a 12) A.n (nI r))).setA 13 (upd (S.a 13) A.n (-nI 1))).setA 15 (upd (S.a 15) A.n (nI 0))).setA 17 (upd (S.a 17) A.n (nI 0))).setA 20 (upd (S.a 20) A.n (nI 0))).setA 21 (upd (S.a 21) A.n (nI 0))).setA 18 (upd (S.a 18) A.n (S.i 25))).setA 19 (upd (S.a 19) A.n (nI 0))))
  obtain ⟨i, g, hi, h1, h2, h3, h4, h5⟩ := pS_order (S := B) (od := od) (n := A.n) (f := fun o => if o = A.n then 8 * (A.tp r + 1) + r else A.id o) hn o1 o2 (fun o h => (o4 o).mp h) (by
    intro o ho
    show upd (S.a 8) A.n (nI (8 * (A.tp r + 1) + r)) o = _
    by_cases e : o = A.n
    · subst e; simp [upd_at]
    · rw [upd_ne e, if_neg e]
      exact (hR.2.1 o (by omega)).1) (by
    intro o ho
    by_cases e : o = A.n
    · simp only [e, if_true]; omega
    · simp only [e, if_false]; exact id_lt hA (by omega)) (by
    refine List.Pairwise.imp_of_mem ?_ o5
    intro a b ha hb hab
    have h1 := (o4 a).mp ha
    have h2 := (o4 b).mp hb
    rw [if_neg (by omega), if_neg (by omega)]
    exact hab)
  let F : MS := ((B.setA 28 (upd g i (nI A.n))).setI 23 (nI (A.n + 1)))
  have hFi : ∀ j, j ≠ 23 → F.i j = S.i j := by
    intro j hj
    show (if j = 23 then nI (A.n + 1) else S.i j) = S.i j
    rw [if_neg hj]
  have hFa : ∀ k, k ∉ mkA → F.a k = S.a k := by
    intro k hk
    simp only [mkA, List.mem_cons, not_or, List.not_mem_nil, not_false_eq_true, and_true] at hk
    simp only [F, B, MS.i_setI, MS.a_setI, MS.n_setI, MS.i_setA, MS.a_setA, MS.n_setA, MS.i_setN, MS.a_setN, MS.n_setN]
    simp [hk]
  refine ⟨F, ?_, ?_, ?_, ?_, ?_, ?_⟩
  · have hB : m_rmake_J77 ((((S.setA 8 (upd (S.a 8) A.n (nI (8 * (A.tp r + 1) + r)))).setA 9 (upd (S.a 9) A.n (nI (A.oi x)))).setA 10 (upd (S.a 10) A.n (nI 0))).setA 11 (upd (S.a 11) A.n (nI act))) (nI r) (nI A.n) nm (nI A.n) = some (F, nI A.n) := by
      unfold m_rmake_J77 m_rmake_J202
      simp (disch := omega) only [gd_ok, cl_nI, nI_s, nI_add, nI_leI, nI_ltI, nI_eq, if_pos, if_neg, q0, q1, q2, q3, q4, q5, q6, q7, q8, q9, q10, MS.i_setI, MS.a_setI, MS.n_setI, MS.i_setA, MS.a_setA, MS.n_setA, MS.i_setN, MS.a_setN, MS.n_setN, ↓reduceIte, Nat.reduceEqDiff, b2_0, b2_1, b2_nn, n0_or, n1_or, n10, n01, dec1, dec2, ob_ok, oe_l, oe_r,nar_b0, hR.1.1]
      have h1' : m_rmake_L151 ((((((((((((((S.setA 8 (upd (S.a 8) A.n (nI (8 * (A.tp r + 1) + r)))).setA 9 (upd (S.a 9) A.n (nI (A.oi x)))).setA 10 (upd (S.a 10) A.n (nI 0))).setA 11 (upd (S.a 11) A.n (nI act))).setN 22 (vp_updL (S.n 22) A.n nm)).setA 12 (upd (S.a 12) A.n (nI r))).setA 13 (upd (S.a 13) A.n (-nI 1))).setA 15 (upd (S.a 15) A.n (nI 0))).setA 17 (upd (S.a 17) A.n (nI 0))).setA 20 (upd (S.a 20) A.n (nI 0))).setA 21 (upd (S.a 21) A.n (nI 0))).setA 18 (upd (S.a 18) A.n (S.i 25))).setA 19 (upd (S.a 19) A.n (nI 0)))) (nI A.n) (nI A.n) = some (B.setA 28 g, nI A.n, nI i) := h1
      simp (disch := omega) only [gd_ok, cl_nI, nI_s, nI_add, nI_leI, nI_ltI, nI_eq, if_pos, if_neg, q0, q1, q2, q3, q4, q5, q6, q7, q8, q9, q10, MS.i_setI, MS.a_setI, MS.n_setI, MS.i_setA, MS.a_setA, MS.n_setA, MS.i_setN, MS.a_setN, MS.n_setN, ↓reduceIte, Nat.reduceEqDiff, b2_0, b2_1, b2_nn, n0_or, n1_or, n10, n01, dec1, dec2, ob_ok, oe_l, oe_r,h1', hR.1.1]
      rw [MS.setA_setA, show B.i 23 = nI A.n from hR.1.1, nI_add]
    unfold m_rmake m_rmake_J0 m_rmake_J71
    simp (disch := omega) only [gd_ok, cl_nI, nI_s, nI_add, nI_leI, nI_ltI, nI_eq, if_pos, if_neg, q0, q1, q2, q3, q4, q5, q6, q7, q8, q9, q10, MS.i_setI, MS.a_setI, MS.n_setI, MS.i_setA, MS.a_setA, MS.n_setA, MS.i_setN, MS.a_setN, MS.n_setN, ↓reduceIte, Nat.reduceEqDiff, b2_0, b2_1, b2_nn, n0_or, n1_or, n10, n01, dec1, dec2, ob_ok, oe_l, oe_r,pS_greatest hR hA hr, hR.1.1, pk_mul]
    by_cases c3 : act = 3
    · rw [if_pos c3]
      rw [show nm = num from if_pos (Or.inl c3)] at hB
      exact hB
    · rw [if_neg c3]
      by_cases c5 : act = 5
      · rw [if_pos c5]
        rw [show nm = num from if_pos (Or.inr (Or.inl c5))] at hB
        exact hB
      · rw [if_neg c5]
        by_cases c10 : act = 10
        · rw [if_pos c10]
          rw [show nm = num from if_pos (Or.inr (Or.inr c10))] at hB
          exact hB
        · rw [if_neg c10]
          rw [show nm = 0 from if_neg (by simp [c3, c5, c10])] at hB
          exact hB
  · refine RS_mk hR hA hr hx hn rfl hFi hFa rfl rfl rfl rfl rfl rfl rfl rfl rfl rfl rfl rfl rfl ⟨od, i, g, hi, o1, o3, o4, o5, rfl, ?_, ?_, h4, h5⟩
    · intro k hk hki
      have h6 := h2 k hk hki
      have h7 := (o4 _).mp (List.getElem_mem hk)
      rw [if_neg (by omega), if_pos rfl] at h6
      exact h6
    · intro k hk hki
      have h6 := h3 k hk hki
      have h7 := (o4 _).mp (List.getElem_mem hk)
      rw [if_neg (by omega : ¬ od[k] = A.n), if_pos rfl] at h6
      exact h6
  · exact hFi
  · exact hFa
  · rfl
  · exact upd_at
end SN
