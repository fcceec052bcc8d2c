/-! THE CLASS: rows are written; counters kept; PRED. -/
def CS.row (C : CS) (j : Nat) (f : Nat → Int32) (v : Int32) : CS := (C.setF 13 j f).setI 5 1 j v
def CS.setG (C : CS) (k j : Nat) (g : Nat → Option Nat) : CS := (C.i, C.l, C.r, C.a, fun k1 j1 p1 => if k1 = k ∧ j1 = j then g p1 else C.q k1 j1 p1, C.z)
section RW2
variable {N : Nat → Nat} {C : CS} {A : AS} {r rd : Nat}
theorem row_write {j p : Nat} {f : Nat → Int32} {v v' w : Int32} : ((C.row j f v).setA 13 j p w).setI 5 1 j v' = C.row j (upd f p w) v' := by
  unfold CS.row
  apply CS_ext <;> intros <;> try rfl
  · rw [CS.i_setI, CS.i_setI, CS.i_setA, CS.i_setI]
    split <;> rfl
  · rw [CS.a_setI, CS.a_setA, CS.a_setI, CS.a_setF, CS.a_setI, CS.a_setF]
    unfold upd
    split
    · rename_i h; rw [if_pos ⟨h.1, h.2.1⟩, if_pos h.2.2]
    · rename_i h
      split
      · rename_i h2
        rw [if_neg]
        intro e
        exact h ⟨h2.1, h2.2, e⟩
      · rfl
theorem row_self {j : Nat} : C.row j (C.a 13 j) (C.i 5 1 j) = C := by
  unfold CS.row
  apply CS_ext <;> intros <;> try rfl
  · rw [CS.i_setI]
    split
    · rename_i h; rw [h.1, h.2.1, h.2.2]
    · rfl
  · rw [CS.a_setI, CS.a_setF]
    split
    · rename_i h; rw [h.1, h.2]
    · rfl
theorem row_i {j : Nat} {f : Nat → Int32} {v : Int32} (k1 f1 j1 : Nat) : (C.row j f v).i k1 f1 j1 = if k1 = 5 ∧ f1 = 1 ∧ j1 = j then v else C.i k1 f1 j1 := id rfl
theorem row_a {j : Nat} {f : Nat → Int32} {v : Int32} (k1 j1 p1 : Nat) : (C.row j f v).a k1 j1 p1 = if k1 = 13 ∧ j1 = j then f p1 else C.a k1 j1 p1 := id rfl
theorem row_r {j : Nat} {f : Nat → Int32} {v : Int32} : (C.row j f v).r = C.r := id rfl
theorem row_q {j : Nat} {f : Nat → Int32} {v : Int32} : (C.row j f v).q = C.q := id rfl
theorem row_l {j : Nat} {f : Nat → Int32} {v : Int32} : (C.row j f v).l = C.l := id rfl
theorem row_z {j : Nat} {f : Nat → Int32} {v : Int32} : (C.row j f v).z = C.z := id rfl
/-- a byte is written behind the end -/
theorem cR_write {j len : Nat} {f : Nat → Int32} (h5 : N 5 = 7) (h13 : N 13 = 7) (h : RW (C.row j f (nI len)) j len) (hl : len < C.z 13 j) {b : Int32} :
    m_cRw_write N j (C.row j f (nI len)) b = some (C.row j (upd f len b.toInt8.toInt32) (nI (len + 1))) := by
  obtain ⟨a1, a2, a3, a4, a5⟩ := h
  rw [row_z] at a4 a5
  unfold m_cRw_write m_cRw_write_J0 m_cRw_write_J41
  simp (disch := omega) only [gd_ok, cl_nI, nI_s, nI_add, nI_leI, nI_ltI, nI_eq, if_pos, if_neg, q0, q1, q2, q3, q4, q5, q6, q7, q8, q9, q10, CS.i_setI, CS.l_setI, CS.r_setI, CS.a_setI, CS.q_setI, CS.z_setI, CS.i_setL, CS.l_setL, CS.r_setL, CS.a_setL, CS.q_setL, CS.z_setL, CS.i_setR, CS.l_setR, CS.r_setR, CS.a_setR, CS.q_setR, CS.z_setR, CS.i_setA, CS.l_setA, CS.r_setA, CS.a_setA, CS.q_setA, CS.z_setA, CS.i_setQ, CS.l_setQ, CS.r_setQ, CS.a_setQ, CS.q_setQ, CS.z_setQ, CS.i_setF, CS.l_setF, CS.r_setF, CS.a_setF, CS.q_setF, CS.z_setF, CS.i_new, CS.l_new, CS.r_new, CS.a_new, CS.q_new, CS.z_new, Nat.reduceEqDiff, false_and, true_and, and_false, and_true, if_true, if_false, b2_0, b2_1, b2_nn, n0_or, n1_or, n10, n01, dec1, dec2, ob_ok, oe_l, oe_r, gl_ok, gle_ok, gn_s, gv_ok, gv_none, on_none, onSome,h5, h13, a2, a3, row_z, vp_nar_byte]
  congr 1
  rw [show (b.toInt8.toInt32.toInt8.toInt32) = b.toInt8.toInt32 by simp]
  exact row_write
theorem cR_writeAll {j len j2 l2 p : Nat} {k : List Nat} (h5 : N 5 = 7) (h13 : N 13 = 7) (h : RW C j len) (h2 : RW C j2 l2) (hb : RB C j2 p k) (hp : p + k.length ≤ l2) (hl : len + k.length ≤ C.z 13 j) :
    ∃ f, m_cRw_writeAll N j C j2 (nI p) (nI k.length) = some (C.row j f (nI (len + k.length))) ∧ (∀ q, q < len → f q = C.a 13 j q) ∧ ∀ i (hi : i < k.length), f (len + i) = sb k[i] := by
  have w1 := h.2.2.2.2
  have w2 := h2.2.2.2
  have w3 := h.1
  have w4 := h2.1
  have hle : j = j2 → len = l2 := by
    rintro rfl
    have e := h.2.2.1
    rw [h2.2.2.1] at e
    exact ((nI_eq (by omega) (by omega)).mp e).symm
  have := lp_run (body := fun c : CS × Option Nat × Int32 × Int32 × Int32 => m_cRw_writeAll_B3 N j c.1 c.2.1 c.2.2.1 c.2.2.2.1 c.2.2.2.2)
    (fun i c => ∃ f, c = (C.row j f (nI (len + i)), some j2, nI p, nI k.length, nI i) ∧ (∀ q, q < len → f q = C.a 13 j q) ∧ ∀ q (hq : q < k.length), q < i → f (len + q) = sb k[q])
    (fun e => ∃ f, e = C.row j f (nI (len + k.length)) ∧ (∀ q, q < len → f q = C.a 13 j q) ∧ ∀ q (hq : q < k.length), f (len + q) = sb k[q]) k.length ?_ FU (C, some j2, nI p, nI k.length, nI 0) (by unfold FU; omega) ⟨C.a 13 j, by rw [Nat.add_zero, ← h.2.2.1, row_self], fun _ _ => rfl, fun q hq h0 => by omega⟩
  · obtain ⟨e, g1, f, rfl, g2, g3⟩ := this
    refine ⟨f, ?_, g2, g3⟩
    have g1' : m_cRw_writeAll_L3 N j C (some j2) (nI p) (nI k.length) (nI 0) = _ := g1
    unfold m_cRw_writeAll m_cRw_writeAll_J0
    simp (disch := omega) only [gd_ok, cl_nI, nI_s, nI_add, nI_leI, nI_ltI, nI_eq, if_pos, if_neg, q0, q1, q2, q3, q4, q5, q6, q7, q8, q9, q10, CS.i_setI, CS.l_setI, CS.r_setI, CS.a_setI, CS.q_setI, CS.z_setI, CS.i_setL, CS.l_setL, CS.r_setL, CS.a_setL, CS.q_setL, CS.z_setL, CS.i_setR, CS.l_setR, CS.r_setR, CS.a_setR, CS.q_setR, CS.z_setR, CS.i_setA, CS.l_setA, CS.r_setA, CS.a_setA, CS.q_setA, CS.z_setA, CS.i_setQ, CS.l_setQ, CS.r_setQ, CS.a_setQ, CS.q_setQ, CS.z_setQ, CS.i_setF, CS.l_setF, CS.r_setF, CS.a_setF, CS.q_setF, CS.z_setF, CS.i_new, CS.l_new, CS.r_new, CS.a_new, CS.q_new, CS.z_new, Nat.reduceEqDiff, false_and, true_and, and_false, and_true, if_true, if_false, b2_0, b2_1, b2_nn, n0_or, n1_or, n10, n01, dec1, dec2, ob_ok, oe_l, oe_r, gl_ok, gle_ok, gn_s, gv_ok, gv_none, on_none, onSome,g1']
  · rintro i _ hi ⟨f, rfl, g2, g3⟩
    unfold m_cRw_writeAll_B3
    by_cases hin : i < k.length
    · left
      have hRj : RW (C.row j f (nI (len + i))) j (len + i) := ⟨w3, h.2.1, by rw [row_i, if_pos ⟨rfl, rfl, rfl⟩], by rw [row_z]; omega, by rw [row_z]; exact w1⟩
      have hread : m_cRw_at N j2 (C.row j f (nI (len + i))) (nI (p + i)) = some (C.row j f (nI (len + i)), nI k[i]) := by
        by_cases e : j = j2
        · have e2 := hle e
          subst e
          rw [cR_at h5 h13 hRj (by omega), row_a, if_pos ⟨rfl, rfl⟩, g2 _ (by omega), (hb i hin).2, sb_and (hb i hin).1]
        · have hR2 : RW (C.row j f (nI (len + i))) j2 l2 := ⟨w4, h2.2.1, by rw [row_i, if_neg (by simp [Ne.symm e])]; exact h2.2.2.1, w2.1, w2.2⟩
          rw [cR_at h5 h13 hR2 (by omega), row_a, if_neg (by simp [Ne.symm e]), (hb i hin).2, sb_and (hb i hin).1]
      have hwr := cR_write (C := C) (f := f) h5 h13 hRj (by omega) (b := nI k[i])
      simp (disch := omega) only [gd_ok, cl_nI, nI_s, nI_add, nI_leI, nI_ltI, nI_eq, if_pos, if_neg, q0, q1, q2, q3, q4, q5, q6, q7, q8, q9, q10, CS.i_setI, CS.l_setI, CS.r_setI, CS.a_setI, CS.q_setI, CS.z_setI, CS.i_setL, CS.l_setL, CS.r_setL, CS.a_setL, CS.q_setL, CS.z_setL, CS.i_setR, CS.l_setR, CS.r_setR, CS.a_setR, CS.q_setR, CS.z_setR, CS.i_setA, CS.l_setA, CS.r_setA, CS.a_setA, CS.q_setA, CS.z_setA, CS.i_setQ, CS.l_setQ, CS.r_setQ, CS.a_setQ, CS.q_setQ, CS.z_setQ, CS.i_setF, CS.l_setF, CS.r_setF, CS.a_setF, CS.q_setF, CS.z_setF, CS.i_new, CS.l_new, CS.r_new, CS.a_new, CS.q_new, CS.z_new, Nat.reduceEqDiff, false_and, true_and, and_false, and_true, if_true, if_false, b2_0, b2_1, b2_nn, n0_or, n1_or, n10, n01, dec1, dec2, ob_ok, oe_l, oe_r, gl_ok, gle_ok, gn_s, gv_ok, gv_none, on_none, onSome,h5, hread, hwr]
      refine ⟨_, rfl, hin, upd f (len + i) (nI k[i]).toInt8.toInt32, rfl, ?_, ?_⟩
      · intro q hq
        rw [upd_ne (by omega)]
        exact g2 q hq
      · intro q hq hqi
        by_cases e : q = i
        · subst e; rw [upd_at]; rfl
        · rw [upd_ne (by omega)]
          exact g3 q hq (by omega)
    · right
      simp (disch := omega) only [gd_ok, cl_nI, nI_s, nI_add, nI_leI, nI_ltI, nI_eq, if_pos, if_neg, q0, q1, q2, q3, q4, q5, q6, q7, q8, q9, q10, CS.i_setI, CS.l_setI, CS.r_setI, CS.a_setI, CS.q_setI, CS.z_setI, CS.i_setL, CS.l_setL, CS.r_setL, CS.a_setL, CS.q_setL, CS.z_setL, CS.i_setR, CS.l_setR, CS.r_setR, CS.a_setR, CS.q_setR, CS.z_setR, CS.i_setA, CS.l_setA, CS.r_setA, CS.a_setA, CS.q_setA, CS.z_setA, CS.i_setQ, CS.l_setQ, CS.r_setQ, CS.a_setQ, CS.q_setQ, CS.z_setQ, CS.i_setF, CS.l_setF, CS.r_setF, CS.a_setF, CS.q_setF, CS.z_setF, CS.i_new, CS.l_new, CS.r_new, CS.a_new, CS.q_new, CS.z_new, Nat.reduceEqDiff, false_and, true_and, and_false, and_true, if_true, if_false, b2_0, b2_1, b2_nn, n0_or, n1_or, n10, n01, dec1, dec2, ob_ok, oe_l, oe_r, gl_ok, gle_ok, gn_s, gv_ok, gv_none, on_none, onSome]
      refine ⟨_, rfl, f, ?_, g2, fun q hq => g3 q hq (by omega)⟩
      rw [show i = k.length by omega]
/-- only counters are kept -/
theorem cV_keepCounters {cs : List Nat} (h10 : N 10 = 1) (h15 : 1 < N 15) (h3 : ∀ c, c ∈ cs → c + 1 < N 3) (hr2 : C.r 10 2 0 = some 1) (hz : C.z 15 1 = 8) {g : Nat → Int32} {h : Nat → Option Nat} {v : Int32} (hc8 : cs.length ≤ 8) (hf : ∀ k (hk : k < cs.length), h k = some (cs[k] + 1)) {at_ : Nat → Nat} (hact : ∀ c, c ∈ cs → C.i 3 2 (c + 1) = nI (at_ c) ∧ at_ c ≤ 10) :
    ∃ h', m_cVw_keepCounters N 0 (C.vs g h (nI cs.length) v) = some (C.vs g h' (nI (cs.filter (fun c => decide (at_ c = 5))).length) v) ∧ (∀ k (hk : k < (cs.filter (fun c => decide (at_ c = 5))).length), h' k = some ((cs.filter (fun c => decide (at_ c = 5)))[k] + 1)) ∧ ∀ p y, h' p = some y → h p = some y ∨ ∃ c, c ∈ cs ∧ y = c + 1 := by
  let q : Nat → Bool := fun c => decide (at_ c = 5)
  have := lp_run (body := fun c : CS × Int32 × Int32 => m_cVw_keepCounters_B4 N 0 c.1 c.2.1 c.2.2)
    (fun i c => ∃ h', c = (C.vs g h' (nI cs.length) v, nI ((cs.take i).filter q).length, nI i) ∧ (∀ k (hk : k < ((cs.take i).filter q).length), h' k = some (((cs.take i).filter q)[k] + 1)) ∧ (∀ k, i ≤ k → h' k = h k) ∧ ∀ p y, h' p = some y → h p = some y ∨ ∃ c, c ∈ cs ∧ y = c + 1)
    (fun e => ∃ h', e = (C.vs g h' (nI cs.length) v, nI (cs.filter q).length) ∧ (∀ k (hk : k < (cs.filter q).length), h' k = some ((cs.filter q)[k] + 1)) ∧ ∀ p y, h' p = some y → h p = some y ∨ ∃ c, c ∈ cs ∧ y = c + 1) cs.length ?_ FU (C.vs g h (nI cs.length) v, nI 0, nI 0) (by unfold FU; omega) ⟨h, rfl, fun k hk => by simp at hk, fun _ _ => rfl, fun p y hy => Or.inl hy⟩
  · obtain ⟨e, g1, h', rfl, g2, g3⟩ := this
    refine ⟨h', ?_, g2, g3⟩
    have g1' : m_cVw_keepCounters_L4 N 0 (C.vs g h (nI cs.length) v) (nI 0) (nI 0) = _ := g1
    unfold m_cVw_keepCounters m_cVw_keepCounters_J0
    simp (disch := omega) only [gd_ok, cl_nI, nI_s, nI_add, nI_leI, nI_ltI, nI_eq, if_pos, if_neg, q0, q1, q2, q3, q4, q5, q6, q7, q8, q9, q10, CS.i_setI, CS.l_setI, CS.r_setI, CS.a_setI, CS.q_setI, CS.z_setI, CS.i_setL, CS.l_setL, CS.r_setL, CS.a_setL, CS.q_setL, CS.z_setL, CS.i_setR, CS.l_setR, CS.r_setR, CS.a_setR, CS.q_setR, CS.z_setR, CS.i_setA, CS.l_setA, CS.r_setA, CS.a_setA, CS.q_setA, CS.z_setA, CS.i_setQ, CS.l_setQ, CS.r_setQ, CS.a_setQ, CS.q_setQ, CS.z_setQ, CS.i_setF, CS.l_setF, CS.r_setF, CS.a_setF, CS.q_setF, CS.z_setF, CS.i_new, CS.l_new, CS.r_new, CS.a_new, CS.q_new, CS.z_new, Nat.reduceEqDiff, false_and, true_and, and_false, and_true, if_true, if_false, b2_0, b2_1, b2_nn, n0_or, n1_or, n10, n01, dec1, dec2, ob_ok, oe_l, oe_r, gl_ok, gle_ok, gn_s, gv_ok, gv_none, on_none, onSome,g1', h10, vs_size]
    rfl
  · rintro i _ hi ⟨h', rfl, g2, g3, g4⟩
    unfold m_cVw_keepCounters_B4 m_cVw_keepCounters_J40
    by_cases hin : i < cs.length
    · left
      have hm := List.getElem_mem hin
      obtain ⟨a1, a2⟩ := hact _ hm
      have b1 := h3 _ hm
      have hll : ((cs.take i).filter q).length ≤ i := by
        refine Nat.le_trans (List.length_filter_le _ _) ?_
        rw [List.length_take]
        omega
      have hhi : h' i = some (cs[i] + 1) := by rw [g3 i (Nat.le_refl _)]; exact hf i hin
      have hts : (cs.take (i + 1)).filter q = (cs.take i).filter q ++ (if q cs[i] then [cs[i]] else []) := by
        rw [List.take_succ_eq_append_getElem hin, List.filter_append]
        congr 1
        cases hq : q cs[i] <;> simp [hq]
      simp (disch := omega) only [gd_ok, cl_nI, nI_s, nI_add, nI_leI, nI_ltI, nI_eq, if_pos, if_neg, q0, q1, q2, q3, q4, q5, q6, q7, q8, q9, q10, CS.i_setI, CS.l_setI, CS.r_setI, CS.a_setI, CS.q_setI, CS.z_setI, CS.i_setL, CS.l_setL, CS.r_setL, CS.a_setL, CS.q_setL, CS.z_setL, CS.i_setR, CS.l_setR, CS.r_setR, CS.a_setR, CS.q_setR, CS.z_setR, CS.i_setA, CS.l_setA, CS.r_setA, CS.a_setA, CS.q_setA, CS.z_setA, CS.i_setQ, CS.l_setQ, CS.r_setQ, CS.a_setQ, CS.q_setQ, CS.z_setQ, CS.i_setF, CS.l_setF, CS.r_setF, CS.a_setF, CS.q_setF, CS.z_setF, CS.i_new, CS.l_new, CS.r_new, CS.a_new, CS.q_new, CS.z_new, Nat.reduceEqDiff, false_and, true_and, and_false, and_true, if_true, if_false, b2_0, b2_1, b2_nn, n0_or, n1_or, n10, n01, dec1, dec2, ob_ok, oe_l, oe_r, gl_ok, gle_ok, gn_s, gv_ok, gv_none, on_none, onSome,h10, vs_i, vs_r, vs_z, vs_q, hr2, hz, hhi, a1, vs_found]
      by_cases c5 : at_ cs[i] = 5
      · rw [if_pos c5]
        have hq : q cs[i] = true := by simp [q, c5]
        rw [hq, if_pos rfl] at hts
        refine ⟨_, rfl, hin, updO h' ((cs.take i).filter q).length (some (cs[i] + 1)), ?_, ?_, ?_, ?_⟩
        · rw [hts]; simp
        · intro k hk
          simp only [hts] at hk ⊢
          simp only [List.length_append, List.length_singleton] at hk
          unfold updO
          by_cases e : k = ((cs.take i).filter q).length
          · subst e; simp
          · rw [if_neg e, List.getElem_append_left (by omega)]
            exact g2 k (by omega)
        · intro k hk
          unfold updO
          rw [if_neg (by omega)]
          exact g3 k (by omega)
        · intro p y hp
          unfold updO at hp
          split at hp
          · cases hp; exact Or.inr ⟨_, hm, rfl⟩
          · exact g4 p y hp
      · rw [if_neg c5]
        have hq : q cs[i] = false := by simp [q, c5]
        rw [hq] at hts
        simp only [Bool.false_eq_true, if_false, List.append_nil] at hts
        refine ⟨_, rfl, hin, h', by rw [hts], ?_, fun k hk => g3 k (by omega), g4⟩
        intro k hk
        simp only [hts] at hk ⊢
        exact g2 k hk
    · right
      simp (disch := omega) only [gd_ok, cl_nI, nI_s, nI_add, nI_leI, nI_ltI, nI_eq, if_pos, if_neg, q0, q1, q2, q3, q4, q5, q6, q7, q8, q9, q10, CS.i_setI, CS.l_setI, CS.r_setI, CS.a_setI, CS.q_setI, CS.z_setI, CS.i_setL, CS.l_setL, CS.r_setL, CS.a_setL, CS.q_setL, CS.z_setL, CS.i_setR, CS.l_setR, CS.r_setR, CS.a_setR, CS.q_setR, CS.z_setR, CS.i_setA, CS.l_setA, CS.r_setA, CS.a_setA, CS.q_setA, CS.z_setA, CS.i_setQ, CS.l_setQ, CS.r_setQ, CS.a_setQ, CS.q_setQ, CS.z_setQ, CS.i_setF, CS.l_setF, CS.r_setF, CS.a_setF, CS.q_setF, CS.z_setF, CS.i_new, CS.l_new, CS.r_new, CS.a_new, CS.q_new, CS.z_new, Nat.reduceEqDiff, false_and, true_and, and_false, and_true, if_true, if_false, b2_0, b2_1, b2_nn, n0_or, n1_or, n10, n01, dec1, dec2, ob_ok, oe_l, oe_r, gl_ok, gle_ok, gn_s, gv_ok, gv_none, on_none, onSome,h10, vs_i]
      rw [List.take_of_length_le (by omega)] at g2 ⊢
      exact ⟨_, rfl, h', rfl, g2, g4⟩
theorem setG_setQ {D : CS} {k j p : Nat} {g : Nat → Option Nat} {v : Option Nat} : (D.setG k j g).setQ k j p v = D.setG k j (updO g p v) := by
  apply CS_ext <;> intros <;> try rfl
  rw [CS.q_setQ]
  show (if _ then _ else (if _ then g _ else D.q _ _ _)) = (if _ then updO g _ _ _ else D.q _ _ _)
  unfold updO
  split
  · rename_i h; rw [if_pos ⟨h.1, h.2.1⟩, if_pos h.2.2]
  · rename_i h
    split
    · rename_i h2
      rw [if_neg]
      intro e
      exact h ⟨h2.1, h2.2, e⟩
    · rfl
theorem cV_risingL {cs : List Nat} {M : Nat → Nat} {D : CS} {J : Nat} (h10 : M 10 = 1) (hJ : J < M 15) (h1J : 1 < J) (h3 : ∀ c, c ∈ cs → c + 1 < M 3) (hr2 : D.r 10 2 0 = some 1) (hz : D.z 15 1 = 8) (hzJ : D.z 15 J = cs.length) (hc8 : cs.length ≤ 8) (hsz : D.i 10 3 0 = nI cs.length) (hf : ∀ k (hk : k < cs.length), D.q 15 1 k = some (cs[k] + 1)) :
    ∀ (n : Nat) (g : Nat → Option Nat) (i : Nat), i + n = cs.length → (∀ k (hk : k < cs.reverse.length), k < i → g k = some (cs.reverse[k] + 1)) → (∀ k, cs.length ≤ k → g k = none) → ∀ m, n < m →
      ∃ g', lpA (fun a : (Nat → Nat) × CS × Option Nat × Int32 => m_cVw_rising_B19 a.1 0 a.2.1 a.2.2.1 a.2.2.2) m (M, D.setG 15 J g, some J, nI i) = some ((M, D.setG 15 J g', some J), 0, 0) ∧ (∀ k (hk : k < cs.reverse.length), g' k = some (cs.reverse[k] + 1)) ∧ ∀ k, cs.length ≤ k → g' k = none := by
  have hne : ¬ (1 : Nat) = J := by omega
  have e1 : ∀ g, (D.setG 15 J g).i 10 3 0 = nI cs.length := fun g => hsz
  have e2 : ∀ g, (D.setG 15 J g).r 10 2 0 = some 1 := fun g => hr2
  have e3 : ∀ g, (D.setG 15 J g).z 15 1 = 8 := fun g => hz
  have e4 : ∀ g, (D.setG 15 J g).z 15 J = cs.length := fun g => hzJ
  have e5 : ∀ g k (hk : k < cs.length), (D.setG 15 J g).q 15 1 k = some (cs[k] + 1) := by
    intro g k hk
    show (if 15 = 15 ∧ 1 = J then g k else D.q 15 1 k) = _
    rw [if_neg (fun h => hne h.2)]
    exact hf k hk
  intro n
  induction n with
  | zero =>
    intro g i hi hg hg2 m hm
    obtain ⟨m', rfl⟩ : ∃ m', m = m' + 1 := ⟨m - 1, by omega⟩
    refine ⟨g, ?_, fun k hk => hg k hk (by rw [List.length_reverse] at hk; omega), hg2⟩
    have hB : m_cVw_rising_B19 M 0 (D.setG 15 J g) (some J) (nI i) = some ((.inr (M, D.setG 15 J g, some J)), 0, 0) := by
      unfold m_cVw_rising_B19
      simp (disch := omega) only [gd_ok, cl_nI, nI_s, nI_add, nI_leI, nI_ltI, nI_eq, if_pos, if_neg, q0, q1, q2, q3, q4, q5, q6, q7, q8, q9, q10, CS.i_setI, CS.l_setI, CS.r_setI, CS.a_setI, CS.q_setI, CS.z_setI, CS.i_setL, CS.l_setL, CS.r_setL, CS.a_setL, CS.q_setL, CS.z_setL, CS.i_setR, CS.l_setR, CS.r_setR, CS.a_setR, CS.q_setR, CS.z_setR, CS.i_setA, CS.l_setA, CS.r_setA, CS.a_setA, CS.q_setA, CS.z_setA, CS.i_setQ, CS.l_setQ, CS.r_setQ, CS.a_setQ, CS.q_setQ, CS.z_setQ, CS.i_setF, CS.l_setF, CS.r_setF, CS.a_setF, CS.q_setF, CS.z_setF, CS.i_new, CS.l_new, CS.r_new, CS.a_new, CS.q_new, CS.z_new, Nat.reduceEqDiff, false_and, true_and, and_false, and_true, if_true, if_false, b2_0, b2_1, b2_nn, n0_or, n1_or, n10, n01, dec1, dec2, ob_ok, oe_l, oe_r, gl_ok, gle_ok, gn_s, gv_ok, gv_none, on_none, onSome,h10, e1 g]
    rw [lpA]
    simp only [hB]
  | succ n ih =>
    intro g i hi hg hg2 m hm
    obtain ⟨m', rfl⟩ : ∃ m', m = m' + 1 := ⟨m - 1, by omega⟩
    have hin : i < cs.length := by omega
    have hmem := h3 _ (List.getElem_mem (show cs.length - 1 - i < cs.length by omega))
    have hrev : cs.reverse[i]'(by rw [List.length_reverse]; exact hin) = cs[cs.length - 1 - i] := List.getElem_reverse _
    have hB : m_cVw_rising_B19 M 0 (D.setG 15 J g) (some J) (nI i) = some ((.inl (M, D.setG 15 J (updO g i (some (cs[cs.length - 1 - i] + 1))), some J, nI (i + 1))), 0, 0) := by
      have e6 : nI cs.length - nI 1 - nI i = nI (cs.length - 1 - i) := by
        have : nI cs.length - nI 1 = nI (cs.length - 1) := by
          obtain ⟨w, hw⟩ : ∃ w, cs.length = w + 1 := ⟨cs.length - 1, by omega⟩
          rw [hw, dec1]
          rfl
        rw [this]
        apply Int32.toInt_inj.mp
        rw [sub_toInt (by omega) (by omega), nI_toInt (by omega)]
        omega
      unfold m_cVw_rising_B19
      simp (disch := omega) only [gd_ok, cl_nI, nI_s, nI_add, nI_leI, nI_ltI, nI_eq, if_pos, if_neg, q0, q1, q2, q3, q4, q5, q6, q7, q8, q9, q10, CS.i_setI, CS.l_setI, CS.r_setI, CS.a_setI, CS.q_setI, CS.z_setI, CS.i_setL, CS.l_setL, CS.r_setL, CS.a_setL, CS.q_setL, CS.z_setL, CS.i_setR, CS.l_setR, CS.r_setR, CS.a_setR, CS.q_setR, CS.z_setR, CS.i_setA, CS.l_setA, CS.r_setA, CS.a_setA, CS.q_setA, CS.z_setA, CS.i_setQ, CS.l_setQ, CS.r_setQ, CS.a_setQ, CS.q_setQ, CS.z_setQ, CS.i_setF, CS.l_setF, CS.r_setF, CS.a_setF, CS.q_setF, CS.z_setF, CS.i_new, CS.l_new, CS.r_new, CS.a_new, CS.q_new, CS.z_new, Nat.reduceEqDiff, false_and, true_and, and_false, and_true, if_true, if_false, b2_0, b2_1, b2_nn, n0_or, n1_or, n10, n01, dec1, dec2, ob_ok, oe_l, oe_r, gl_ok, gle_ok, gn_s, gv_ok, gv_none, on_none, onSome,h10, e1 g, e2 g, e3 g, e4 g, e6, e5 g _ (show cs.length - 1 - i < cs.length by omega), setG_setQ]
    obtain ⟨g', a1, a2, a3⟩ := ih (updO g i (some (cs[cs.length - 1 - i] + 1))) (i + 1) (by omega) (by
      intro k hk hki
      unfold updO
      by_cases e : k = i
      · subst e; rw [if_pos rfl, hrev]
      · rw [if_neg e]; exact hg k hk (by omega)) (by
      intro k hk
      unfold updO
      rw [if_neg (by omega)]
      exact hg2 k hk) m' (by omega)
    refine ⟨g', ?_, a2, a3⟩
    rw [lpA]
    simp only [hB]
    rw [a1]
    rfl
/-- the candidates as an array, the least first -/
theorem cV_rising {cs : List Nat} (hw : WF N C) (h10 : N 10 = 1) (h15 : 1 < N 15) (h3 : ∀ c, c ∈ cs → c + 1 < N 3) (hr2 : C.r 10 2 0 = some 1) (hz : C.z 15 1 = 8) (hc8 : cs.length ≤ 8) (hsz : C.i 10 3 0 = nI cs.length) (hf : ∀ k (hk : k < cs.length), C.q 15 1 k = some (cs[k] + 1)) :
    (cs = [] → m_cVw_rising N 0 C = some ((N, C, none), 0, 0)) ∧
    (cs ≠ [] → ∃ g, m_cVw_rising N 0 C = some ((Nup N 15, (C.new 15 (N 15) cs.length).setG 15 (N 15) g, some (N 15)), 1, cs.length) ∧ (∀ k (hk : k < cs.reverse.length), g k = some (cs.reverse[k] + 1)) ∧ ∀ k, cs.length ≤ k → g k = none) := by
  refine ⟨?_, ?_⟩
  · rintro rfl
    unfold m_cVw_rising m_cVw_rising_J0
    simp (disch := omega) only [gd_ok, cl_nI, nI_s, nI_add, nI_leI, nI_ltI, nI_eq, if_pos, if_neg, q0, q1, q2, q3, q4, q5, q6, q7, q8, q9, q10, CS.i_setI, CS.l_setI, CS.r_setI, CS.a_setI, CS.q_setI, CS.z_setI, CS.i_setL, CS.l_setL, CS.r_setL, CS.a_setL, CS.q_setL, CS.z_setL, CS.i_setR, CS.l_setR, CS.r_setR, CS.a_setR, CS.q_setR, CS.z_setR, CS.i_setA, CS.l_setA, CS.r_setA, CS.a_setA, CS.q_setA, CS.z_setA, CS.i_setQ, CS.l_setQ, CS.r_setQ, CS.a_setQ, CS.q_setQ, CS.z_setQ, CS.i_setF, CS.l_setF, CS.r_setF, CS.a_setF, CS.q_setF, CS.z_setF, CS.i_new, CS.l_new, CS.r_new, CS.a_new, CS.q_new, CS.z_new, Nat.reduceEqDiff, false_and, true_and, and_false, and_true, if_true, if_false, b2_0, b2_1, b2_nn, n0_or, n1_or, n10, n01, dec1, dec2, ob_ok, oe_l, oe_r, gl_ok, gle_ok, gn_s, gv_ok, gv_none, on_none, onSome,h10, hsz]
    rfl
  · intro hne
    have hlen : cs.length ≠ 0 := by simpa using hne
    have hN15 : Nup N 15 15 = N 15 + 1 := if_pos rfl
    have hNk : ∀ k, k ≠ 15 → Nup N 15 k = N k := fun k hk => if_neg hk
    have h1ne : ¬ (1 : Nat) = N 15 := by omega
    obtain ⟨g', a1, a2, a3⟩ := cV_risingL (cs := cs) (M := Nup N 15) (D := C.new 15 (N 15) cs.length) (J := N 15) (by rw [hNk 10 (by decide)]; exact h10) (by rw [hN15]; omega) h15 (by rw [hNk 3 (by decide)]; exact h3) hr2 (by rw [CS.z_new, if_neg (by omega)]; exact hz) (by rw [CS.z_new, if_pos ⟨rfl, rfl⟩]) hc8 hsz (by
      intro k hk
      rw [CS.q_new, if_neg (by omega)]
      exact hf k hk) cs.length (fun _ => none) 0 (by omega) (fun k hk h => by omega) (fun _ _ => rfl) FU (by unfold FU; omega)
    refine ⟨g', ?_, a2, a3⟩
    have hD : (C.new 15 (N 15) cs.length).setG 15 (N 15) (fun _ => none) = C.new 15 (N 15) cs.length := by
      apply CS_ext <;> intros <;> try rfl
      show (if _ then none else (C.new 15 (N 15) cs.length).q _ _ _) = (C.new 15 (N 15) cs.length).q _ _ _
      split
      · rename_i h
        rw [CS.q_new, if_pos h]
      · rfl
    rw [hD] at a1
    have a1' : m_cVw_rising_L19 (Nup N 15) 0 (C.new 15 (N 15) cs.length) (some (N 15)) (nI 0) = some ((Nup N 15, (C.new 15 (N 15) cs.length).setG 15 (N 15) g', some (N 15)), 0, 0) := by
      unfold m_cVw_rising_L19
      exact a1
    unfold m_cVw_rising m_cVw_rising_J0 nw gA
    simp (disch := omega) only [gd_ok, cl_nI, nI_s, nI_add, nI_leI, nI_ltI, nI_eq, if_pos, if_neg, q0, q1, q2, q3, q4, q5, q6, q7, q8, q9, q10, CS.i_setI, CS.l_setI, CS.r_setI, CS.a_setI, CS.q_setI, CS.z_setI, CS.i_setL, CS.l_setL, CS.r_setL, CS.a_setL, CS.q_setL, CS.z_setL, CS.i_setR, CS.l_setR, CS.r_setR, CS.a_setR, CS.q_setR, CS.z_setR, CS.i_setA, CS.l_setA, CS.r_setA, CS.a_setA, CS.q_setA, CS.z_setA, CS.i_setQ, CS.l_setQ, CS.r_setQ, CS.a_setQ, CS.q_setQ, CS.z_setQ, CS.i_setF, CS.l_setF, CS.r_setF, CS.a_setF, CS.q_setF, CS.z_setF, CS.i_new, CS.l_new, CS.r_new, CS.a_new, CS.q_new, CS.z_new, Nat.reduceEqDiff, false_and, true_and, and_false, and_true, if_true, if_false, b2_0, b2_1, b2_nn, n0_or, n1_or, n10, n01, dec1, dec2, ob_ok, oe_l, oe_r, gl_ok, gle_ok, gn_s, gv_ok, gv_none, on_none, onSome,h10, hsz, gW_ok (WF_wfN hw), a1', ov_ok, al_ok]
    rw [Nat.zero_add, Nat.zero_add]
end RW2
