/-! SAVED: an op. -/
/-- the bytes of an op -/
def AS.opB (A : AS) (o : Nat) : List Nat :=
  grp (A.oi (A.obj o)) ++ ([A.act o + 16 * A.ins o] ++ ((if A.kd (A.obj o) = 6 then grp (A.key o).length ++ A.key o else grp (A.plc o)) ++
  ((if A.act o = 3 ∨ A.act o = 5 ∨ A.act o = 10 then grp (uN (zz (A.num o))) else if A.act o = 4 then grp (A.str o).length ++ A.str o else []) ++ (grp (A.pre o).length ++ (A.pre o).flatMap (fun p => grp (A.id p))))))
section SVC
variable {S S' : MS} {N : Nat → Nat} {C C' : CS} {A : AS} {r rd : Nat} {w : List Nat} {P : CS → List Nat → Prop}
theorem id_ox (G : RC N C A rd) {x : Option Nat} (hx : ∀ m, x = some m → m < A.n) : C.i 3 0 (ox x) = nI (A.oi x) := by
  cases x with
  | none => exact G.rt.1
  | some m => exact (G.op m (hx m rfl)).1
theorem obj_ltn (hA : AI A) {o : Nat} (ho : o < A.n) : ∀ m, A.obj o = some m → m < A.n := by
  intro m hm
  have := (hA.2.2.1.2.2.2.1 o m ho hm).1
  omega
theorem e_preds (hE : EMI N P) (G : RC N C A rd) (hA : AI A) {o : Nat} (ho : o < A.n) (hp : P C w) : ∃ C', m_cSv_emitOp_J181 N 0 C (some (o + 1)) = some C' ∧ P C' (w ++ (grp (A.pre o).length ++ (A.pre o).flatMap (fun p => grp (A.id p)))) ∧ X3 C C' := by
  obtain ⟨u0, u1, u2, u3, u4, u5, u6, u7, u8, u9, u10, u11, u12, u13, u14, u15, u16, u17, u18⟩ := G.nn
  have hnn := hA.1.1
  have hpr := G.pr o ho
  have hlen := (hA.2.2.1.2.2.2.2.2.2.1 o ho).1
  have hpm := (hA.2.2.1.2.2.2.2.2.2.1 o ho).2.2
  unfold m_cSv_emitOp_J181
  rw [gn_s (by omega)]
  have hgo : ∀ (C1 : CS), P C1 (w ++ grp (A.pre o).length) → X3 C C1 → (A.pre o ≠ [] → ∃ j, j < N 15 ∧ C.r 3 7 (o + 1) = some j ∧ C.z 15 j = (A.pre o).length ∧ ∀ k (h : k < (A.pre o).length), C.q 15 j k = some ((A.pre o)[k] + 1)) → ∃ C', m_cSv_emitOp_L206 N 0 C1 (some (o + 1)) (nI (A.pre o).length) 0 = some C' ∧ P C' (w ++ (grp (A.pre o).length ++ (A.pre o).flatMap (fun p => grp (A.id p)))) ∧ X3 C C' := by
    intro C1 hp1 hx1 hj
    have := lp_run (body := fun v : CS × Option Nat × Int32 × Int32 => m_cSv_emitOp_B206 N 0 v.1 v.2.1 v.2.2.1 v.2.2.2) (fun i v => ∃ W, v = (W, some (o + 1), nI (A.pre o).length, nI i) ∧ P W (w ++ grp (A.pre o).length ++ ((A.pre o).take i).flatMap (fun p => grp (A.id p))) ∧ X3 C W) (fun e => P e (w ++ (grp (A.pre o).length ++ (A.pre o).flatMap (fun p => grp (A.id p)))) ∧ X3 C e) (A.pre o).length ?_ FU (C1, some (o + 1), nI (A.pre o).length, nI 0) (by unfold FU; omega) ⟨C1, rfl, by simpa using hp1, hx1⟩
    · obtain ⟨e, h1, h2, h3⟩ := this
      refine ⟨e, ?_, h2, h3⟩
      unfold m_cSv_emitOp_L206
      exact h1
    · rintro i _ hi ⟨W, rfl, h1, h2⟩
      have GW := h2.RC G
      by_cases hin : i < (A.pre o).length
      · left
        obtain ⟨j, j1, j2, j3, j4⟩ := hj (fun e => by rw [e] at hin; exact absurd hin (Nat.not_lt_zero _))
        have hpi := hpm _ (List.getElem_mem hin)
        have hid : W.i 3 0 ((A.pre o)[i] + 1) = nI (A.id (A.pre o)[i]) := (GW.op _ (by omega)).1
        have hidl := id_lt hA (o := (A.pre o)[i]) (by omega)
        obtain ⟨C', k1, k2, k3⟩ := e_n (N := N) hE u6 h1 (n := A.id (A.pre o)[i]) (by omega)
        refine ⟨(C', some (o + 1), nI (A.pre o).length, nI (i + 1)), ?_, hin, C', rfl, ?_, h2.trans k3⟩
        · show m_cSv_emitOp_B206 N 0 W (some (o + 1)) (nI (A.pre o).length) (nI i) = _
          unfold m_cSv_emitOp_B206
          have hWq : W.q = C.q := by obtain ⟨_, _, _, rfl⟩ := h2; rfl
          rw [if_neg (nle hin (by omega)), gn_s (by omega), h2.rr, j2, gn_s (by omega), h2.zz, j3, gd_ok hin (by omega), cl_nI (by omega), hWq, j4 i hin, gn_s (by omega), gl_ok (by omega), hid, k1, ob_ok, nI_s]
        · rw [List.take_succ_eq_append_getElem hin, List.flatMap_append, List.flatMap_cons, List.flatMap_nil, List.append_nil, ← List.append_assoc]
          exact k2
      · right
        refine ⟨W, ?_, ?_, h2⟩
        · show m_cSv_emitOp_B206 N 0 W (some (o + 1)) (nI (A.pre o).length) (nI i) = _
          unfold m_cSv_emitOp_B206
          rw [show i = (A.pre o).length by omega, if_pos (Int32.le_refl _)]
        · rw [List.take_of_length_le (by omega), List.append_assoc] at h1
          exact h1
  have hJ : ∀ C1, m_cSv_emitNumber N 0 C (nI (A.pre o).length).toInt64 = some C1 → m_cSv_emitOp_J197 N 0 C (some (o + 1)) (nI (A.pre o).length) = ob (m_cSv_emitOp_L206 N 0 C1 (some (o + 1)) (nI (A.pre o).length) 0) (fun b_3 => some b_3) := by
    intro C1 h
    unfold m_cSv_emitOp_J197
    rw [gl_ok (by omega), h, ob_ok]
  obtain ⟨C1, k1, k2, k3⟩ := e_n (N := N) hE u6 hp (n := (A.pre o).length) (by omega)
  cases hl : A.pre o with
  | nil =>
    rw [hl] at hpr
    rw [show C.r 3 7 (o + 1) = none from hpr, on_none]
    obtain ⟨C', m1, m2, m3⟩ := hgo C1 k2 k3 (fun h => absurd hl h)
    rw [hl] at hJ k1 m1 m2
    refine ⟨C', ?_, m2, m3⟩
    rw [show m_cSv_emitOp_J197 N 0 C (some (o + 1)) 0 = _ from hJ C1 k1, m1, ob_ok]
  | cons a l =>
    rw [hl] at hpr
    obtain ⟨j, j0, j1, j2, j3, j4⟩ := hpr
    rw [j2, onSome, gl_ok j1, j3]
    obtain ⟨C', m1, m2, m3⟩ := hgo C1 k2 k3 (fun _ => ⟨j, j1, j2, by rw [hl]; exact j3, by rw [hl]; exact j4⟩)
    rw [hl] at hJ k1 m1 m2
    refine ⟨C', ?_, m2, m3⟩
    rw [hJ C1 k1, m1, ob_ok]
theorem e_val (hE : EMI N P) (G : RC N C A rd) (hA : AI A) {o : Nat} (ho : o < A.n) (hp : P C w) : ∃ C', m_cSv_emitOp_J119 N 0 C (some (o + 1)) = m_cSv_emitOp_J181 N 0 C' (some (o + 1)) ∧ P C' (w ++ (if A.act o = 3 ∨ A.act o = 5 ∨ A.act o = 10 then grp (uN (zz (A.num o))) else if A.act o = 4 then grp (A.str o).length ++ A.str o else [])) ∧ X3 C C' := by
  obtain ⟨u0, u1, u2, u3, u4, u5, u6, u7, u8, u9, u10, u11, u12, u13, u14, u15, u16, u17, u18⟩ := G.nn
  have hnn := hA.1.1
  have hop := G.op o ho
  have hac := (hA.2.2.1.1 o ho).2.2.2.2.1
  have hkp := G.kp.2 o ho
  have hkn := hA.1.2.2.1
  unfold m_cSv_emitOp_J119
  rw [gn_s (by omega)]
  have hi2 : C.i 3 2 (o + 1) = nI (A.act o) := hop.2.2.1
  have hne : ∀ {q : Nat}, q < 100 → A.act o ≠ q → ¬ nI (A.act o) = nI q := fun hq h e => h ((nI_eq (by omega) (by omega)).mp e)
  have hhl : m_cOp_hasLong N (o + 1) C = some (C, b2 (decide (A.act o = 3 ∨ A.act o = 5 ∨ A.act o = 10))) := by
    unfold m_cOp_hasLong m_cOp_hasLong_J0 m_cOp_hasLong_J25 m_cOp_hasLong_J30
    rw [gl_ok (by omega), hi2, q3, q5, q10, q1]
    by_cases e3 : A.act o = 3
    · rw [e3]; rfl
    · by_cases e5 : A.act o = 5
      · rw [e5]; rfl
      · by_cases e10 : A.act o = 10
        · rw [e10]; rfl
        · rw [if_neg (hne (by omega) e3), if_neg (hne (by omega) e5), if_neg (hne (by omega) e10), decide_eq_false (by omega)]
          rfl
  rw [hhl, ob_ok]
  simp only []
  by_cases hL : A.act o = 3 ∨ A.act o = 5 ∨ A.act o = 10
  · rw [decide_eq_true hL, if_neg (show ¬ b2 true = 0 by decide), gl_ok (by omega), if_pos hL, hop.2.2.2.1, zz_eq]
    obtain ⟨C', k1, k2, k3⟩ := e_num hE u6 hp (zz (A.num o))
    refine ⟨C', ?_, k2, k3⟩
    rw [k1, ob_ok]
  · rw [decide_eq_false hL, if_pos (show b2 false = 0 by decide), if_neg hL, hi2]
    by_cases h4 : A.act o = 4
    · rw [if_pos (show nI (A.act o) = 4 by rw [h4]; rfl), if_pos h4, gl_ok (by omega)]
      obtain ⟨C1, k1, k2, k3⟩ := e_n (N := N) hE u6 hp (n := (A.str o).length) (by omega)
      have hop1 := (k3.RC G).op o ho
      have hkp1 := (k3.RC G).kp.2 o ho
      obtain ⟨C2, m1, m2, m3⟩ := e_bytes hE (k3.RC G) hA k2 (p := A.ba o + (A.key o).length) (k := A.str o) (fun i hi => hkp1.2.2.1 i hi) (by omega)
      refine ⟨C2, ?_, by rw [← List.append_assoc]; exact m2, k3.trans m3⟩
      rw [hop.2.2.2.2.2.2.2.2.2.1, k1, ob_ok, hop1.2.2.2.2.2.2.2.1, hop1.2.2.2.2.2.2.2.2.1, hop1.2.2.2.2.2.2.2.2.2.1, nI_add, m1, ob_ok]
    · rw [if_neg (show ¬ nI (A.act o) = 4 from hne (q := 4) (by omega) h4), if_neg h4, List.append_nil]
      exact ⟨C, rfl, hp, X3.refl⟩
theorem e_op (hE : EMI N P) (G : RC N C A rd) (hA : AI A) {o : Nat} (ho : o < A.n) (hp : P C w) : ∃ C', m_cSv_emitOp N 0 C (o + 1) = some C' ∧ P C' (w ++ A.opB o) ∧ X3 C C' := by
  obtain ⟨u0, u1, u2, u3, u4, u5, u6, u7, u8, u9, u10, u11, u12, u13, u14, u15, u16, u17, u18⟩ := G.nn
  have hnn := hA.1.1
  have hop := G.op o ho
  have hob := obj_ltn hA ho
  have hox := ox_lt hob
  have hio := hA.2.2.1.1 o ho
  have hoi := oi_lt hA ho
  have hkp := G.kp.2 o ho
  have hkn := hA.1.2.2.1
  unfold m_cSv_emitOp m_cSv_emitOp_J0
  rw [gl_ok (by omega), hop.2.1, gn_s (by omega), gl_ok (by omega), id_ox G hob]
  obtain ⟨C1, k1, k2, k3⟩ := e_n (N := N) hE u6 hp (n := A.oi (A.obj o)) (by omega)
  rw [k1, ob_ok]
  have G1 := k3.RC G
  have hop1 := G1.op o ho
  -- what
  obtain ⟨C2, m1, m2, m3⟩ := e_n (N := N) hE u6 k2 (n := A.act o + 16 * A.ins o) (by omega)
  rw [grp_1 (n := A.act o + 16 * A.ins o) (by omega)] at m2
  have G2 := m3.RC G1
  have hop2 := G2.op o ho
  have hkd2 := kd_ox G2 hob
  -- the place
  have hplace : ∃ C3, (gn (some (o + 1)) (N 3) (fun j_6 => gn (C2.r 3 1 j_6) (N 3) (fun j_9 => (if C2.i 3 2 j_9 = 6 then gl 0 (N 6) (ob (m_cSv_emitNumber N 0 C2 ((C2.i 3 9 j_6).toInt64)) (fun o_24 => ob (m_cSv_emitBytes N 0 o_24 (o_24.i 3 8 j_6) (o_24.i 3 9 j_6)) (fun o_26 => m_cSv_emitOp_J119 N 0 o_26 (some (o + 1))))) else (if C2.i 3 5 j_6 = 0 then gn (C2.r 3 11 j_6) (N 7) (fun j_14 => gn (C2.r 7 0 j_14) (N 3) (fun j_17 => gl 0 (N 6) (ob (m_cSv_emitNumber N 0 C2 ((C2.i 3 0 j_17).toInt64)) (fun o_20 => m_cSv_emitOp_J119 N 0 o_20 (some (o + 1)))))) else on (C2.r 3 6 j_6) (m_cSv_emitOp_J98 N 0 C2 (some (o + 1)) 0 (some 0)) (fun j_22 => gl j_22 (N 3) (m_cSv_emitOp_J98 N 0 C2 (some (o + 1)) ((C2.i 3 0 j_22).toInt64) (some 0)))))))) = m_cSv_emitOp_J119 N 0 C3 (some (o + 1)) ∧ P C3 (w ++ grp (A.oi (A.obj o)) ++ [A.act o + 16 * A.ins o] ++ (if A.kd (A.obj o) = 6 then grp (A.key o).length ++ A.key o else grp (A.plc o))) ∧ X3 C2 C3 := by
    rw [gn_s (by omega), hop2.2.1, gn_s (by omega), hkd2]
    by_cases h6 : A.kd (A.obj o) = 6
    · rw [if_pos (show nI (A.kd (A.obj o)) = 6 by rw [h6]; rfl), gl_ok (by omega), if_pos h6, hop2.2.2.2.2.2.2.2.2.1]
      obtain ⟨C3, n1, n2, n3⟩ := e_n (N := N) hE u6 m2 (n := (A.key o).length) (by omega)
      have G3 := n3.RC G2
      have hop3 := G3.op o ho
      have hkp3 := G3.kp.2 o ho
      obtain ⟨C4, l1, l2, l3⟩ := e_bytes hE G3 hA n2 (p := A.ba o) (k := A.key o) (fun i hi => hkp3.2.1 i hi) (by omega)
      refine ⟨C4, ?_, by rw [← List.append_assoc]; exact l2, n3.trans l3⟩
      rw [n1, ob_ok, hop3.2.2.2.2.2.2.2.1, hop3.2.2.2.2.2.2.2.2.1, l1, ob_ok]
    · have hkd8 : A.kd (A.obj o) ≤ 10 := by
        cases hx : A.obj o with
        | none => simp [AS.kd]
        | some m => exact (hA.2.2.1.1 m (hob m hx)).2.2.2.2.1
      rw [if_neg (show ¬ nI (A.kd (A.obj o)) = 6 from fun e => h6 ((nI_eq (b := 6) (by omega) (by omega)).mp e)), if_neg h6, hop2.2.2.2.2.2.1]
      by_cases hi : A.ins o = 0
      · have hon := hA.2.2.1.2.2.2.2.2.1 o ho hi
        have hln := (G2.ln.1 (A.sp o) hon.2.1 hon.2.2.1)
        have hidl := id_lt hA hon.2.1
        rw [hi, if_pos (show nI 0 = 0 from rfl), hop2.2.2.2.2.2.2.2.2.2.2, gn_s (by omega), hln.2.1, gn_s (by omega), gl_ok (by omega), (G2.op _ hon.2.1).1]
        obtain ⟨C3, n1, n2, n3⟩ := e_n (N := N) hE u6 m2 (n := A.id (A.sp o)) (by omega)
        refine ⟨C3, by rw [n1, ob_ok], ?_, n3⟩
        rw [show A.plc o = A.id (A.sp o) from by unfold AS.plc; rw [if_neg (by omega), if_neg h6]]
        rw [hi] at n2
        exact n2
      · have hi1 : A.ins o = 1 := by omega
        have hin := hA.2.2.1.2.2.2.2.1 o ho hi1
        rw [hi1, if_neg (show ¬ nI 1 = 0 by decide), hop2.2.2.2.2.2.2.1]
        have hpc : A.plc o = A.oi (A.par o) := by unfold AS.plc; rw [if_pos hi1]
        rw [hpc]
        rw [hi1] at m2
        cases hpar : A.par o with
        | none =>
          rw [Option.map_none, on_none]
          obtain ⟨C3, n1, n2, n3⟩ := e_n (N := N) hE u6 m2 (n := 0) (by omega)
          refine ⟨C3, ?_, n2, n3⟩
          unfold m_cSv_emitOp_J98
          rw [gn_s (by omega), show m_cSv_emitNumber N 0 C2 0 = _ from n1, ob_ok]
        | some p =>
          have hpl := (hin.2.2.2.2.2 p hpar).1
          have hidl := id_lt hA (o := p) (by omega)
          rw [Option.map_some, onSome, gl_ok (by omega), (G2.op p (by omega)).1]
          obtain ⟨C3, n1, n2, n3⟩ := e_n (N := N) hE u6 m2 (n := A.id p) (by omega)
          refine ⟨C3, ?_, n2, n3⟩
          unfold m_cSv_emitOp_J98
          rw [gn_s (by omega), n1, ob_ok]
  obtain ⟨C3, n1, n2, n3⟩ := hplace
  have G3 := n3.RC G2
  obtain ⟨C4, l1, l2, l3⟩ := e_val hE G3 hA ho n2
  have G4 := l3.RC G3
  obtain ⟨C5, p1, p2, p3⟩ := e_preds hE G4 hA ho l2
  refine ⟨C5, ?_, ?_, (((k3.trans m3).trans n3).trans l3).trans p3⟩
  · rw [hop1.2.2.2.2.2.1, hop1.2.2.1]
    by_cases hi : A.ins o = 0
    · rw [hi, if_pos (show nI 0 = 0 from rfl)]
      rw [hi] at m1
      unfold m_cSv_emitOp_J30
      rw [gn_s (by omega), show nI (A.act o) + 0 = nI (A.act o + 16 * 0) from nI_add _ 0, m1, ob_ok, n1, l1, p1]
    · have hi1 : A.ins o = 1 := by omega
      rw [hi1, if_neg (show ¬ nI 1 = 0 by decide)]
      rw [hi1] at m1
      unfold m_cSv_emitOp_J30
      rw [gn_s (by omega), show nI (A.act o) + 16 = nI (A.act o + 16 * 1) from nI_add _ 16, m1, ob_ok, n1, l1, p1]
  · unfold AS.opB
    simp only [List.append_assoc] at p2 ⊢
    exact p2
end SVC
