/-! SAVED: the class emits a change. -/
section SVE
variable {S S' : MS} {N : Nat → Nat} {C C' : CS} {A : AS} {r rd : Nat} {w : List Nat} {P : CS → List Nat → Prop}
theorem e_deps (hE : EMI N P) (G : RC N C A rd) (hA : AI A) {c : Nat} (hc : c < A.m) (hp : P C w) : ∃ C', m_cSv_emitChange_L30 N 0 C (some c) 0 = some (C', some c) ∧ P C' (w ++ (A.cdl c).flatMap (fun d => grp (A.ca d) ++ grp (A.cu d))) ∧ X3 C C' := by
  obtain ⟨u0, u1, u2, u3, u4, u5, u6, u7, u8, u9, u10, u11, u12, u13, u14, u15, u16, u17, u18⟩ := G.nn
  have hm := hA.1.2.1
  have hcg := G.cg.2.2.2 c hc
  obtain ⟨dl, l1, l2, l3, l4, l5⟩ := hcg.2.2.2.2.2.2.2.2.2
  have hdl := cdl_eq hA hc l3 l4
  rw [← hdl]
  have := lp_run (body := fun v : CS × Option Nat × Int32 => m_cSv_emitChange_B30 N 0 v.1 v.2.1 v.2.2) (fun i v => ∃ W, v = (W, some c, nI i) ∧ P W (w ++ (dl.take i).flatMap (fun d => grp (A.ca d) ++ grp (A.cu d))) ∧ X3 C W) (fun e => ∃ W, e = (W, some c) ∧ P W (w ++ dl.flatMap (fun d => grp (A.ca d) ++ grp (A.cu d))) ∧ X3 C W) dl.length ?_ FU (C, some c, nI 0) (by unfold FU; omega) ⟨C, rfl, by simpa using hp, X3.refl⟩
  · obtain ⟨e, h1, W, rfl, h2, h3⟩ := this
    refine ⟨W, ?_, h2, h3⟩
    unfold m_cSv_emitChange_L30
    exact h1
  · rintro i _ hi ⟨W, rfl, h1, h2⟩
    have hWq : W.q = C.q := by obtain ⟨_, _, _, rfl⟩ := h2; rfl
    by_cases hin : i < dl.length
    · left
      have hd := (hA.2.1.2.2.2.2.2.2.1 c dl[i] hc ((l3 _).mp (List.getElem_mem hin))).2.1
      have hdg := hA.2.1.1 _ hd
      have hcu := cu_le hA hd
      have GW := h2.RC G
      obtain ⟨C1, k1, k2, k3⟩ := e_n (N := N) hE u6 h1 (n := A.ca dl[i]) (by omega)
      obtain ⟨C2, m1, m2, m3⟩ := e_n (N := N) hE u6 k2 (n := A.cu dl[i]) (by omega)
      have G1 := k3.RC GW
      have h1q : C1.q = C.q := by obtain ⟨_, _, _, rfl⟩ := k3; exact hWq
      refine ⟨(C2, some c, nI (i + 1)), ?_, hin, C2, rfl, ?_, (h2.trans k3).trans m3⟩
      · show m_cSv_emitChange_B30 N 0 W (some c) (nI i) = _
        unfold m_cSv_emitChange_B30
        rw [gn_s (by omega), h2.rr, hcg.2.2.2.2.2.2.1, gn_s (by omega), h2.zz, l1, if_neg (nle hin (by omega)), gd_ok hin (by omega), cl_nI (by omega), hWq, l5 i hin, gn_s (by omega), gl_ok (by omega), (GW.cg.2.2.2 _ hd).2.1, k1, ob_ok, k3.rr, h2.rr, hcg.2.2.2.2.2.2.1, gn_s (by omega), k3.zz, h2.zz, l1, gd_ok hin (by omega), h1q, l5 i hin, gn_s (by omega), (G1.cg.2.2.2 _ hd).2.2.1, m1, ob_ok, nI_s]
      · rw [List.take_succ_eq_append_getElem hin, List.flatMap_append, List.flatMap_cons, List.flatMap_nil, List.append_nil, ← List.append_assoc, ← List.append_assoc]
        exact m2
    · right
      have e : i = dl.length := by omega
      refine ⟨(W, some c), ?_, W, rfl, ?_, h2⟩
      · show m_cSv_emitChange_B30 N 0 W (some c) (nI i) = _
        unfold m_cSv_emitChange_B30
        rw [gn_s (by omega), h2.rr, hcg.2.2.2.2.2.2.1, gn_s (by omega), h2.zz, l1, e, if_pos (Int32.le_refl _)]
      · rw [List.take_of_length_le (by omega)] at h1
        exact h1
theorem e_ops (hE : EMI N P) (G : RC N C A rd) (hA : AI A) {c : Nat} (hc : c < A.m) (hp : P C w) : ∃ C', m_cSv_emitChange_L93 N 0 C (some c) 0 = some C' ∧ P C' (w ++ (A.cops c).flatMap A.opB) ∧ X3 C C' := by
  obtain ⟨u0, u1, u2, u3, u4, u5, u6, u7, u8, u9, u10, u11, u12, u13, u14, u15, u16, u17, u18⟩ := G.nn
  have hnn := hA.1.1
  have hm := hA.1.2.1
  have hcg := G.cg.2.2.2 c hc
  have hca := (hA.2.1.1 c hc).1
  have htop := hA.2.2.2.1.2.2.2.1 c hc
  have hlen : (A.cops c).length = A.cz c := by unfold AS.cops; rw [List.length_map, List.length_range]
  have := lp_run (body := fun v : CS × Option Nat × Int32 => m_cSv_emitChange_B93 N 0 v.1 v.2.1 v.2.2) (fun i v => ∃ W, v = (W, some c, nI i) ∧ P W (w ++ ((A.cops c).take i).flatMap A.opB) ∧ X3 C W) (fun e => P e (w ++ (A.cops c).flatMap A.opB) ∧ X3 C e) (A.cz c) ?_ FU (C, some c, nI 0) (by unfold FU; omega) ⟨C, rfl, by simpa using hp, X3.refl⟩
  · obtain ⟨e, h1, h2, h3⟩ := this
    refine ⟨e, ?_, h2, h3⟩
    unfold m_cSv_emitChange_L93
    exact h1
  · rintro i _ hi ⟨W, rfl, h1, h2⟩
    have GW := h2.RC G
    have hgW := GW.cg.2.2.2 c hc
    by_cases hin : i < A.cz c
    · left
      obtain ⟨o, o1, o2, o3, o4, o5⟩ := cops_at hA hc hin
      have hop : (A.cops c)[i]'(by omega) = o := by
        rw [← o1]
        unfold AS.cops
        rw [List.getElem_map, List.getElem_range]
      obtain ⟨C1, k1, k2, k3⟩ := e_op hE GW hA o2 h1
      refine ⟨(C1, some c, nI (i + 1)), ?_, hin, C1, rfl, ?_, h2.trans k3⟩
      · show m_cSv_emitChange_B93 N 0 W (some c) (nI i) = _
        unfold m_cSv_emitChange_B93
        have hix : (8 * (nI (A.cf c) + nI i)) + nI (A.ca c) = nI (8 * (A.cf c + i) + A.ca c) := by
          rw [nI_add, mul8, nI_add]
        rw [gn_s (by omega), hgW.2.2.2.2.2.1, if_neg (nle hin (by omega)), gl_ok (by omega), GW.st.2.2.2.2.2.2.2.2.2.2.2.2.2.2.2.2.2.2.1, gn_s (by omega), GW.st.2.2.2.2.2.2.2.2.1, gn_s (by omega), hgW.2.2.2.2.1, hgW.2.1, hix, GW.sz.1, gd_ok (by omega) (by omega), cl_nI (by omega), ← o5, GW.idd.1 o o2 o3, onSome, gl_ok (by omega), k1, ob_ok]
        unfold m_cSv_emitChange_J133
        rw [nI_s]
      · rw [List.take_succ_eq_append_getElem (by omega), hop, List.flatMap_append, List.flatMap_cons, List.flatMap_nil, List.append_nil, ← List.append_assoc]
        exact k2
    · right
      have e : i = A.cz c := by omega
      refine ⟨W, ?_, ?_, h2⟩
      · show m_cSv_emitChange_B93 N 0 W (some c) (nI i) = _
        unfold m_cSv_emitChange_B93
        rw [gn_s (by omega), hgW.2.2.2.2.2.1, e, if_pos (Int32.le_refl _)]
      · rw [List.take_of_length_le (by omega)] at h1
        exact h1
theorem e_chg (hE : EMI N P) (G : RC N C A rd) (hA : AI A) {c : Nat} (hc : c < A.m) (hp : P C w) : ∃ C', m_cSv_emitChange N 0 C c = some C' ∧ P C' (w ++ A.chB c) ∧ X3 C C' := by
  obtain ⟨u0, u1, u2, u3, u4, u5, u6, u7, u8, u9, u10, u11, u12, u13, u14, u15, u16, u17, u18⟩ := G.nn
  have hnn := hA.1.1
  have hm := hA.1.2.1
  have hcg := G.cg.2.2.2 c hc
  have hca := (hA.2.1.1 c hc).1
  have hcu := cu_le hA hc
  have htop := hA.2.2.2.1.2.2.2.1 c hc
  obtain ⟨dl, l1, l2, l3, l4, l5⟩ := hcg.2.2.2.2.2.2.2.2.2
  have hdl := cdl_eq hA hc l3 l4
  obtain ⟨C1, a1, a2, a3⟩ := e_n (N := N) hE u6 hp (n := A.ca c) (by omega)
  obtain ⟨C2, b1, b2', b3⟩ := e_n (N := N) hE u6 a2 (n := A.cu c) (by omega)
  obtain ⟨C3, c1, c2, c3⟩ := e_n (N := N) hE u6 b2' (n := (A.cdl c).length) (by rw [← hdl]; omega)
  have x3 := (a3.trans b3).trans c3
  obtain ⟨C4, d1, d2, d3⟩ := e_deps hE (x3.RC G) hA hc c2
  have x4 := x3.trans d3
  obtain ⟨C5, e1, e2, e3⟩ := e_n (N := N) hE u6 d2 (n := A.cf c) (by omega)
  obtain ⟨C6, f1, f2, f3⟩ := e_n (N := N) hE u6 e2 (n := A.cz c) (by omega)
  have x6 := (x4.trans e3).trans f3
  obtain ⟨C7, g1, g2, g3⟩ := e_ops hE (x6.RC G) hA hc f2
  refine ⟨C7, ?_, ?_, x6.trans g3⟩
  · unfold m_cSv_emitChange m_cSv_emitChange_J0
    rw [gl_ok (by omega), gl_ok (by omega), hcg.2.1, a1, ob_ok, ((a3.RC G).cg.2.2.2 c hc).2.2.1, b1, ob_ok, (a3.trans b3).rr, hcg.2.2.2.2.2.2.1, gn_s (by omega), (a3.trans b3).zz, l1, hdl, c1, ob_ok, d1, ob_ok]
    simp only []
    rw [gn_s (by omega), ((x4.RC G).cg.2.2.2 c hc).2.2.2.2.1, e1, ob_ok, (((x4.trans e3).RC G).cg.2.2.2 c hc).2.2.2.2.2.1, f1, ob_ok, g1, ob_ok]
  · unfold AS.chB
    simp only [List.append_assoc] at g2 ⊢
    exact g2
end SVE
