/-! THE CLASS: writeOn, writeAtKey. -/
section WP
variable {N : Nat → Nat} {C : CS} {A : AS} {r rd : Nat} {x : Option Nat} {act : Nat} {num : Int64} {ins : Nat} {par : Option Nat} {s : Nat} {key pre : List Nat} {pl : Nat} {Lx Os : List Nat}
/-- what the view left is the same -/
def vsame (D D' : CS) : Prop := D'.i 10 4 0 = D.i 10 4 0 ∧ (∀ j, D'.i 3 14 j = D.i 3 14 j) ∧ (∀ p, D'.q 15 1 p = D.q 15 1 p) ∧ ∀ p, D'.a 12 8 p = D.a 12 8 p
theorem vsame.trans {D D' D'' : CS} (h : vsame D D') (g : vsame D' D'') : vsame D D'' :=
  ⟨g.1.trans h.1, fun j => (g.2.1 j).trans (h.2.1 j), fun p => (g.2.2.1 p).trans (h.2.2.1 p), fun p => (g.2.2.2 p).trans (h.2.2.2 p)⟩
theorem vsame.SC {D D' : CS} {B : AS} (h : vsame D D') (hs : SC B D rd) : SC B D' rd :=
  ⟨h.1.trans hs.1, fun j hj => by obtain ⟨t, t1, t2⟩ := hs.2.1 j hj; exact ⟨t, t1, (h.2.1 j).trans t2⟩, fun p y hq => hs.2.2 p y (by rw [← h.2.2.1 p]; exact hq)⟩
theorem vsame_setP {r' : Nat → Nat → Nat → Option Nat} : vsame C (C.setP r') := ⟨by rw [setP_i], fun j => by rw [setP_i], fun p => by rw [setP_q], fun p => by rw [setP_a]⟩
theorem vsame_setR {k f j : Nat} {v : Option Nat} : vsame C (C.setR k f j v) := ⟨by rw [CS.i_setR], fun j => by rw [CS.i_setR], fun p => by rw [CS.q_setR], fun p => by rw [CS.a_setR]⟩
theorem vsame_key {f : Nat → Int32} {v w : Int32} {j : Nat} : vsame C ((C.row 0 f v).setI 3 9 j w) := by
  refine ⟨?_, fun j => ?_, fun p => ?_, fun p => ?_⟩
  · rw [CS.i_setI, if_neg (by omega), row_i, if_neg (by omega)]
  · rw [CS.i_setI, if_neg (by omega), row_i, if_neg (by omega)]
  · rw [CS.q_setI, row_q]
  · rw [CS.a_setI, row_a, if_neg (by omega)]
theorem frC_setR3 {f j : Nat} {v : Option Nat} : frC C (C.setR 3 f j v) := by
  refine ⟨fun f j => by rw [CS.i_setR], fun f j => by rw [CS.r_setR, if_neg (by omega)], fun f j => by rw [CS.i_setR], fun f j => by rw [CS.r_setR, if_neg (by omega)], fun f j _ => by rw [CS.i_setR], fun f j => by rw [CS.r_setR, if_neg (by omega)], fun j p _ => by rw [CS.a_setR], fun j => by rw [CS.z_setR], fun f j => by rw [CS.i_setR], fun f j => by rw [CS.l_setR], fun f j => by rw [CS.r_setR, if_neg (by omega)], fun f j => by rw [CS.i_setR]⟩
theorem frC_key {f : Nat → Int32} {v w : Int32} {k j : Nat} : frC C ((C.row 0 f v).setI 3 k j w) := by
  refine ⟨fun f j => ?_, fun f j => by rw [CS.r_setI, row_r], fun f j => ?_, fun f j => by rw [CS.r_setI, row_r], fun f j hj => ?_, fun f j => by rw [CS.r_setI, row_r], fun j p hj => ?_, fun j => by rw [CS.z_setI, row_z], fun f j => ?_, fun f j => by rw [CS.l_setI, row_l], fun f j => by rw [CS.r_setI, row_r], fun f j => ?_⟩
  · rw [CS.i_setI, if_neg (by omega), row_i, if_neg (by omega)]
  · rw [CS.i_setI, if_neg (by omega), row_i, if_neg (by omega)]
  · rw [CS.i_setI, if_neg (by omega), row_i, if_neg (by omega)]
  · rw [CS.a_setI, row_a, if_neg (by omega)]
  · rw [CS.i_setI, if_neg (by omega), row_i, if_neg (by omega)]
  · rw [CS.i_setI, if_neg (by omega), row_i, if_neg (by omega)]
theorem frC_setP {r' : Nat → Nat → Nat → Option Nat} (h : ∀ k g j, k ≠ 3 → k ≠ 7 → r' k g j = C.r k g j) : frC C (C.setP r') :=
  ⟨fun f j => by rw [setP_i], fun f j => h 11 f j (by decide) (by decide), fun f j => by rw [setP_i], fun f j => h 1 f j (by decide) (by decide), fun f j _ => by rw [setP_i], fun f j => h 5 f j (by decide) (by decide), fun j p _ => by rw [setP_a], fun j => by rw [setP_z], fun f j => by rw [setP_i], fun f j => by rw [setP_l], fun f j => h 9 f j (by decide) (by decide), fun f j => by rw [setP_i]⟩
theorem RCu_kd (U : RCu N C A (A.mk r x act num ins par s key pre pl Lx Os)) (hx : ∀ m, x = some m → m < A.n) : C.i 3 2 (ox x) = nI (A.kd x) := by
  cases x with
  | none => exact U.2.2.2.2.1.2.2.1
  | some m =>
    have h := (U.2.2.2.2.2.2.2.2.2.2.1 m (by rw [mk_n]; have := hx m rfl; omega)).2.2.1
    rw [mk_act, if_neg (by have := hx m rfl; omega)] at h
    exact h
theorem RCu_old (U : RCu N C A (A.mk r x act num ins par s key pre pl Lx Os)) {o : Nat} (ho : o < A.n) : C.i 3 0 (o + 1) = nI (A.id o) ∧ C.r 3 1 (o + 1) = some (ox (A.obj o)) ∧ C.i 3 8 (o + 1) = nI (A.ba o) ∧ C.i 3 9 (o + 1) = nI (A.key o).length ∧ RB C 0 (A.ba o) (A.key o) ∧ A.ba o + (A.key o).length ≤ (A.mk r x act num ins par s key pre pl Lx Os).kn := by
  have h := U.2.2.2.2.2.2.2.2.2.2.1 o (by rw [mk_n]; omega)
  have h2 := U.2.2.2.2.2.2.2.1.2 o (by rw [mk_n]; omega)
  have hne : ¬ o = A.n := by omega
  simp only [mk_id, mk_obj, mk_ba, mk_key, hne, if_false] at h h2
  exact ⟨h.1, h.2.1, h.2.2.2.2.2.1, h.2.2.2.2.2.2.1, h2.2.1, by omega⟩
/-- the new op joins the chain of the spot s -/
theorem RCu.join {E : CS} {M : Nat → Nat} (hA : AI A) (hr : r < 8) (U : RCu M E A (A.mk r x act num 0 none s key pre pl (A.L x) (insO A.id (8 * (A.tp r + 1) + r) A.n (A.O s)))) (hs : s < A.n) (hss : A.sp s = s) :
    ∃ r', m_cSp_link M (A.sj s) E (A.n + 1) = some (E.setP r') ∧ RC0 M (E.setP r') (A.mk r x act num 0 none s key pre pl (A.L x) (insO A.id (8 * (A.tp r + 1) + r) A.n (A.O s))) ∧ ∀ k g j, k ≠ 3 → k ≠ 7 → r' k g j = E.r k g j := by
  obtain ⟨u0, u1, u2, u3, u4, u5, u6, u7, u8, u9, u10, u11, u12, u13, u14, u15, u16, u17, u18⟩ := U.nn
  have hO := hA.2.2.1.2.2.2.2.2.2.2.2.2 s
  have hl := U.2.2.2.2.2.2.2.2.2.2.2.2.1.1 s hs hss
  have htp := (hA.2.2.2.1.1 r)
  have hnn := hA.1.1
  have hnid := (U.2.2.2.2.2.2.2.2.2.2.1 A.n (by rw [mk_n]; omega)).1
  rw [mk_id, if_pos rfl] at hnid
  obtain ⟨r', k1, k2, k3, k4, k5⟩ := cS_link (N := M) (C := E) (f := A.id) (n := A.n) (p := A.sj s) (v := 8 * (A.tp r + 1) + r) (l := A.O s) U.2.1 (by rw [u7]; exact hl.1) u3 (fun o ho => ⟨(RCu_old U ((hO.2.1 o).mp ho).1).1, id_lt hA ((hO.2.1 o).mp ho).1⟩) hnid (by omega) (fun o ho => ((hO.2.1 o).mp ho).1) hO.1 (by
    have := nodup_len A.n _ hO.1 (fun o ho => ((hO.2.1 o).mp ho).1)
    omega) hl.2.2
  exact ⟨r', k1, U.linked hA hs hss k2 k3 k4 k5, fun k g j e1 e2 => k5 k g j (by omega) (by omega) (by omega)⟩
theorem cJ_writeOn (G : RC N C A rd) (hA : AI A) (hv : VC C A r) (hr : r < 8) (hlk : A.lk r = none) (hn : A.n < 4000) (hrd : rd < 2 ^ 30) (hs : s < A.n) (hss : A.sp s = s) (hsx : A.obj s = x) (hx : A.oV r x) (hkn : A.kn + (A.key s).length ≤ 24576) (hact : act ≤ 10) (hsv : A.kd x ≠ 6 → A.inV r s = true) :
    ∃ N' C' c z, m_cJT_writeOn N 0 C r (A.sj s) (nI act) num = some ((N', C', some (A.n + 1)), c, z) ∧ c ≤ 2 ∧ z ≤ 23 ∧
      RC N' C' (A.mk r x act num 0 none s (A.key s) ((A.cd r s).reverse.filter (fun c => !decide (act = 10) || decide (A.act c = 5))) (if A.kd x = 6 then 0 else A.id s) (A.L x) (insO A.id (8 * (A.tp r + 1) + r) A.n (A.O s))) (rd + 1) ∧
      AI (A.mk r x act num 0 none s (A.key s) ((A.cd r s).reverse.filter (fun c => !decide (act = 10) || decide (A.act c = 5))) (if A.kd x = 6 then 0 else A.id s) (A.L x) (insO A.id (8 * (A.tp r + 1) + r) A.n (A.O s))) ∧
      VC C' (A.mk r x act num 0 none s (A.key s) ((A.cd r s).reverse.filter (fun c => !decide (act = 10) || decide (A.act c = 5))) (if A.kd x = 6 then 0 else A.id s) (A.L x) (insO A.id (8 * (A.tp r + 1) + r) A.n (A.O s))) r ∧ frC C C' := by
  obtain ⟨u0, u1, u2, u3, u4, u5, u6, u7, u8, u9, u10, u11, u12, u13, u14, u15, u16, u17, u18⟩ := G.nn
  obtain ⟨s1, s2, s3, s4, s5, s6, s7, s8, s9, s10, s11, s12, s13, s14, s15, s16, s17, s18, s19, s20, s21⟩ := G.st
  have hxl := oV_ltn hx
  have hox := ox_lt hxl
  have hok := mkOK_on (num := num) hA hr hlk hn hs hss hsx hx hkn hact hsv
  have hAI := mk_AI hA hok
  have hsj := G.ln.1 s hs hss
  have hz1 := G.sz.2.1
  have hcdm : ∀ c, c ∈ A.cd r s → c < A.n := fun c hc => ((cd_mem hA).mp hc).1
  have hcl := cd_len hA (r := r) (s := s)
  -- the candidates
  obtain ⟨g, h0, w1, w2, w3, w4⟩ := cV_gather G hA hv hs hss hrd
  let cs : List Nat := (A.cd r s).filter (fun c => !decide (act = 10) || decide (A.act c = 5))
  have hrev : cs.reverse = (A.cd r s).reverse.filter (fun c => !decide (act = 10) || decide (A.act c = 5)) := List.filter_reverse.symm
  have hcsm : ∀ c, c ∈ cs → c < A.n := fun c hc => hcdm c (List.mem_filter.mp hc).1
  have hcs8 : cs.length ≤ 8 := Nat.le_trans (List.length_filter_le _ _) hcl
  have hcand : ∃ h2, (∀ k (hk : k < cs.length), h2 k = some (cs[k] + 1)) ∧ (∀ p y, h2 p = some y → y < A.n + 1) ∧ (act = 10 → m_cVw_keepCounters N 0 (C.vs g h0 (nI (A.cd r s).length) (nI (rd + 1))) = some (C.vs g h2 (nI cs.length) (nI (rd + 1)))) ∧ (act ≠ 10 → h2 = h0 ∧ cs = A.cd r s) := by
    by_cases e : act = 10
    · obtain ⟨h2, y1, y2, y3⟩ := cV_keepCounters (N := N) (C := C) (cs := A.cd r s) u10 (by omega) (fun c hc => by rw [u3]; have := hcdm c hc; omega) s14 hz1 hcl w4 (g := g) (v := nI (rd + 1)) (at_ := A.act) (fun c hc => ⟨(G.op c (hcdm c hc)).2.2.1, (hA.2.2.1.1 c (hcdm c hc)).2.2.2.2.1⟩)
      have hcse : cs = (A.cd r s).filter (fun c => decide (A.act c = 5)) := by
        simp only [cs, e]
        congr 1
      refine ⟨h2, ?_, ?_, fun _ => by rw [hcse]; exact y1, fun h => absurd e h⟩
      · intro k hk
        simp only [hcse] at hk ⊢
        exact y2 k hk
      · intro p y hp
        rcases y3 p y hp with h3 | ⟨c, h3, h4⟩
        · exact w3 p y h3
        · have := hcdm c h3
          omega
    · have hcse : cs = A.cd r s := by
        simp only [cs]
        rw [List.filter_eq_self]
        simp [e]
      refine ⟨h0, ?_, w3, fun h => absurd h e, fun _ => ⟨rfl, hcse⟩⟩
      intro k hk
      simp only [hcse] at hk ⊢
      exact w4 k hk
  obtain ⟨h2, z1, z2, z3, z4⟩ := hcand
  have G2 : RC N (C.vs g h2 (nI cs.length) (nI (rd + 1))) A (rd + 1) := G.vs w2 z2
  have hsz2 : (C.vs g h2 (nI cs.length) (nI (rd + 1))).i 10 3 0 = nI cs.length := by rw [vs_i]; simp
  have hq2 : ∀ p, (C.vs g h2 (nI cs.length) (nI (rd + 1))).q 15 1 p = h2 p := fun p => by rw [vs_q]; simp
  have hf2 : frC C (C.vs g h2 (nI cs.length) (nI (rd + 1))) := frC_vs
  have ha2 : ∀ p, (C.vs g h2 (nI cs.length) (nI (rd + 1))).a 12 8 p = C.a 12 8 p := fun p => by rw [vs_a]
  have hr2 : ∀ k f j, (C.vs g h2 (nI cs.length) (nI (rd + 1))).r k f j = C.r k f j := fun k f j => by rw [vs_r]
  generalize hC2 : C.vs g h2 (nI cs.length) (nI (rd + 1)) = C2 at G2 hsz2 hq2 hf2 ha2 hr2 z3
  -- make
  have hm1 := cS_make1 G2 hA hr hxl hact (num := num) hn
  obtain ⟨U, hsc, hfr⟩ := cS_make (num := num) (ins := 0) (par := none) (s := s) (pl := if A.kd x = 6 then 0 else A.id s) (Lx := A.L x) (Os := insO A.id (8 * (A.tp r + 1) + r) A.n (A.O s)) G2 hA hr hxl hact hn
  obtain ⟨v1, v2, v3, v4, v5⟩ := mkC_view (C := C2) (N := N) (A := A) (r := r) (x := x) (act := act) (num := num)
  rw [hsz2] at v1
  generalize mkC C2 N A r x act num = D at hm1 U hsc hfr v1 v2 v3 v4 v5
  -- PRED
  obtain ⟨M', D', v, c0, zz0, p1, p2, p3, p4, p5, p6, p7, p8, p9, p10⟩ := cV_preds hA U (cs := cs) hcsm hcs8 v1 (fun k hk => by rw [v2, hq2]; exact z1 k hk)
  rw [hrev] at p4
  have hN3 : Nup N 3 3 = A.n + 2 := by rw [nup_i, if_pos rfl, u3]
  have hNk : ∀ k, k ≠ 3 → Nup N 3 k = N k := fun k hk => if_neg hk
  have q1' : (D.r 11 2 0) = some 0 := by rw [v4, hr2]; exact s3
  obtain ⟨m0, m1, m2, m3, m4, m5, m6, m7, m8, m9, m10, m11, m12, m13, m14, m15, m16, m17, m18⟩ := p4.nn
  have E1 : D'.r 3 1 (s + 1) = some (ox x) := by rw [p6, ← hsx]; exact (RCu_old U hs).2.1
  have hne1 : ¬ (7 : Nat) = 1 := by decide
  have E2 : D'.i 3 2 (ox x) = nI (A.kd x) := by
    have h5 := RCu_kd p4 hxl
    rw [CS.i_setR] at h5
    exact h5
  have E3 := RCu_old p4 hs
  rw [CS.i_setR] at E3
  have E4 : D'.r 11 0 0 = some 0 := by rw [p5.2.1, v4, hr2]; exact s1
  have E5 : D'.r 8 2 0 = some 0 := by
    have := (p4.st).2.2.2.2.2.2.2.2.2.1
    rw [CS.r_setR, if_neg (by omega)] at this
    exact this
  have hkdle : A.kd x ≤ 10 := by
    cases x with
    | none => simp [AS.kd]
    | some m => have := hx.2.2.2; simp only [AS.kd]; omega
  have hvsD : vsame D (D'.setR 3 7 (A.n + 1) v) := by
    refine vsame.trans (D' := D') ⟨?_, ?_, p9, p7⟩ vsame_setR
    · rcases p8 10 4 0 with h | h
      · exact h
      · omega
    · intro j
      rcases p8 3 14 j with h | h
      · exact h
      · omega
  have hfrD : frC D (D'.setR 3 7 (A.n + 1) v) := p5.trans frC_setR3
  have hCpre : (if act = 10 then ob (m_cVw_keepCounters N 0 (C.vs g h0 (nI (A.cd r s).length) (nI (rd + 1)))) (fun o_10 => m_cJT_writeOn_J27 N 0 o_10 (some r) (some (A.sj s)) (nI act) num (some (s + 1))) else m_cJT_writeOn_J27 N 0 (C.vs g h0 (nI (A.cd r s).length) (nI (rd + 1))) (some r) (some (A.sj s)) (nI act) num (some (s + 1))) = m_cJT_writeOn_J27 N 0 C2 (some r) (some (A.sj s)) (nI act) num (some (s + 1)) := by
    by_cases e : act = 10
    · rw [if_pos e, z3 e]
      rfl
    · rw [if_neg e]
      obtain ⟨e1, e2⟩ := z4 e
      rw [← hC2, e1, e2]
  -- what is left: key and chain
  have tail : ∃ C' , ((∀ (f2 : CS → Option (((Nat → Nat) × CS × Option Nat) × Nat × Nat)), True) ∧ (if A.kd x = 6 then (ob (m_cSt_keepKey M' 0 (D'.setR 3 7 (A.n + 1) v) (A.n + 1) 0 (nI (A.ba s)) (nI (A.key s).length)) (fun o_41 => m_cJT_writeOn_J96 M' 0 o_41 (some (A.sj s)) (some (A.n + 1)))) else m_cJT_writeOn_J96 M' 0 (D'.setR 3 7 (A.n + 1) v) (some (A.sj s)) (some (A.n + 1))) = some ((M', C', some (A.n + 1)), 0, 0)) ∧ RC0 M' C' (A.mk r x act num 0 none s (A.key s) ((A.cd r s).reverse.filter (fun c => !decide (act = 10) || decide (A.act c = 5))) (if A.kd x = 6 then 0 else A.id s) (A.L x) (insO A.id (8 * (A.tp r + 1) + r) A.n (A.O s))) ∧ vsame D C' ∧ frC D C' := by
    by_cases hk : A.kd x = 6
    · have hkpt := hA.1.2.2.1
      have hzE : (D'.setR 3 7 (A.n + 1) v).z 13 0 = 24576 := p4.2.2.2.1.2.2.2.2.2.1
      have hkE : (D'.setR 3 7 (A.n + 1) v).i 5 1 0 = nI A.kn := p4.2.2.2.2.2.2.2.1.1
      have hRWE : RW (D'.setR 3 7 (A.n + 1) v) 0 A.kn := ⟨by omega, p4.2.2.2.1.2.2.2.2.2.2.2.2.2.2.2.2.2.2.1 0 (by omega), hkE, by rw [hzE]; exact hkpt, by rw [hzE]; decide⟩
      have hle : A.ba s + (A.key s).length ≤ A.kn := by have := (RCu_old p4 hs).2.2.2.2.2; rw [mk_kn] at this; simpa using this
      obtain ⟨f, f1, f2⟩ := cS_keepKey hA p4 hRWE (RCu_old p4 hs).2.2.2.2.1 hle hkn
      obtain ⟨r', y1, y2, y3⟩ := f2.join hA hr hs hss
      refine ⟨_, ⟨fun _ => trivial, ?_⟩, y2, (hvsD.trans vsame_key).trans vsame_setP, (hfrD.trans frC_key).trans (frC_setP y3)⟩
      rw [if_pos hk, f1]
      unfold m_cJT_writeOn_J96
      simp (disch := omega) only [gd_ok, cl_nI, nI_s, nI_add, nI_leI, nI_ltI, nI_eq, if_pos, if_neg, q0, q1, q2, q3, q4, q5, q6, q7, q8, q9, q10, CS.i_setI, CS.l_setI, CS.r_setI, CS.a_setI, CS.q_setI, CS.z_setI, CS.i_setL, CS.l_setL, CS.r_setL, CS.a_setL, CS.q_setL, CS.z_setL, CS.i_setR, CS.l_setR, CS.r_setR, CS.a_setR, CS.q_setR, CS.z_setR, CS.i_setA, CS.l_setA, CS.r_setA, CS.a_setA, CS.q_setA, CS.z_setA, CS.i_setQ, CS.l_setQ, CS.r_setQ, CS.a_setQ, CS.q_setQ, CS.z_setQ, CS.i_setF, CS.l_setF, CS.r_setF, CS.a_setF, CS.q_setF, CS.z_setF, CS.i_new, CS.l_new, CS.r_new, CS.a_new, CS.q_new, CS.z_new, Nat.reduceEqDiff, false_and, true_and, and_false, and_true, if_true, if_false, b2_0, b2_1, b2_nn, n0_or, n1_or, n10, n01, dec1, dec2, ob_ok, oe_l, oe_r, gl_ok, gle_ok, gn_s, gv_ok, gv_none, on_none, onSome,m3, m7, y1]
    · have hk0 : A.key s = [] := (key_nil hA hs).mpr (by rw [hsx]; exact hk)
      rw [hk0]
      obtain ⟨r', y1, y2, y3⟩ := p4.join hA hr hs hss
      refine ⟨_, ⟨fun _ => trivial, ?_⟩, y2, hvsD.trans vsame_setP, hfrD.trans (frC_setP y3)⟩
      rw [if_neg hk]
      unfold m_cJT_writeOn_J96
      simp (disch := omega) only [gd_ok, cl_nI, nI_s, nI_add, nI_leI, nI_ltI, nI_eq, if_pos, if_neg, q0, q1, q2, q3, q4, q5, q6, q7, q8, q9, q10, CS.i_setI, CS.l_setI, CS.r_setI, CS.a_setI, CS.q_setI, CS.z_setI, CS.i_setL, CS.l_setL, CS.r_setL, CS.a_setL, CS.q_setL, CS.z_setL, CS.i_setR, CS.l_setR, CS.r_setR, CS.a_setR, CS.q_setR, CS.z_setR, CS.i_setA, CS.l_setA, CS.r_setA, CS.a_setA, CS.q_setA, CS.z_setA, CS.i_setQ, CS.l_setQ, CS.r_setQ, CS.a_setQ, CS.q_setQ, CS.z_setQ, CS.i_setF, CS.l_setF, CS.r_setF, CS.a_setF, CS.q_setF, CS.z_setF, CS.i_new, CS.l_new, CS.r_new, CS.a_new, CS.q_new, CS.z_new, Nat.reduceEqDiff, false_and, true_and, and_false, and_true, if_true, if_false, b2_0, b2_1, b2_nn, n0_or, n1_or, n10, n01, dec1, dec2, ob_ok, oe_l, oe_r, gl_ok, gle_ok, gn_s, gv_ok, gv_none, on_none, onSome,m3, m7, y1]
  obtain ⟨C', ⟨_, t1⟩, t2, t3, t4⟩ := tail
  refine ⟨M', C', c0 + 1, zz0 + 15, ?_, by omega, by omega, ⟨t2, t3.SC hsc⟩, hAI, VC_mk hv (fun p => ?_), (hf2.trans hfr).trans t4⟩
  · unfold m_cJT_writeOn m_cJT_writeOn_J0
    have hmk : C.r 7 0 (A.sj s) = some (s + 1) := hsj.2.1
    have e10 : (C.vs g h0 (nI (A.cd r s).length) (nI (rd + 1))).r 11 2 0 = some 0 := by rw [vs_r]; exact s3
    have hq10 : (nI act = nI 10) ↔ act = 10 := nI_eq (by omega) (by omega)
    simp (disch := omega) only [gd_ok, cl_nI, nI_s, nI_add, nI_leI, nI_ltI, nI_eq, if_pos, if_neg, q0, q1, q2, q3, q4, q5, q6, q7, q8, q9, q10, CS.i_setI, CS.l_setI, CS.r_setI, CS.a_setI, CS.q_setI, CS.z_setI, CS.i_setL, CS.l_setL, CS.r_setL, CS.a_setL, CS.q_setL, CS.z_setL, CS.i_setR, CS.l_setR, CS.r_setR, CS.a_setR, CS.q_setR, CS.z_setR, CS.i_setA, CS.l_setA, CS.r_setA, CS.a_setA, CS.q_setA, CS.z_setA, CS.i_setQ, CS.l_setQ, CS.r_setQ, CS.a_setQ, CS.q_setQ, CS.z_setQ, CS.i_setF, CS.l_setF, CS.r_setF, CS.a_setF, CS.q_setF, CS.z_setF, CS.i_new, CS.l_new, CS.r_new, CS.a_new, CS.q_new, CS.z_new, Nat.reduceEqDiff, false_and, true_and, and_false, and_true, if_true, if_false, b2_0, b2_1, b2_nn, n0_or, n1_or, n10, n01, dec1, dec2, ob_ok, oe_l, oe_r, gl_ok, gle_ok, gn_s, gv_ok, gv_none, on_none, onSome,u7, u11, u10, s3, w1, hmk, e10]
    rw [hCpre]
    have d1 : C2.r 3 1 (s + 1) = some (ox x) := by rw [hr2, ← hsx]; exact (G.op s hs).2.1
    have d2 : C2.r 11 0 0 = some 0 := by rw [hr2]; exact s1
    unfold m_cJT_writeOn_J27
    simp (disch := omega) only [gd_ok, cl_nI, nI_s, nI_add, nI_leI, nI_ltI, nI_eq, if_pos, if_neg, q0, q1, q2, q3, q4, q5, q6, q7, q8, q9, q10, CS.i_setI, CS.l_setI, CS.r_setI, CS.a_setI, CS.q_setI, CS.z_setI, CS.i_setL, CS.l_setL, CS.r_setL, CS.a_setL, CS.q_setL, CS.z_setL, CS.i_setR, CS.l_setR, CS.r_setR, CS.a_setR, CS.q_setR, CS.z_setR, CS.i_setA, CS.l_setA, CS.r_setA, CS.a_setA, CS.q_setA, CS.z_setA, CS.i_setQ, CS.l_setQ, CS.r_setQ, CS.a_setQ, CS.q_setQ, CS.z_setQ, CS.i_setF, CS.l_setF, CS.r_setF, CS.a_setF, CS.q_setF, CS.z_setF, CS.i_new, CS.l_new, CS.r_new, CS.a_new, CS.q_new, CS.z_new, Nat.reduceEqDiff, false_and, true_and, and_false, and_true, if_true, if_false, b2_0, b2_1, b2_nn, n0_or, n1_or, n10, n01, dec1, dec2, ob_ok, oe_l, oe_r, gl_ok, gle_ok, gn_s, gv_ok, gv_none, on_none, onSome,u11, u3, u4, u8, u7, d1, d2, hm1, oq_ok, hN3, hNk 10 (by decide), u10, q1', p1, m3, m8, m5, E1, E2, E4, E5, E3.2.2.1, E3.2.2.2.1, t1, al_ok]
    rw [Nat.zero_add, Nat.zero_add]
  · rw [t3.2.2.2, v3, ha2]
theorem RCu.toV (U : RCu N C A (A.mk r x act num ins par s key pre pl Lx Os)) : RCv N C A (A.mk r x act num ins par s key pre pl Lx Os) 0 none := U
theorem vsame_new7 {J : Nat} {r' : Nat → Nat → Nat → Option Nat} : vsame C ((C.new 7 J 0).setP r') := by
  refine ⟨?_, fun j => ?_, fun p => ?_, fun p => ?_⟩
  · rw [setP_i, CS.i_new, if_neg (by omega)]
  · rw [setP_i, CS.i_new, if_neg (by omega)]
  · rw [setP_q, CS.q_new, if_neg (by omega)]
  · rw [setP_a, CS.a_new, if_neg (by omega)]
theorem frC_new7 {J : Nat} {r' : Nat → Nat → Nat → Option Nat} (h : ∀ k g j, k ≠ 3 → k ≠ 7 → r' k g j = C.r k g j) : frC C ((C.new 7 J 0).setP r') := by
  refine ⟨?_, ?_, ?_, ?_, ?_, ?_, ?_, ?_, ?_, ?_, ?_, ?_⟩
  · intro f j; rw [setP_i, CS.i_new, if_neg (by omega)]
  · intro f j; exact h 11 f j (by decide) (by decide)
  · intro f j; rw [setP_i, CS.i_new, if_neg (by omega)]
  · intro f j; exact h 1 f j (by decide) (by decide)
  · intro f j _; rw [setP_i, CS.i_new, if_neg (by omega)]
  · intro f j; exact h 5 f j (by decide) (by decide)
  · intro j p _; rw [setP_a, CS.a_new, if_neg (by omega)]
  · intro j; rw [setP_z, CS.z_new, if_neg (by omega)]
  · intro f j; rw [setP_i, CS.i_new, if_neg (by omega)]
  · intro f j; rw [setP_l, CS.l_new, if_neg (by omega)]
  · intro f j; exact h 9 f j (by decide) (by decide)
  · intro f j; rw [setP_i, CS.i_new, if_neg (by omega)]
theorem RW_fr {C' : CS} {j l : Nat} (h : frC C C') (hj : j ≠ 0) (hr : RW C j l) : RW C' j l := by
  obtain ⟨a1, a2, a3, a4, a5⟩ := hr
  exact ⟨a1, by rw [h.2.2.2.2.2.1]; exact a2, by rw [h.2.2.2.2.1 _ _ hj]; exact a3, by rw [h.2.2.2.2.2.2.2.1]; exact a4, by rw [h.2.2.2.2.2.2.2.1]; exact a5⟩
theorem RB_fr {C' : CS} {j p : Nat} {k : List Nat} (h : frC C C') (hj : j ≠ 0) (hr : RB C j p k) : RB C' j p k := by
  intro i hi
  rw [h.2.2.2.2.2.2.1 _ _ hj]
  exact hr i hi
/-- an op at a key -/
theorem cJ_writeAtKey (G : RC N C A rd) (hA : AI A) (hv : VC C A r) (hr : r < 8) (hlk : A.lk r = none) (hn : A.n < 4000) (hrd : rd < 2 ^ 30) (hx : A.oV r x) (hkd : A.kd x = 6) {j l p : Nat} {k : List Nat} (hj : j ≠ 0) (h2 : RW C j l) (b2 : RB C j p k) (e2 : p + k.length ≤ l) (hk1 : 1 ≤ k.length) (hk2 : k.length ≤ 64) (hkn : A.kn + k.length ≤ 24576) (hact : act ≤ 9) :
    ∃ N' C' c z rd' s Lx Os, m_cJT_writeAtKey N 0 C r (ox x) j (nI p) (nI k.length) (nI act) num = some ((N', C', some (A.n + 1)), c, z) ∧ c ≤ 2 ∧ z ≤ 23 ∧ rd ≤ rd' ∧ rd' ≤ rd + 1 ∧
      RC N' C' (A.mk r x act num 0 none s k (A.kc r x k).reverse 0 Lx Os) rd' ∧ AI (A.mk r x act num 0 none s k (A.kc r x k).reverse 0 Lx Os) ∧ VC C' (A.mk r x act num 0 none s k (A.kc r x k).reverse 0 Lx Os) r ∧ frC C C' := by
  obtain ⟨u0, u1, u2, u3, u4, u5, u6, u7, u8, u9, u10, u11, u12, u13, u14, u15, u16, u17, u18⟩ := G.nn
  obtain ⟨s1, s2, s3, s4, s5, s6, s7, s8, s9, s10, s11, s12, s13, s14, s15, s16, s17, s18, s19, s20, s21⟩ := G.st
  have hxl := oV_ltn hx
  have hox := ox_lt hxl
  have hsw := cS_spotWith G hA hxl hkd h2 b2 e2
  have hj7 := h2.1
  cases hks : A.ks x k with
  | some s =>
    have hs' := (ks_some hA hkd).mp hks
    have hsL := L_mem hA hs'.1
    have hsj := (G.ln.1 s hsL.1 hsL.2.2).1
    obtain ⟨N', C', c, z, o1, o2, o3, o4, o5, o6, o7⟩ := cJ_writeOn (num := num) G hA hv hr hlk hn hrd hsL.1 hsL.2.2 hsL.2.1 hx (by rw [hs'.2]; exact hkn) (by omega : act ≤ 10) (fun h => absurd hkd h)
    have hpre : (A.cd r s).reverse.filter (fun c => !decide (act = 10) || decide (A.act c = 5)) = (A.kc r x k).reverse := by
      unfold AS.kc
      rw [hks]
      rw [List.filter_eq_self]
      intro a _
      simp; omega
    rw [hpre, hs'.2, if_pos hkd] at o4 o5 o6
    refine ⟨N', C', c, z, rd + 1, s, _, _, ?_, o2, o3, by omega, by omega, o4, o5, o6, o7⟩
    rw [hks] at hsw
    simp only [Option.map_some] at hsw
    unfold m_cJT_writeAtKey m_cJT_writeAtKey_J0
    simp (disch := omega) only [gd_ok, cl_nI, nI_s, nI_add, nI_leI, nI_ltI, nI_eq, if_pos, if_neg, q0, q1, q2, q3, q4, q5, q6, q7, q8, q9, q10, CS.i_setI, CS.l_setI, CS.r_setI, CS.a_setI, CS.q_setI, CS.z_setI, CS.i_setL, CS.l_setL, CS.r_setL, CS.a_setL, CS.q_setL, CS.z_setL, CS.i_setR, CS.l_setR, CS.r_setR, CS.a_setR, CS.q_setR, CS.z_setR, CS.i_setA, CS.l_setA, CS.r_setA, CS.a_setA, CS.q_setA, CS.z_setA, CS.i_setQ, CS.l_setQ, CS.r_setQ, CS.a_setQ, CS.q_setQ, CS.z_setQ, CS.i_setF, CS.l_setF, CS.r_setF, CS.a_setF, CS.q_setF, CS.z_setF, CS.i_new, CS.l_new, CS.r_new, CS.a_new, CS.q_new, CS.z_new, Nat.reduceEqDiff, false_and, true_and, and_false, and_true, if_true, if_false, b2_0, b2_1, b2_nn, n0_or, n1_or, n10, n01, dec1, dec2, ob_ok, oe_l, oe_r, gl_ok, gle_ok, gn_s, gv_ok, gv_none, on_none, onSome,u11, u5, u3, u8, u4, u7, s1, hsw, o1, oq_ok, al_ok]
    rw [Nat.zero_add, Nat.zero_add]
  | none =>
    have hok := mkOK_key (num := num) hA hr hlk hn hx hkd hk1 hk2 hks hkn (by omega : act ≤ 10)
    have hAI := mk_AI hA hok
    have hkc : (A.kc r x k).reverse = [] := by unfold AS.kc; rw [hks]; rfl
    rw [hkc]
    have hm1 := cS_make1 G hA hr hxl (by omega : act ≤ 10) (num := num) hn
    obtain ⟨U, hsc, hfr⟩ := cS_make (num := num) (ins := 0) (par := none) (s := A.n) (pl := 0) (Lx := (A.L x).takeWhile (fun t => decide (kcmp (A.key t) k < 0)) ++ A.n :: (A.L x).dropWhile (fun t => decide (kcmp (A.key t) k < 0))) (Os := [A.n]) G hA hr hxl (by omega : act ≤ 10) hn
    obtain ⟨v1, v2, v3, v4, v5⟩ := mkC_view (C := C) (N := N) (A := A) (r := r) (x := x) (act := act) (num := num)
    generalize mkC C N A r x act num = D at hm1 U hsc hfr v1 v2 v3 v4 v5
    obtain ⟨f, f1, f2⟩ := cS_keepKey hA U (RW_fr hfr hj h2) (RB_fr hfr hj b2) e2 hkn
    have hfk : frC D ((D.row 0 f (nI (A.kn + k.length))).setI 3 9 (A.n + 1) (nI k.length)) := frC_key
    have hvk : vsame D ((D.row 0 f (nI (A.kn + k.length))).setI 3 9 (A.n + 1) (nI k.length)) := vsame_key
    generalize (D.row 0 f (nI (A.kn + k.length))).setI 3 9 (A.n + 1) (nI k.length) = E at f1 f2 hfk hvk
    obtain ⟨r', k1, k2, k3⟩ := cS_openKey hA hr hxl hkn rfl rfl f2.toV
    have hN3 : Nup N 3 3 = A.n + 2 := by rw [nup_i, if_pos rfl, u3]
    have hNk : ∀ q, q ≠ 3 → Nup N 3 q = N q := fun q hq => if_neg hq
    have d1 : D.r 11 0 0 = some 0 := by rw [v4]; exact s1
    have d2 : E.r 11 0 0 = some 0 := by rw [hfk.2.1]; exact d1
    refine ⟨_, _, 2, 18, rd, A.n, _, _, ?_, by omega, by omega, by omega, by omega, ⟨k2, (hvk.trans vsame_new7).SC hsc⟩, hAI, VC_mk hv (fun p => ?_), (hfr.trans hfk).trans (frC_new7 k3)⟩
    · rw [hks] at hsw
      simp only [Option.map_none] at hsw
      unfold m_cJT_writeAtKey m_cJT_writeAtKey_J0
      simp (disch := omega) only [gd_ok, cl_nI, nI_s, nI_add, nI_leI, nI_ltI, nI_eq, if_pos, if_neg, q0, q1, q2, q3, q4, q5, q6, q7, q8, q9, q10, CS.i_setI, CS.l_setI, CS.r_setI, CS.a_setI, CS.q_setI, CS.z_setI, CS.i_setL, CS.l_setL, CS.r_setL, CS.a_setL, CS.q_setL, CS.z_setL, CS.i_setR, CS.l_setR, CS.r_setR, CS.a_setR, CS.q_setR, CS.z_setR, CS.i_setA, CS.l_setA, CS.r_setA, CS.a_setA, CS.q_setA, CS.z_setA, CS.i_setQ, CS.l_setQ, CS.r_setQ, CS.a_setQ, CS.q_setQ, CS.z_setQ, CS.i_setF, CS.l_setF, CS.r_setF, CS.a_setF, CS.q_setF, CS.z_setF, CS.i_new, CS.l_new, CS.r_new, CS.a_new, CS.q_new, CS.z_new, Nat.reduceEqDiff, false_and, true_and, and_false, and_true, if_true, if_false, b2_0, b2_1, b2_nn, n0_or, n1_or, n10, n01, dec1, dec2, ob_ok, oe_l, oe_r, gl_ok, gle_ok, gn_s, gv_ok, gv_none, on_none, onSome,u11, u5, u3, u8, u4, u7, s1, hsw, hm1, oq_ok, hN3, hNk 8 (by decide), d1, f1, d2, k1, ov_ok, al_ok]
    · rw [(hvk.trans vsame_new7).2.2.2, v3]
end WP
