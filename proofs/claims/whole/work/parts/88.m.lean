/-! JSON: strings, maps and lists as values. -/
section JSM
variable {S S' T : MS} {N : Nat → Nat} {C C' B : CS} {J : JS} {p js k ka kl : Nat} {bs d : List Nat} {x1 x2 : Int32}
theorem v_str (h : JVP N C B S T js bs J ka kl x1 x2) (h34 : bs[J.p]? = some 34) : ∃ S' C' y, sDis T J.n 34 = some S' ∧ okR (m_cRd_readStringValue N 0 B J.n) = some (C', y) ∧ VAL N C C' S S' js bs J.p y := by
  obtain ⟨⟨g1, g2, g3, g4, g5⟩, g6, ⟨c1, c2, c3, c4, c5, c6, c7, c8, c9, c10, c11, c12⟩, ⟨d1, d2, d3, d4, d5, d6, d7, d8, d9, d10⟩, g9, g10⟩ := id h
  have hN := c3.1
  have hb := c3.b
  have hpl := getq h34
  have hdl := g3.1.2.2.1
  have h8 := g3.1.2.2.2.2
  -- the reference
  have hT2 : ST ((T.setI 66 (nI (J.p + 1))).setA 53 (upd (T.a 53) J.n 4)) bs (J.p + 1) := (d2.set (by omega)).fr rfl rfl rfl
  have hD2 : SD ((T.setI 66 (nI (J.p + 1))).setA 53 (upd (T.a 53) J.n 4)) J.d := d3
  have hQT : QW J.n T ((T.setI 66 (nI (J.p + 1))).setA 53 (upd (T.a 53) J.n 4)) := (QW_i (j := 66) (by omega) (by omega) (by omega)).trans (QW_a (k := 53) (by omega) (by omega))
  obtain ⟨S1, s1, s2, s3, s4⟩ := s_str hT2 hD2 d5 (by omega) (most := 1024) (by omega)
  -- the class
  have hB2T : CT N ((B.setI 9 0 J.n 4).setI 9 5 J.n (B.i 5 1 1)) js bs J.p := c3.i9.i9
  have hB2D : CD ((B.setI 9 0 J.n 4).setI 9 5 J.n (B.i 5 1 1)) J.d := c4.i9.i9
  have hQB : QV J.n B ((B.setI 9 0 J.n 4).setI 9 5 J.n (B.i 5 1 1)) := QV_i9.trans QV_i9
  obtain ⟨C1, k1, k2, k3, k4⟩ := c_str hB2T hB2D hdl hpl (most := 1024) (by omega)
  have h51 : B.i 5 1 1 = nI J.d.length := c4.1.2.2.1
  have hr0 : B.r 1 0 0 = some 0 := by rw [c1.2.2.2.2.1]; exact g1.2.2.2.1.1
  have hR := strR_ok hb 1024 (J.p + 1) J.d (by omega) (by omega)
  generalize strR bs 1024 (J.p + 1) J.d = R at *
  have hCc : m_cRd_readStringValue N 0 B J.n = ob (some (C1, b2 R.2.isSome)) (fun o_4 => (if o_4.2 = 0 then some (o_4.1, 0) else gn (o_4.1.r 1 1 0) (N 5) (fun j_7 => some (((o_4.1.setI 9 6 J.n ((o_4.1.i 5 1 j_7) - (o_4.1.i 9 5 J.n))).setI 1 4 0 ((o_4.1.i 1 4 0) + 1)), 1)))) := by
    unfold m_cRd_readStringValue m_cRd_readStringValue_J0
    rw [gl_ok (by omega), gl_ok (by omega), c4.2.2.2, gn_s (by omega), ← k1]
    rfl
  have hSc : sDis T J.n 34 = (if S1.i 68 = 0 then some (((S1.setA 57 (upd (S1.a 57) J.n (nI J.d.length))).setA 58 (upd (S1.a 58) J.n (S1.i 65 - nI J.d.length))).setI 66 (S1.i 66 + 1)) else some ((S1.setA 57 (upd (S1.a 57) J.n (nI J.d.length))).setA 58 (upd (S1.a 58) J.n (S1.i 65 - nI J.d.length)))) := by
    unfold sDis
    rw [if_neg (by decide), if_neg (by decide), if_neg (by decide), if_pos rfl, d2.next, gd_ok (by omega) (by omega)]
    rw [show m_rstring ((T.setI 66 (nI (J.p + 1))).setA 53 (upd (T.a 53) J.n 4)) 1024 = some (S1, nI J.d.length) from s1, ob_ok]
    simp only [gd_ok (show J.n < 501 by omega) (by decide)]
    rw [updn]
    rfl
  have hi9 : C1.i 9 5 J.n = nI J.d.length := by rw [k3.i9, CS.i_setI, if_pos ⟨rfl, rfl, rfl⟩, h51]
  have hQ1 : QV J.n B C1 := hQB.trans k3.v
  have hw1 : WF N C1 := k3.wf (show WF N ((B.setI 9 0 J.n 4).setI 9 5 J.n (B.i 5 1 1)) from c2)
  have h17 : C1.i 1 7 0 = 0 := by
    rw [k3.i1 7 (by omega), CS.i_setI, if_neg (by omega), CS.i_setI, if_neg (by omega)]; exact c6
  have hr1 : C1.r = B.r := k3.r
  have hQS : QW J.n T S1 := hQT.trans s3.w
  rcases s4 with ⟨d', e1, e2, e3⟩ | ⟨e1, e2⟩
  · -- read
    obtain ⟨r1, r2, r3⟩ := hR
    obtain ⟨r4, ⟨y, r5, r6⟩, r7⟩ := r3 d' e1
    have hq := getq r7
    have hD1 := k4 d' e1
    have hlen : d'.length = J.d.length + y.length := by rw [r5, List.length_append]
    have hsub : nI d'.length - nI J.d.length = nI y.length := by rw [sub_nI (by omega), show d'.length - J.d.length = y.length by omega]
    rw [e1, ob_ok] at hCc
    rw [show b2 (some d').isSome = 1 from rfl, if_neg (show ¬ (1 : Int32) = 0 by decide), hD1.2.2.2, gn_s (by omega), hD1.1.2.2.1, hi9, hsub, k2.2.2.2.2.2.1, nI_s] at hCc
    rw [if_pos e2, e3.1, hsub, s2.2.2.2.1, nI_s] at hSc
    have hQ2 : QV J.n B ((C1.setI 9 6 J.n (nI y.length)).setI 1 4 0 (nI (R.1 + 1))) := (hQ1.trans QV_i9).trans (QV_i1 (by omega))
    have hQ3 : QW J.n T (((S1.setA 57 (upd (S1.a 57) J.n (nI J.d.length))).setA 58 (upd (S1.a 58) J.n (nI y.length))).setI 66 (nI (R.1 + 1))) := ((hQS.trans (QW_a (k := 57) (by omega) (by omega))).trans (QW_a (k := 58) (by omega) (by omega))).trans (QW_i (by omega) (by omega) (by omega))
    have hD9 : CD ((C1.setI 9 6 J.n (nI y.length)).setI 1 4 0 (nI (R.1 + 1))) d' := hD1.i9.at
    refine ⟨_, _, 1, hSc, by rw [hCc]; rfl, (c1.trans hQ2).1, (d1.trans hQ3).1, fun _ => ?_, hw1, by show C1.r 1 0 0 = some 0; rw [hr1]; exact hr0, hD9.2.2.2, Or.inl ⟨rfl, J.put 4 0 ka kl J.d.length y.length (R.1 + 1) d', ?_, ?_, ?_, ?_, ?_, ?_⟩⟩
    · rw [CS.i_setI, if_neg (by omega), CS.i_setI, if_neg (by omega)]; exact h17
    · refine h.cput hQ2 hw1 ((k2.i9 (f := 6) (j := J.n) (x := nI y.length)).set (by omega)) hD9 ?_ ?_ ?_ ?_ ?_ ?_ ?_ ?_ ?_
      · rw [CS.i_setI, if_neg (by omega), CS.i_setI, if_neg (by omega), k3.i1 3 (by omega), CS.i_setI, if_neg (by omega), CS.i_setI, if_neg (by omega)]
      · rw [CS.i_setI, if_neg (by omega), CS.i_setI, if_neg (by omega), k3.i9, CS.i_setI, if_neg (by omega), CS.i_setI, if_pos ⟨rfl, rfl, rfl⟩]; rfl
      · show C1.l 9 1 J.n = 0
        rw [k3.l]; exact c7
      · show C1.r 9 2 J.n = _
        rw [hr1]
      · rw [CS.i_setI, if_neg (by omega), CS.i_setI, if_neg (by omega), k3.i9, CS.i_setI, if_neg (by omega), CS.i_setI, if_neg (by omega)]
      · rw [CS.i_setI, if_neg (by omega), CS.i_setI, if_neg (by omega), k3.i9, CS.i_setI, if_neg (by omega), CS.i_setI, if_neg (by omega)]
      · intro _
        refine ⟨?_, ?_⟩
        · rw [CS.i_setI, if_neg (by omega), CS.i_setI, if_neg (by omega)]; exact hi9
        · rw [CS.i_setI, if_neg (by omega), CS.i_setI, if_pos ⟨rfl, rfl, rfl⟩]
      · show C1.r 9 8 J.n = _
        rw [hr1]
      · show C1.r 9 9 J.n = _
        rw [hr1]
    · refine h.sput hQ3 ((s2.set (q := R.1 + 1) (by omega)).fr rfl rfl rfl) (e3.fr rfl rfl) ?_ e2 ?_ ?_ ?_ ?_ ?_ ?_
      · show S1.i 64 = T.i 64
        rw [s3.1 64 (by omega) (by omega) (by omega)]; rfl
      · show S1.a 53 J.n = _
        rw [s3.2.1 53 (by omega)]
        show upd (T.a 53) J.n 4 J.n = _
        rw [updn]; rfl
      · show S1.n 61 J.n = 0
        rw [s3.2.2]; exact d10
      · show S1.a 54 J.n = _
        rw [s3.2.1 54 (by omega)]; rfl
      · show S1.a 55 J.n = _
        rw [s3.2.1 55 (by omega)]; rfl
      · show S1.a 56 J.n = _
        rw [s3.2.1 56 (by omega)]; rfl
      · intro _
        exact ⟨updn, updn⟩
    · exact g3.put g6 g5 (by omega) (by omega) (by omega) (y := y) r5 (by omega) (by rw [if_pos rfl]) (fun _ => ⟨r6, rfl⟩)
    · show J.p < R.1 + 1
      omega
    · show S1.i 69 = (if J.fr = true then 1 else 2)
      rw [s3.1 69 (by omega) (by omega) (by omega), g4]
      show T.i 69 = _
      rw [d6, g10]; rfl
    · show 0 < J.n + 1
      omega
  · rw [e1, ob_ok] at hCc
    rw [if_pos (show b2 (none : Option (List Nat)).isSome = 0 from rfl)] at hCc
    rw [if_neg (by rw [e2]; decide)] at hSc
    refine ⟨_, _, 0, hSc, by rw [hCc]; rfl, (c1.trans hQ1).1, ?_, fun _ => h17, hw1, by rw [hr1]; exact hr0, by rw [hr1]; exact c4.2.2.2, Or.inr ⟨e2, R.1, hR.1, s2.2.2.2.1, k2.2.2.2.2.2.1, Or.inl rfl⟩⟩
    exact (d1.trans ((hQS.trans (QW_a (k := 57) (by omega) (by omega))).trans (QW_a (k := 58) (by omega) (by omega)))).1
theorem v_open (h : JVP N C B S T js bs J ka kl x1 x2) {so : Nat} {c : Int32} (hc : c = 123 ∧ so = 6 ∨ c = 91 ∧ so = 7) (hp : J.p < bs.length) (hd : J.dp < 20) : ∃ S' C' y, m_rone_J350 T c (nI J.n) = some S' ∧ okR (m_cRd_openInside N 0 B J.n (nI so)) = some (C', y) ∧ VAL N C C' S S' js bs J.p y := by
  obtain ⟨⟨g1, g2, g3, g4, g5⟩, g6, ⟨c1, c2, c3, c4, c5, c6, c7, c8, c9, c10, c11, c12⟩, ⟨d1, d2, d3, d4, d5, d6, d7, d8, d9, d10⟩, g9, g10⟩ := id h
  have hN := c3.1
  have hso : so ≤ 7 ∧ so ≠ 5 := by omega
  have hr0 : B.r 1 0 0 = some 0 := by rw [c1.2.2.2.2.1]; exact g1.2.2.2.1.1
  have h15 : B.i 1 5 0 = nI J.dp := by rw [c1.2.2.2.2.2.1]; exact g1.2.2.2.2.2.1
  have h67 : T.i 67 = nI J.dp := by rw [d1.2.2.2.2]; exact g2.2.2.2.1
  have hst : ∀ i, i < J.dp → J.st i < J.n := fun i hi => (g3.2.1 i hi).1
  have hC : m_cRd_openInside N 0 B J.n (nI so) = some (((((B.setI 9 0 J.n (nI so)).setI 1 5 0 (nI (J.dp + 1))).setI 1 4 0 (nI (J.p + 1))).setR 1 6 0 (some J.n)), 1) := by
    unfold m_cRd_openInside m_cRd_openInside_J0
    rw [gl_ok (by omega), h15, if_neg (fun g => by have := (nI_eq (a := J.dp) (b := 20) (by omega) (by omega)).mp g; omega), gl_ok (by omega), nI_s, c3.2.2.2.2.2.1, nI_s]
    congr 3
    apply CS_ext <;> intros <;> try rfl
    rename_i k f j
    simp only [CS.i_setI]
    by_cases e : k = 9 ∧ f = 0 ∧ j = J.n
    · rw [if_pos e, if_neg (by omega), if_neg (by omega), if_pos e]
    · rw [if_neg e, if_neg e]
  have hS : m_rone_J350 T c (nI J.n) = some (((((T.setA 53 (upd (T.a 53) J.n (nI so))).setI 66 (nI (J.p + 1))).setA 63 (upd ((T.setA 53 (upd (T.a 53) J.n (nI so))).a 63) J.dp (nI J.n))).setI 67 (nI (J.dp + 1))).setI 69 1) := by
    have h66 : (T.setI 66 (nI (J.p + 1))).i 67 = nI J.dp := h67
    have hJ : ∀ t0 : Int32, t0 = nI so → m_rone_J379 (T.setI 66 (nI (J.p + 1))) (nI J.n) t0 (nI J.n) = some (((((T.setA 53 (upd (T.a 53) J.n (nI so))).setI 66 (nI (J.p + 1))).setA 63 (upd ((T.setA 53 (upd (T.a 53) J.n (nI so))).a 63) J.dp (nI J.n))).setI 67 (nI (J.dp + 1))).setI 69 1) := by
      intro t0 ht
      unfold m_rone_J379 m_rone_J415
      rw [gd_ok (by omega) (by omega), h66, gd_ok (by omega) (by omega), cl_nI (by omega), cl_nI (by omega), nI_s, ht]
      congr 1
    unfold m_rone_J350
    rw [d2.next]
    rcases hc with ⟨h1, h2⟩ | ⟨h1, h2⟩
    · rw [if_pos h1]; exact hJ 6 (by rw [h2]; rfl)
    · rw [if_neg (by rw [h1]; decide)]; exact hJ 7 (by rw [h2]; rfl)
  have hQB : QV J.n B (B.setI 9 0 J.n (nI so)) := QV_i9
  have hCR1 : CR N (B.setI 9 0 J.n (nI so)) js bs (J.put so 0 ka kl 0 0 J.p J.d) := by
    refine h.cput hQB c2 c3.i9 c4.i9 ?_ ?_ c7 rfl ?_ ?_ (fun g => by omega) rfl rfl
    · rw [CS.i_setI, if_neg (by omega)]
    · rw [CS.i_setI, if_pos ⟨rfl, rfl, rfl⟩]
    · rw [CS.i_setI, if_neg (by omega)]
    · rw [CS.i_setI, if_neg (by omega)]
  have hSR1 : SR (T.setA 53 (upd (T.a 53) J.n (nI so))) bs (J.put so 0 ka kl 0 0 J.p J.d) := by
    refine h.sput (QW_a (k := 53) (by omega) (by omega)) (d2.fr rfl rfl rfl) d3 rfl d5 ?_ d10 rfl rfl rfl (fun g => by omega)
    show upd (T.a 53) J.n (nI so) J.n = _
    exact updn
  have hJI1 : JI bs (J.put so 0 ka kl 0 0 J.p J.d) 0 := g3.put g6 g5 hso (Nat.le_refl _) (by omega) (y := []) (by simp) g3.1.2.2.1 (by rw [if_neg (by omega)]; rfl) (fun g => by omega)
  have hst1 : ∀ i, i < (J.put so 0 ka kl 0 0 J.p J.d).dp → (J.put so 0 ka kl 0 0 J.p J.d).st i < (J.put so 0 ka kl 0 0 J.p J.d).n - 1 := fun i hi => by show J.st i < J.n + 1 - 1; exact hst i hi
  have hCR2 := hCR1.opn g4 hst1 (by show 0 < J.n + 1; omega) (by show J.n + 1 ≤ 500; omega) (by show (B.setI 9 0 J.n (nI so)).i 9 7 J.n = 0; rw [CS.i_setI, if_neg (by omega)]; exact c10) hp
  have hSR2 := hSR1.opn (by show 0 < J.n + 1; omega) (by show J.dp < 32; omega) hp
  have hJI2 := hJI1.opn (by show 0 < J.n + 1; omega) hd hp (by show (J.put so 0 ka kl 0 0 J.p J.d).so J.n = 6 ∨ (J.put so 0 ka kl 0 0 J.p J.d).so J.n = 7; rw [putn_so]; omega) (by show (J.put so 0 ka kl 0 0 J.p J.d).ar J.n = _; rw [putn_ar]; rfl) hst1
  refine ⟨_, _, 1, hS, by rw [hC]; rfl, ?_, ?_, fun _ => ?_, hCR2.1, hCR2.2.2.2.1.1, hCR2.2.2.1.2.2.2, Or.inl ⟨rfl, _, hCR2, hSR2, hJI2, by show J.p < J.p + 1; omega, rfl, by show 0 < J.n + 1; omega⟩⟩
  · refine ((c1.trans hQB).1).trans ⟨?_, fun _ _ _ _ => rfl, ?_, fun _ _ _ _ => rfl, rfl, rfl⟩
    · intro k f j h1 h2 h3
      rw [CS.i_setR, CS.i_setI, if_neg (fun g => h1 g.1), CS.i_setI, if_neg (fun g => h1 g.1)]
    · intro k f j h1 h2
      rw [CS.r_setR, if_neg (fun g => h1 g.1)]; rfl
  · refine ((d1.trans (QW_a (k := 53) (x := nI so) (by omega) (by omega))).1).trans ⟨?_, ?_, fun _ _ => rfl⟩
    · intro j hj
      rw [MS.i_setI, if_neg (by omega), MS.i_setI, if_neg (by omega), MS.i_setA, MS.i_setI, if_neg (by omega)]
    · intro k h1 h2 h3
      rw [MS.a_setI, MS.a_setI, MS.a_setA, if_neg h3, MS.a_setI]
  · rw [CS.i_setR, CS.i_setI, if_neg (by omega), CS.i_setI, if_neg (by omega), CS.i_setI, if_neg (by omega)]; exact c6
/-- BOTH READ A VALUE ALIKE -/
theorem jv {S0 : MS} (hC : CR N C js bs J) (h0 : m_rskip S0 = some S) (hS : SR S bs J) (hI : JI bs J kl) (hf : J.fr = false) (hk : KOK J ka kl) (hkC : 0 < kl → C.i 1 8 0 = nI ka ∧ C.i 1 9 0 = nI kl) (hx2 : x2 = nI kl) (hx1 : 0 < kl → x1 = nI ka) (h69 : S.i 69 = 2) :
    ∃ S' C' y, m_rone S0 x1 x2 = some S' ∧ m_cRd_readValue N 0 C = some (C', y) ∧ VAL N C C' S S' js bs J.p y := by
  have hb := hC.2.1.b
  have hN := hC.2.1.1
  have hpl := hC.2.1.2.2.2.2.2.2
  rw [s_start h0 hS.1]
  have bad : ∀ (C' : CS) (y : Int32), y = 0 → m_cRd_readValue N 0 C = some (C', y) → QC C C' → C'.i 1 7 0 = 0 → WF N C' → C'.r 1 0 0 = some 0 → C'.r 1 1 0 = some 1 → C'.i 1 4 0 = nI J.p → ∀ x : Option MS, x = some (S.setI 68 1) → ∃ S' C' y, x = some S' ∧ m_cRd_readValue N 0 C = some (C', y) ∧ VAL N C C' S S' js bs J.p y := by
    intro C' y hy h1 h2 h3 h4 h5 h6 h7 x hx
    exact ⟨_, C', y, hx, h1, h2, (QW_i (n := 0) (j := 68) (by omega) (by omega) (by omega)).1, fun _ => h3, h4, h5, h6, Or.inr ⟨by rw [MS.i_setI, if_pos rfl], J.p, hpl, by rw [MS.i_setI, if_neg (by decide)]; exact hS.1.2.2.2.1, h7, Or.inl hy⟩⟩
  by_cases h500 : J.n = 500
  · refine bad (C.setI 1 7 0 0) 0 rfl ?_ (QV_i1 (n := 0) (by omega)).1 ?_ hC.1 hC.2.2.2.1.1 hC.2.2.1.2.2.2 ?_ _ ?_
    · unfold m_cRd_readValue m_cRd_readValue_J0
      rw [gl_ok (by omega), hC.2.2.2.2.1, if_pos (by rw [h500]; rfl)]
    · rw [CS.i_setI, if_pos ⟨rfl, rfl, rfl⟩]
    · rw [CS.i_setI, if_neg (by omega)]; exact hC.2.1.2.2.2.2.2.1
    · unfold m_rone_J68 m_rone_J106
      rw [hS.2.2.1, if_pos (show nI J.n = 500 by rw [h500]; rfl)]
      split <;> rfl
  · have hn : J.n < 500 := by have := hI.1.1; omega
    obtain ⟨B, hB, hBG⟩ := c_beg (ka := ka) hC hI hn hkC
    rw [hB]
    have badB : ∀ (C' : CS), cDis N B J.n (atI bs J.p) = some (C', 0) → QC B C' → C'.i 1 7 0 = 0 → WF N C' → C'.r 1 0 0 = some 0 → C'.r 1 1 0 = some 1 → C'.i 1 4 0 = nI J.p → ∀ x : Option MS, x = some (S.setI 68 1) → ∃ S' C' y, x = some S' ∧ okR (cDis N B J.n (atI bs J.p)) = some (C', y) ∧ VAL N C C' S S' js bs J.p y := by
      intro C' h1 h2 h3 h4 h5 h6 h7 x hx
      have := bad C' 0 rfl (by rw [hB, h1]; rfl) (hBG.1.1.trans h2) h3 h4 h5 h6 h7 x hx
      rw [hB] at this
      exact this
    have hr0 : B.r 1 0 0 = some 0 := by rw [hBG.1.2.2.2.2.1]; exact hC.2.2.2.1.1
    by_cases hv : vS (atI bs J.p) = true
    · rw [hv]
      by_cases hd : (atI bs J.p = 123 ∨ atI bs J.p = 91) ∧ J.dp = 20
      · refine badB B ?_ QC.refl hBG.2.2.2.2.2.1 hBG.2.1 hr0 hBG.2.2.2.1.2.2.2 hBG.2.2.1.2.2.2.2.2.1 _ ?_
        · have ho : ∀ z : Int32, m_cRd_openInside N 0 B J.n z = some (B, 0) := by
            intro z
            unfold m_cRd_openInside m_cRd_openInside_J0
            rw [gl_ok (by omega), hBG.1.2.2.2.2.2.1, hC.2.2.2.2.2.1, if_pos (by rw [hd.2]; rfl)]
          unfold cDis
          rcases hd.1 with e | e
          · rw [e, if_neg (by decide), if_neg (by decide), if_neg (by decide), if_neg (by decide), if_neg (by decide), if_pos rfl, ho]
          · rw [e, if_neg (by decide), if_pos rfl, ho]
        · unfold m_rone_J68 m_rone_J97 m_rone_J106
          rw [if_neg (show ¬ b2 true = 0 by decide), hS.2.2.1, if_neg (show ¬ nI J.n = 500 from fun g => h500 ((nI_eq (a := J.n) (b := 500) (by omega) (by omega)).mp g)), hS.2.2.2.1, if_pos (show nI J.dp = 20 by rw [hd.2]; rfl)]
          rcases hd.1 with e | e
          · rw [if_pos e]
          · rw [e, if_neg (by decide), if_pos rfl]
      · obtain ⟨T, hT, hBS⟩ := s_beg (x1 := x1) (x2 := x2) hS hI hn hd
        have hJ : JVP N C B S T js bs J ka kl x1 x2 := ⟨⟨hC, hS, hI, hf, hk⟩, hn, hBG, hBS, ⟨hx2, hx1⟩, h69⟩
        rw [show m_rone_J68 S x1 x2 (atI bs J.p) (b2 true) = m_rone_J68 S x1 x2 (atI bs J.p) 1 from rfl, hT]
        have hword : ∀ (c : Int32) (so k : Nat), atI bs J.p = c → k < 3 → so ≤ 2 → sDis T J.n c = m_rone_J255 (T.setA 53 (upd (T.a 53) J.n (nI so))) k → cDis N B J.n c = m_cRd_readWord N 0 B J.n (nI so) (k + 3) → ∃ S' C' y, sDis T J.n (atI bs J.p) = some S' ∧ okR (cDis N B J.n (atI bs J.p)) = some (C', y) ∧ VAL N C C' S S' js bs J.p y := by
          intro c so k e h1 h2 h3 h4
          rw [e, h3, h4]
          exact v_word hJ h1 h2
        have hg : ∀ so k : Nat, m_rone_J226 T (atI bs J.p) (nI so) (nI J.n) = gd (nI J.n) 501 (if atI bs J.p = 110 then m_rone_J255 (T.setA 53 (upd (T.a 53) J.n (nI so))) 0 else if atI bs J.p = 102 then m_rone_J255 (T.setA 53 (upd (T.a 53) J.n (nI so))) 1 else m_rone_J255 (T.setA 53 (upd (T.a 53) J.n (nI so))) 2) := by
          intro so k
          unfold m_rone_J226
          rw [cl_nI (by omega)]
        by_cases e110 : atI bs J.p = 110
        · refine hword 110 0 0 e110 (by omega) (by omega) ?_ ?_
          · have := hg 0 0
            rw [e110] at this
            unfold sDis m_rone_J199
            rw [if_pos rfl, if_pos rfl]
            refine Eq.trans this ?_
            rw [gd_ok (by omega) (by omega), if_pos rfl]
          · unfold cDis
            rw [if_neg (by decide), if_neg (by decide), if_neg (by decide), if_pos rfl]; rfl
        · by_cases e102 : atI bs J.p = 102
          · refine hword 102 1 1 e102 (by omega) (by omega) ?_ ?_
            · have := hg 1 0
              rw [e102] at this
              unfold sDis m_rone_J199
              rw [if_neg (by decide), if_pos rfl, if_neg (by decide), if_pos rfl]
              refine Eq.trans this ?_
              rw [gd_ok (by omega) (by omega), if_neg (by decide), if_pos rfl]
            · unfold cDis
              rw [if_neg (by decide), if_neg (by decide), if_pos rfl]; rfl
          · by_cases e116 : atI bs J.p = 116
            · refine hword 116 2 2 e116 (by omega) (by omega) ?_ ?_
              · have := hg 2 0
                rw [e116] at this
                unfold sDis m_rone_J199
                rw [if_neg (by decide), if_neg (by decide), if_pos rfl, if_neg (by decide), if_neg (by decide)]
                refine Eq.trans this ?_
                rw [gd_ok (by omega) (by omega), if_neg (by decide), if_neg (by decide)]
              · unfold cDis
                rw [if_neg (by decide), if_neg (by decide), if_neg (by decide), if_neg (by decide), if_pos rfl]; rfl
            · by_cases e34 : atI bs J.p = 34
              · have h34 : bs[J.p]? = some 34 := by
                  have hlt := at_ge e34 (by decide)
                  have hs : bs[J.p]? = some bs[J.p] := List.getElem?_eq_getElem hlt
                  rw [at_some hs] at e34
                  rw [hs, (eI (c := 34) (bytLt hb hs) (by omega)).mp e34]
                have := v_str hJ h34
                rw [e34]
                unfold cDis
                rw [if_pos rfl]
                exact this
              · by_cases e123 : atI bs J.p = 123
                · have hlt := at_ge e123 (by decide)
                  have := v_open hJ (so := 6) (Or.inl ⟨rfl, rfl⟩) hlt (by have := hI.1.2.1; have : J.dp ≠ 20 := fun g => hd ⟨Or.inl e123, g⟩; omega)
                  rw [e123]
                  unfold cDis sDis
                  rw [if_neg (by decide), if_neg (by decide), if_neg (by decide), if_neg (by decide), if_pos rfl, if_neg (by decide), if_neg (by decide), if_neg (by decide), if_neg (by decide), if_neg (by decide), if_pos rfl]
                  exact this
                · by_cases e91 : atI bs J.p = 91
                  · have hlt := at_ge e91 (by decide)
                    have := v_open hJ (so := 7) (Or.inr ⟨rfl, rfl⟩) hlt (by have := hI.1.2.1; have : J.dp ≠ 20 := fun g => hd ⟨Or.inr e91, g⟩; omega)
                    rw [e91]
                    unfold cDis sDis
                    rw [if_neg (by decide), if_neg (by decide), if_neg (by decide), if_neg (by decide), if_neg (by decide), if_pos rfl, if_neg (by decide), if_pos rfl]
                    exact this
                  · unfold cDis sDis
                    rw [if_neg e110, if_neg e102, if_neg e116, if_neg e34, if_neg e123, if_neg e91, if_neg e34, if_neg e91, if_neg e102, if_neg e110, if_neg e116, if_neg e123]
                    exact v_num hJ
    · have hv' : vS (atI bs J.p) = false := by cases hh : vS (atI bs J.p) with
        | true => exact absurd hh hv
        | false => rfl
      rw [hv']
      have hne : ¬ (atI bs J.p = 110 ∨ atI bs J.p = 102 ∨ atI bs J.p = 116 ∨ atI bs J.p = 45 ∨ (¬ atI bs J.p < 48 ∧ atI bs J.p ≤ 57) ∨ atI bs J.p = 34 ∨ atI bs J.p = 123 ∨ atI bs J.p = 91) := of_decide_eq_false hv'
      have n45 : ¬ atI bs J.p = 45 := fun g => hne (Or.inr (Or.inr (Or.inr (Or.inl g))))
      have hnP : numP bs J.p = J.p := by unfold numP; rw [if_neg n45]
      have hnd : ¬ isD bs J.p = true := fun g => by
        have := (isD_at hb).mp g
        exact hne (Or.inr (Or.inr (Or.inr (Or.inr (Or.inl ⟨this.1, Int32.not_lt.mp this.2⟩)))))
      have hcn := c_num hBG.2.2.1 hn
      rw [hnP, if_neg hnd] at hcn
      refine badB ((B.setI 9 0 J.n 3).setI 1 4 0 (nI J.p)) ?_ (QV_i9.trans (QV_i1 (by omega))).1 ?_ hBG.2.1 hr0 hBG.2.2.2.1.2.2.2 ?_ _ ?_
      · unfold cDis
        rw [if_neg (fun g => hne (Or.inr (Or.inr (Or.inr (Or.inr (Or.inr (Or.inl g)))))))  , if_neg (fun g => hne (Or.inr (Or.inr (Or.inr (Or.inr (Or.inr (Or.inr (Or.inr g)))))))), if_neg (fun g => hne (Or.inr (Or.inl g))), if_neg (fun g => hne (Or.inl g)), if_neg (fun g => hne (Or.inr (Or.inr (Or.inl g)))), if_neg (fun g => hne (Or.inr (Or.inr (Or.inr (Or.inr (Or.inr (Or.inr (Or.inl g)))))))), hcn]
      · rw [CS.i_setI, if_neg (by omega), CS.i_setI, if_neg (by omega)]; exact hBG.2.2.2.2.2.1
      · rw [CS.i_setI, if_pos ⟨rfl, rfl, rfl⟩]
      · unfold m_rone_J68 m_rone_J106
        rw [if_pos (show b2 false = 0 from rfl)]
end JSM
