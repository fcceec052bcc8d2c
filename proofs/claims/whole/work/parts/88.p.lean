/-! JSON: steps inside. -/
section JSP
variable {S S' T : MS} {N : Nat → Nat} {C C' B : CS} {J : JS} {p js k kl t q : Nat} {bs d0 y : List Nat}
/-- a member or an element -/
theorem j117 (hC : CR N C js bs J) (hS : SR S bs J) (hI : JI bs J 0) (hsk : skp bs J.p = J.p) (htp : J.tp = some t) {x1 : Int32} (hx : x1 = (if J.so t = 6 then 1 else 0)) :
    ∃ S' D z C' y, m_rjson_J117 S x1 = some (.inl S') ∧ m_cRd_readInside_J112 N 0 C = some (D, z) ∧ ((z = 0 ∧ y = 0 ∧ C' = D) ∨ (z = 1 ∧ D.i 1 7 0 = 1 ∧ m_cRd_readValue N 0 D = some (C', y))) ∧ VAL N C C' S S' js bs J.p y := by
  have hN := hC.2.1.1
  have h1i := hI.1
  obtain ⟨hd0, ht⟩ := tp_some htp
  have htn := hI.2.1 (J.dp - 1) (by omega)
  rw [← ht] at htn
  have hCf := hC.fill hI hd0
  rw [← ht] at hCf
  have hS2 : SR (S.setI 69 2) bs (J.go J.p J.d) := hS.st (x := 2)
  have hJf : JI bs (J.go J.p J.d) 0 := hI.go (y := []) (Nat.le_refl _) (by omega) (by simp) (by omega)
  have hself : (S.setI 69 2).setI 66 (nI J.p) = S.setI 69 2 := by
    have : (S.setI 69 2).i 66 = nI J.p := hS2.1.2.2.2.1
    rw [← this, MS.setI_self]
  have h0 : m_rskip (S.setI 69 2) = some (S.setI 69 2) := by
    rw [s_skip hS2.1, show (J.go J.p J.d).p = J.p from rfl, hsk, hself]
  have h69 : (S.setI 69 2).i 69 = 2 := by rw [MS.i_setI, if_pos rfl]
  have hQf : QC C ((C.setI 9 7 t 1).setI 1 7 0 1) := QC_i9.trans QC_i1
  have hQS : QR S (S.setI 69 2) := QR_i (by omega) (by omega)
  have h17 : ((C.setI 9 7 t 1).setI 1 7 0 1).i 1 7 0 = 1 := by rw [CS.i_setI, if_pos ⟨rfl, rfl, rfl⟩]
  have hso : C.i 9 0 t = nI (J.so t) := (hC.2.2.2.2.2.2.2.2 t htn.1).1
  have h16 : C.r 1 6 0 = some t := by rw [hC.2.2.2.2.2.2.1, htp]
  unfold m_rjson_J117 m_rjson_J218 m_cRd_readInside_J112 m_cRd_readInside_J144 m_cRd_readInside_J149
  rw [gl_ok (by omega), h16, gn_s (by omega), hso]
  generalize hD : (C.setI 9 7 t 1).setI 1 7 0 1 = D at *
  by_cases c6 : J.so t = 6
  · rw [if_pos c6] at hx
    rw [hx, if_neg (show ¬ (1 : Int32) = 0 by decide), if_pos (show nI (J.so t) = 6 by rw [c6]; rfl)]
    obtain ⟨S', m1, m2⟩ := jm (t := t) hCf h0 hS2 hJf rfl htp c6 h69
    rw [m1, ob_ok]
    rcases m2 with ⟨C', m3, m4⟩ | ⟨C1, C', y, m3, m4, m5, m6⟩
    · refine ⟨S', C', 0, C', 0, rfl, ?_, Or.inl ⟨rfl, rfl, rfl⟩, m4.mono hQf hQS (Nat.le_refl _)⟩
      rw [m3, ob_ok]
      rfl
    · refine ⟨S', C1, 1, C', y, rfl, ?_, Or.inr ⟨rfl, by rw [m4]; exact h17, m5⟩, m6.mono hQf hQS (Nat.le_refl _)⟩
      rw [m3, ob_ok]
      rfl
  · rw [if_neg c6] at hx
    have hne : ¬ nI (J.so t) = 6 := fun g => c6 ((nI_eq (a := J.so t) (b := 6) (by omega) (by omega)).mp g)
    rw [hx, if_pos rfl, if_neg hne]
    have hKOK : KOK (J.go J.p J.d) 0 0 := by
      refine ⟨fun w hw => ?_, fun _ => rfl, fun g => by omega, ?_⟩
      · have : some t = some w := by rw [← htp]; exact hw
        obtain rfl := Option.some.inj this
        exact ⟨fun g => absurd g c6, fun g => by omega⟩
      · constructor
        · intro g
          have : (none : Option Nat) = some t := by rw [← htp]; exact g.symm
          cases this
        · intro g
          have g : J.n = 0 := g
          omega
    obtain ⟨S', C', y, v1, v2, v3⟩ := jv (ka := 0) (kl := 0) (x1 := 0) (x2 := 0) hCf h0 hS2 hJf rfl hKOK (fun g => by omega) rfl (fun g => by omega) h69
    rw [v1, ob_ok]
    exact ⟨S', D, 1, C', y, rfl, rfl, Or.inr ⟨rfl, h17, v2⟩, v3.mono hQf hQS (Nat.le_refl _)⟩
/-- BOTH GO A STEP ALIKE -/
theorem jstep (hC : CR N C js bs J) (hS : SR S bs J) (hI : JI bs J 0) (hd : 0 < J.dp) (h17 : C.i 1 7 0 = 0) (h69 : S.i 69 = (if J.fr = true then 1 else 2)) (hn : 0 < J.n) {i : Nat} (hi : i ≤ 8192) :
    ∃ C' S' y, m_cRd_parse_B53 N 0 C 1 (nI i) = some (.inl (C', y, nI (i + 1))) ∧ (y = 0 ∨ y = 1) ∧ (m_rjson_B36 S = some (.inl S') ∨ ∃ S1, m_rjson_B36 S = some (.inl S1) ∧ m_rjson_B36 S1 = some (.inl S')) ∧ VAL N C C' S S' js bs J.p y := by
  have hb := hC.2.1.b
  have hN := hC.2.1.1
  have hjs := hC.2.1.2.2.1.1
  have h1i := hI.1
  have htp : J.tp = some (J.st (J.dp - 1)) := by unfold JS.tp; rw [if_neg (by omega)]
  have htn := hI.2.1 (J.dp - 1) (by omega)
  have hsoS := (hS.2.2.2.2.2.2 _ htn.1).1
  have hsoC := (hC.2.2.2.2.2.2.2.2 _ htn.1).1
  have h16 : C.r 1 6 0 = some (J.st (J.dp - 1)) := by rw [hC.2.2.2.2.2.2.1, htp]
  have h97 := hC.2.2.2.2.2.2.2.1 (J.dp - 1) (by omega)
  rw [show J.dp - 1 + 1 = J.dp by omega] at h97
  have hskA := skp_le (bs := bs) (p := J.p) h1i.2.2.2.1
  generalize hcl : (if J.so (J.st (J.dp - 1)) = 6 then (125 : Int32) else 93) = cl
  generalize hx1 : (if J.so (J.st (J.dp - 1)) = 6 then (1 : Int32) else 0) = x1
  generalize ht : J.st (J.dp - 1) = t at *
  -- the reference's step
  have hB36 : ∀ T, SR T bs J → m_rjson_B36 T = m_rjson_J88 T x1 cl := by
    intro T hT
    have hso := (hT.2.2.2.2.2.2 _ htn.1).1
    unfold m_rjson_B36 m_rjson_J76
    rw [if_pos hT.2.2.2.2.1, hT.2.2.2.1, if_neg (show ¬ nI J.dp ≤ 0 from nle (i := 0) hd (by omega)), show nI J.dp - 1 = nI (J.dp - 1) from sub_nI (k := 1) (by omega), gd_ok (by omega) (by omega), cl_nI (by omega), hT.2.2.2.2.2.1 _ (by omega), ht, gd_ok (by omega) (by omega), cl_nI (by omega), hso]
    by_cases c6 : J.so t = 6
    · rw [if_pos (show nI (J.so t) = 6 by rw [c6]; rfl), if_neg (show ¬ (1 : Int32) = 0 by decide), ← hx1, ← hcl, if_pos c6, if_pos c6]
    · rw [if_neg (show ¬ nI (J.so t) = 6 from fun g => c6 ((nI_eq (a := J.so t) (b := 6) (by omega) (by omega)).mp g)), if_pos rfl, ← hx1, ← hcl, if_neg c6, if_neg c6]
  have hB36b : ∀ (T : MS) (K : JS), SR T bs K → K.dp = J.dp → K.st = J.st → K.F = J.F → K.n = J.n → m_rjson_B36 T = m_rjson_J88 T x1 cl := by
    intro T K hT e1 e2 e3 e4
    have hso := (hT.2.2.2.2.2.2 t (by rw [e4]; exact htn.1)).1
    rw [show K.so t = J.so t by unfold JS.so; rw [e3]] at hso
    have h63 := hT.2.2.2.2.2.1 (J.dp - 1) (by rw [e1]; omega)
    rw [e2, ht] at h63
    unfold m_rjson_B36 m_rjson_J76
    rw [if_pos hT.2.2.2.2.1, hT.2.2.2.1, e1, if_neg (show ¬ nI J.dp ≤ 0 from nle (i := 0) hd (by omega)), show nI J.dp - 1 = nI (J.dp - 1) from sub_nI (k := 1) (by omega), gd_ok (by omega) (by omega), cl_nI (by omega), h63, gd_ok (by omega) (by omega), cl_nI (by omega), hso]
    by_cases c6 : J.so t = 6
    · rw [if_pos (show nI (J.so t) = 6 by rw [c6]; rfl), if_neg (show ¬ (1 : Int32) = 0 by decide), ← hx1, ← hcl, if_pos c6, if_pos c6]
    · rw [if_neg (show ¬ nI (J.so t) = 6 from fun g => c6 ((nI_eq (a := J.so t) (b := 6) (by omega) (by omega)).mp g)), if_pos rfl, ← hx1, ← hcl, if_neg c6, if_neg c6]
  have hcl44 : cl ≠ 44 := by rw [← hcl]; split <;> decide
  -- the class's
  have hC1 := hC.mv hskA.1
  have hS1 := hS.mv hskA.1
  have hI1 := hI.mv hskA.2 hskA.1
  have hIn : m_cRd_readInside N 0 C = m_cRd_readInside_J34 N 0 (C.setI 1 4 0 (nI (skp bs J.p))) cl (atI bs (skp bs J.p)) := by
    have hat := hC1.2.1.at
    rw [show (J.mv (skp bs J.p)).p = skp bs J.p from rfl] at hat
    unfold m_cRd_readInside m_cRd_readInside_J0
    rw [gl_ok (by omega), c_skip hC.2.1, ob_ok, hC1.2.1.2.1.1, gn_s (by omega), hat, ob_ok]
    simp only []
    rw [show (C.setI 1 4 0 (nI (skp bs J.p))).r 1 6 0 = some t from h16, gn_s (by omega), show (C.setI 1 4 0 (nI (skp bs J.p))).i 9 0 t = nI (J.so t) from by rw [CS.i_setI, if_neg (by omega)]; exact hsoC]
    by_cases c6 : J.so t = 6
    · rw [if_pos (show nI (J.so t) = 6 by rw [c6]; rfl), ← hcl, if_pos c6]
    · rw [if_neg (show ¬ nI (J.so t) = 6 from fun g => c6 ((nI_eq (a := J.so t) (b := 6) (by omega) (by omega)).mp g)), ← hcl, if_neg c6]
  have hpar : m_cRd_parse_B53 N 0 C 1 (nI i) = ob (m_cRd_readInside N 0 C) (fun o_5 => (if o_5.2 = 0 then m_cRd_parse_J96 N 0 o_5.1 (nI i) else (if o_5.1.i 1 7 0 = 0 then m_cRd_parse_J92 N 0 o_5.1 (nI i) else ob (m_cRd_readValue N 0 o_5.1) (fun o_9 => (if o_9.2 = 0 then m_cRd_parse_J96 N 0 o_9.1 (nI i) else m_cRd_parse_J92 N 0 o_9.1 (nI i)))))) := by
    unfold m_cRd_parse_B53
    rw [if_neg (show ¬ (8192 : Int32) < nI i from fun g => by have := (nI_ltI (a := 8192) (b := i) (by omega) (by omega)).mp g; omega), if_neg (show ¬ (1 : Int32) = 0 by decide), gl_ok (by omega), h16, onSome]
  unfold m_cRd_parse_J96 m_cRd_parse_J92 m_cRd_parse_J97 at hpar
  rw [nI_s] at hpar
  have hsk1 := s_skip hS.1
  have hsg := hS1.1.sign
  rw [show (J.mv (skp bs J.p)).p = skp bs J.p from rfl] at hsg
  have hqq : skp bs (skp bs J.p) = skp bs J.p := skp_skp
  have h691 : (S.setI 66 (nI (skp bs J.p))).i 69 = (if J.fr = true then 1 else 2) := h69
  generalize hq1 : skp bs J.p = q1 at *
  generalize hc : atI bs q1 = c at *
  have hQC1 : QC C (C.setI 1 4 0 (nI q1)) := QC_i1
  have hQR1 : QR S (S.setI 66 (nI q1)) := QR_i (by omega) (by omega)
  -- a member follows
  have memb : ∀ (D : CS) (T T0 : MS) (K : JS), CR N D js bs K → SR T bs K → JI bs K 0 → skp bs K.p = K.p → K.tp = some t → K.so t = J.so t → QC C D → QR S T → J.p ≤ K.p → m_cRd_readInside N 0 C = m_cRd_readInside_J112 N 0 D → ∃ C' S' y, m_cRd_parse_B53 N 0 C 1 (nI i) = some (.inl (C', y, nI (i + 1))) ∧ (y = 0 ∨ y = 1) ∧ m_rjson_J117 T x1 = some (.inl S') ∧ VAL N C C' S S' js bs J.p y := by
    intro D T T0 K g1 g2 g3 g4 g5 g6 g7 g8 g9 g10
    obtain ⟨S', E, z, C', y, e1, e2, e3, e4⟩ := j117 g1 g2 g3 g4 g5 (x1 := x1) (by rw [g6]; exact hx1.symm)
    have e5 := e4.mono g7 g8 g9
    rw [hpar, g10, e2, ob_ok]
    simp only []
    rcases e3 with ⟨z0, y0, c0⟩ | ⟨z1, h7, hv⟩
    · refine ⟨C', S', y, ?_, Or.inl y0, e1, e5⟩
      rw [z0, if_pos rfl, y0, c0]
    · have hy : y = 0 ∨ y = 1 := by
        rcases e4.2.2.2.2.2.2 with h | ⟨_, q, _, _, _, h | h⟩
        · exact Or.inr h.1
        · exact Or.inl h
        · exact Or.inr h.1
      refine ⟨C', S', y, ?_, hy, e1, e5⟩
      rw [z1, if_neg (show ¬ (1 : Int32) = 0 by decide), h7, if_neg (show ¬ (1 : Int32) = 0 by decide), hv, ob_ok]
      simp only []
      rcases hy with hy | hy
      · rw [hy, if_pos rfl]
      · rw [hy, if_neg (show ¬ (1 : Int32) = 0 by decide)]
  by_cases ccl : c = cl
  · -- it closes
    have hlt : q1 < bs.length := at_ge (hc.trans ccl) (by rw [← hcl]; split <;> decide)
    have hC2 := hC1.cls hI1 hd hlt
    have hS2 := hS1.cls hlt
    have hI2 := hI1.cls hlt
    have hJ109 : m_rjson_J109 (S.setI 66 (nI q1)) x1 cl = some (.inl ((((S.setI 66 (nI q1)).setI 66 (nI (q1 + 1))).setI 67 (nI (J.dp - 1))).setI 69 2)) := by
      unfold m_rjson_J109 m_rjson_J218
      rw [if_neg (by rw [h691]; split <;> decide), hsg, ob_ok]
      simp only []
      rw [if_pos ccl, hS1.1.next, show (S.setI 66 (nI q1)).i 67 = nI J.dp from hS.2.2.2.1, show nI J.dp - 1 = nI (J.dp - 1) from sub_nI (k := 1) (by omega)]
      rfl
    have hrs : m_rjson_B36 S = some (.inl ((((S.setI 66 (nI q1)).setI 66 (nI (q1 + 1))).setI 67 (nI (J.dp - 1))).setI 69 2)) := by
      rw [hB36 S hS]
      unfold m_rjson_J88
      rw [hsk1, ob_ok]
      by_cases cf : J.fr = true
      · rw [if_pos (by rw [h691, if_pos cf]), hsg, ob_ok]
        simp only []
        rw [if_pos ccl, hJ109]
      · rw [if_neg (by rw [h691, if_neg cf]; decide), hJ109]
    have hcs : m_cRd_readInside N 0 C = some ((((C.setI 1 4 0 (nI q1)).setI 1 4 0 (nI (q1 + 1))).setI 1 5 0 (nI (J.dp - 1))).setR 1 6 0 ((C.setI 1 4 0 (nI q1)).r 9 2 t), 1) := by
      rw [hIn]
      unfold m_cRd_readInside_J34
      rw [if_pos ccl, gl_ok (by omega), show (C.setI 1 4 0 (nI q1)).r 1 6 0 = some t from h16, gn_s (by omega), hC1.2.1.next, show (C.setI 1 4 0 (nI q1)).i 1 5 0 = nI J.dp from by rw [CS.i_setI, if_neg (by omega)]; exact hC.2.2.2.2.2.1, show nI J.dp - 1 = nI (J.dp - 1) from sub_nI (k := 1) (by omega)]
      rfl
    have h17' : ((((C.setI 1 4 0 (nI q1)).setI 1 4 0 (nI (q1 + 1))).setI 1 5 0 (nI (J.dp - 1))).setR 1 6 0 ((C.setI 1 4 0 (nI q1)).r 9 2 t)).i 1 7 0 = 0 := by
      rw [CS.i_setR, CS.i_setI, if_neg (by omega), CS.i_setI, if_neg (by omega), CS.i_setI, if_neg (by omega)]; exact h17
    rw [show (J.mv q1).st ((J.mv q1).dp - 1) = t from ht] at hC2
    refine ⟨_, _, 1, ?_, Or.inr rfl, Or.inl hrs, ?_, ?_, fun _ => h17', hC2.1, hC2.2.2.2.1.1, hC2.2.2.1.2.2.2, Or.inl ⟨rfl, _, hC2, hS2, hI2, ?_, rfl, hn⟩⟩
    · rw [hpar, hcs, ob_ok]
      simp only []
      rw [if_neg (show ¬ (1 : Int32) = 0 by decide), if_pos h17']
    · refine hQC1.trans ((QC_i1.trans QC_i1).trans ⟨fun _ _ _ _ _ _ => rfl, fun _ _ _ _ => rfl, ?_, fun _ _ _ _ => rfl, rfl, rfl⟩)
      intro k f j g1 g2
      rw [CS.r_setR, if_neg (fun g => g1 g.1)]
    · exact ((hQR1.trans (QR_i (by omega) (by omega))).trans (QR_i (by omega) (by omega))).trans (QR_i (by omega) (by omega))
    · show J.p < q1 + 1
      omega
  · by_cases cf : J.fr = true
    · -- the first
      have hin : m_cRd_readInside N 0 C = m_cRd_readInside_J112 N 0 (C.setI 1 4 0 (nI q1)) := by
        rw [hIn]
        unfold m_cRd_readInside_J34
        rw [if_neg ccl, gl_ok (by omega), show (C.setI 1 4 0 (nI q1)).r 1 6 0 = some t from h16, gn_s (by omega), if_pos]
        rw [CS.i_setI, if_neg (by omega), h97, if_pos ⟨rfl, cf⟩]
      obtain ⟨C', S', y, e1, e2, e3, e4⟩ := memb _ _ S _ hC1 hS1 hI1 hqq htp rfl hQC1 hQR1 hskA.2 hin
      refine ⟨C', S', y, e1, e2, Or.inl ?_, e4⟩
      rw [hB36 S hS]
      unfold m_rjson_J88
      rw [hsk1, ob_ok, if_pos (by rw [h691, if_pos cf]), hsg, ob_ok]
      simp only []
      rw [if_neg ccl, e3]
    · have h2 : (S.setI 66 (nI q1)).i 69 = 2 := by rw [h691, if_neg cf]
      have hJ88 : m_rjson_B36 S = (if c = 44 then some (.inl ((S.setI 66 (nI (q1 + 1))).setI 69 3)) else some (.inl ((S.setI 66 (nI q1)).setI 68 1))) := by
        rw [hB36 S hS]
        unfold m_rjson_J88 m_rjson_J109 m_rjson_J213 m_rjson_J218
        rw [hsk1, ob_ok, if_neg (by rw [h2]; decide), if_neg (by rw [h2]; decide), hsg, ob_ok]
        simp only []
        rw [if_neg ccl, hsg, ob_ok]
        simp only []
        rw [if_pos h2, hS1.1.next, MS.setI_setI]
        rfl
      have hin : m_cRd_readInside N 0 C = (if c = 44 then ob (m_cRd_skipBlanks N 0 (C.setI 1 4 0 (nI (q1 + 1)))) (fun o_12 => m_cRd_readInside_J112 N 0 o_12) else some (C.setI 1 4 0 (nI q1), 0)) := by
        rw [hIn]
        unfold m_cRd_readInside_J34
        rw [if_neg ccl, gl_ok (by omega), show (C.setI 1 4 0 (nI q1)).r 1 6 0 = some t from h16, gn_s (by omega), if_neg]
        · rw [hC1.2.1.2.1.1, gn_s (by omega)]
          have hat := hC1.2.1.at
          rw [show (J.mv q1).p = q1 from rfl, hc] at hat
          rw [hat, ob_ok]
          simp only []
          rw [hC1.2.1.next, set_at]
          rfl
        · rw [CS.i_setI, if_neg (by omega), h97, if_neg (fun g => cf g.2)]
          decide
      by_cases c44 : c = 44
      · have hlt : q1 < bs.length := at_ge (hc.trans c44) (by decide)
        rw [if_pos c44] at hJ88 hin
        have hskB := skp_le (bs := bs) (p := q1 + 1) hlt
        have hC2 := hC.mv (q := q1 + 1) hlt
        have hcs := c_skip hC2.2.1
        rw [show (J.mv (q1 + 1)).p = q1 + 1 from rfl, set_at] at hcs
        rw [hcs, ob_ok] at hin
        have hS2 : SR ((S.setI 66 (nI (q1 + 1))).setI 69 3) bs (J.mv (q1 + 1)) := (hS.mv (q := q1 + 1) hlt).st
        have hss := s_skip hS2.1
        rw [show (J.mv (q1 + 1)).p = q1 + 1 from rfl] at hss
        have hC3 := hC.mv hskB.1
        have hS3 : SR (((S.setI 66 (nI (q1 + 1))).setI 69 3).setI 66 (nI (skp bs (q1 + 1)))) bs ((J.mv (q1 + 1)).mv (skp bs (q1 + 1))) := hS2.mv hskB.1
        have hI3 := hI.mv (q := skp bs (q1 + 1)) (by omega) hskB.1
        obtain ⟨C', S', y, e1, e2, e3, e4⟩ := memb _ (((S.setI 66 (nI (q1 + 1))).setI 69 3).setI 66 (nI (skp bs (q1 + 1)))) S (J.mv (skp bs (q1 + 1))) hC3 hS3 hI3 skp_skp htp rfl QC_i1 (((QR_i (by omega) (by omega)).trans (QR_i (by omega) (by omega))).trans (QR_i (by omega) (by omega))) (by show J.p ≤ skp bs (q1 + 1); omega) hin
        refine ⟨C', S', y, e1, e2, Or.inr ⟨_, hJ88, ?_⟩, e4⟩
        rw [hB36b _ _ hS2 rfl rfl rfl rfl]
        unfold m_rjson_J88 m_rjson_J109
        rw [hss, ob_ok, if_neg (show ¬ (((S.setI 66 (nI (q1 + 1))).setI 69 3).setI 66 (nI (skp bs (q1 + 1)))).i 69 = 1 by rw [MS.i_setI, if_neg (by decide), MS.i_setI, if_pos rfl]; decide), if_pos (show (((S.setI 66 (nI (q1 + 1))).setI 69 3).setI 66 (nI (skp bs (q1 + 1)))).i 69 = 3 by rw [MS.i_setI, if_neg (by decide), MS.i_setI, if_pos rfl]), e3]
      · rw [if_neg c44] at hJ88 hin
        refine ⟨_, _, 0, ?_, Or.inl rfl, Or.inl hJ88, VAL.bad (q := q1) hQC1 (hQR1.trans (QR_i (by omega) (by omega))) hC1.1 hC1.2.2.2.1.1 hC1.2.2.1.2.2.2 (by rw [MS.i_setI, if_pos rfl]) hskA.1 (by rw [MS.i_setI, if_neg (by decide), MS.i_setI, if_pos rfl]) (by rw [CS.i_setI, if_pos ⟨rfl, rfl, rfl⟩])⟩
        rw [hpar, hin, ob_ok]
        rfl
end JSP
