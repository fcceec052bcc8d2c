/-! JSON: a value begins. -/
/-- the class's value n has begun -/
def BG (N : Nat → Nat) (C B : CS) (js : Nat) (bs : List Nat) (J : JS) (ka kl : Nat) : Prop := QV J.n C B ∧ WF N B ∧ CT N B js bs J.p ∧ CD B J.d ∧ B.i 1 3 0 = nI (J.n + 1) ∧ B.i 1 7 0 = 0 ∧ B.l 9 1 J.n = 0 ∧ B.r 9 2 J.n = J.tp ∧ (0 < kl → B.i 9 3 J.n = nI ka ∧ B.i 9 4 J.n = nI kl) ∧ B.i 9 7 J.n = 0 ∧ B.r 9 8 J.n = none ∧ B.r 9 9 J.n = none
def cDis (N : Nat → Nat) (B : CS) (n : Nat) (c : Int32) : Option (CS × Int32) := (if c = 34 then m_cRd_readStringValue N 0 B n else if c = 91 then m_cRd_openInside N 0 B n 7 else if c = 102 then m_cRd_readWord N 0 B n 1 4 else if c = 110 then m_cRd_readWord N 0 B n 0 3 else if c = 116 then m_cRd_readWord N 0 B n 2 5 else if c = 123 then m_cRd_openInside N 0 B n 6 else m_cRd_readNumber N 0 B n)
def okR (o : Option (CS × Int32)) : Option (CS × Int32) := ob o (fun o => if o.2 = 0 ∨ o.2 = 1 then some (o.1, o.2) else none)
section JSK
variable {S S' T : MS} {N : Nat → Nat} {C C' B : CS} {J : JS} {p js k ka kl : Nat} {bs d : List Nat}
theorem CT.i9 (h : CT N C js bs p) {f j : Nat} {x : Int32} : CT N (C.setI 9 f j x) js bs p := by
  obtain ⟨h1, h2, h3, h4, h5, h6, h7⟩ := h
  exact ⟨h1, h2, ⟨h3.1, h3.2.1, by rw [CS.i_setI, if_neg (by omega)]; exact h3.2.2.1, h3.2.2.2⟩, h4, h5, by rw [CS.i_setI, if_neg (by omega)]; exact h6, h7⟩
theorem CD.i9 (h : CD C d) {f j : Nat} {x : Int32} : CD (C.setI 9 f j x) d := by
  obtain ⟨h1, h2, h3, h4⟩ := h
  exact ⟨⟨h1.1, h1.2.1, by rw [CS.i_setI, if_neg (by omega)]; exact h1.2.2.1, h1.2.2.2⟩, h2, h3, h4⟩
theorem CT.i1 (h : CT N C js bs p) {f : Nat} {x : Int32} (hf : f ≠ 4) : CT N (C.setI 1 f 0 x) js bs p := by
  obtain ⟨h1, h2, h3, h4, h5, h6, h7⟩ := h
  exact ⟨h1, h2, ⟨h3.1, h3.2.1, by rw [CS.i_setI, if_neg (by omega)]; exact h3.2.2.1, h3.2.2.2⟩, h4, h5, by rw [CS.i_setI, if_neg (by omega)]; exact h6, h7⟩
theorem CD.i1 (h : CD C d) {f : Nat} {x : Int32} : CD (C.setI 1 f 0 x) d := by
  obtain ⟨h1, h2, h3, h4⟩ := h
  exact ⟨⟨h1.1, h1.2.1, by rw [CS.i_setI, if_neg (by omega)]; exact h1.2.2.1, h1.2.2.2⟩, h2, h3, h4⟩
theorem CT.l9 (h : CT N C js bs p) {f j : Nat} {x : Int64} : CT N (C.setL 9 f j x) js bs p := h
theorem CD.l9 (h : CD C d) {f j : Nat} {x : Int64} : CD (C.setL 9 f j x) d := h
theorem CT.r9 (h : CT N C js bs p) {f j : Nat} {x : Option Nat} : CT N (C.setR 9 f j x) js bs p := by
  obtain ⟨h1, h2, h3, h4, h5, h6, h7⟩ := h
  exact ⟨h1, ⟨by rw [CS.r_setR, if_neg (by omega)]; exact h2.1, h2.2⟩, ⟨h3.1, by rw [CS.r_setR, if_neg (by omega)]; exact h3.2.1, h3.2.2⟩, h4, h5, h6, h7⟩
theorem CD.r9 (h : CD C d) {f j : Nat} {x : Option Nat} : CD (C.setR 9 f j x) d := by
  obtain ⟨h1, h2, h3, h4⟩ := h
  exact ⟨⟨h1.1, by rw [CS.r_setR, if_neg (by omega)]; exact h1.2.1, h1.2.2⟩, h2, h3, by rw [CS.r_setR, if_neg (by omega)]; exact h4⟩
theorem c_beg (h : CR N C js bs J) (hI : JI bs J kl) (hn : J.n < 500) (hkC : 0 < kl → C.i 1 8 0 = nI ka ∧ C.i 1 9 0 = nI kl) : ∃ B, m_cRd_readValue N 0 C = okR (cDis N B J.n (atI bs J.p)) ∧ BG N C B js bs J ka kl := by
  obtain ⟨a1, a2, a3, ⟨a4, a5, a6⟩, a7, a8, a9, a10, a11⟩ := h
  have hN := a2.1
  have htp : ∀ y, J.tp = some y → y < 500 := by
    intro y hy
    obtain ⟨c1, c2⟩ := tp_some hy
    have := (hI.2.1 (J.dp - 1) (by omega)).1
    omega
  have e3 : ((cFT.getD 9 [])[2]? : Option Nat) = some (9 + 2) := by decide
  have w0 : WF N (C.setI 1 7 0 0) := a1
  generalize hC0 : C.setI 1 7 0 0 = C0 at *
  have hT0 : CT N C0 js bs J.p := by rw [← hC0]; exact a2.i1 (by omega)
  have hD0 : CD C0 J.d := by rw [← hC0]; exact a3.i1
  have hQ0 : QV J.n C C0 := by rw [← hC0]; exact QV_i1 (by omega)
  have h13 : C0.i 1 3 0 = nI J.n := by rw [← hC0, CS.i_setI, if_neg (by omega)]; exact a7
  have h17 : C0.i 1 7 0 = 0 := by rw [← hC0, CS.i_setI, if_pos ⟨rfl, rfl, rfl⟩]
  have wB : WF N (((((((((C0.setR 9 2 J.n J.tp).setI 9 3 J.n (C.i 1 8 0)).setI 9 4 J.n (C.i 1 9 0)).setL 9 1 J.n 0).setI 9 5 J.n 0).setI 9 6 J.n 0).setI 9 7 J.n 0).setR 9 8 J.n none).setR 9 9 J.n none) := by
    refine WF_setR (WF_setR (show WF N (C0.setR 9 2 J.n J.tp) from WF_setR w0 ?_) (fun t y _ hy => by cases hy)) (fun t y _ hy => by cases hy)
    intro t y ht hy
    rw [e3] at ht
    have := Option.some.inj ht
    obtain rfl : t = 9 := by omega
    have := htp y hy
    omega
  refine ⟨(((((((((C0.setR 9 2 J.n J.tp).setI 9 3 J.n (C.i 1 8 0)).setI 9 4 J.n (C.i 1 9 0)).setL 9 1 J.n 0).setI 9 5 J.n 0).setI 9 6 J.n 0).setI 9 7 J.n 0).setR 9 8 J.n none).setR 9 9 J.n none).setI 1 3 0 (nI (J.n + 1)), ?_, ?_, wB, ?_, ?_, ?_, ?_, ?_, ?_, ?_, ?_, ?_, ?_⟩
  · unfold m_cRd_readValue m_cRd_readValue_J0 m_cVa_begin m_cVa_begin_J0
    rw [gl_ok (by omega), a7, if_neg (fun g => by have := (nI_eq (a := J.n) (b := 500) (by omega) (by omega)).mp g; omega), a4, gn_s (by omega), a5, gd_ok hn (by omega), cl_nI (by omega), a6 _ hn, gn_s (by omega), gl_ok (by omega), ob_ok, hC0, a9]
    generalize hD : ((((((((C0.setR 9 2 J.n J.tp).setI 9 3 J.n (C.i 1 8 0)).setI 9 4 J.n (C.i 1 9 0)).setL 9 1 J.n 0).setI 9 5 J.n 0).setI 9 6 J.n 0).setI 9 7 J.n 0).setR 9 8 J.n none).setR 9 9 J.n none = D
    have hTD : CT N D js bs J.p := by rw [← hD]; exact ((((((hT0.r9).i9).i9).l9).i9).i9).i9.r9.r9
    have hDi : D.i 1 3 0 = nI J.n := by
      rw [← hD]
      simp only [CS.i_setR, CS.i_setI, CS.i_setL, show ∀ a b : Nat, ¬ (1 = 9 ∧ a = b ∧ 0 = J.n) from fun a b g => by omega, if_false]
      exact h13
    have hT2 := hTD.i1 (f := 3) (x := nI (J.n + 1)) (by omega)
    have h4 : D.i 1 4 0 = (D.setI 1 3 0 (nI (J.n + 1))).i 1 4 0 := by rw [CS.i_setI, if_neg (by omega)]
    have hjs := hT2.2.2.1.1
    rw [hDi, nI_s, hTD.2.1.1, gn_s (by omega), h4, hT2.at, ob_ok]
    unfold cDis okR
    simp only []
    repeat' split
    all_goals rfl
  · refine hQ0.trans ?_
    refine QV.trans ?_ (QV_i1 (by omega))
    exact (((((((QV_r9.trans QV_i9).trans QV_i9).trans QV_l9).trans QV_i9).trans QV_i9).trans QV_i9).trans QV_r9).trans QV_r9
  · exact (((((((hT0.r9).i9).i9).l9).i9).i9).i9.r9.r9).i1 (by omega)
  · exact (((((((hD0.r9).i9).i9).l9).i9).i9).i9.r9.r9).i1
  · rw [CS.i_setI, if_pos ⟨rfl, rfl, rfl⟩]
  · rw [CS.i_setI, if_neg (by omega)]
    simp only [CS.i_setR, CS.i_setI, CS.i_setL, show ∀ a b : Nat, ¬ (1 = 9 ∧ a = b ∧ 0 = J.n) from fun a b g => by omega, if_false]
    exact h17
  · simp only [CS.l_setR, CS.l_setI, CS.l_setL, if_pos, true_and]
  · simp only [CS.r_setR, CS.r_setI, CS.r_setL, show ¬ (2 = 9) by decide, show ¬ (2 = 8) by decide, false_and, and_false, if_false, true_and, if_true, and_self]
  · intro hkl
    obtain ⟨k1, k2⟩ := hkC hkl
    simp only [CS.i_setR, CS.i_setI, CS.i_setL, k1, k2, Nat.reduceEqDiff, false_and, and_false, if_false, true_and, if_true, and_self]
  · simp only [CS.i_setR, CS.i_setI, CS.i_setL, Nat.reduceEqDiff, false_and, and_false, if_false, true_and, if_true, and_self]
  · simp only [CS.r_setR, CS.r_setI, CS.r_setL, Nat.reduceEqDiff, false_and, and_false, if_false, true_and, if_true, and_self]
  · simp only [CS.r_setR, CS.r_setI, CS.r_setL, Nat.reduceEqDiff, false_and, and_false, if_false, true_and, if_true, and_self]
/-! the reference -/
def vS (c : Int32) : Bool := decide (c = 110 ∨ c = 102 ∨ c = 116 ∨ c = 45 ∨ (¬ c < 48 ∧ c ≤ 57) ∨ c = 34 ∨ c = 123 ∨ c = 91)
theorem s_start {x1 x2 : Int32} {S0 : MS} (h0 : m_rskip S0 = some S) (h : ST S bs p) : m_rone S0 x1 x2 = m_rone_J68 S x1 x2 (atI bs p) (b2 (vS (atI bs p))) := by
  unfold m_rone m_rone_J0
  rw [h0, ob_ok, h.sign, ob_ok]
  simp only []
  unfold m_rone_J45 m_rone_J63 vS
  generalize atI bs p = c
  by_cases c1 : c = 110
  · rw [if_pos c1, decide_eq_true (Or.inl c1)]; rfl
  · rw [if_neg c1]
    by_cases c2 : c = 102
    · rw [if_pos c2, decide_eq_true (Or.inr (Or.inl c2))]; rfl
    · rw [if_neg c2]
      by_cases c3 : c = 116
      · rw [if_pos c3, decide_eq_true (Or.inr (Or.inr (Or.inl c3)))]; rfl
      · rw [if_neg c3]
        by_cases c4 : c = 45
        · rw [if_pos c4, decide_eq_true (Or.inr (Or.inr (Or.inr (Or.inl c4))))]; rfl
        · rw [if_neg c4]
          have hin : (if c = 34 then m_rone_J68 S x1 x2 c 1 else if c = 123 then m_rone_J68 S x1 x2 c 1 else if c = 91 then m_rone_J68 S x1 x2 c 1 else m_rone_J68 S x1 x2 c 0) = m_rone_J68 S x1 x2 c (b2 (decide (c = 34 ∨ c = 123 ∨ c = 91))) := by
            by_cases d1 : c = 34
            · rw [if_pos d1, decide_eq_true (Or.inl d1)]; rfl
            · rw [if_neg d1]
              by_cases d2 : c = 123
              · rw [if_pos d2, decide_eq_true (Or.inr (Or.inl d2))]; rfl
              · rw [if_neg d2]
                by_cases d3 : c = 91
                · rw [if_pos d3, decide_eq_true (Or.inr (Or.inr d3))]; rfl
                · rw [if_neg d3, decide_eq_false (by rintro (g | g | g); exact d1 g; exact d2 g; exact d3 g)]; rfl
          rw [hin]
          by_cases c5 : c < 48
          · rw [if_pos c5]
            congr 2
            rw [decide_eq_decide]
            constructor
            · exact fun g => Or.inr (Or.inr (Or.inr (Or.inr (Or.inr g))))
            · rintro (g | g | g | g | g | g)
              · exact absurd g c1
              · exact absurd g c2
              · exact absurd g c3
              · exact absurd g c4
              · exact absurd c5 g.1
              · exact g
          · rw [if_neg c5]
            by_cases c6 : c ≤ 57
            · rw [if_pos c6, decide_eq_true (Or.inr (Or.inr (Or.inr (Or.inr (Or.inl ⟨c5, c6⟩)))))]; rfl
            · rw [if_neg c6]
              congr 2
              rw [decide_eq_decide]
              constructor
              · exact fun g => Or.inr (Or.inr (Or.inr (Or.inr (Or.inr g))))
              · rintro (g | g | g | g | g | g)
                · exact absurd g c1
                · exact absurd g c2
                · exact absurd g c3
                · exact absurd g c4
                · exact absurd g.2 c6
                · exact g
/-- the reference's value n has begun -/
def BS (S T : MS) (bs : List Nat) (J : JS) (x1 x2 : Int32) : Prop := QW J.n S T ∧ ST T bs J.p ∧ SD T J.d ∧ T.i 64 = nI (J.n + 1) ∧ T.i 68 = 0 ∧ T.i 69 = S.i 69 ∧ T.a 54 J.n = cI J.tp ∧ T.a 55 J.n = x1 ∧ T.a 56 J.n = x2 ∧ T.n 61 J.n = 0
def sDis (T : MS) (n : Nat) (c : Int32) : Option MS := (if c = 110 then m_rone_J199 T c (nI n) else if c = 102 then m_rone_J199 T c (nI n) else if c = 116 then m_rone_J199 T c (nI n) else if c = 34 then gd (nI n) 501 (ob (m_rstring ((T.setI 66 (T.i 66 + 1)).setA 53 (upd (T.a 53) n 4)) 1024) (fun o => gd (nI n) 501 (gd (nI n) 501 (gd (nI n) 501 (if o.1.i 68 = 0 then m_rone_J415 (((o.1.setA 57 (upd (o.1.a 57) n o.2)).setA 58 (upd (o.1.a 58) n (o.1.i 65 - upd (o.1.a 57) n o.2 n))).setI 66 (o.1.i 66 + 1)) else m_rone_J415 ((o.1.setA 57 (upd (o.1.a 57) n o.2)).setA 58 (upd (o.1.a 58) n (o.1.i 65 - upd (o.1.a 57) n o.2 n)))))))) else if c = 123 then m_rone_J350 T c (nI n) else if c = 91 then m_rone_J350 T c (nI n) else ob (m_rdigits T (nI n)) (fun o => m_rone_J415 o))
theorem s_beg {x1 x2 : Int32} (h : SR S bs J) (hI : JI bs J k) (hn : J.n < 500) {c : Int32} (hd : ¬ ((c = 123 ∨ c = 91) ∧ J.dp = 20)) : ∃ T, m_rone_J68 S x1 x2 c 1 = sDis T J.n c ∧ BS S T bs J x1 x2 := by
  obtain ⟨a1, a2, a3, a4, a5, a6, a7⟩ := h
  obtain ⟨⟨b1, b2, b3, b4, b5⟩, b6, b7, b8, b9⟩ := hI
  have hJ : m_rone_J68 S x1 x2 c 1 = m_rone_J112 S x1 x2 c := by
    unfold m_rone_J68 m_rone_J97
    rw [if_neg (show ¬ (1 : Int32) = 0 by decide), a3, if_neg (fun g => by have := (nI_eq (a := J.n) (b := 500) (by omega) (by omega)).mp g; omega), a4]
    by_cases c1 : c = 123
    · rw [if_pos c1, if_neg (fun g => by have := (nI_eq (a := J.dp) (b := 20) (by omega) (by omega)).mp g; exact hd ⟨Or.inl c1, this⟩)]
    · rw [if_neg c1]
      by_cases c2 : c = 91
      · rw [if_pos c2, if_neg (fun g => by have := (nI_eq (a := J.dp) (b := 20) (by omega) (by omega)).mp g; exact hd ⟨Or.inr c2, this⟩)]
      · rw [if_neg c2]
  have hJ2 : m_rone_J112 S x1 x2 c = m_rone_J156 (S.setI 64 (nI (J.n + 1))) x1 x2 c (nI J.n) (cI J.tp) (nI J.n) := by
    unfold m_rone_J112 JS.tp
    rw [a3, a4, nI_s]
    by_cases c1 : J.dp = 0
    · rw [if_pos (by rw [c1]; rfl), if_pos c1]; rfl
    · rw [if_neg (show ¬ nI J.dp = 0 from fun g => c1 ((nI_eq (a := J.dp) (b := 0) (by omega) (by omega)).mp g)), if_neg c1, show nI J.dp - 1 = nI (J.dp - 1) from sub_nI (k := 1) (by omega), gd_ok (by omega) (by omega), cl_nI (by omega), a6 _ (by omega)]
      rfl
  rw [hJ, hJ2]
  refine ⟨((((S.setI 64 (nI (J.n + 1))).setA 54 (upd ((S.setI 64 (nI (J.n + 1))).a 54) J.n (cI J.tp))).setA 55 (upd ((S.setI 64 (nI (J.n + 1))).a 55) J.n x1)).setA 56 (upd ((S.setI 64 (nI (J.n + 1))).a 56) J.n x2)).setN 61 (vp_updL ((S.setI 64 (nI (J.n + 1))).n 61) J.n 0), ?_, ?_, a1.fr rfl rfl rfl, a2, rfl, a5, rfl, ?_, ?_, ?_, ?_⟩
  · unfold m_rone_J156 sDis
    simp only [gd_ok (show J.n < 501 by omega) (by decide), cl_nI (show J.n < 2 ^ 31 by omega)]
    rfl
  · refine QW.trans (QW_i (j := 64) (x := nI (J.n + 1)) (by omega) (by omega) (by omega)) ?_
    exact (((QW_a (k := 54) (by omega) (by omega)).trans (QW_a (k := 55) (by omega) (by omega))).trans (QW_a (k := 56) (by omega) (by omega))).trans QW_n
  · show upd (S.a 54) J.n (cI J.tp) J.n = _
    unfold upd; rw [if_pos rfl]
  · show upd (S.a 55) J.n x1 J.n = _
    unfold upd; rw [if_pos rfl]
  · show upd (S.a 56) J.n x2 J.n = _
    unfold upd; rw [if_pos rfl]
  · show vp_updL (S.n 61) J.n 0 J.n = _
    unfold vp_updL; rw [if_pos rfl]
end JSK
