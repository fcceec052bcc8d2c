/-! JSON: both read a value alike. -/
def VAL (N : Nat → Nat) (C C' : CS) (S S' : MS) (js : Nat) (bs : List Nat) (p0 : Nat) (y : Int32) : Prop := QC C C' ∧ QR S S' ∧ (y = 1 → C'.i 1 7 0 = 0) ∧ WF N C' ∧ C'.r 1 0 0 = some 0 ∧ C'.r 1 1 0 = some 1 ∧ ((y = 1 ∧ ∃ J', CR N C' js bs J' ∧ SR S' bs J' ∧ JI bs J' 0 ∧ p0 < J'.p ∧ S'.i 69 = (if J'.fr = true then 1 else 2) ∧ 0 < J'.n) ∨ (S'.i 68 = 1 ∧ ∃ q, q ≤ bs.length ∧ S'.i 66 = nI q ∧ C'.i 1 4 0 = nI q ∧ (y = 0 ∨ (y = 1 ∧ ∃ J', CR N C' js bs J' ∧ JI bs J' 0 ∧ J'.fr = false ∧ J'.p = q ∧ isD bs q = true))))
def JVP (N : Nat → Nat) (C B : CS) (S T : MS) (js : Nat) (bs : List Nat) (J : JS) (ka kl : Nat) (x1 x2 : Int32) : Prop := (CR N C js bs J ∧ SR S bs J ∧ JI bs J kl ∧ J.fr = false ∧ KOK J ka kl) ∧ J.n < 500 ∧ BG N C B js bs J ka kl ∧ BS S T bs J x1 x2 ∧ (x2 = nI kl ∧ (0 < kl → x1 = nI ka)) ∧ S.i 69 = 2
section JSL
variable {S S' T : MS} {N : Nat → Nat} {C C' B : CS} {J : JS} {p js k ka kl : Nat} {bs d : List Nat} {x1 x2 : Int32}
theorem okR_b {b : Bool} {C : CS} : okR (some (C, b2 b)) = some (C, b2 b) := by
  unfold okR
  rw [ob_ok]
  cases b <;> rfl
/-- the class's side is put -/
theorem JVP.cput (h : JVP N C B S T js bs J ka kl x1 x2) {so : Nat} {x : Int64} {ba bl : Nat} (hQ : QV J.n B C') (hw : WF N C') (hT : CT N C' js bs p) (hD : CD C' d) (h13 : C'.i 1 3 0 = B.i 1 3 0) (h0 : C'.i 9 0 J.n = nI so) (h1 : C'.l 9 1 J.n = x) (h2 : C'.r 9 2 J.n = B.r 9 2 J.n) (h3 : C'.i 9 3 J.n = B.i 9 3 J.n) (h4 : C'.i 9 4 J.n = B.i 9 4 J.n) (h5 : so = 4 → C'.i 9 5 J.n = nI ba ∧ C'.i 9 6 J.n = nI bl) (h8 : C'.r 9 8 J.n = B.r 9 8 J.n) (h9 : C'.r 9 9 J.n = B.r 9 9 J.n) : CR N C' js bs (J.put so x ka kl ba bl p d) := by
  obtain ⟨⟨g1, g2, g3, g4, g5⟩, g6, ⟨c1, c2, c3, c4, c5, c6, c7, c8, c9, c10, c11, c12⟩, g8, g9, g10⟩ := h
  refine g1.put (fun i hi => (g3.2.1 i hi).1) (c1.trans hQ) hw hT hD (by rw [h13]; exact c5) ?_
  unfold CV
  rw [putn_so, putn_nu, putn_ar, putn_kl, putn_ka, putn_ba, putn_bl, h2, h3, h4, h8, h9]
  exact ⟨h0, h1, c8, c9, h5, c11, c12⟩
theorem JVP.sput (h : JVP N C B S T js bs J ka kl x1 x2) {so : Nat} {x : Int64} {ba bl : Nat} (hQ : QW J.n T S') (hT : ST S' bs p) (hD : SD S' d) (h64 : S'.i 64 = T.i 64) (h68 : S'.i 68 = 0) (h0 : S'.a 53 J.n = nI so) (h1 : S'.n 61 J.n = x) (h2 : S'.a 54 J.n = T.a 54 J.n) (h3 : S'.a 55 J.n = T.a 55 J.n) (h4 : S'.a 56 J.n = T.a 56 J.n) (h5 : so = 4 → S'.a 57 J.n = nI ba ∧ S'.a 58 J.n = nI bl) : SR S' bs (J.put so x ka kl ba bl p d) := by
  obtain ⟨⟨g1, g2, g3, g4, g5⟩, g6, g7, ⟨c1, c2, c3, c4, c5, c6, c7, c8, c9, c10⟩, g9, g10⟩ := h
  refine g2.put (c1.trans hQ) hT hD (by rw [h64]; exact c4) h68 ?_
  unfold SV
  rw [putn_so, putn_nu, putn_ar, putn_kl, putn_ka, putn_ba, putn_bl, h2, h3, h4]
  exact ⟨h0, h1, c7, fun hk => by rw [c8]; exact g9.2 hk, by rw [c9]; exact g9.1, h5⟩
theorem updn {f : Nat → Int32} {n : Nat} {x : Int32} : upd f n x n = x := by unfold upd; rw [if_pos rfl]
theorem v_word (h : JVP N C B S T js bs J ka kl x1 x2) {so k : Nat} (hk : k < 3) (hso : so ≤ 2) : ∃ S' C' y, m_rone_J255 (T.setA 53 (upd (T.a 53) J.n (nI so))) k = some S' ∧ okR (m_cRd_readWord N 0 B J.n (nI so) (k + 3)) = some (C', y) ∧ VAL N C C' S S' js bs J.p y := by
  obtain ⟨⟨g1, g2, g3, g4, g5⟩, g6, ⟨c1, c2, c3, c4, c5, c6, c7, c8, c9, c10, c11, c12⟩, ⟨d1, d2, d3, d4, d5, d6, d7, d8, d9, d10⟩, g9, g10⟩ := id h
  have hw : sByt.getD (k + 3) [] = sByt.getD k [] := by
    have : ∀ k : Fin 3, sByt.getD (k.val + 3) [] = sByt.getD k.val [] := by decide
    exact this ⟨k, hk⟩
  have hlen : 4 ≤ (sByt.getD k []).length := by
    have : ∀ k : Fin 3, 4 ≤ (sByt.getD k.val []).length := by decide
    exact this ⟨k, hk⟩
  have hpl := c3.2.2.2.2.2.2
  have hR := wrdR_le (bs := bs) (sByt.getD k []) J.p (sW (by omega)) hpl
  have hS1 := s_word (S := T.setA 53 (upd (T.a 53) J.n (nI so))) (k := k) (d2.fr rfl rfl rfl) d5 (by omega)
  have hC1 := c_word (v := J.n) (k := k + 3) c3 g6 (by omega) (nI so)
  rw [hw] at hC1
  generalize wrdR bs (sByt.getD k []) J.p = R at *
  have hQ1 : QV J.n B ((B.setI 9 0 J.n (nI so)).setI 1 4 0 (nI R.1)) := QV_i9.trans (QV_i1 (by omega))
  have hQ2 : QW J.n T ((T.setA 53 (upd (T.a 53) J.n (nI so))).setI 66 (nI R.1)) := (QW_a (by omega) (by omega)).trans (QW_i (by omega) (by omega) (by omega))
  have hwf : WF N ((B.setI 9 0 J.n (nI so)).setI 1 4 0 (nI R.1)) := c2
  have hT' := (c3.i9 (f := 0) (j := J.n) (x := nI so)).set hR.1
  have hD' : CD ((B.setI 9 0 J.n (nI so)).setI 1 4 0 (nI R.1)) J.d := CD.at (CD.i9 c4)
  have hr0 : ((B.setI 9 0 J.n (nI so)).setI 1 4 0 (nI R.1)).r 1 0 0 = some 0 := by
    show B.r 1 0 0 = some 0
    rw [c1.2.2.2.2.1]; exact g1.2.2.2.1.1
  have h17 : ((B.setI 9 0 J.n (nI so)).setI 1 4 0 (nI R.1)).i 1 7 0 = 0 := by
    rw [CS.i_setI, if_neg (by omega), CS.i_setI, if_neg (by omega)]; exact c6
  refine ⟨_, _, b2 R.2, by unfold m_rone_J255 m_rone_J415; rw [hS1, ob_ok], by rw [hC1, okR_b], (c1.trans hQ1).1, ?_, fun _ => h17, hwf, hr0, hD'.2.2.2, ?_⟩
  · by_cases e : R.2 = true
    · rw [if_pos e]; exact (d1.trans hQ2).1
    · rw [if_neg e]; exact ((d1.trans hQ2).trans (QW_i (by omega) (by omega) (by omega))).1
  · by_cases e : R.2 = true
    · rw [if_pos e]
      left
      have hsoI : (so : Nat) ≤ 7 ∧ so ≠ 5 := by omega
      refine ⟨by rw [e]; rfl, J.put so 0 ka kl 0 0 R.1 J.d, ?_, ?_, ?_, ?_, ?_, ?_⟩
      · refine h.cput hQ1 hwf hT' hD' ?_ ?_ c7 rfl ?_ ?_ (fun g => by omega) rfl rfl
        · rw [CS.i_setI, if_neg (by omega), CS.i_setI, if_neg (by omega)]
        · rw [CS.i_setI, if_neg (by omega), CS.i_setI, if_pos ⟨rfl, rfl, rfl⟩]
        · rw [CS.i_setI, if_neg (by omega), CS.i_setI, if_neg (by omega)]
        · rw [CS.i_setI, if_neg (by omega), CS.i_setI, if_neg (by omega)]
      · refine h.sput hQ2 ((d2.fr rfl rfl rfl : ST (T.setA 53 (upd (T.a 53) J.n (nI so))) bs J.p).set hR.1) d3 rfl d5 ?_ d10 rfl rfl rfl (fun g => by omega)
        show upd (T.a 53) J.n (nI so) J.n = _
        exact updn
      · exact g3.put g6 g5 hsoI hR.2.1 hR.1 (y := []) (by simp) (by have := g3.1; omega) (by rw [if_neg (by omega)]; rfl) (fun g => by omega)
      · show J.p < R.1
        have := hR.2.2 e
        omega
      · show T.i 69 = (if J.fr = true then 1 else 2)
        rw [g4, d6, g10]; rfl
      · show 0 < J.n + 1
        omega
    · rw [if_neg e]
      right
      have e' : R.2 = false := by cases hh : R.2 with
        | true => exact absurd hh e
        | false => rfl
      refine ⟨by rw [MS.i_setI, if_pos rfl], R.1, hR.1, ?_, ?_, Or.inl (by rw [e']; rfl)⟩
      · rw [MS.i_setI, if_neg (by decide), MS.i_setI, if_pos rfl]
      · rw [CS.i_setI, if_pos ⟨rfl, rfl, rfl⟩]
theorem v_num (h : JVP N C B S T js bs J ka kl x1 x2) : ∃ S' C' y, ob (m_rdigits T (nI J.n)) (fun o => m_rone_J415 o) = some S' ∧ okR (m_cRd_readNumber N 0 B J.n) = some (C', y) ∧ VAL N C C' S S' js bs J.p y := by
  obtain ⟨⟨g1, g2, g3, g4, g5⟩, g6, ⟨c1, c2, c3, c4, c5, c6, c7, c8, c9, c10, c11, c12⟩, ⟨d1, d2, d3, d4, d5, d6, d7, d8, d9, d10⟩, g9, g10⟩ := id h
  have hpl := c3.2.2.2.2.2.2
  have hP := numP_le (bs := bs) hpl
  have hQ := numQ_le (bs := bs) hpl
  have hS1 := s_num d2 d5 (v := J.n) (by omega)
  have hC1 := c_num c3 g6
  have hr0 : B.r 1 0 0 = some 0 := by rw [c1.2.2.2.2.1]; exact g1.2.2.2.1.1
  generalize hq : (numQ bs J.p).1 = q at *
  generalize hp1 : numP bs J.p = p1 at *
  generalize numV bs J.p = x at *
  by_cases hd : isD bs p1 = true
  · rw [if_pos hd] at hC1
    have hQ1 : QV J.n B (((B.setI 9 0 J.n 3).setI 1 4 0 (nI q)).setL 9 1 J.n x) := (QV_i9.trans (QV_i1 (by omega))).trans QV_l9
    have hT' : CT N (((B.setI 9 0 J.n 3).setI 1 4 0 (nI q)).setL 9 1 J.n x) js bs q := (c3.i9 (f := 0) (j := J.n) (x := 3)).set hQ.1
    have hD' : CD (((B.setI 9 0 J.n 3).setI 1 4 0 (nI q)).setL 9 1 J.n x) J.d := (CD.at (CD.i9 c4) : CD ((B.setI 9 0 J.n 3).setI 1 4 0 (nI q)) J.d)
    have hwf : WF N (((B.setI 9 0 J.n 3).setI 1 4 0 (nI q)).setL 9 1 J.n x) := c2
    have h17 : (((B.setI 9 0 J.n 3).setI 1 4 0 (nI q)).setL 9 1 J.n x).i 1 7 0 = 0 := by
      rw [CS.i_setL, CS.i_setI, if_neg (by omega), CS.i_setI, if_neg (by omega)]; exact c6
    have hCR : CR N (((B.setI 9 0 J.n 3).setI 1 4 0 (nI q)).setL 9 1 J.n x) js bs (J.put 3 x ka kl 0 0 q J.d) := by
      refine h.cput hQ1 hwf hT' hD' ?_ ?_ ?_ rfl ?_ ?_ (fun g => by omega) rfl rfl
      · rw [CS.i_setL, CS.i_setI, if_neg (by omega), CS.i_setI, if_neg (by omega)]
      · rw [CS.i_setL, CS.i_setI, if_neg (by omega), CS.i_setI, if_pos ⟨rfl, rfl, rfl⟩]; rfl
      · rw [CS.l_setL, if_pos ⟨rfl, rfl, rfl⟩]
      · rw [CS.i_setL, CS.i_setI, if_neg (by omega), CS.i_setI, if_neg (by omega)]
      · rw [CS.i_setL, CS.i_setI, if_neg (by omega), CS.i_setI, if_neg (by omega)]
    have hq2 := hQ.2.2 hd
    have hJI : JI bs (J.put 3 x ka kl 0 0 q J.d) 0 := g3.put g6 g5 (by omega) (by omega) hQ.1 (y := []) (by simp) (by have := g3.1; omega) (by rw [if_neg (by omega)]; rfl) (fun g => by omega)
    by_cases hz : isD bs q = false
    · rw [if_pos ⟨hd, hz⟩] at hS1
      have hQ2 : QW J.n T (((T.setI 66 (nI q)).setA 53 (upd (T.a 53) J.n 3)).setN 61 (vp_updL (T.n 61) J.n x)) := ((QW_i (j := 66) (by omega) (by omega) (by omega)).trans (QW_a (k := 53) (by omega) (by omega))).trans QW_n
      refine ⟨_, _, 1, by rw [hS1, ob_ok]; rfl, by rw [hC1]; rfl, (c1.trans hQ1).1, (d1.trans hQ2).1, fun _ => h17, hwf, hr0, hD'.2.2.2, Or.inl ⟨rfl, J.put 3 x ka kl 0 0 q J.d, hCR, ?_, hJI, ?_, ?_, ?_⟩⟩
      · refine h.sput hQ2 ((d2.set hQ.1).fr rfl rfl rfl) d3 rfl d5 ?_ ?_ rfl rfl rfl (fun g => by omega)
        · show upd (T.a 53) J.n 3 J.n = _
          rw [updn]; rfl
        · show vp_updL (T.n 61) J.n x J.n = _
          unfold vp_updL; rw [if_pos rfl]
      · show J.p < q
        omega
      · show T.i 69 = (if J.fr = true then 1 else 2)
        rw [g4, d6, g10]; rfl
      · show 0 < J.n + 1
        omega
    · have hz' : isD bs q = true := by cases hh : isD bs q with
        | true => rfl
        | false => exact absurd hh hz
      rw [if_neg (fun g => hz g.2), if_pos hd] at hS1
      refine ⟨_, _, 1, by rw [hS1, ob_ok]; rfl, by rw [hC1]; rfl, (c1.trans hQ1).1, ?_, fun _ => h17, hwf, hr0, hD'.2.2.2, Or.inr ⟨by rw [MS.i_setI, if_pos rfl], q, hQ.1, by rw [MS.i_setI, if_neg (by decide), MS.i_setI, if_pos rfl], hT'.2.2.2.2.2.1, Or.inr ⟨rfl, J.put 3 x ka kl 0 0 q J.d, hCR, hJI, g4, rfl, hz'⟩⟩⟩
      exact ((d1.trans (QW_i (j := 66) (by omega) (by omega) (by omega))).trans (QW_i (by omega) (by omega) (by omega))).1
  · rw [if_neg hd] at hC1
    rw [if_neg (fun g => hd g.1), if_neg hd] at hS1
    refine ⟨_, _, 0, by rw [hS1, ob_ok]; rfl, by rw [hC1]; rfl, (c1.trans (QV_i9.trans (QV_i1 (by omega)))).1, ((d1.trans (QW_i (j := 66) (by omega) (by omega) (by omega))).trans (QW_i (by omega) (by omega) (by omega))).1, fun g => absurd g (by decide), c2, hr0, c4.2.2.2, Or.inr ⟨by rw [MS.i_setI, if_pos rfl], p1, hP.1, by rw [MS.i_setI, if_neg (by decide), MS.i_setI, if_pos rfl], by rw [CS.i_setI, if_pos ⟨rfl, rfl, rfl⟩], Or.inl rfl⟩⟩
end JSL
