/-! JSON: members. -/
/-- elsewhere -/
def JS.mv (J : JS) (p : Nat) : JS := (J.n, p, J.d, J.F, J.nu, J.ar, J.st, J.dp, J.fr)
section JSO
variable {S S' T : MS} {N : Nat → Nat} {C C' B : CS} {J : JS} {p js k kl t q : Nat} {bs d0 y : List Nat}
theorem skp_skp : skp bs (skp bs p) = skp bs p := by
  have h : rn blB bs (skp bs p) = 0 := by
    cases e : rn blB bs (skp bs p) with
    | zero => rfl
    | succ n =>
      have h1 := rn_at (q := blB) (bf := bs) (p := skp bs p) (j := 0) (by omega)
      have h2 := rn_stop (q := blB) (bf := bs) (p := p)
      rw [Nat.add_zero] at h1
      rw [show p + rn blB bs p = skp bs p from rfl, h1] at h2
      cases h2
  show skp bs p + rn blB bs (skp bs p) = skp bs p
  rw [h, Nat.add_zero]
theorem VAL.mono {C0 : CS} {S0 : MS} {p0 : Nat} {y : Int32} (h : VAL N C C' S S' js bs p y) (hC : QC C0 C) (hS : QR S0 S) (hp : p0 ≤ p) : VAL N C0 C' S0 S' js bs p0 y := by
  obtain ⟨a1, a2, a3, a4, a5, a6, a7⟩ := h
  refine ⟨hC.trans a1, hS.trans a2, a3, a4, a5, a6, ?_⟩
  rcases a7 with ⟨b1, J', b2, b3, b4, b5, b6⟩ | b
  · exact Or.inl ⟨b1, J', b2, b3, b4, by omega, b6⟩
  · exact Or.inr b
theorem VAL.bad {q : Nat} (h1 : QC C C') (h2 : QR S S') (h3 : WF N C') (h4 : C'.r 1 0 0 = some 0) (h5 : C'.r 1 1 0 = some 1) (h6 : S'.i 68 = 1) (hq : q ≤ bs.length) (h7 : S'.i 66 = nI q) (h8 : C'.i 1 4 0 = nI q) : VAL N C C' S S' js bs p 0 :=
  ⟨h1, h2, fun g => absurd g (by decide), h3, h4, h5, Or.inr ⟨h6, q, hq, h7, h8, Or.inl rfl⟩⟩
theorem CR.ky (h : CR N C js bs J) {f : Nat} {x : Int32} (hf : 7 ≤ f) : CR N (C.setI 1 f 0 x) js bs J := by
  obtain ⟨a1, a2, a3, a4, a7, a8, a9, a10, a11⟩ := h
  exact ⟨a1, a2.i1 (by omega), a3.i1, a4, by rw [CS.i_setI, if_neg (by omega)]; exact a7, by rw [CS.i_setI, if_neg (by omega)]; exact a8, a9, a10, a11⟩
theorem CR.mv (h : CR N C js bs J) (hq : q ≤ bs.length) : CR N (C.setI 1 4 0 (nI q)) js bs (J.mv q) := by
  obtain ⟨a1, a2, a3, a4, a7, a8, a9, a10, a11⟩ := h
  exact ⟨a1, a2.set hq, a3.at, a4, by rw [CS.i_setI, if_neg (by omega)]; exact a7, by rw [CS.i_setI, if_neg (by omega)]; exact a8, a9, a10, a11⟩
theorem SR.mv (h : SR S bs J) (hq : q ≤ bs.length) : SR (S.setI 66 (nI q)) bs (J.mv q) := by
  obtain ⟨a1, a2, a3, a4, a5, a6, a7⟩ := h
  exact ⟨a1.set hq, a2, a3, a4, a5, a6, a7⟩
theorem JI.mv (h : JI bs J k) (h1 : J.p ≤ q) (hq : q ≤ bs.length) : JI bs (J.mv q) k := by
  obtain ⟨⟨b1, b2, b3, b4, b5⟩, b6, b7, b8, b9⟩ := h
  exact ⟨⟨b1, b2, by show J.d.length ≤ q; omega, hq, b5⟩, b6, b7, b8, b9⟩
theorem QR_i {j : Nat} {x : Int32} (hj : 64 ≤ j) (h2 : j ≤ 69) : QR S (S.setI j x) := ⟨fun i a => by rw [MS.i_setI, if_neg (by omega)], fun _ _ _ _ => rfl, fun _ _ => rfl⟩
theorem QC_i1 {f : Nat} {x : Int32} : QC C (C.setI 1 f 0 x) := ⟨fun k f1 j h1 h2 h3 => by rw [CS.i_setI, if_neg (fun h => h1 h.1)], fun _ _ _ _ => rfl, fun _ _ _ _ _ => rfl, fun _ _ _ _ => rfl, rfl, rfl⟩
theorem QC_i9 {f v : Nat} {x : Int32} : QC C (C.setI 9 f v x) := ⟨fun k f1 j h1 h2 h3 => by rw [CS.i_setI, if_neg (fun h => h2 h.1)], fun _ _ _ _ => rfl, fun _ _ _ _ _ => rfl, fun _ _ _ _ => rfl, rfl, rfl⟩
theorem at34 (hb : ∀ i (hi : i < bs.length), bs[i] < 256) (e34 : atI bs p = 34) : bs[p]? = some 34 := by
  have hlt := at_ge e34 (by decide)
  have hs : bs[p]? = some bs[p] := List.getElem?_eq_getElem hlt
  rw [at_some hs] at e34
  rw [hs, (eI (c := 34) (bytLt hb hs) (by omega)).mp e34]
theorem jm {S0 : MS} (hC : CR N C js bs J) (h0 : m_rskip S0 = some S) (hS : SR S bs J) (hI : JI bs J 0) (hf : J.fr = false) (htp : J.tp = some t) (hso : J.so t = 6) (h69 : S.i 69 = 2) :
    ∃ S', m_rmember S0 = some S' ∧ ((∃ C', m_cRd_readKey N 0 C = some (C', 0) ∧ VAL N C C' S S' js bs J.p 0) ∨ (∃ C1 C' y, m_cRd_readKey N 0 C = some (C1, 1) ∧ C1.i 1 7 0 = C.i 1 7 0 ∧ m_cRd_readValue N 0 C1 = some (C', y) ∧ VAL N C C' S S' js bs J.p y)) := by
  have hb := hC.2.1.b
  have hN := hC.2.1.1
  have hjs := hC.2.1.2.2.1.1
  have hpl := hC.2.1.2.2.2.2.2.2
  have hdl := hI.1.2.2.1
  have h8 := hI.1.2.2.2.2
  have h1i := hI.1
  have hr0 := hC.2.2.2.1.1
  have hr1 := hC.2.2.1.2.2.2
  unfold m_rmember m_rmember_J0 m_cRd_readKey m_cRd_readKey_J0 m_cRd_readKey_J41
  rw [h0, ob_ok, hS.1.sign, ob_ok, gl_ok (by omega), hr1, gn_s (by omega), hC.2.1.2.1.1, gn_s (by omega), hC.2.1.at, ob_ok]
  simp only []
  by_cases c34 : atI bs J.p = 34
  · have h34 := at34 hb c34
    have hlt := getq h34
    rw [if_pos c34, if_pos c34, hS.1.next, hC.2.2.1.1.2.2.1]
    obtain ⟨S1, s1, s2, s3, s4⟩ := s_str (hS.1.set (q := J.p + 1) (by omega)) (SD.at hS.2.1) (show (S.setI 66 (nI (J.p + 1))).i 68 = 0 from hS.2.2.2.2.1) (by omega) (most := 64) (by omega)
    obtain ⟨C1, k1, k2, k3, k4⟩ := c_str hC.2.1 hC.2.2.1 hdl hlt (most := 64) (by omega)
    have hR := strR_ok hb 64 (J.p + 1) J.d (by omega) (by omega)
    rw [show m_rstring (S.setI 66 (nI (J.p + 1))) 64 = _ from s1, ob_ok, show m_cRd_readString N 0 C 64 = _ from k1, ob_ok]
    simp only []
    have hQS : QS S S1 := (QS_setI (by omega)).trans s3
    have hQR : QR S S1 := (hQS.w (n := 0)).1
    have hQC : QC C C1 := (k3.v (n := 0)).1
    have hw1 := k3.wf hC.1
    have hr0' : C1.r 1 0 0 = some 0 := by rw [k3.r]; exact hr0
    have hr1' : C1.r 1 1 0 = some 1 := by rw [k3.r]; exact hr1
    generalize strR bs 64 (J.p + 1) J.d = R at *
    rcases s4 with ⟨d', e1, e2, e3⟩ | ⟨e1, e2⟩
    · obtain ⟨r1, r2, r3⟩ := hR
      obtain ⟨r4, ⟨y, r5, r6⟩, r7⟩ := r3 d' e1
      have hq := getq r7
      have hD1 := k4 d' e1
      have hlen : d'.length = J.d.length + y.length := by rw [r5, List.length_append]
      have hsub : nI d'.length - nI J.d.length = nI y.length := by rw [sub_nI (by omega), show d'.length - J.d.length = y.length by omega]
      have hCR1 : CR N C1 js bs (J.go R.1 d') := hC.go k3 k2 hD1 hf
      have hSR1 : SR S1 bs (J.go R.1 d') := hS.go hQS e2 s2 e3
      have hJI1 : JI bs (J.go R.1 d') (0 + y.length) := hI.go (by omega) (by omega) r5 (by omega)
      have htp1 : (J.go R.1 d').tp = some t := htp
      have hso1 : (J.go R.1 d').so t = 6 := hso
      haveI i1 := Classical.propDecidable (y ≠ [] ∧ ¬ (J.go R.1 d').dup y (J.go R.1 d').n)
      haveI i2 := Classical.propDecidable ((J.go R.1 d').dup y (J.go R.1 d').n)
      have hnk := c_newKey hCR1 hJI1 htp1 hso1 (show (J.go R.1 d').d = J.d ++ y from r5)
      rw [if_pos e2, e3.1, hsub, e1, show b2 (some d').isSome = 1 from rfl, if_neg (show ¬ (1 : Int32) = 0 by decide), hnk, ob_ok]
      simp only []
      have badK : ∀ (z : Option MS), z = some (S1.setI 68 1) → ¬ (y ≠ [] ∧ ¬ (J.go R.1 d').dup y (J.go R.1 d').n) → ∀ F : CS × Int32 → Option (CS × Int32), ∃ S', z = some S' ∧ ((∃ C', (if b2 (decide (y ≠ [] ∧ ¬ (J.go R.1 d').dup y (J.go R.1 d').n)) = 0 then some (C1, 0) else F (C1, 1)) = some (C', 0) ∧ VAL N C C' S S' js bs J.p 0) ∨ (∃ C1' C' y', (if b2 (decide (y ≠ [] ∧ ¬ (J.go R.1 d').dup y (J.go R.1 d').n)) = 0 then some (C1, 0) else F (C1, 1)) = some (C1', 1) ∧ C1'.i 1 7 0 = C.i 1 7 0 ∧ m_cRd_readValue N 0 C1' = some (C', y') ∧ VAL N C C' S S' js bs J.p y')) := by
        intro z hz hn F
        rw [decide_eq_false hn, if_pos (show b2 false = 0 from rfl)]
        refine ⟨_, hz, Or.inl ⟨C1, rfl, VAL.bad hQC (hQR.trans (QR_i (by omega) (by omega))) hw1 hr0' hr1' (by rw [MS.i_setI, if_pos rfl]) r1 (by rw [MS.i_setI, if_neg (by decide)]; exact s2.2.2.2.1) k2.2.2.2.2.2.1⟩⟩
      by_cases hyn : y = []
      · refine badK _ ?_ (fun g => g.1 hyn) (fun o => gn (o.1.r 1 1 0) (N 5) _)
        rw [hyn, if_pos (show nI ([] : List Nat).length = 0 from rfl)]
        rfl
      · have hyl : 0 < y.length := by cases y with
          | nil => exact absurd rfl hyn
          | cons a l => simp
        have hkt := s_keyThere hSR1 hJI1 htp1 hso1 (show (J.go R.1 d').d = J.d ++ y from r5) hyn
        obtain ⟨hd0, ht⟩ := tp_some htp
        have h63 : S1.a 63 (J.dp - 1) = nI t := by rw [hSR1.2.2.2.2.2.1 (J.dp - 1) (by show J.dp - 1 < J.dp; omega), ht]; rfl
        have h67 : S1.i 67 = nI J.dp := hSR1.2.2.2.1
        rw [if_neg (show ¬ nI y.length = 0 from fun g => by have := (nI_eq (a := y.length) (b := 0) (by omega) (by omega)).mp g; omega), h67, show nI J.dp - 1 = nI (J.dp - 1) from sub_nI (k := 1) (by omega), gd_ok (by omega) (by omega), cl_nI (by omega), h63, hkt, ob_ok]
        simp only []
        by_cases hdup : (J.go R.1 d').dup y (J.go R.1 d').n
        · refine badK _ ?_ (fun g => g.2 hdup) (fun o => gn (o.1.r 1 1 0) (N 5) _)
          rw [decide_eq_true hdup, if_neg (show ¬ b2 true = 0 by decide)]
          rfl
        · rw [decide_eq_false hdup, if_pos (show b2 false = 0 from rfl), decide_eq_true ⟨hyn, hdup⟩, if_neg (show ¬ b2 true = 0 by decide), hr1', gn_s (by omega), hD1.1.2.2.1, hsub, k2.2.2.2.2.2.1, nI_s, s2.next]
          have hle1 : R.1 + 1 ≤ bs.length := hq
          have hskA := skp_le (bs := bs) hle1
          have hCk : CR N ((C1.setI 1 8 0 (nI J.d.length)).setI 1 9 0 (nI y.length)) js bs (J.go R.1 d') := (hCR1.ky (by omega)).ky (by omega)
          have hk8 : ((C1.setI 1 8 0 (nI J.d.length)).setI 1 9 0 (nI y.length)).i 1 8 0 = nI J.d.length := by rw [CS.i_setI, if_neg (by omega), CS.i_setI, if_pos ⟨rfl, rfl, rfl⟩]
          have hk9 : ((C1.setI 1 8 0 (nI J.d.length)).setI 1 9 0 (nI y.length)).i 1 9 0 = nI y.length := by rw [CS.i_setI, if_pos ⟨rfl, rfl, rfl⟩]
          have hk7 : ((C1.setI 1 8 0 (nI J.d.length)).setI 1 9 0 (nI y.length)).i 1 7 0 = C.i 1 7 0 := by rw [CS.i_setI, if_neg (by omega), CS.i_setI, if_neg (by omega), k3.i1 7 (by omega)]
          have hQCk : QC C ((C1.setI 1 8 0 (nI J.d.length)).setI 1 9 0 (nI y.length)) := (hQC.trans QC_i1).trans QC_i1
          generalize (C1.setI 1 8 0 (nI J.d.length)).setI 1 9 0 (nI y.length) = D at *
          have hC2 := hCk.mv hle1
          have hS2 := hSR1.mv hle1
          rw [c_skip hC2.2.1, ob_ok, s_skip hS2.1, ob_ok, set_at, MS.setI_setI]
          rw [show ((J.go R.1 d').mv (R.1 + 1)).p = R.1 + 1 from rfl]
          generalize hp2 : skp bs (R.1 + 1) = p2 at *
          have hC3 := hCk.mv hskA.1
          have hS3 := hSR1.mv hskA.1
          have hsg := hS3.1.sign
          have hat := hC3.2.1.at
          rw [show ((J.go R.1 d').mv p2).p = p2 from rfl] at hsg hat
          rw [hsg, ob_ok, hC3.2.1.2.1.1, gn_s (by omega), hat, ob_ok]
          simp only []
          by_cases c58 : atI bs p2 = 58
          · have hlt2 := at_ge c58 (by decide)
            have hskB := skp_le (bs := bs) (p := p2 + 1) hlt2
            rw [if_pos c58, if_pos c58, hC3.2.1.next, hS3.1.next, set_at, MS.setI_setI]
            rw [show ((J.go R.1 d').mv p2).p = p2 from rfl]
            have hC4 := hCk.mv (q := p2 + 1) hlt2
            have hS4 := hSR1.mv (q := p2 + 1) hlt2
            rw [c_skip hC4.2.1, ob_ok, set_at]
            rw [show ((J.go R.1 d').mv (p2 + 1)).p = p2 + 1 from rfl]
            have hsk := s_skip hS4.1
            rw [MS.setI_setI, show ((J.go R.1 d').mv (p2 + 1)).p = p2 + 1 from rfl] at hsk
            have hC5 := hCk.mv hskB.1
            have hS5 := hSR1.mv hskB.1
            have hJ5 : JI bs ((J.go R.1 d').mv (skp bs (p2 + 1))) y.length := by
              have := hJI1.mv (q := skp bs (p2 + 1)) (by show R.1 ≤ _; omega) hskB.1
              rw [Nat.zero_add] at this
              exact this
            generalize skp bs (p2 + 1) = p3 at *
            have hKOK : KOK ((J.go R.1 d').mv p3) J.d.length y.length := by
              refine ⟨fun w hw => ?_, fun g => ?_, fun _ => ⟨r6, ?_⟩, ?_⟩
              · have : some t = some w := by rw [← htp]; exact hw
                obtain rfl := Option.some.inj this
                exact ⟨fun _ => hyl, fun _ => hso⟩
              · have : (none : Option Nat) = some t := by rw [← htp]; exact g.symm
                cases this
              · show J.d.length + y.length ≤ d'.length
                omega
              · constructor
                · intro g
                  have : (none : Option Nat) = some t := by rw [← htp]; exact g.symm
                  cases this
                · intro g
                  have g : J.n = 0 := g
                  have := (hI.2.1 (J.dp - 1) (by omega)).1
                  omega
            obtain ⟨S', C', y', v1, v2, v3⟩ := jv (ka := J.d.length) (kl := y.length) (x1 := nI J.d.length) (x2 := nI y.length) hC5 hsk hS5 hJ5 rfl hKOK (fun _ => ⟨by rw [CS.i_setI, if_neg (by omega)]; exact hk8, by rw [CS.i_setI, if_neg (by omega)]; exact hk9⟩) rfl (fun _ => rfl) (by show S1.i 69 = 2; rw [hQS.1 69 (by omega) (by omega) (by omega)]; exact h69)
            refine ⟨S', by rw [v1, ob_ok], Or.inr ⟨_, C', y', rfl, by rw [CS.i_setI, if_neg (by omega)]; exact hk7, v2, ?_⟩⟩
            refine v3.mono (hQCk.trans QC_i1) (hQR.trans (QR_i (by omega) (by omega))) ?_
            show J.p ≤ p3
            omega
          · rw [if_neg c58, if_neg c58]
            refine ⟨_, rfl, Or.inl ⟨_, rfl, VAL.bad (q := p2) (hQCk.trans QC_i1) ((hQR.trans (QR_i (by omega) (by omega))).trans (QR_i (by omega) (by omega))) hC3.1 hC3.2.2.2.1.1 hC3.2.2.1.2.2.2 (by rw [MS.i_setI, if_pos rfl]) hskA.1 (by rw [MS.i_setI, if_neg (by decide), MS.i_setI, if_pos rfl]) (by rw [CS.i_setI, if_pos ⟨rfl, rfl, rfl⟩])⟩⟩
    · rw [if_neg (by rw [e2]; decide), e1, if_pos (show b2 (none : Option (List Nat)).isSome = 0 from rfl)]
      exact ⟨_, rfl, Or.inl ⟨_, rfl, VAL.bad hQC hQR hw1 hr0' hr1' e2 hR.1 s2.2.2.2.1 k2.2.2.2.2.2.1⟩⟩
  · rw [if_neg c34, if_neg c34]
    exact ⟨_, rfl, Or.inl ⟨_, rfl, VAL.bad QC.refl (QR_i (by omega) (by omega)) hC.1 hr0 hr1 (by rw [MS.i_setI, if_pos rfl]) hpl (by rw [MS.i_setI, if_neg (by decide)]; exact hS.1.2.2.2.1) hC.2.1.2.2.2.2.2.1⟩⟩
end JSO
