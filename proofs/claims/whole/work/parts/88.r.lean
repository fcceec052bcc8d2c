/-! JSON: both read the text alike. -/
def J0 : JS := (0, 0, [], fun _ _ => 0, fun _ => 0, fun _ => none, fun _ => 0, 0, false)
section JSR
variable {S S' T : MS} {N : Nat → Nat} {C C' B : CS} {J : JS} {A : AS} {rd p js k kl t q ji jf a : Nat} {bi bf bs bo : List Nat}
theorem jparse (G : RC N C A rd) (hio : RIO S C bi bf bs bo ji jf js a) : ∃ C' S' y, m_cRd_parse N 0 C js = some (C', b2 y) ∧ m_rjson S = some (S', b2 y) ∧ QC C C' ∧ QR S S' ∧ WF N C' ∧ C'.r 1 0 0 = some 0 ∧ C'.r 1 1 0 = some 1 ∧ (y = true → ∃ J, CR N C' js bs J ∧ SR S' bs J ∧ JI bs J 0 ∧ 0 < J.n) ∧ (y = false → S'.i 66 = C'.i 1 4 0) := by
  obtain ⟨u0, u1, u2, u3, u4, u5, u6, u7, u8, u9, u10, u11, u12, u13, u14, u15, u16, u17, u18⟩ := G.nn
  obtain ⟨s1, s2, s3, s4, s5, s6, s7, s8, s9, s10, s11, s12, s13, s14, s15, s16, s17, s18, s19, s20, s21⟩ := G.st
  obtain ⟨⟨i1, i2, i3, i4, i5, i6, i7, i8, i9⟩, ⟨_, _, _, _, _⟩, _, ⟨d1, d2, d3, d4, d5⟩, _⟩ := hio
  have hz := G.1.2.2.2.1
  have hjs := d1.1
  have hw := G.1.2.1
  have hjs7 : js < 7 := d1.1
  have e2 : ((cFT.getD 1 [])[2]? : Option Nat) = some (5 + 2) := by decide
  -- the class's beginning
  generalize hC0 : ((((((((C.setR 1 2 0 (some js)).setI 1 3 0 0).setI 1 4 0 0).setI 1 5 0 0).setR 1 6 0 none).setI 1 8 0 0).setI 1 9 0 0).setI 5 1 1 0).setI 5 2 1 0 = C0
  have hcl : m_cRw_clear N 1 (((((((C.setR 1 2 0 (some js)).setI 1 3 0 0).setI 1 4 0 0).setI 1 5 0 0).setR 1 6 0 none).setI 1 8 0 0).setI 1 9 0 0) = some C0 := by
    unfold m_cRw_clear m_cRw_clear_J0
    rw [gl_ok (by omega), hC0]
  have hw0 : WF N C0 := by
    rw [← hC0]
    show WF N (((C.setR 1 2 0 (some js)).setI 1 5 0 0).setR 1 6 0 none)
    refine WF_setR (show WF N (C.setR 1 2 0 (some js)) from WF_setR hw ?_) (fun t y _ hy => by cases hy)
    intro t y ht hy
    rw [e2] at ht
    have := Option.some.inj ht
    have := Option.some.inj hy
    obtain rfl : t = 5 := by omega
    omega
  have hi : ∀ k f j, k ≠ 1 → k ≠ 5 → C0.i k f j = C.i k f j := by
    intro k f j h1 h2
    rw [← hC0]
    simp only [CS.i_setI, CS.i_setR, h1, h2, false_and, if_false]
  have hi5 : ∀ f j, j ≠ 1 → C0.i 5 f j = C.i 5 f j := by
    intro f j h1
    rw [← hC0]
    simp only [CS.i_setI, CS.i_setR, h1, Nat.reduceEqDiff, false_and, and_false, if_false]
  have hr : ∀ k f j, k ≠ 1 → C0.r k f j = C.r k f j := by
    intro k f j h1
    rw [← hC0]
    simp only [CS.r_setI, CS.r_setR, h1, false_and, if_false]
  have hl0 : C0.l = C.l := by rw [← hC0]; rfl
  have ha0 : C0.a = C.a := by rw [← hC0]; rfl
  have hq0 : C0.q = C.q := by rw [← hC0]; rfl
  have hz0 : C0.z = C.z := by rw [← hC0]; rfl
  have hQ0 : QC C C0 := ⟨fun k f j h1 h2 h3 => by
      by_cases e : k = 5
      · subst e; exact hi5 f j (fun g => h3 ⟨rfl, g⟩)
      · exact hi k f j h1 e, fun _ _ _ _ => by rw [hl0], fun k f j h1 h2 => hr k f j h1, fun _ _ _ _ => by rw [ha0], hq0, hz0⟩
  have hr0 : C0.r 1 0 0 = some 0 := by
    rw [← hC0]
    simp only [CS.r_setI, CS.r_setR, Nat.reduceEqDiff, false_and, and_false, if_false]
    exact s15
  have hr1 : C0.r 1 1 0 = some 1 := by
    rw [← hC0]
    simp only [CS.r_setI, CS.r_setR, Nat.reduceEqDiff, false_and, and_false, if_false]
    exact s16
  have hCR0 : CR N C0 js bs J0 := by
    refine ⟨hw0, ⟨⟨u1, u5, u13, u9, u18⟩, ⟨?_, i6⟩, ⟨d1.1, ?_, ?_, ?_⟩, ?_, d5, ?_, Nat.zero_le _⟩, ⟨⟨by omega, ?_, ?_, ?_, ?_⟩, fun i hi => absurd hi (Nat.not_lt_zero _), ?_, hr1⟩, ⟨hr0, ?_, ?_⟩, ?_, ?_, ?_, fun i hi => absurd hi (Nat.not_lt_zero _), fun v hv => absurd hv (Nat.not_lt_zero _)⟩
    · rw [← hC0]
      simp only [CS.r_setI, CS.r_setR, Nat.reduceEqDiff, false_and, and_false, if_false, and_self, if_true]
    · rw [hr 5 0 js (by omega)]; exact d1.2.1
    · rw [hi5 1 js (by omega)]; exact d1.2.2.1
    · rw [hz0]; exact d1.2.2.2
    · intro i hi; rw [ha0]; exact d2 i hi
    · rw [← hC0]
      simp only [CS.i_setI, CS.i_setR, Nat.reduceEqDiff, false_and, and_false, if_false, and_self, if_true]
      rfl
    · rw [hr 5 0 1 (by omega)]; exact hz.2.2.2.2.2.2.2.2.2.2.2.2.2.2.1 1 (by omega)
    · rw [← hC0]
      simp only [CS.i_setI, CS.i_setR, Nat.reduceEqDiff, false_and, and_false, if_false, and_self, if_true]
      rfl
    · exact Nat.zero_le _
    · rw [hz0, hz.2.2.2.2.2.2.1]; omega
    · rw [hz0]; exact hz.2.2.2.2.2.2.1
    · rw [hz0]; exact hz.2.2.2.2.1
    · rw [hq0]; exact hz.2.2.2.2.2.2.2.2.2.2.2.2.2.2.2
    · rw [← hC0]
      simp only [CS.i_setI, CS.i_setR, Nat.reduceEqDiff, false_and, and_false, if_false, and_self, if_true]
      rfl
    · rw [← hC0]
      simp only [CS.i_setI, CS.i_setR, Nat.reduceEqDiff, false_and, and_false, if_false, and_self, if_true]
      rfl
    · rw [← hC0]
      simp only [CS.r_setI, CS.r_setR, Nat.reduceEqDiff, false_and, and_false, if_false, and_self, if_true]
      rfl
  -- the reference's
  have hSR0 : SR ((((((S.setI 64 0).setI 65 0).setI 66 0).setI 67 0).setI 68 0).setI 69 2) bs J0 := ⟨⟨d3, d4, d5, rfl, Nat.zero_le _⟩, ⟨rfl, fun i hi => absurd hi (Nat.not_lt_zero _)⟩, rfl, rfl, rfl, fun i hi => absurd hi (Nat.not_lt_zero _), fun v hv => absurd hv (Nat.not_lt_zero _)⟩
  have hQR0 : QR S ((((((S.setI 64 0).setI 65 0).setI 66 0).setI 67 0).setI 68 0).setI 69 2) := (((((QR_i (by omega) (by omega)).trans (QR_i (by omega) (by omega))).trans (QR_i (by omega) (by omega))).trans (QR_i (by omega) (by omega))).trans (QR_i (by omega) (by omega))).trans (QR_i (by omega) (by omega))
  have h690 : ((((((S.setI 64 0).setI 65 0).setI 66 0).setI 67 0).setI 68 0).setI 69 2).i 69 = 2 := by rw [MS.i_setI, if_pos rfl]
  generalize hS0 : ((((((S.setI 64 0).setI 65 0).setI 66 0).setI 67 0).setI 68 0).setI 69 2) = S0 at *
  have hJI0 : JI bs J0 0 := ⟨⟨by show 0 ≤ 500; omega, by show 0 ≤ 20; omega, Nat.le_refl _, Nat.zero_le _, d5⟩, fun i hi => absurd hi (Nat.not_lt_zero _), fun v hv => absurd hv (Nat.not_lt_zero _), rfl, fun g => by cases g⟩
  have hskA := skp_le (bs := bs) (p := 0) (Nat.zero_le _)
  have hC1 := hCR0.mv hskA.1
  have hS1 := hSR0.mv hskA.1
  have hI1 := hJI0.mv (q := skp bs 0) (Nat.zero_le _) hskA.1
  have hKOK : KOK (J0.mv (skp bs 0)) 0 0 := ⟨fun w hw => (by cases hw), fun _ => rfl, fun g => absurd g (Nat.lt_irrefl _), ⟨fun _ => rfl, fun _ => rfl⟩⟩
  obtain ⟨S2, C2, y2, v1, v2, v3⟩ := jv (ka := 0) (kl := 0) (x1 := 0) (x2 := 0) hC1 (s_skip hSR0.1) hS1 hI1 rfl hKOK (fun g => by omega) rfl (fun g => by omega) h690
  have v4 := v3.mono (hQ0.trans QC_i1) (hQR0.trans (QR_i (j := 66) (by omega) (by omega))) (Nat.zero_le (J0.mv (skp bs 0)).p)
  obtain ⟨C3, S3, y3, l1, l2, l3⟩ := jl (N := N) bs.length _ _ _ _ 0 0 y2 v4 (by omega) (Nat.le_refl _) (by omega)
  have hlc : m_cRd_parse_L53 N 0 C2 y2 0 = some (C3, y3) := by
    unfold m_cRd_parse_L53
    have := lp_mono _ (FU - (bs.length + 3)) _ _ l1
    rw [show bs.length + 3 + (FU - (bs.length + 3)) = FU by unfold FU; omega] at this
    exact this
  have hls : m_rjson_L36 S2 = some S3 := by
    unfold m_rjson_L36
    have := lp_mono _ (FU - (2 * bs.length + 4)) _ _ l2
    rw [show 2 * bs.length + 4 + (FU - (2 * bs.length + 4)) = FU by unfold FU; omega] at this
    exact this
  have hpc : m_cRd_parse N 0 C js = m_cRd_parse_J104 N 0 C3 y3 := by
    unfold m_cRd_parse m_cRd_parse_J0
    rw [gl_ok (by omega), s16, gn_s (by omega), hcl, ob_ok, c_skip hCR0.2.1, ob_ok]
    rw [show J0.p = 0 from rfl, v2, ob_ok]
    simp only []
    rw [hlc, ob_ok]
  have hps : m_rjson S = m_rjson_J221 S3 := by
    unfold m_rjson m_rjson_J0
    rw [hS0, v1, ob_ok, hls, ob_ok]
  rw [hpc, hps]
  obtain ⟨o1, o2, o3, o4, o5, o6⟩ := l3
  unfold m_cRd_parse_J104 m_cRd_parse_J112 m_cRd_parse_J134 m_cRd_parse_J135 m_rjson_J221 m_rjson_J250
  rcases o6 with ⟨e1, e2', J, e3, e4, e5, e6, e7⟩ | ⟨e1, q, e2', e3, e4, e5⟩
  · have hle := e5.1.2.2.2.1
    have hskB := skp_le (bs := bs) (p := J.p) hle
    have hC4 := e3.mv hskB.1
    have hS4 := e4.mv hskB.1
    have hI4 := e5.mv (q := skp bs J.p) hskB.2 hskB.1
    have hS6 : (S3.setI 66 (nI (skp bs J.p))).i 6 = nI bs.length := hS4.1.1
    have hS66 : (S3.setI 66 (nI (skp bs J.p))).i 66 = nI (skp bs J.p) := hS4.1.2.2.2.1
    rw [e1, if_neg (show ¬ (1 : Int32) = 0 by decide), gl_ok (by omega), c_skip e3.2.1, ob_ok, if_neg (show ¬ (1 : Int32) = 0 by decide), gl_ok (by omega), hC4.2.1.2.1.1, gn_s (by omega), hC4.2.1.2.2.2.2.2.1, hC4.2.1.2.2.1.2.2.1, if_pos e2', s_skip e4.1, ob_ok, hS6, hS66]
    rw [show (J.mv (skp bs J.p)).p = skp bs J.p from rfl]
    by_cases c : skp bs J.p = bs.length
    · refine ⟨C3.setI 1 4 0 (nI (skp bs J.p)), S3.setI 66 (nI (skp bs J.p)), true, ?_, ?_, o1.trans QC_i1, o2.trans (QR_i (by omega) (by omega)), hC4.1, hC4.2.2.2.1.1, hC4.2.2.1.2.2.2, fun _ => ⟨J.mv (skp bs J.p), hC4, hS4, hI4, e7⟩, fun g => by cases g⟩
      · rw [if_pos (by rw [c])]; rfl
      · rw [if_pos (by rw [c])]; rfl
    · have hne : ¬ nI (skp bs J.p) = nI bs.length := fun g => c ((nI_eq (by omega) (by omega)).mp g)
      refine ⟨C3.setI 1 4 0 (nI (skp bs J.p)), S3.setI 66 (nI (skp bs J.p)), false, ?_, ?_, o1.trans QC_i1, o2.trans (QR_i (by omega) (by omega)), hC4.1, hC4.2.2.2.1.1, hC4.2.2.1.2.2.2, fun g => (by cases g), fun _ => ?_⟩
      · rw [if_neg hne]; rfl
      · rw [if_neg hne]; rfl
      · rw [hS66, hC4.2.1.2.2.2.2.2.1]; rfl
  · rw [if_neg (show ¬ S3.i 68 = 0 by rw [e1]; decide)]
    rcases e5 with e5 | ⟨e5, e6, e7⟩
    · rw [e5, if_pos rfl, if_pos rfl]
      exact ⟨C3, S3, false, rfl, rfl, o1, o2, o3, o4, o5, fun g => (by cases g), fun _ => by rw [e3, e4]⟩
    · have hb := e7.b
      have hqq := isD_skp hb e6
      have hlt := isD_lt e6
      have hself : C3.setI 1 4 0 (nI q) = C3 := by
        apply CS_ext <;> intros <;> try rfl
        rw [CS.i_setI]
        split
        · rename_i e; rw [e.1, e.2.1, e.2.2]; exact e4.symm
        · rfl
      rw [e5, if_neg (show ¬ (1 : Int32) = 0 by decide), gl_ok (by omega), c_skip e7, ob_ok, hqq, hself, if_neg (show ¬ (1 : Int32) = 0 by decide), gl_ok (by omega), e7.2.1.1, gn_s (by omega), e4, e7.2.2.1.2.2.1, if_neg (fun g => by have := (nI_eq (a := q) (b := bs.length) (by omega) (by omega)).mp g; omega)]
      exact ⟨C3, S3, false, rfl, rfl, o1, o2, o3, o4, o5, fun g => (by cases g), fun _ => by rw [e3, e4]⟩
end JSR
