/-! SETTLE. -/
def AS.stl (A : AS) (r : Nat) : Nat → AS × Nat
  | 0 => (A, 0)
  | i + 1 => if ((A.stl r i).1.wt r i && (A.stl r i).1.rdyB r i) = true then ((A.stl r i).1.ga r i, (A.stl r i).2 + 1) else A.stl r i
section STL
variable {S S' : MS} {N : Nat → Nat} {C C' : CS} {A : AS} {r c rd : Nat}
theorem stl_s {i : Nat} : A.stl r (i + 1) = if ((A.stl r i).1.wt r i && (A.stl r i).1.rdyB r i) = true then ((A.stl r i).1.ga r i, (A.stl r i).2 + 1) else A.stl r i := rfl
theorem stl_ok (hA : AI A) (hon : A.on r = 0) : ∀ {i : Nat}, i ≤ A.m → AI (A.stl r i).1 ∧ (A.stl r i).1.on = A.on ∧ (A.stl r i).1.n = A.n ∧ (A.stl r i).1.m = A.m ∧ (A.stl r i).2 ≤ i := by
  intro i
  induction i with
  | zero => intro _; exact ⟨hA, rfl, rfl, rfl, Nat.le_refl _⟩
  | succ i ih =>
    intro hi
    obtain ⟨h1, h2, h3, h4, h5⟩ := ih (by omega)
    rw [stl_s]
    by_cases e : ((A.stl r i).1.wt r i && (A.stl r i).1.rdyB r i) = true
    · rw [if_pos e]
      simp only [Bool.and_eq_true] at e
      exact ⟨ga_AI h1 ((rdyB_iff h1).mp e.2) (by rw [h2]; exact hon), h2, h3, h4, by show (A.stl r i).2 + 1 ≤ _; omega⟩
    · rw [if_neg e]
      exact ⟨h1, h2, h3, h4, by omega⟩
theorem cnt_zero {p : Nat → Bool} {n : Nat} (h : cntTo p n = 0) {i : Nat} (hi : i < n) : p i = false := by
  cases hp : p i with
  | false => rfl
  | true =>
    rw [cntTo_rm hi hp] at h
    omega
theorem stl_stop (hA : AI A) (hon : A.on r = 0) {i : Nat} (hi : i ≤ A.m) (h0 : (A.stl r i).1.nwt r = 0) : ∀ {j : Nat}, i ≤ j → j ≤ A.m → A.stl r j = A.stl r i := by
  intro j
  induction j with
  | zero => intro h1 _; rw [show i = 0 by omega]
  | succ j ih =>
    intro h1 h2
    by_cases e : i = j + 1
    · rw [e]
    · have h3 := ih (by omega) (by omega)
      rw [stl_s, h3]
      have hw : (A.stl r i).1.wt r j = false := cnt_zero h0 (by have := (stl_ok hA hon hi).2.2.2.1; omega)
      rw [hw]
      rfl
theorem pS_settle (hR : RS S A) (hA : AI A) (hr : r < 8) (hon : A.on r = 0) : ∃ S', m_rsettle S (nI r) = some (S', nI (A.stl r A.m).2) ∧ RS S' (A.stl r A.m).1 ∧ S'.i 0 = S.i 0 ∧ frS S S' := by
  have hm := hA.1.2.1
  have := lp_run (body := fun w : MS × Int32 × Int32 × Int32 => m_rsettle_B4 w.1 w.2.1 w.2.2.1 w.2.2.2) (fun i w => ∃ W, w = (W, nI r, nI (A.stl r i).2, nI i) ∧ RS W (A.stl r i).1 ∧ W.i 0 = S.i 0 ∧ frS S W) (fun e => ∃ W, e = (W, nI (A.stl r A.m).2) ∧ RS W (A.stl r A.m).1 ∧ W.i 0 = S.i 0 ∧ frS S W) A.m ?_ FU (S, nI r, nI 0, nI 0) (by unfold FU; omega) ⟨S, rfl, hR, rfl, frS.refl⟩
  · obtain ⟨e, h1, W, rfl, h2, h3, h4⟩ := this
    refine ⟨W, ?_, h2, h3, h4⟩
    unfold m_rsettle m_rsettle_J0
    rw [show m_rsettle_L4 S (nI r) 0 0 = some (W, nI (A.stl r A.m).2) by unfold m_rsettle_L4; exact h1]
    rfl
  · rintro i _ hi ⟨W, rfl, w1, w2, w3⟩
    obtain ⟨k1, k2, k3, k4, k5⟩ := stl_ok hA hon hi
    have w34 : W.i 34 = nI A.m := by rw [w1.1.2.1, k4]
    by_cases hin : i < A.m
    · left
      have hrp := (w1.2.2.2.2.2.2.2 r hr).2 i (by omega)
      cases hw : (A.stl r i).1.wt r i with
      | false =>
        refine ⟨(W, nI r, nI (A.stl r i).2, nI (i + 1)), ?_, hin, W, by rw [stl_s, hw]; rfl, by rw [stl_s, hw]; exact w1, w2, w3⟩
        show m_rsettle_B4 W (nI r) (nI (A.stl r i).2) (nI i) = _
        unfold m_rsettle_B4 m_rsettle_J56
        rw [w34, if_neg (nle hin (by omega)), gd_ok hr (by omega), gd_ok (by omega) (by omega), cl_nI (show r < 2 ^ 31 by omega), cl_nI (by omega), hrp.2.1, hw, if_pos (show b2 false = 0 by decide), nI_s]
      | true =>
        have hnot : ¬ (A.stl r i).1.has r i := (k1.2.1.2.2.2.2.2.2.2.2.2 r i hw).2
        have hrd := pS_ready w1 k1 hr (by omega) hnot
        cases hb : (A.stl r i).1.rdyB r i with
        | false =>
          refine ⟨(W, nI r, nI (A.stl r i).2, nI (i + 1)), ?_, hin, W, by rw [stl_s, hw, hb]; rfl, by rw [stl_s, hw, hb]; exact w1, w2, w3⟩
          show m_rsettle_B4 W (nI r) (nI (A.stl r i).2) (nI i) = _
          unfold m_rsettle_B4 m_rsettle_J56
          rw [w34, if_neg (nle hin (by omega)), gd_ok hr (by omega), gd_ok (by omega) (by omega), cl_nI (show r < 2 ^ 31 by omega), cl_nI (by omega), hrp.2.1, hw, if_neg (show ¬ b2 true = 0 by decide), hrd, ob_ok, hb, if_pos (show b2 false = 0 by decide), nI_s]
        | true =>
          have hst : A.stl r (i + 1) = ((A.stl r i).1.ga r i, (A.stl r i).2 + 1) := by rw [stl_s, hw, hb]; rfl
          have hR2 := RS_ga w1 k1 hr ((rdyB_iff k1).mp hb)
          refine ⟨(_, nI r, nI ((A.stl r i).2 + 1), nI (i + 1)), ?_, hin, _, by rw [hst], by rw [hst]; exact hR2, ?_, ?_⟩
          · show m_rsettle_B4 W (nI r) (nI (A.stl r i).2) (nI i) = _
            unfold m_rsettle_B4 m_rsettle_J56
            rw [w34, if_neg (nle hin (by omega)), gd_ok hr (by omega), gd_ok (by omega) (by omega), cl_nI (show r < 2 ^ 31 by omega), cl_nI (by omega), hrp.2.1, hw, if_neg (show ¬ b2 true = 0 by decide), hrd, ob_ok, hb, if_neg (show ¬ b2 true = 0 by decide), gd_ok hr (by omega), gd_ok (by omega) (by omega), gd_ok hr (by omega), gd_ok (by omega) (by omega), nI_s, nI_s]
            rfl
          · rw [MS.i_setA, MS.i_setA]; exact w2
          · refine w3.trans ?_
            refine ⟨fun j _ => rfl, fun k hk => ?_⟩
            rw [MS.a_setA, if_neg (by omega), MS.a_setA, if_neg (by omega)]
    · right
      have e : i = A.m := by omega
      refine ⟨(W, nI (A.stl r i).2), ?_, W, by rw [e], by rw [← e]; exact w1, w2, w3⟩
      show m_rsettle_B4 W (nI r) (nI (A.stl r i).2) (nI i) = _
      unfold m_rsettle_B4
      rw [w34, e, if_pos (Int32.le_refl _)]
theorem max_nI {x y : Nat} (hx : x < 2 ^ 30) (hy : y < 2 ^ 30) : (if nI x < nI y then nI y else nI x) = nI (max x y) := by
  by_cases e : x < y
  · rw [if_pos ((nI_ltI (by omega) (by omega)).mpr e), Nat.max_eq_right (by omega)]
  · rw [if_neg (fun h => e ((nI_ltI (by omega) (by omega)).mp h)), Nat.max_eq_left (by omega)]
theorem cS_settle (G : RC N C A rd) (hA : AI A) (hr : r < 8) (hon : A.on r = 0) : ∃ C', m_cSt_settle N 0 C r = some (C', nI (A.stl r A.m).2) ∧ RC N C' (A.stl r A.m).1 rd ∧ frC C C' := by
  obtain ⟨u0, u1, u2, u3, u4, u5, u6, u7, u8, u9, u10, u11, u12, u13, u14, u15, u16, u17, u18⟩ := G.nn
  obtain ⟨s1, s2, s3, s4, s5, s6, s7, s8, s9, s10, s11, s12, s13, s14, s15, s16, s17, s18, s19, s20, s21⟩ := G.st
  have hm := hA.1.2.1
  have hnn := hA.1.1
  have := lp_run (body := fun w : CS × Option Nat × Int32 × Int32 => m_cSt_settle_B4 N 0 w.1 w.2.1 w.2.2.1 w.2.2.2) (fun i w => ∃ W, w = (W, some r, nI (A.stl r i).2, nI i) ∧ RC N W (A.stl r i).1 rd ∧ frC C W) (fun e => ∃ W, e = (W, nI (A.stl r A.m).2) ∧ RC N W (A.stl r A.m).1 rd ∧ frC C W) A.m ?_ FU (C, some r, nI 0, nI 0) (by unfold FU; omega) ⟨C, rfl, G, frC.refl⟩
  · obtain ⟨e, h1, W, rfl, h2, h3⟩ := this
    refine ⟨W, ?_, h2, h3⟩
    unfold m_cSt_settle m_cSt_settle_J0 m_cSt_settle_J115
    rw [show m_cSt_settle_L4 N 0 C (some r) 0 0 = some (W, nI (A.stl r A.m).2) by unfold m_cSt_settle_L4; exact h1]
    rfl
  · rintro i _ hi ⟨W, rfl, w1, w2⟩
    obtain ⟨k1, k2, k3, k4, k5⟩ := stl_ok hA hon hi
    have w84 : W.i 8 4 0 = nI A.m := by rw [w1.cg.1, k4]
    have hrp := w1.rp r hr
    have hsz := w1.sz.2.2.2.2.2.2.2.2.2.2.2.2.1 r hr
    have hst8 := w1.st
    by_cases hin : i < A.m
    · have hcg := w1.cg.2.2.2 i (by omega)
      have hnwl : (A.stl r i).1.nwt r ≤ A.m := by rw [← k4]; exact cntTo_le _ _
      by_cases h0 : (A.stl r i).1.nwt r = 0
      · right
        have hstop := stl_stop hA hon hi h0 (j := A.m) (by omega) (Nat.le_refl _)
        refine ⟨(W, nI (A.stl r i).2), ?_, W, by rw [hstop], by rw [hstop]; exact w1, w2⟩
        show m_cSt_settle_B4 N 0 W (some r) (nI (A.stl r i).2) (nI i) = _
        unfold m_cSt_settle_B4
        rw [gl_ok (by omega), w84, if_neg (nle hin (by omega)), gn_s (by omega), hrp.2.2.2.2.2.1, h0, if_pos (by decide)]
      · left
        have hne : ¬ nI ((A.stl r i).1.nwt r) ≤ 0 := fun h => h0 (by have := (nI_leI (b := 0) (by omega) (by omega)).mp h; omega)
        have hpre : m_cSt_settle_B4 N 0 W (some r) (nI (A.stl r i).2) (nI i) = (if b2 ((A.stl r i).1.wt r i) = 0 then m_cSt_settle_J109 N 0 W (some r) (nI (A.stl r i).2) (nI i) else ob (m_cRp_isReadyFor N r W i) (fun o_18 => (if o_18.2 = 0 then m_cSt_settle_J109 N 0 o_18.1 (some r) (nI (A.stl r i).2) (nI i) else gn (o_18.1.r 4 2 r) (N 14) (fun j_21 => gd (nI i) (o_18.1.z 14 j_21) (ob (m_cRp_gain N r ((o_18.1.setA 14 j_21 (nI i).toNatClampNeg (vp_nar .boolean 0)).setI 4 6 r ((o_18.1.i 4 6 r) - 1)) i) (fun o_25 => m_cSt_settle_J109 N 0 ((o_25.setI 4 7 r ((o_25.i 4 7 r) + (o_25.i 0 4 i))).setI 4 8 r (if o_25.i 4 8 r < ((o_25.i 0 3 i) + (o_25.i 0 4 i)) - 1 then ((o_25.i 0 3 i) + (o_25.i 0 4 i)) - 1 else o_25.i 4 8 r)) (some r) ((nI (A.stl r i).2) + 1) (nI i))))))) := by
          unfold m_cSt_settle_B4
          rw [gl_ok (by omega), w84, if_neg (nle hin (by omega)), gn_s (by omega), hrp.2.2.2.2.2.1, if_neg hne, hst8.2.2.2.2.2.2.2.2.2.2.1, gn_s (by omega), w1.sz.2.2.1, gd_ok (by omega) (by omega), hsz.2.2.1, gn_s (by omega), hsz.2.2.2.2.1, gd_ok (by omega) (by omega), cl_nI (by omega), hrp.2.1 i (by omega), hcg.1, gn_s (by omega)]
        cases hw : (A.stl r i).1.wt r i with
        | false =>
          refine ⟨(W, some r, nI (A.stl r i).2, nI (i + 1)), ?_, hin, W, by rw [stl_s, hw]; rfl, by rw [stl_s, hw]; exact w1, w2⟩
          show m_cSt_settle_B4 N 0 W (some r) (nI (A.stl r i).2) (nI i) = _
          rw [hpre, hw, if_pos (show b2 false = 0 by decide)]
          unfold m_cSt_settle_J109
          rw [nI_s]
        | true =>
          rw [hw, if_neg (show ¬ b2 true = 0 by decide), cR_isReadyFor w1 k1 hr (by omega), ob_ok] at hpre
          cases hb : (A.stl r i).1.rdyB r i with
          | false =>
            refine ⟨(W, some r, nI (A.stl r i).2, nI (i + 1)), ?_, hin, W, by rw [stl_s, hw, hb]; rfl, by rw [stl_s, hw, hb]; exact w1, w2⟩
            show m_cSt_settle_B4 N 0 W (some r) (nI (A.stl r i).2) (nI i) = _
            rw [hpre, hb, if_pos (show b2 false = 0 by decide)]
            unfold m_cSt_settle_J109
            rw [nI_s]
          | true =>
            have hst : A.stl r (i + 1) = ((A.stl r i).1.ga r i, (A.stl r i).2 + 1) := by rw [stl_s, hw, hb]; rfl
            rw [hst]
            obtain ⟨B, hB⟩ : ∃ B, B = (A.stl r i).1 := ⟨_, rfl⟩
            rw [← hB] at k1 k3 k4 hrp hcg hnwl h0 hw hb w1 ⊢
            have hrdy := (rdyB_iff k1).mp hb
            obtain ⟨c1, c2, c3, c4, c5, c6, c7, c8, c9, dl, d1, d2, d3, d4, d5⟩ := hcg
            have hca := (k1.2.1.1 i (by omega)).1
            have hT := k1.2.2.2.1
            have hT1 := hT.1 r
            have hT4 := hT.2.2.2.1 i (by omega)
            have hnop : B.nop r ≤ B.n := cntTo_le _ _
            have hRC := RC_ga w1 k1 hr hrdy hw d3
            obtain ⟨D0, hD0⟩ : ∃ D0, D0 = (W.setA 14 r i 0).setI 4 6 r (nI (B.nwt r - 1)) := ⟨_, rfl⟩
            have e0i : ∀ f j, D0.i 0 f j = W.i 0 f j := fun f j => by rw [hD0]; rfl
            have e0r : D0.r = W.r := by rw [hD0]; rfl
            have e0z : D0.z = W.z := by rw [hD0]; rfl
            have e0q : D0.q = W.q := by rw [hD0]; rfl
            have e045 : D0.i 4 5 r = nI (B.nch r) := by rw [hD0, CS.i_setI, if_neg (by omega), CS.i_setA]; exact hrp.2.2.2.2.1
            have e047 : D0.i 4 7 r = nI (B.nop r) := by rw [hD0, CS.i_setI, if_neg (by omega), CS.i_setA]; exact hrp.2.2.2.2.2.2.1
            have e048 : D0.i 4 8 r = nI (B.tp r) := by rw [hD0, CS.i_setI, if_neg (by omega), CS.i_setA]; exact hrp.2.2.2.2.2.2.2.1
            have hga := cR_gain (N := N) (C := D0) (r := r) (c := i) (y := B.ca i) (jd := 9 + i) (dl := dl) (f := B.ca) (by omega) (by omega) (by rw [e0r]; exact hsz.2.1) (by omega) (by rw [e0z]; exact w1.sz.2.2.2.2.2.2.2.2.2.2.2.2.2.1 r (by omega)) hca (by rw [e0i]; exact c2) (by rw [e0r]; exact c7) (by omega) (by omega) (by rw [e0z]; exact d1) d2 (fun k hk => by rw [e0q]; exact d5 k hk)
              (fun d hd => by
                have hdm := (k1.2.1.2.2.2.2.2.2.1 i d (by omega) ((d3 d).mp hd)).1
                exact ⟨by omega, by rw [e0i]; exact (w1.cg.2.2.2 d (by omega)).2.1, (k1.2.1.1 d (by omega)).1⟩) (by rw [e0r]; exact hsz.2.2.2.1) (by omega) (by rw [e0z]; exact hsz.2.2.2.2.2.1) (fun a d ha h => by rw [e0q] at h; have := ((hrp.2.2.1 a d ha).mp h).1.1.1; omega)
            rw [e0i 1 i, c3, e045, nI_s, e0q] at hga
            obtain ⟨D1, hD1⟩ : ∃ D1, D1 = ((D0.setA 12 r (B.ca i) (nI (B.cu i))).setI 4 5 r (nI (B.nch r + 1))).setG 16 (1 + r) (updO (hdO (W.q 16 (1 + r)) B.ca dl) (B.ca i) (some i)) := ⟨_, rfl⟩
            have e1i : ∀ k f j, ¬ (k = 4 ∧ f = 5) → D1.i k f j = D0.i k f j := by
              intro k f j h
              rw [hD1]
              show ((D0.setA 12 r (B.ca i) (nI (B.cu i))).setI 4 5 r (nI (B.nch r + 1))).i k f j = _
              rw [CS.i_setI, if_neg (fun e => h ⟨e.1, e.2.1⟩), CS.i_setA]
            rw [← hD1] at hga
            rw [← hD0, ← hD1] at hRC
            refine ⟨((D1.setI 4 7 r (nI (B.nop r + B.cz i))).setI 4 8 r (nI (max (B.tp r) (B.cf i + B.cz i - 1))), some r, nI ((A.stl r i).2 + 1), nI (i + 1)), ?_, hin, _, rfl, hRC, ?_⟩
            · show m_cSt_settle_B4 N 0 W (some r) (nI (A.stl r i).2) (nI i) = _
              rw [hpre, ← hB, hb, if_neg (show ¬ b2 true = 0 by decide)]
              simp only []
              rw [hsz.2.2.1, gn_s (by omega), hsz.2.2.2.2.1, gd_ok (by omega) (by omega), cl_nI (by omega), hrp.2.2.2.2.2.1, show nI (B.nwt r) - 1 = nI (B.nwt r - 1) from sub_nI (k := 1) (by omega), show vp_nar .boolean 0 = 0 from by decide, ← hD0, hga]
              simp only [ob_ok]
              unfold m_cSt_settle_J109
              rw [e1i 4 7 r (by omega), e047, e1i 0 4 i (by omega), e0i, c6, nI_add, e1i 4 8 r (by omega), e048, e1i 0 3 i (by omega), e0i, c5, nI_add, show nI (B.cf i + B.cz i) - 1 = nI (B.cf i + B.cz i - 1) from sub_nI (k := 1) (by omega), max_nI (by omega) (by omega), nI_s, nI_s]
            · refine w2.trans ?_
              rw [hD1, hD0]
              exact ⟨fun _ _ => rfl, fun _ _ => rfl, fun _ _ => rfl, fun _ _ => rfl, fun _ _ _ => rfl, fun _ _ => rfl, fun _ _ _ => rfl, fun _ => rfl, fun _ _ => rfl, fun _ _ => rfl, fun _ _ => rfl, fun _ _ => rfl⟩
    · right
      have e : i = A.m := by omega
      refine ⟨(W, nI (A.stl r i).2), ?_, W, by rw [e], by rw [← e]; exact w1, w2⟩
      show m_cSt_settle_B4 N 0 W (some r) (nI (A.stl r i).2) (nI i) = _
      unfold m_cSt_settle_B4
      rw [gl_ok (by omega), w84, e, if_pos (Int32.le_refl _)]
end STL
