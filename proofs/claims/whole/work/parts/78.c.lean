/-! THE CALL look. -/
section CLQ
variable {S S' : MS} {N : Nat → Nat} {C C' : CS} {A : AS} {r rd : Nat} {bi bf bs bo : List Nat} {ji jf js a : Nat}
theorem RC_lo {x : Option Nat} (G : RC N C A rd) (hr : r < 8) (hx : ∀ c, x = some c → c < A.m) : RC N (C.setR 4 4 r x) (A.lo r x) rd := by
  obtain ⟨⟨g1, g2, g3, g4, g5, g6, g7, g8, g9, g10, g11, g12⟩, h4⟩ := G
  have hw : WF N (C.setR 4 4 r x) := by
    refine WF_setR g2 ?_
    intro t y e1 e2
    have ht : t = 0 := by have := Option.some.inj e1; omega
    rw [ht, g1.1]
    exact hx y e2
  refine ⟨⟨g1, hw, g3, g4, g5, g6, g7, g8, g9, ?_, g11, g12⟩, h4⟩
  intro q hq
  obtain ⟨b1, b2', b3, b4, b5⟩ := g10 q hq
  refine ⟨b1, b2', b3, ?_, b5⟩
  rw [CS.r_setR, lo_lk]
  by_cases e : q = r
  · rw [if_pos ⟨rfl, rfl, e⟩, if_pos e]
  · rw [if_neg (by omega), if_neg e]
    exact b4
theorem frC_r4 {f j : Nat} {x : Option Nat} : frC C (C.setR 4 f j x) := ⟨fun _ _ => rfl, fun _ _ => rfl, fun _ _ => rfl, fun _ _ => rfl, fun _ _ _ => rfl, fun _ _ => rfl, fun _ _ _ => rfl, fun _ => rfl, fun _ _ => rfl, fun _ _ => rfl, fun _ _ => rfl, fun _ _ => rfl⟩
theorem neg1_lt {y : Int32} (h : y < -1 ∨ 8 ≤ y ∨ ∃ k, k < 8 ∧ y = nI k) : True := trivial
theorem act_or (y : Int32) : y < -1 ∨ (¬ y < -1 ∧ ¬ y ≤ 7 ∧ ¬ y < 8) ∨ y = -1 ∨ ∃ k, k < 8 ∧ y = nI k := by
  by_cases h0 : y < nI 0
  · by_cases h1 : y < -1
    · exact Or.inl h1
    · right; right; left
      have h2 : (-1 : Int32) ≤ y := Int32.not_lt.mp h1
      rw [Int32.lt_iff_toInt_lt] at h0
      rw [Int32.le_iff_toInt_le] at h2
      apply Int32.toInt_inj.mp
      have e1 : (nI 0).toInt = 0 := by decide
      have e2 : (-1 : Int32).toInt = -1 := by decide
      rw [e1] at h0
      rw [e2] at h2 ⊢
      omega
  · obtain ⟨p, hp, rfl⟩ := nI_of h0
    have hn1 : ¬ nI p < -1 := fun h => h0 (Int32.lt_trans h (by decide))
    by_cases h8 : p < 8
    · exact Or.inr (Or.inr (Or.inr ⟨p, h8, rfl⟩))
    · exact Or.inr (Or.inl ⟨hn1, fun h => h8 (by have := (nI_leI (b := 7) (by omega) (by omega)).mp h; omega), fun h => h8 ((nI_ltI (b := 8) (by omega) (by omega)).mp h)⟩)
/-- the last step on both sides -/
theorem look_end {x : Option Nat} {g : Nat → Int32} (hR : RS S A) (G : RC N C A rd) (hA : AI A) (hr : r < 8) (hio : RIO S C bi bf bs bo ji jf js a) (hx : ∀ c, x = some c → A.has r c) (hg : ∀ d, d < 1000 → (g d = 0 ∨ g d = 1) ∧ (A.m ≤ d → g d = 0) ∧ ∀ c, x = some c → g d = b2 (A.cloB c d)) :
    ∃ v S' C', m_rlook_J198 (((S.setI 0 (nI 0)).setA 39 (upd (S.a 39) r (cI x))).setA (117 + r) g) (nI r) = some (S', v) ∧ m_cJT_look_J67 N 0 C (some r) x = some (.inl (C', v)) ∧ S'.i 0 = nI 0 ∧ INV S' N C' (A.lo r x) rd := by
  obtain ⟨u0, u1, u2, u3, u4, u5, u6, u7, u8, u9, u10, u11, u12, u13, u14, u15, u16, u17, u18⟩ := G.nn
  have hR2 := RS_lo hR hr hg
  have hA2 := lo_AI hA hx
  have G2 := RC_lo G hr (fun c hc => (hx c hc).1)
  have hv := pS_view hR2 hA2 hr
  have hcv := cR_changesInView G2 hA2 hr
  have hi0 : (((S.setI 0 (nI 0)).setA 39 (upd (S.a 39) r (cI x))).setA (117 + r) g).i 0 = nI 0 := by rw [MS.i_setA, MS.i_setA, MS.i_setI, if_pos rfl]
  have hfr : frS S (((S.setI 0 (nI 0)).setA 39 (upd (S.a 39) r (cI x))).setA (117 + r) g) := by
    refine ⟨?_, ?_⟩
    · intro j hj
      rw [MS.i_setA, MS.i_setA, MS.i_setI, if_neg (by omega)]
    · intro k hk
      rw [MS.a_setA, if_neg (by omega), MS.a_setA, if_neg (by omega), MS.a_setI]
  generalize nI (match (A.lo r x).lk r with | none => (A.lo r x).nch r | some c => sumTo ((A.lo r x).cl c) 8) = v at hv hcv
  refine ⟨v, _, _, ?_, ?_, hi0, hR2, G2, hA2, bi, bf, bs, bo, ji, jf, js, a, hio.fr hfr frC_r4⟩
  · unfold m_rlook_J198
    rw [hv]
    rfl
  · unfold m_cJT_look_J67
    rw [gn_s (by omega), hcv]
    rfl
theorem call_look (hI : INV S N C A rd) (x1 x2 x3 : Int32) : SLIKE [(1, 1), (3, 2)] A rd N (m_cJT_look N 0 C x1 x2 x3) (m_rlook S x1 x2 x3) := by
  obtain ⟨hR, G, hA, bi, bf, bs, bo, ji, jf, js, a, hio⟩ := hI
  obtain ⟨u0, u1, u2, u3, u4, u5, u6, u7, u8, u9, u10, u11, u12, u13, u14, u15, u16, u17, u18⟩ := G.nn
  obtain ⟨s1, s2, s3, s4, s5, s6, s7, s8, s9, s10, s11, s12, s13, s14, s15, s16, s17, s18, s19, s20, s21⟩ := G.st
  have hm := hA.1.2.1
  rcases rep_or x1 with hx1 | ⟨r, hr, rfl⟩
  · refine slikeT (t := 1) (k := 1) (C' := C) (S1 := S) (v := nI 0) ?_ ?_ rfl hR G hA hio (Nat.le_refl _) (by omega)
    · unfold m_cJT_look m_cJT_look_J0
      simp (disch := omega) only [gd_ok, cl_nI, nI_s, nI_add, nI_leI, nI_ltI, nI_eq, if_pos, if_neg, q0, q1, q2, q3, q4, q5, q6, q7, q8, q9, q10, CS.i_setI, CS.l_setI, CS.r_setI, CS.a_setI, CS.q_setI, CS.z_setI, CS.i_setL, CS.l_setL, CS.r_setL, CS.a_setL, CS.q_setL, CS.z_setL, CS.i_setR, CS.l_setR, CS.r_setR, CS.a_setR, CS.q_setR, CS.z_setR, CS.i_setA, CS.l_setA, CS.r_setA, CS.a_setA, CS.q_setA, CS.z_setA, CS.i_setQ, CS.l_setQ, CS.r_setQ, CS.a_setQ, CS.q_setQ, CS.z_setQ, CS.i_setF, CS.l_setF, CS.r_setF, CS.a_setF, CS.q_setF, CS.z_setF, CS.i_new, CS.l_new, CS.r_new, CS.a_new, CS.q_new, CS.z_new, Nat.reduceEqDiff, false_and, true_and, and_false, and_true, if_true, if_false, b2_0, b2_1, b2_nn, n0_or, n1_or, n10, n01, dec1, dec2, ob_ok, oe_l, oe_r, gl_ok, gle_ok, gn_s, gv_ok, gv_none, on_none, onSome,u11, cJ_shownN hx1]
    · unfold m_rlook m_rlook_J0
      rw [pr_isN hx1]
      rfl
  · obtain ⟨C2, hsh, G2, hv2, hfr2⟩ := cJ_shown G hA hr
    have hio2 := hio.fr frS.refl hfr2
    have hst2 := G2.st
    have hcx : m_cJT_look N 0 C (nI r) x2 x3 = (if x2 < (-1) then m_cJT_look_J18 N 0 C2 else (if x2 < 8 then (if x2 < 0 then m_cJT_look_J67 N 0 C2 (some r) none else ob (m_cSt_changeAt N 0 C2 x2 x3) (fun o_10 => on o_10.2 (m_cJT_look_J59 N 0 o_10.1) (fun j_12 => gl j_12 (N 0) (gn (some r) (N 4) (fun j_14 => ob (m_cRp_holds N j_14 o_10.1 j_12) (fun o_17 => (if o_17.2 = 0 then m_cJT_look_J59 N 0 o_17.1 else m_cJT_look_J67 N 0 o_17.1 (some r) o_10.2))))))) else m_cJT_look_J18 N 0 C2)) := by
      unfold m_cJT_look m_cJT_look_J0
      rw [gl_ok (by omega), hsh, oe_l, hst2.1, gn_s (by omega)]
    have hrx : m_rlook S (nI r) x2 x3 = (if x2 < (-1) then m_rlook_J18 S else (if x2 ≤ 7 then (if 0 ≤ x2 then ob (m_rfind S x2 x3) (fun o_7 => m_rlook_J38 o_7.1 (nI r) x2 o_7.2) else m_rlook_J38 S (nI r) x2 (-1)) else m_rlook_J18 S)) := by
      unfold m_rlook m_rlook_J0
      rw [pr_isR hr, ob_ok, if_neg (show ¬ (1 : Int32) = 0 by decide)]
    have hbad : m_cJT_look N 0 C (nI r) x2 x3 = m_cJT_look_J18 N 0 C2 → m_rlook S (nI r) x2 x3 = m_rlook_J18 S → SLIKE [(1, 1), (3, 2)] A rd N (m_cJT_look N 0 C (nI r) x2 x3) (m_rlook S (nI r) x2 x3) := by
      intro h1 h2
      exact slikeT (t := 1) (k := 1) (C' := C2) (S1 := S) (v := nI 0) (by rw [h1]; rfl) (by rw [h2]; rfl) rfl hR G2 hA hio2 (Nat.le_refl _) (by omega)
    have hnone : m_cJT_look N 0 C (nI r) x2 x3 = m_cJT_look_J59 N 0 C2 → m_rlook S (nI r) x2 x3 = m_rlook_J61 S → SLIKE [(1, 1), (3, 2)] A rd N (m_cJT_look N 0 C (nI r) x2 x3) (m_rlook S (nI r) x2 x3) := by
      intro h1 h2
      exact slikeT (t := 3) (k := 2) (C' := C2) (S1 := S) (v := nI 0) (by rw [h1]; rfl) (by rw [h2]; rfl) rfl hR G2 hA hio2 (Nat.le_refl _) (by omega)
    rcases act_or x2 with h | ⟨h1, h2, h3⟩ | rfl | ⟨y, hy, rfl⟩
    · rw [if_pos h] at hcx hrx
      exact hbad hcx hrx
    · rw [if_neg h1, if_neg h3] at hcx
      rw [if_neg h1, if_neg h2] at hrx
      exact hbad hcx hrx
    · rw [if_neg (by decide), if_pos (by decide), if_pos (by decide)] at hcx
      rw [if_neg (by decide), if_pos (by decide), if_neg (by decide)] at hrx
      have hrp := hR.2.2.2.2.2.2.2 r hr
      obtain ⟨v, S', C', e1, e2, e3, e4⟩ := look_end (x := none) (g := S.a (117 + r)) hR G2 hA hr hio2 (fun c h => by cases h) (fun d hd => ⟨(hrp.2 d hd).2.2.1, (hrp.2 d hd).2.2.2.1, fun c h => by cases h⟩)
      refine Or.inl ⟨C', v, S', _, rd, ?_, ?_, e3, e4, rfl, rfl, Nat.le_refl _, by omega⟩
      · rw [hcx, e2]
      · rw [hrx]
        unfold m_rlook_J38 m_rlook_J67
        rw [if_pos (by decide), gd_ok hr (by omega), if_pos (by decide), cl_nI (by omega)]
        rw [← e1]
        congr 1
        have := (MS.setA_self ((S.setI 0 (nI 0)).setA 39 (upd (S.a 39) r (cI none))) (117 + r)).symm
        rw [show ((S.setI 0 (nI 0)).setA 39 (upd (S.a 39) r (cI none))).a (117 + r) = S.a (117 + r) from by rw [MS.a_setA, if_neg (by omega), MS.a_setI]] at this
        exact this
    · have hp1 : ¬ nI y < -1 := fun h => absurd (Int32.lt_trans h (by decide : (-1 : Int32) < 0)) (nI_pos (by omega))
      have hp2 : nI y < 8 := (nI_ltI (b := 8) (by omega) (by omega)).mpr hy
      have hp3 : ¬ nI y < 0 := nI_pos (by omega)
      have hp4 : nI y ≤ 7 := (nI_leI (b := 7) (by omega) (by omega)).mpr (by omega)
      have hp5 : (0 : Int32) ≤ nI y := nI_pos' (by omega)
      rw [if_neg hp1, if_pos hp2, if_neg hp3, cS_changeAt G2 hA hy x3, ob_ok] at hcx
      rw [if_neg hp1, if_pos hp4, if_pos hp5, pS_find hR hA hy x3, ob_ok] at hrx
      unfold m_rlook_J38 at hrx
      rw [if_neg hp3] at hrx
      cases hf : A.fc y x3 with
      | none =>
        rw [hf] at hcx hrx
        rw [if_pos (show cI none < 0 by decide)] at hrx
        exact hnone hcx hrx
      | some c =>
        rw [hf] at hcx hrx
        obtain ⟨f1, f2, f3⟩ := fc_lt hf
        have hcn : ¬ cI (some c) < 0 := nI_pos (by omega)
        rw [if_neg hcn, gd_ok hr (by omega), show cI (some c) = nI c from rfl, gd_ok (by omega) (by omega), cl_nI (by omega), cl_nI (by omega), ((hR.2.2.2.2.2.2.2 r hr).2 c (by omega)).1] at hrx
        rw [onSome, gl_ok (by omega), gn_s (by omega), cR_holds G2 hA hr f1, ob_ok] at hcx
        cases hh : A.hasB r c with
        | false =>
          rw [hh] at hcx hrx
          exact hnone hcx hrx
        | true =>
          rw [hh] at hcx hrx
          rw [if_neg (show ¬ b2 true = 0 by decide)] at hcx hrx
          have hhas := hasB_iff.mp hh
          have hS0 : RS ((S.setI 0 (nI 0)).setA 39 (upd (S.a 39) r (cI (some c)))) (A.lo r (some c)) → True := fun _ => trivial
          obtain ⟨S0, hS0⟩ : ∃ S0, S0 = (S.setI 0 (nI 0)).setA 39 (upd (S.a 39) r (cI (some c))) := ⟨_, rfl⟩
          have e34 : S0.i 34 = nI A.m := by rw [hS0, MS.i_setA, MS.i_setI, if_neg (by decide)]; exact hR.1.2.1
          have e117 : S0.a (117 + r) = S.a (117 + r) := by rw [hS0, MS.a_setA, if_neg (by omega), MS.a_setI]
          have e31 : S0.a 31 = S.a 31 := by rw [hS0]; rfl
          have e32 : S0.a 32 = S.a 32 := by rw [hS0]; rfl
          have e33 : S0.a 33 = S.a 33 := by rw [hS0]; rfl
          have e35 : S0.i 35 = S.i 35 := by rw [hS0]; rfl
          obtain ⟨g1, hg1, hgd1⟩ := look_one (S0 := S0) (m := A.m) (c := c) hr e34 hm (by omega)
          obtain ⟨g2, hg2, hgd2⟩ := look_clo (S0 := S0) (A := A) (c := c) (by
            have h7 : RS7 S0 A := hR.r7 (fun k hk => by rw [hS0, MS.i_setA, MS.i_setI, if_neg (by omega)]) (by rw [hS0]; rfl) (fun k hk => by rw [hS0, MS.a_setA, if_neg (by omega), MS.a_setI])
            exact h7.2.2.2.2.2.2) hA hr f1 g1 (fun d hd => by
            rw [hgd1 d]
            by_cases e : d < A.m
            · rw [if_pos e, if_pos e]
            · rw [if_neg e, if_neg e, e117]
              exact ((hR.2.2.2.2.2.2.2 r hr).2 d hd).2.2.2.1 (by omega))
          obtain ⟨v, S', C', e1, e2, e3, e4⟩ := look_end (x := some c) (g := g2) hR G2 hA hr hio2 (fun d h => by obtain rfl := Option.some.inj h; exact hhas) (fun d hd => ⟨by rw [hgd2 d hd]; cases A.cloB c d <;> simp [b2], fun hmd => by
            rw [hgd2 d hd]
            have : A.cloB c d = false := by
              cases hb : A.cloB c d with
              | false => rfl
              | true => have := (cloB_iff.mp hb).1; omega
            rw [this]
            rfl, fun c' h => by obtain rfl := Option.some.inj h; exact hgd2 d hd⟩)
          refine Or.inl ⟨C', v, S', _, rd, ?_, ?_, e3, e4, rfl, rfl, Nat.le_refl _, by omega⟩
          · rw [hcx, e2]
          · rw [hrx]
            unfold m_rlook_J67
            simp only []
            rw [gd_ok hr (by omega), if_neg (show ¬ nI c < 0 from hcn), cl_nI (by omega), show ((S.setI 0 0).setA 39 (upd (S.a 39) r (nI c))) = S0 from hS0.symm, show m_rlook_L88 S0 (nI r) (nI c) 0 = _ from hg1]
            simp only [ob_ok]
            rw [hg2]
            simp only [ob_ok]
            rw [← e1, hS0]
end CLQ
