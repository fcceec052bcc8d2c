/-! THE CALL load. -/
/-- the changes below t are expected at r -/
def AS.ld (A : AS) (r : Nat) (t : Nat → Nat) : Nat → AS
  | 0 => A
  | i + 1 => if A.cu i ≤ t (A.ca i) then (A.ld r t i).exp r i else A.ld r t i
section LDH
variable {S S' : MS} {N : Nat → Nat} {C C' : CS} {A : AS} {r rd p : Nat} {bi bf bs bo : List Nat} {ji jf js a : Nat}
theorem ld_s {t : Nat → Nat} {i : Nat} : A.ld r t (i + 1) = if A.cu i ≤ t (A.ca i) then (A.ld r t i).exp r i else A.ld r t i := rfl
theorem exp_ca {c : Nat} : (A.exp r c).ca = A.ca := by unfold AS.exp; split <;> rfl
theorem exp_cu {c : Nat} : (A.exp r c).cu = A.cu := by unfold AS.exp; split <;> rfl
theorem ld_ok (hA : AI A) {t : Nat → Nat} : ∀ {i : Nat}, i ≤ A.m → AI (A.ld r t i) ∧ (A.ld r t i).on = A.on ∧ (A.ld r t i).n = A.n ∧ (A.ld r t i).m = A.m ∧ (A.ld r t i).ca = A.ca ∧ (A.ld r t i).cu = A.cu := by
  intro i
  induction i with
  | zero => intro _; exact ⟨hA, rfl, rfl, rfl, rfl, rfl⟩
  | succ i ih =>
    intro hi
    obtain ⟨h1, h2, h3, h4, h5, h6⟩ := ih (by omega)
    rw [ld_s]
    split
    · exact ⟨exp_AI h1 (by omega), by rw [exp_on]; exact h2, by rw [exp_n]; exact h3, by rw [exp_m]; exact h4, by rw [exp_ca]; exact h5, by rw [exp_cu]; exact h6⟩
    · exact ⟨h1, h2, h3, h4, h5, h6⟩
theorem expect_12 {c : Nat} (G : RC N C A rd) (hA : AI A) (hr : r < 8) (hc : c < A.m) (h : m_cRp_expect N r C c = some C') : C'.a 12 = C.a 12 := by
  obtain ⟨u0, u1, u2, u3, u4, u5, u6, u7, u8, u9, u10, u11, u12, u13, u14, u15, u16, u17, u18⟩ := G.nn
  have hm := hA.1.2.1
  have hsz := G.sz.2.2.2.2.2.2.2.2.2.2.2.2.1 r hr
  have hcg := G.cg.2.2.2 c hc
  have hw := (G.rp r hr).2.1 c (by omega)
  unfold m_cRp_expect m_cRp_expect_J0 m_cRp_expect_J40 at h
  rw [gl_ok (by omega), gl_ok (by omega), cR_holds G hA hr hc, ob_ok] at h
  cases hb : A.hasB r c with
  | true =>
    rw [hb, if_neg (show ¬ b2 true = 0 by decide)] at h
    rw [← Option.some.inj h]
  | false =>
    rw [hb, if_pos (show b2 false = 0 by decide)] at h
    simp only [] at h
    rw [hsz.2.2.1, gn_s (by omega), hcg.2.2.2.1, hsz.2.2.2.2.1, gd_ok (by omega) (by omega), cl_nI (by omega), hw] at h
    cases hwt : A.wt r c with
    | true =>
      rw [hwt, if_neg (show ¬ b2 true = 0 by decide)] at h
      rw [← Option.some.inj h]
    | false =>
      rw [hwt, if_pos (show b2 false = 0 by decide), gd_ok (by omega) (by omega)] at h
      rw [← Option.some.inj h]
      funext j1 p1
      rw [CS.a_setI, CS.a_setA, if_neg (by omega)]
theorem rload_loop (hR : RS S A) (hA : AI A) (hr : r < 8) {t : Nat → Nat} (h44 : ∀ c, c < A.m → S.a 44 c = b2 (decide (A.cu c ≤ t (A.ca c)))) : ∃ S', m_rload_L72 S (nI r) (nI 0) = some (S', nI r) ∧ RS S' (A.ld r t A.m) ∧ S'.i 0 = S.i 0 ∧ frS S S' := by
  have hm := hA.1.2.1
  have := lp_run (body := fun w : MS × Int32 × Int32 => m_rload_B72 w.1 w.2.1 w.2.2) (fun i w => ∃ W, w = (W, nI r, nI i) ∧ RS W (A.ld r t i) ∧ W.i 0 = S.i 0 ∧ frS S W ∧ W.a 44 = S.a 44) (fun e => ∃ W, e = (W, nI r) ∧ RS W (A.ld r t A.m) ∧ W.i 0 = S.i 0 ∧ frS S W) A.m ?_ FU (S, nI r, nI 0) (by unfold FU; omega) ⟨S, rfl, hR, rfl, frS.refl, rfl⟩
  · obtain ⟨e, h1, W, rfl, h2, h3, h4⟩ := this
    refine ⟨W, ?_, h2, h3, h4⟩
    unfold m_rload_L72
    exact h1
  · rintro i _ hi ⟨W, rfl, w1, w2, w3, w4⟩
    obtain ⟨k1, k2, k3, k4, k5, k6⟩ := ld_ok (r := r) (t := t) hA hi
    have w34 : W.i 34 = nI A.m := by rw [w1.1.2.1, k4]
    by_cases hin : i < A.m
    · left
      have hB : m_rload_B72 W (nI r) (nI i) = some (.inl ((if A.cu i ≤ t (A.ca i) then (if W.a (101 + r) i = 0 then W.setA (109 + r) (upd (W.a (109 + r)) i 1) else W) else W), nI r, nI (i + 1))) := by
        unfold m_rload_B72 m_rload_J109
        rw [w34, if_neg (nle hin (by omega)), gd_ok (by omega) (by omega), cl_nI (show i < 2 ^ 31 by omega), w4, h44 i hin, gd_ok hr (by omega), gd_ok (by omega) (by omega), cl_nI (show r < 2 ^ 31 by omega), gd_ok hr (by omega), gd_ok (by omega) (by omega), nI_s, show vp_nar .boolean 1 = 1 from by decide]
        by_cases e : A.cu i ≤ t (A.ca i)
        · rw [decide_eq_true e, if_neg (show ¬ b2 true = 0 by decide), if_pos e]
          by_cases e2 : W.a (101 + r) i = 0
          · rw [if_pos e2, if_pos e2]
          · rw [if_neg e2, if_neg e2]
        · rw [decide_eq_false e, if_pos (show b2 false = 0 by decide), if_neg e]
      have hx : ∀ V : MS, V = (if W.a (101 + r) i = 0 then W.setA (109 + r) (upd (W.a (109 + r)) i 1) else W) → frS W V ∧ V.i 0 = W.i 0 ∧ V.a 44 = W.a 44 := by
        intro V hV
        by_cases e : W.a (101 + r) i = 0
        · rw [if_pos e] at hV
          rw [hV]
          exact ⟨⟨fun j _ => rfl, fun k hk => by rw [MS.a_setA, if_neg (by omega)]⟩, rfl, by rw [MS.a_setA, if_neg (by omega)]⟩
        · rw [if_neg e] at hV
          rw [hV]
          exact ⟨frS.refl, rfl, rfl⟩
      refine ⟨_, by show m_rload_B72 W (nI r) (nI i) = _; exact hB, hin, _, rfl, ?_, ?_, ?_, ?_⟩
      · rw [ld_s]
        by_cases e : A.cu i ≤ t (A.ca i)
        · rw [if_pos e, if_pos e]
          exact RS_exp w1 k1 hr (by omega)
        · rw [if_neg e, if_neg e]
          exact w1
      · by_cases e : A.cu i ≤ t (A.ca i)
        · rw [if_pos e, (hx _ rfl).2.1]; exact w2
        · rw [if_neg e]; exact w2
      · by_cases e : A.cu i ≤ t (A.ca i)
        · rw [if_pos e]; exact w3.trans (hx _ rfl).1
        · rw [if_neg e]; exact w3
      · by_cases e : A.cu i ≤ t (A.ca i)
        · rw [if_pos e, (hx _ rfl).2.2]; exact w4
        · rw [if_neg e]; exact w4
    · right
      have e : i = A.m := by omega
      refine ⟨(W, nI r), ?_, W, rfl, by rw [← e]; exact w1, w2, w3⟩
      show m_rload_B72 W (nI r) (nI i) = _
      unfold m_rload_B72
      rw [w34, e, if_pos (Int32.le_refl _)]
theorem cload_loop (G : RC N C A rd) (hA : AI A) (hr : r < 8) {t : Nat → Nat} (ht : ∀ a, t a ≤ A.hv a a) (h9 : ∀ a, a < 8 → C.a 12 9 a = nI (t a)) : ∃ C', m_cJT_load_L46 N 0 C (some r) (nI 0) = some (C', some r) ∧ RC N C' (A.ld r t A.m) rd ∧ frC C C' := by
  obtain ⟨u0, u1, u2, u3, u4, u5, u6, u7, u8, u9, u10, u11, u12, u13, u14, u15, u16, u17, u18⟩ := G.nn
  have hm := hA.1.2.1
  have := lp_run (body := fun w : CS × Option Nat × Int32 => m_cJT_load_B46 N 0 w.1 w.2.1 w.2.2) (fun i w => ∃ W, w = (W, some r, nI i) ∧ RC N W (A.ld r t i) rd ∧ frC C W ∧ W.a 12 9 = C.a 12 9) (fun e => ∃ W, e = (W, some r) ∧ RC N W (A.ld r t A.m) rd ∧ frC C W) A.m ?_ FU (C, some r, nI 0) (by unfold FU; omega) ⟨C, rfl, G, frC.refl, rfl⟩
  · obtain ⟨e, h1, W, rfl, h2, h3⟩ := this
    refine ⟨W, ?_, h2, h3⟩
    unfold m_cJT_load_L46
    exact h1
  · rintro i _ hi ⟨W, rfl, w1, w2, w3⟩
    obtain ⟨k1, k2, k3, k4, k5, k6⟩ := ld_ok (r := r) (t := t) hA hi
    have w84 : W.i 8 4 0 = nI A.m := by rw [w1.cg.1, k4]
    have hst8 := w1.st
    by_cases hin : i < A.m
    · left
      have hcg := w1.cg.2.2.2 i (by omega)
      have hca := (hA.2.1.1 i hin).1
      have hcu := cu_le hA hin
      have htl := ht (A.ca i)
      have hvm := hv_m hA (A.ca i)
      have hz9 : W.z 12 9 = 8 := w1.sz.2.2.2.2.2.2.2.2.2.2.2.2.2.1 9 (by omega)
      have hB : m_cJT_load_B46 N 0 W (some r) (nI i) = if A.cu i ≤ t (A.ca i) then ob (m_cRp_expect N r W i) (fun o_23 => m_cJT_load_J95 N 0 o_23 (some r) (nI i)) else m_cJT_load_J95 N 0 W (some r) (nI i) := by
        unfold m_cJT_load_B46
        rw [gl_ok (by omega), hst8.1, gn_s (by omega), w84, if_neg (nle hin (by omega)), hst8.2.2.2.2.2.2.2.2.2.2.1, gn_s (by omega), w1.sz.2.2.1, gd_ok (by omega) (by omega), cl_nI (by omega), hcg.1, gn_s (by omega), hst8.2.2.2.2.2.1, gn_s (by omega), hst8.2.2.2.2.2.2.2.2.2.2.2.2.2.2.2.2.2.2.2.2, gn_s (by omega), hcg.2.1, k5, hz9, gd_ok (by omega) (by omega), cl_nI (by omega), w3, h9 _ hca, hcg.2.2.1, k6, gn_s (by omega)]
        by_cases e : A.cu i ≤ t (A.ca i)
        · rw [if_neg (fun h => by have := (nI_ltI (by omega) (by omega)).mp h; omega), if_pos e]
        · rw [if_pos ((nI_ltI (by omega) (by omega)).mpr (by omega)), if_neg e]
      by_cases e : A.cu i ≤ t (A.ca i)
      · obtain ⟨W2, x1, x2, x3⟩ := cR_expect w1 k1 hr (c := i) (by omega)
        refine ⟨(W2, some r, nI (i + 1)), ?_, hin, W2, rfl, by rw [ld_s, if_pos e]; exact x2, w2.trans x3, by rw [expect_12 w1 k1 hr (c := i) (by omega) x1]; exact w3⟩
        show m_cJT_load_B46 N 0 W (some r) (nI i) = _
        rw [hB, if_pos e, x1, ob_ok]
        unfold m_cJT_load_J95
        rw [nI_s]
      · refine ⟨(W, some r, nI (i + 1)), ?_, hin, W, rfl, by rw [ld_s, if_neg e]; exact w1, w2, w3⟩
        show m_cJT_load_B46 N 0 W (some r) (nI i) = _
        rw [hB, if_neg e]
        unfold m_cJT_load_J95
        rw [nI_s]
    · right
      have e : i = A.m := by omega
      refine ⟨(W, some r), ?_, W, rfl, by rw [← e]; exact w1, w2⟩
      show m_cJT_load_B46 N 0 W (some r) (nI i) = _
      unfold m_cJT_load_B46
      rw [gl_ok (by omega), hst8.1, gn_s (by omega), w84, e, if_pos (Int32.le_refl _)]
theorem RIO.x4 (h : RIO S C bi bf bs bo ji jf js a) (hX : X4 C C') (hw : RW C' 3 bo.length) (hb : RB C' 3 0 bo) : RIO S C' bi bf bs bo ji jf js a := by
  obtain ⟨⟨a1, a2, a3, a4, a5, a6, a7⟩, ⟨b1, b2', b3, b4, b5⟩, ⟨c1, c2, c3, c4, c5⟩, ⟨d1, d2, d3, d4, d5⟩, ⟨e1, e2, e3, e4⟩, ⟨f1, f2, f3⟩, g1, sv, g2, g3⟩ := h
  have hRW : ∀ {j l : Nat}, j ≠ 3 → RW C j l → RW C' j l := fun hj hr => ⟨hr.1, by rw [hX.rr]; exact hr.2.1, by rw [hX.ii (by omega) (by omega)]; exact hr.2.2.1, by rw [hX.zz]; exact hr.2.2.2.1, by rw [hX.zz]; exact hr.2.2.2.2⟩
  have hRB : ∀ {j p : Nat} {k : List Nat}, j ≠ 3 → RB C j p k → RB C' j p k := fun hj hr i hi => by rw [hX.aa (by omega) (by omega)]; exact hr i hi
  exact ⟨⟨by rw [hX.rr]; exact a1, by rw [hX.rr]; exact a2, by rw [hX.rr]; exact a3, a4, a5, a6, a7⟩, ⟨hRW (by omega) b1, hRB (by omega) b2', b3, b4, b5⟩, ⟨hRW (by omega) c1, hRB (by omega) c2, c3, c4, c5⟩, ⟨hRW (by omega) d1, hRB (by omega) d2, d3, d4, d5⟩, ⟨hw, hb, e3, e4⟩, ⟨f1, by rw [hX.ii (by omega) (by omega)]; exact f2, f3⟩, by rw [hX.ii (by omega) (by omega)]; exact g1, sv, g2, by rw [hX.ii (by omega) (by omega)]; exact g3⟩
theorem RIO.xl {W : MS} (h : RIO S C bi bf bs bo ji jf js a) (hX : XL (S.setI 76 (S.i 41)) W) : RIO (W.setI 41 (W.i 76)) C bi bf bs bo ji jf js a := by
  obtain ⟨a1, ⟨b1, b2', b3, b4, b5⟩, ⟨c1, c2, c3, c4, c5⟩, ⟨d1, d2, d3, d4, d5⟩, ⟨e1, e2, e3, e4⟩, ⟨f1, f2, f3⟩, g1, sv, g2, g3⟩ := h
  have h76 : W.i 76 = S.i 41 := by rw [hX.1 76 (by decide) (by decide), MS.i_setI, if_pos rfl]
  have hi : ∀ j, j = 4 ∨ j = 5 ∨ j = 6 ∨ j = 7 ∨ j = 42 ∨ j = 43 → (W.setI 41 (W.i 76)).i j = S.i j := fun j hj => by
    rw [MS.i_setI, if_neg (by omega), hX.1 j (by omega) (by omega), MS.i_setI, if_neg (by omega)]
  have ha : ∀ k, k = 1 ∨ k = 2 ∨ k = 3 → (W.setI 41 (W.i 76)).a k = S.a k := fun k hk => by
    rw [MS.a_setI, hX.2.1 k (by omega) (by omega), MS.a_setI]
  refine ⟨a1, ⟨b1, b2', by rw [hi 4 (by omega)]; exact b3, byts_fr b4 (ha 1 (by omega)), b5⟩, ⟨c1, c2, by rw [hi 5 (by omega)]; exact c3, byts_fr c4 (ha 2 (by omega)), c5⟩, ⟨d1, d2, by rw [hi 6 (by omega)]; exact d3, byts_fr d4 (ha 3 (by omega)), d5⟩, ⟨e1, e2, by rw [MS.i_setI, if_pos rfl, h76]; exact e3, ?_⟩, ⟨by rw [hi 7 (by omega)]; exact f1, f2, f3⟩, by rw [hi 42 (by omega)]; exact g1, sv, by rw [hi 43 (by omega)]; exact g2, g3⟩
  intro i hi2
  have h1 := e1.2.2.2
  rw [MS.a_setI, hX.2.2 _ (by omega), MS.a_setI]
  exact e4 i hi2
set_option maxHeartbeats 1000000 in
theorem call_load (hI : INV S N C A rd) (x1 : Int32) : SLIKE [(1, 1), (2, 2), (5, 3)] A rd N (m_cJT_load N 0 C x1) (m_rload S x1) := by
  obtain ⟨hR, G, hA, bi, bf, bs, bo, ji, jf, js, a, hio⟩ := hI
  obtain ⟨u0, u1, u2, u3, u4, u5, u6, u7, u8, u9, u10, u11, u12, u13, u14, u15, u16, u17, u18⟩ := G.nn
  obtain ⟨s1, s2, s3, s4, s5, s6, s7, s8, s9, s10, s11, s12, s13, s14, s15, s16, s17, s18, s19, s20, s21⟩ := G.st
  have hm := hA.1.2.1
  rcases rep_or x1 with hx1 | ⟨r, hr, rfl⟩
  · refine slikeT (t := 1) (k := 1) (C' := C) (S1 := S) (v := nI 0) ?_ ?_ rfl hR G hA hio (Nat.le_refl _) (by omega)
    · unfold m_cJT_load m_cJT_load_J0
      rw [gl_ok (by omega), cJ_shownN hx1, oe_r]
    · unfold m_rload m_rload_J0
      rw [pS_isN hx1]
      rfl
  obtain ⟨C2, hsh, G2, hv2, hfr2⟩ := cJ_shown G hA hr
  have hio2 := hio.fr frS.refl hfr2
  have hcx : m_cJT_load N 0 C (nI r) = oe (some (if A.on r = 0 then Sum.inl C2 else Sum.inr (C2, 2))) (fun o_7 => (if o_7.i 11 7 0 = 0 then some (.inr (o_7, 2)) else gn (o_7.r 11 5 0) (N 6) (fun j_11 => ob (m_cSv_isRight N j_11 o_7) (fun o_14 => (if o_14.2 = 0 then some (.inr (o_14.1, 5)) else ob (m_cJT_load_L46 N 0 o_14.1 (some r) 0) (fun b_17 => gn b_17.2 (N 4) (fun j_19 => gn (b_17.1.r 11 0 0) (N 8) (fun j_22 => ob (m_cSt_settle N j_22 b_17.1 j_19) (fun o_25 => some (.inl (o_25.1, o_25.2))))))))))) (fun t_9 => some (.inr t_9)) := by
    unfold m_cJT_load m_cJT_load_J0
    rw [gl_ok (by omega), hsh, oe_l]
    simp only []
    rw [gn_s (by omega), cJ_needNone G2 hA hr]
  have hrx : m_rload S (nI r) = (if 0 < nI (A.on r) then m_rload_J28 S else (if S.i 43 = 0 then m_rload_J28 S else ob (m_risSaved (S.setI 76 (S.i 41))) (fun o_8 => (if o_8.2 = 0 then ob (m_rno (o_8.1.setI 41 (o_8.1.i 76)) 3) (fun o_15 => some (o_15.1, o_15.2)) else ob (m_rload_L72 ((o_8.1.setI 41 (o_8.1.i 76)).setI 0 0) (nI r) 0) (fun b_11 => ob (m_rsettle b_11.1 b_11.2) (fun o_13 => some (o_13.1, o_13.2))))))) := by
    unfold m_rload m_rload_J0
    rw [pS_isR hr, ob_ok, if_neg (show ¬ nI 1 = 0 by decide)]
    simp only []
    rw [pS_open hR hA hr, ob_ok]
  have hop := open_le (r := r) hA
  by_cases e : A.on r = 0
  case neg =>
    rw [if_neg e, oe_r] at hcx
    rw [if_pos (Int32.not_le.mp (fun h => e (hop.mp h)))] at hrx
    exact slikeT (t := 2) (k := 2) (C' := C2) (S1 := S) (v := nI 0) hcx (hrx.trans rfl) rfl hR G2 hA hio2 (Nat.le_refl _) (by omega)
  rw [if_pos e, oe_l] at hcx
  rw [if_neg (Int32.not_lt.mpr (hop.mpr e))] at hrx
  have hio3 := hio2
  obtain ⟨_, _, _, _, ⟨o1, o2, o3, o4⟩, _, _, sv, v1, v2⟩ := hio3
  rw [v2] at hcx
  rw [v1] at hrx
  cases sv with
  | false =>
    rw [if_pos (show b2 false = 0 by decide)] at hcx hrx
    exact slikeT (t := 2) (k := 2) (C' := C2) (S1 := S) (v := nI 0) hcx (hrx.trans rfl) rfl hR G2 hA hio2 (Nat.le_refl _) (by omega)
  | true =>
    rw [if_neg (show ¬ b2 true = 0 by decide)] at hcx hrx
    rw [G2.st.2.2.2.2.2.1, gn_s (by omega)] at hcx
    have hK := LOK_of G2 hA
    have hOB : OB (S.setI 76 (S.i 41)) bo := by
      refine ⟨by rw [MS.i_setI, if_pos rfl]; exact o3, fun i hi => by rw [MS.a_setI]; exact o4 i hi, ?_⟩
      have := o1.2.2.2
      omega
    obtain ⟨C3, ok, k, c1, c2, c3, c4, c5, c6, c7, c8⟩ := k_right G2 hA o1 o2
    obtain ⟨W, ok', t, w1, w2, w3, w4, w5⟩ := r_isSaved (hR.setI (k := 76) rfl) hA hK hOB
    have hio4 : RIO (W.setI 41 (W.i 76)) C3 bi bf bs bo ji jf js a := (hio2.x4 c2 c3 c4).xl w3
    have hR4 : RS (W.setI 41 (W.i 76)) A := w2.setI rfl
    have G3 := c2.RC G2
    rw [c1, ob_ok] at hcx
    rw [w1, ob_ok] at hrx
    simp only [] at hcx hrx
    cases hok : ok' with
    | false =>
      have hno := w5 hok
      have hokc : ok = false := by
        cases hc : ok with
        | false => rfl
        | true => exact absurd (c7 hc) (hno k c5)
      rw [hokc, if_pos (show b2 false = 0 by decide)] at hcx
      rw [hok, if_pos (show b2 false = 0 by decide)] at hrx
      exact slikeT (t := 5) (k := 3) (C' := C3) (S1 := W.setI 41 (W.i 76)) (v := nI 0) hcx (hrx.trans rfl) rfl hR4 G3 hA hio4 (Nat.le_refl _) (by omega)
    | true =>
      obtain ⟨ht, hbt, h44⟩ := w4 hok
      obtain ⟨hokc, hkt⟩ := c8 t ht hbt
      rw [hokc, if_neg (show ¬ b2 true = 0 by decide)] at hcx
      rw [hok, if_neg (show ¬ b2 true = 0 by decide)] at hrx
      obtain ⟨C4, d1, G4, d3⟩ := cload_loop G3 hA hr ht (fun a ha => by rw [c6 a ha, hkt a ha])
      have h44b : ∀ c, c < A.m → ((W.setI 41 (W.i 76)).setI 0 (nI 0)).a 44 c = b2 (decide (A.cu c ≤ t (A.ca c))) := by
        intro c hc
        have hd : decide (c ∈ A.chs t) = decide (A.cu c ≤ t (A.ca c)) := by
          rw [decide_eq_decide, chs_mem hA ht]
          exact ⟨fun h => h.2, fun h => ⟨hc, h⟩⟩
        rw [MS.a_setI, MS.a_setI, h44 c (by omega), hd]
      obtain ⟨S4, s1', R4, s3', s4'⟩ := rload_loop (S := (W.setI 41 (W.i 76)).setI 0 (nI 0)) (hR4.setI rfl) hA hr h44b
      obtain ⟨k1, k2, k3, k4, _, _⟩ := ld_ok (r := r) (t := t) hA (Nat.le_refl _)
      obtain ⟨B, hB⟩ : ∃ B, B = A.ld r t A.m := ⟨_, rfl⟩
      rw [← hB] at k1 k2 k3 k4 G4 R4
      have hBon : B.on r = 0 := by rw [k2]; exact e
      obtain ⟨C5, e1, G5, e3⟩ := cS_settle G4 k1 hr hBon
      obtain ⟨S5, f1, R5, f3, f4⟩ := pS_settle R4 k1 hr hBon
      obtain ⟨m1, m2, m3, m4, m5⟩ := stl_ok k1 hBon (Nat.le_refl _)
      rw [show m_cJT_load_L46 N 0 C3 (some r) 0 = _ from d1, ob_ok] at hcx
      simp only [] at hcx
      rw [gn_s (by omega), G4.st.1, gn_s (by omega), e1] at hcx
      rw [show m_rload_L72 ((W.setI 41 (W.i 76)).setI 0 0) (nI r) 0 = _ from s1', ob_ok] at hrx
      simp only [] at hrx
      rw [f1] at hrx
      exact Or.inl ⟨C5, _, S5, _, rd, hcx, hrx, by rw [f3, s3', MS.i_setI, if_pos rfl], ⟨R5, G5, m1, bi, bf, bs, bo, ji, jf, js, a, hio4.fr (((frS_setI (by decide)).trans s4').trans f4) (d3.trans e3)⟩, by rw [m3, k3], by rw [m4, k4], Nat.le_refl _, by omega⟩
end LDH
