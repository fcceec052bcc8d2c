/-! THE CALL commit. -/
section CCP
variable {S S' : MS} {N : Nat → Nat} {C C' : CS} {A : AS} {r rd : Nat} {bi bf bs bo : List Nat} {ji jf js a : Nat}
theorem cm_headO (hA : AI A) {q d : Nat} (hq : q ≠ r) : (A.cm r).head q d ↔ A.head q d := by
  have hlt : ∀ {c}, (A.cm r).has q c → c < A.m := by
    intro c hc
    have h1 := hc.1
    rw [cm_m] at h1
    by_cases e : c = A.m
    · rw [e] at hc
      exact absurd ((cm_has1 hA).mp hc) hq
    · omega
  constructor
  · rintro ⟨h1, h2⟩
    refine ⟨(cm_has hA (hlt h1)).mp h1, fun e he => ?_⟩
    have := h2 e ((cm_has hA he.1).mpr he)
    rw [cm_dp, if_neg (by have := he.1; omega)] at this
    exact this
  · rintro ⟨h1, h2⟩
    refine ⟨(cm_has hA h1.1).mpr h1, fun e he => ?_⟩
    have hl := hlt he
    rw [cm_dp, if_neg (by omega)]
    exact h2 e ((cm_has hA hl).mp he)
theorem cm_headR (hA : AI A) {d : Nat} : (A.cm r).head r d ↔ d = A.m := by
  constructor
  · rintro ⟨h1, h2⟩
    have hd := h1.1
    rw [cm_m] at hd
    by_cases e : d = A.m
    · exact e
    · have hd' : d < A.m := by omega
      have hh := (cm_has hA hd').mp h1
      have hb := h2 A.m ((cm_has1 hA).mpr rfl)
      rw [cm_dp, if_pos rfl] at hb
      have : A.headB r d = true := by
        refine headB_iff.mpr ⟨hh, fun e he => ?_⟩
        have := h2 e ((cm_has hA he.1).mpr he)
        rw [cm_dp, if_neg (by have := he.1; omega)] at this
        exact this
      rw [this] at hb
      cases hb
  · rintro rfl
    refine ⟨(cm_has1 hA).mpr rfl, fun e he => ?_⟩
    have h1 := he.1
    rw [cm_m] at h1
    rw [cm_dp]
    by_cases e2 : e = A.m
    · rw [if_pos e2]
      cases hb : A.headB r A.m with
      | false => rfl
      | true => have := (headB_iff.mp hb).1.1; omega
    · rw [if_neg e2]
      cases hb : A.dp e A.m with
      | false => rfl
      | true => have := (hA.2.1.2.2.2.2.2.2.1 e A.m (by omega) hb).1; omega
theorem cm_hasB (hA : AI A) {q c : Nat} (hc : c < A.m) : (A.cm r).hasB q c = A.hasB q c := by
  cases hb : A.hasB q c with
  | true => exact hasB_iff.mpr ((cm_has hA hc).mpr (hasB_iff.mp hb))
  | false =>
    cases hb2 : (A.cm r).hasB q c with
    | false => rfl
    | true => rw [hasB_iff.mpr ((cm_has hA hc).mp (hasB_iff.mp hb2))] at hb; cases hb
theorem cm_nch (hA : AI A) {q : Nat} : (A.cm r).nch q = A.nch q + (if q = r then 1 else 0) := by
  unfold AS.nch
  rw [cm_m, cntTo_s, cntTo_congr (fun c hc => cm_hasB (r := r) (q := q) hA hc)]
  congr 1
  by_cases e : q = r
  · rw [if_pos e, if_pos (hasB_iff.mpr ((cm_has1 hA).mpr e))]
  · rw [if_neg e, if_neg (fun h => e ((cm_has1 hA).mp (hasB_iff.mp h)))]
theorem cm_nwt (hA : AI A) {q : Nat} : (A.cm r).nwt q = A.nwt q := by
  unfold AS.nwt
  rw [cm_m, cm_wt, cntTo_s, if_neg]
  · rfl
  · intro h
    have := (hA.2.1.2.2.2.2.2.2.2.2.2 q A.m h).1
    omega
theorem cm_nop (hA : AI A) {q : Nat} : (A.cm r).nop q = A.nop q := by
  unfold AS.nop
  rw [cm_n]
  refine cntTo_congr (fun o ho => ?_)
  unfold AS.owns
  rw [cm_chg]
  show (decide (A.gone o = 0) && _) = _
  congr 1
  by_cases e : A.opn r o = true
  · rw [if_pos e]
    obtain ⟨_, e2, e3, e4⟩ := opn_iff.mp e
    rw [e3]
    show (A.cm r).hasB q A.m = decide (A.own o = q)
    rw [e4]
    by_cases e5 : q = r
    · rw [decide_eq_true e5.symm]
      exact hasB_iff.mpr ((cm_has1 hA).mpr e5)
    · rw [decide_eq_false (Ne.symm e5)]
      cases hb : (A.cm r).hasB q A.m with
      | false => rfl
      | true => exact absurd ((cm_has1 hA).mp (hasB_iff.mp hb)) e5
  · rw [if_neg e]
    cases hx : A.chg o with
    | none => rfl
    | some c => exact cm_hasB hA (chg_lt hA ho hx)
theorem RC_cm {F : CS} {g : Nat → Option Nat} (G : RC N C A rd) (hA : AI A) (hr : r < 8) (hm1 : A.m < 1000) (K : CLS C F A r g) (hw : WF (Nup (Nup (Nup N 0) 16) 12) F) (hg : ∀ k (h : k < (hdL (C.q 16 (1 + r)) 8).length), g k = some (hdL (C.q 16 (1 + r)) 8)[k]) : RC (Nup (Nup (Nup N 0) 16) 12) F (A.cm r) rd := by
  have hrpr := G.rp r hr
  have hdm : ∀ d, d ∈ hdL (C.q 16 (1 + r)) 8 ↔ A.headB r d = true := by
    intro d
    rw [hdL_mem, headB_iff]
    constructor
    · rintro ⟨x, h1, h2⟩
      exact ((hrpr.2.2.1 x d h1).mp h2).1
    · intro h
      have hca := (hA.2.1.1 d h.1.1).1
      exact ⟨A.ca d, hca, (hrpr.2.2.1 _ d hca).mpr ⟨h, rfl⟩⟩
  obtain ⟨⟨g1, g2, g3, g4, g5, g6, g7, g8, g9, g10, g11, g12⟩, h1, h2, h3⟩ := G
  obtain ⟨u0, u1, u2, u3, u4, u5, u6, u7, u8, u9, u10, u11, u12, u13, u14, u15, u16, u17, u18⟩ := g1
  have hNk : ∀ k, k ≠ 0 → k ≠ 12 → k ≠ 16 → Nup (Nup (Nup N 0) 16) 12 k = N k := fun k e1 e2 e3 => by rw [nup_i, if_neg e2, nup_i, if_neg e3, nup_i, if_neg e1]
  have hN0 : Nup (Nup (Nup N 0) 16) 12 0 = A.m + 1 := by rw [nup_i, if_neg (by decide), nup_i, if_neg (by decide), nup_i, if_pos rfl, u0]
  have hN12 : Nup (Nup (Nup N 0) 16) 12 12 = 10 + (A.m + 1) := by rw [nup_i, if_pos rfl, nup_i, if_neg (by decide), nup_i, if_neg (by decide), u12]; omega
  have hN16 : Nup (Nup (Nup N 0) 16) 12 16 = 9 + (A.m + 1) := by rw [nup_i, if_neg (by decide), nup_i, if_pos rfl, nup_i, if_neg (by decide), u16]; omega
  obtain ⟨M, hM⟩ : ∃ M, M = Nup (Nup (Nup N 0) 16) 12 := ⟨_, rfl⟩
  rw [← hM] at hNk hN0 hN12 hN16 hw ⊢
  clear hM
  have i3 : ∀ f j, F.i 3 f j = C.i 3 f j := fun f j => K.iO 3 f j (by omega) (by omega) (by omega) (by omega) (by omega)
  have r3 : ∀ k f j, k ≠ 0 → k ≠ 12 → k ≠ 16 → F.r k f j = C.r k f j := K.rO
  have q15 : ∀ j p, F.q 15 j p = C.q 15 j p := fun j p => K.qO 15 j p (by omega) (by omega) (by omega)
  refine ⟨⟨?_, hw, ?_, ?_, ?_, ?_, ⟨?_, ?_⟩, ⟨?_, ?_⟩, ⟨K.i84, ?_, ?_, ?_⟩, ?_, ?_, ?_⟩, ?_, ?_, ?_⟩
  · refine ⟨hN0, ?_⟩
    rw [hNk 1 (by omega) (by omega) (by omega), hNk 2 (by omega) (by omega) (by omega), hNk 3 (by omega) (by omega) (by omega), hNk 4 (by omega) (by omega) (by omega), hNk 5 (by omega) (by omega) (by omega), hNk 6 (by omega) (by omega) (by omega), hNk 7 (by omega) (by omega) (by omega), hNk 8 (by omega) (by omega) (by omega), hNk 9 (by omega) (by omega) (by omega), hNk 10 (by omega) (by omega) (by omega), hNk 11 (by omega) (by omega) (by omega), hNk 13 (by omega) (by omega) (by omega), hNk 14 (by omega) (by omega) (by omega), hNk 15 (by omega) (by omega) (by omega), hNk 17 (by omega) (by omega) (by omega), hNk 18 (by omega) (by omega) (by omega)]
    exact ⟨u1, u2, u3, u4, u5, u6, u7, u8, u9, u10, u11, hN12, u13, u14, u15, hN16, u17, u18⟩
  · unfold RC_st at *
    simp only [r3 11 _ _ (by omega) (by omega) (by omega), r3 8 _ _ (by omega) (by omega) (by omega), r3 10 _ _ (by omega) (by omega) (by omega), r3 1 _ _ (by omega) (by omega) (by omega), r3 2 _ _ (by omega) (by omega) (by omega), r3 6 _ _ (by omega) (by omega) (by omega)]
    exact g3
  · obtain ⟨z1, z2, z3, z4, z5, z6, z7, z8, z9, z10, z11, z12, z13, z14, z15, z16⟩ := g4
    refine ⟨?_, ?_, ?_, ?_, ?_, ?_, ?_, ?_, ?_, ?_, ?_, ?_, ?_, ?_, ?_, ?_⟩
    · rw [K.zO _ _ (by omega) (by omega) (by omega)]; exact z1
    · rw [K.zO _ _ (by omega) (by omega) (by omega)]; exact z2
    · rw [K.zO _ _ (by omega) (by omega) (by omega)]; exact z3
    · rw [K.zO _ _ (by omega) (by omega) (by omega)]; exact z4
    · rw [K.zO _ _ (by omega) (by omega) (by omega)]; exact z5
    · rw [K.zO _ _ (by omega) (by omega) (by omega)]; exact z6
    · rw [K.zO _ _ (by omega) (by omega) (by omega)]; exact z7
    · rw [K.zO _ _ (by omega) (by omega) (by omega)]; exact z8
    · rw [K.zO _ _ (by omega) (by omega) (by omega)]; exact z9
    · rw [K.zO _ _ (by omega) (by omega) (by omega)]; exact z10
    · rw [K.zO _ _ (by omega) (by omega) (by omega)]; exact z11
    · rw [K.zO _ _ (by omega) (by omega) (by omega)]; exact z12
    · intro q hq
      have := z13 q hq
      rw [K.iO 4 0 q (by omega) (by omega) (by omega) (by omega) (by omega), r3 4 1 q (by omega) (by omega) (by omega), r3 4 2 q (by omega) (by omega) (by omega), r3 4 3 q (by omega) (by omega) (by omega), K.zO 14 q (by omega) (by omega) (by omega), K.zO 16 (1 + q) (by omega) (by omega) (by omega), K.qO 17 0 q (by omega) (by omega) (by omega)]
      exact this
    · intro j hj
      rw [cm_m] at hj
      by_cases e : j = 10 + A.m
      · rw [e]; exact K.zc
      · rw [K.zO 12 j (by omega) (by omega) (by omega)]
        exact z14 j (by omega)
    · intro j hj
      rw [r3 5 0 j (by omega) (by omega) (by omega)]
      exact z15 j hj
    · intro j hj
      rw [K.qO 18 0 j (by omega) (by omega) (by omega)]
      exact z16 j hj
  · unfold RC_rt at *
    rw [i3, i3, i3, i3, i3, r3 3 1 0 (by omega) (by omega) (by omega)]
    exact g5
  · intro o ho
    have := g6 o ho
    show match A.pre o with
      | [] => F.r 3 7 (o + 1) = none
      | l => ∃ j, 2 ≤ j ∧ j < M 15 ∧ F.r 3 7 (o + 1) = some j ∧ F.z 15 j = l.length ∧ ∀ k (h : k < l.length), F.q 15 j k = some (l[k] + 1)
    rw [r3 3 7 (o + 1) (by omega) (by omega) (by omega), hNk 15 (by omega) (by omega) (by omega)]
    cases hp : A.pre o with
    | nil => rw [hp] at this; exact this
    | cons x l =>
      rw [hp] at this
      obtain ⟨j, b1, b2, b3, b4, b5⟩ := this
      exact ⟨j, b1, b2, b3, by rw [K.zO 15 j (by omega) (by omega) (by omega)]; exact b4, fun k hk => by rw [q15]; exact b5 k hk⟩
  · intro o ho hgn
    rw [q15]
    exact g7.1 o ho hgn
  · intro i j hj
    rw [q15] at hj
    exact g7.2 i j hj
  · rw [K.iO 5 1 0 (by omega) (by omega) (by omega) (by omega) (by omega)]
    exact g8.1
  · intro o ho
    have := g8.2 o ho
    refine ⟨this.1, fun i hi => ?_, fun i hi => ?_, this.2.2.2⟩
    · rw [K.aO 13 0 _ (by omega) (by omega) (by omega)]
      exact this.2.1 i hi
    · rw [K.aO 13 0 _ (by omega) (by omega) (by omega)]
      exact this.2.2.1 i hi
  · rw [K.iO 8 5 0 (by omega) (by omega) (by omega) (by omega) (by omega)]
    exact g9.2.1
  · intro c hc hmc
    rw [cm_m] at hmc
    rw [K.qO 16 0 c (by omega) (by omega) (by omega)]
    exact g9.2.2.1 c hc (by omega)
  · intro c hc
    rw [cm_m] at hc
    rw [cm_ca, cm_cu, cm_cf, cm_cz]
    by_cases e : c = A.m
    · subst e
      rw [if_pos rfl, if_pos rfl, if_pos rfl, if_pos rfl]
      refine ⟨K.qm, K.i00, K.i01, K.i02, K.i03, K.i04, K.r05, K.r06, ?_, hdL (C.q 16 (1 + r)) 8, K.zd, ?_, ?_, ?_, ?_⟩
      · intro x hx
        rw [K.an, cm_cl, if_pos rfl]
        by_cases e : x = r
        · rw [if_pos e, if_pos e, e]
        · rw [if_neg e, if_neg e]
          exact hrpr.1 x hx
      · rw [hdL_len]; exact cntTo_le _ _
      · intro d
        rw [cm_dp, if_pos rfl]
        exact hdm d
      · have hpw : (hdL (C.q 16 (1 + r)) 8).Pairwise (fun a b => A.ca a < A.ca b) := by
          have hlt : hdL (C.q 16 (1 + r)) 8 = hdL (fun a => if a < 8 then C.q 16 (1 + r) a else none) 8 := rfl
          rw [hlt]
          refine hdL_pw ?_
          intro x d h
          split at h
          · rename_i hx
            exact ((hrpr.2.2.1 x d hx).mp h).2
          · cases h
        refine hpw.imp_of_mem ?_
        intro x y hx hy hxy
        have h1 := (headB_iff.mp ((hdm x).mp hx)).1.1
        have h2 := (headB_iff.mp ((hdm y).mp hy)).1.1
        rw [cm_ca, cm_ca, if_neg (by omega), if_neg (by omega)]
        exact hxy
      · intro k hk
        rw [K.qd]
        exact hg k hk
    · obtain ⟨b1, b2', b3, b4, b5, b6, b7, b8, b9, dl, d1, d2, d3, d4, d5⟩ := g9.2.2.2 c (by omega)
      rw [if_neg e, if_neg e, if_neg e, if_neg e]
      refine ⟨?_, ?_, ?_, ?_, ?_, ?_, ?_, ?_, ?_, dl, ?_, d2, ?_, ?_, ?_⟩
      · rw [K.qO 16 0 c (by omega) (by omega) (by omega)]; exact b1
      · rw [K.i0 _ _ e]; exact b2'
      · rw [K.i0 _ _ e]; exact b3
      · rw [K.i0 _ _ e]; exact b4
      · rw [K.i0 _ _ e]; exact b5
      · rw [K.i0 _ _ e]; exact b6
      · rw [K.r0 _ _ e]; exact b7
      · rw [K.r0 _ _ e]; exact b8
      · intro x hx
        rw [cm_cl, if_neg e, K.aO 12 (10 + c) x (by omega) (by omega) (by omega)]
        exact b9 x hx
      · rw [K.zO 16 (9 + c) (by omega) (by omega) (by omega)]; exact d1
      · intro d
        rw [cm_dp, if_neg e]; exact d3 d
      · refine d4.imp_of_mem ?_
        intro x y hx hy hxy
        have h1 := (hA.2.1.2.2.2.2.2.2.1 c x (by omega) ((d3 x).mp hx)).1
        have h2 := (hA.2.1.2.2.2.2.2.2.1 c y (by omega) ((d3 y).mp hy)).1
        rw [cm_ca, cm_ca, if_neg (by omega), if_neg (by omega)]
        exact hxy
      · intro k hk
        rw [K.qO 16 (9 + c) k (by omega) (by omega) (by omega)]
        exact d5 k hk
  · intro q hq
    obtain ⟨b1, b2', b3, b4, b5, b6, b7, b8, b9⟩ := g10 q hq
    refine ⟨?_, ?_, ?_, ?_, ?_, ?_, ?_, ?_, ?_⟩
    · intro x hx
      rw [cm_hv]
      by_cases e : q = r ∧ x = r
      · rw [if_pos e, e.1, e.2]; exact K.ar
      · rw [if_neg e, K.aO 12 q x (by omega) (by omega) (by omega)]
        exact b1 x hx
    · intro c hc
      rw [K.aO 14 q c (by omega) (by omega) (by omega), cm_wt]
      exact b2' c hc
    · intro x d hx
      by_cases e : q = r
      · subst e
        rw [K.qh, cm_headR hA]
        unfold updO
        by_cases e2 : x = q
        · rw [if_pos e2]
          constructor
          · intro h
            rw [← Option.some.inj h, cm_ca, if_pos rfl]
            exact ⟨rfl, e2.symm⟩
          · rintro ⟨h1, _⟩
            rw [h1]
        · rw [if_neg e2]
          constructor
          · intro h
            exfalso
            unfold hdO at h
            split at h
            · cases h
            · rename_i hn
              have hd := (b3 x d hx).mp h
              apply hn
              rw [List.any_eq_true]
              refine ⟨d, (hdm d).mpr (headB_iff.mpr hd.1), ?_⟩
              simp [hd.2, h]
          · rintro ⟨h1, h2⟩
            rw [h1, cm_ca, if_pos rfl] at h2
            exact absurd h2.symm e2
      · rw [K.qO 16 (1 + q) x (by omega) (by omega) (by omega), b3 x d hx, cm_headO hA e]
        constructor
        · rintro ⟨h1, h2⟩
          refine ⟨h1, ?_⟩
          rw [cm_ca, if_neg (by have := h1.1.1; omega)]
          exact h2
        · rintro ⟨h1, h2⟩
          refine ⟨h1, ?_⟩
          rw [cm_ca, if_neg (by have := h1.1.1; omega)] at h2
          exact h2
    · rw [r3 4 4 q (by omega) (by omega) (by omega), cm_lk]; exact b4
    · rw [cm_nch hA]
      by_cases e : q = r
      · rw [if_pos e, e]; exact K.i45
      · rw [if_neg e, K.iO 4 5 q (by omega) (by omega) (by omega) (by omega) (by omega)]; exact b5
    · rw [cm_nwt hA, K.iO 4 6 q (by omega) (by omega) (by omega) (by omega) (by omega)]; exact b6
    · rw [cm_nop hA, K.iO 4 7 q (by omega) (by omega) (by omega) (by omega) (by omega)]; exact b7
    · rw [cm_tp, K.iO 4 8 q (by omega) (by omega) (by omega) (by omega) (by omega)]; exact b8
    · rw [cm_on]
      by_cases e : q = r
      · rw [if_pos e, e]; exact K.i49
      · rw [if_neg e, K.iO 4 9 q (by omega) (by omega) (by omega) (by omega) (by omega)]; exact b9
  · intro o ho
    rw [i3, i3, i3, i3, i3, i3, i3, r3 3 1 (o + 1) (by omega) (by omega) (by omega), r3 3 6 (o + 1) (by omega) (by omega) (by omega), r3 3 11 (o + 1) (by omega) (by omega) (by omega), K.lO 3 3 (o + 1) (by omega) (by omega) (by omega)]
    exact g11 o ho
  · have e3 : F.r 3 = C.r 3 := funext (fun f => funext (fun j => r3 3 f j (by omega) (by omega) (by omega)))
    have e7 : F.r 7 = C.r 7 := funext (fun f => funext (fun j => r3 7 f j (by omega) (by omega) (by omega)))
    unfold RC_ln at *
    rw [e3, e7]
    exact g12
  · rw [K.iO 10 4 0 (by omega) (by omega) (by omega) (by omega) (by omega)]
    exact h1
  · intro j hj
    rw [i3]
    exact h2 j hj
  · intro p y hy
    rw [q15] at hy
    exact h3 p y hy
theorem CLS.fr {F : CS} {g : Nat → Option Nat} (K : CLS C F A r g) : frC C F :=
  ⟨fun f j => K.iO 11 f j (by omega) (by omega) (by omega) (by omega) (by omega), fun f j => K.rO 11 f j (by omega) (by omega) (by omega), fun f j => K.iO 1 f j (by omega) (by omega) (by omega) (by omega) (by omega), fun f j => K.rO 1 f j (by omega) (by omega) (by omega), fun f j _ => K.iO 5 f j (by omega) (by omega) (by omega) (by omega) (by omega), fun f j => K.rO 5 f j (by omega) (by omega) (by omega), fun j p _ => K.aO 13 j p (by omega) (by omega) (by omega), fun j => K.zO 13 j (by omega) (by omega) (by omega), fun f j => K.iO 9 f j (by omega) (by omega) (by omega) (by omega) (by omega), fun f j => K.lO 9 f j (by omega) (by omega) (by omega), fun f j => K.rO 9 f j (by omega) (by omega) (by omega), fun f j => K.iO 6 f j (by omega) (by omega) (by omega) (by omega) (by omega)⟩
theorem call_commit (hI : INV S N C A rd) (x1 : Int32) : ALIKE [(1, 1), (2, 2), (4, 3)] A rd N (m_cJT_commit N 0 C x1) (m_rcommit S x1) := by
  obtain ⟨hR, G, hA, bi, bf, bs, bo, ji, jf, js, a, hio⟩ := hI
  obtain ⟨u0, u1, u2, u3, u4, u5, u6, u7, u8, u9, u10, u11, u12, u13, u14, u15, u16, u17, u18⟩ := G.nn
  obtain ⟨s1, s2, s3, s4, s5, s6, s7, s8, s9, s10, s11, s12, s13, s14, s15, s16, s17, s18, s19, s20, s21⟩ := G.st
  have hm := hA.1.2.1
  have hnn := hA.1.1
  rcases rep_or x1 with hx1 | ⟨r, hr, rfl⟩
  · refine alikeT (t := 1) (k := 1) (C' := C) (S1 := S) (v := nI 0) ?_ ?_ rfl hR G hA hio (Nat.le_refl _) (by omega)
    · unfold m_cJT_commit m_cJT_commit_J0
      simp (disch := omega) only [gd_ok, cl_nI, nI_s, nI_add, nI_leI, nI_ltI, nI_eq, if_pos, if_neg, q0, q1, q2, q3, q4, q5, q6, q7, q8, q9, q10, CS.i_setI, CS.l_setI, CS.r_setI, CS.a_setI, CS.q_setI, CS.z_setI, CS.i_setL, CS.l_setL, CS.r_setL, CS.a_setL, CS.q_setL, CS.z_setL, CS.i_setR, CS.l_setR, CS.r_setR, CS.a_setR, CS.q_setR, CS.z_setR, CS.i_setA, CS.l_setA, CS.r_setA, CS.a_setA, CS.q_setA, CS.z_setA, CS.i_setQ, CS.l_setQ, CS.r_setQ, CS.a_setQ, CS.q_setQ, CS.z_setQ, CS.i_setF, CS.l_setF, CS.r_setF, CS.a_setF, CS.q_setF, CS.z_setF, CS.i_new, CS.l_new, CS.r_new, CS.a_new, CS.q_new, CS.z_new, Nat.reduceEqDiff, false_and, true_and, and_false, and_true, if_true, if_false, b2_0, b2_1, b2_nn, n0_or, n1_or, n10, n01, dec1, dec2, ob_ok, oe_l, oe_r, gl_ok, gle_ok, gn_s, gv_ok, gv_none, on_none, onSome,u11, cJ_shownN hx1]
    · unfold m_rcommit m_rcommit_J0
      rw [pr_isN hx1]
      rfl
  · obtain ⟨C2, hsh, G2, hv2, hfr2⟩ := cJ_shown G hA hr
    have hio2 := hio.fr frS.refl hfr2
    have hst2 := G2.st
    have hrp := G2.rp r hr
    have hT := hA.2.2.2.1.1 r
    have hcx : m_cJT_commit N 0 C (nI r) = (if nI (A.on r) = 0 then some ((.inr (N, C2, 2)), 1, 6) else (if nI A.m < 1000 then oq (m_cSt_close N 0 C2 r) (fun N_14 S_15 v_16 => some ((.inl (N_14, S_15, v_16)), 0, 0)) else some ((.inr (N, C2, 4)), 1, 6))) := by
      unfold m_cJT_commit m_cJT_commit_J0
      rw [gl_ok (by omega), hsh, oe_l, gn_s (by omega), hrp.2.2.2.2.2.2.2.2, hst2.1, gn_s (by omega), G2.cg.1]
    by_cases e1 : A.on r = 0
    · refine alikeT (t := 2) (k := 2) (C' := C2) (S1 := S) (v := nI 0) ?_ ?_ rfl hR G2 hA hio2 (Nat.le_refl _) (by omega)
      · rw [hcx, e1]; rfl
      · unfold m_rcommit m_rcommit_J0
        rw [pr_isR hr, ob_ok, if_neg (show ¬ (1 : Int32) = 0 by decide), pS_open hR hA hr, ob_ok, e1]
        rfl
    · have hne : ¬ nI (A.on r) = 0 := fun h => e1 ((nI_eq (b := 0) (by omega) (by omega)).mp h)
      rw [if_neg hne] at hcx
      by_cases e2 : A.m = 1000
      · refine alikeT (t := 4) (k := 3) (C' := C2) (S1 := S) (v := nI 0) ?_ ?_ rfl hR G2 hA hio2 (Nat.le_refl _) (by omega)
        · rw [hcx, e2]; rfl
        · unfold m_rcommit m_rcommit_J0
          rw [pr_isR hr, ob_ok, if_neg (show ¬ (1 : Int32) = 0 by decide), pS_open hR hA hr, ob_ok, if_neg hne]
          simp only []
          rw [hR.1.2.1, e2]
          rfl
      · have hm1 : A.m < 1000 := by omega
        rw [if_pos (show nI A.m < 1000 from (nI_ltI (b := 1000) (by omega) (by omega)).mpr hm1)] at hcx
        obtain ⟨F, g, hcl, K, hw, hg⟩ := cS_close G2 hA hr hm1
        obtain ⟨S', hs1, hs2, hs3, hs4⟩ := pS_commit hR hA hr hm1 e1
        rw [hcl, oq_ok, al_ok] at hcx
        have hl8 : (hdL (C2.q 16 (1 + r)) 8).length ≤ 8 := by rw [hdL_len]; exact cntTo_le _ _
        refine Or.inl ⟨_, F, nI (A.hv r r + 1), _, _, S', A.cm r, rd, hcx, hs1, hs3, ⟨hs2, RC_cm G2 hA hr hm1 K hw hg, cm_AI hA hr hm1 e1, bi, bf, bs, bo, ji, jf, js, a, hio2.fr hs4 K.fr⟩, Nat.le_refl _, by rw [cm_m]; omega, Nat.le_refl _, by omega, ?_, ?_⟩
        · rw [cm_m, cm_n]; omega
        · rw [cm_m, cm_n]; omega
end CCP
