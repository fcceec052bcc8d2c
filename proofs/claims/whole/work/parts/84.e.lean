/-! FIND: both walk. -/
section FDE
variable {S S' : MS} {N : Nat → Nat} {C C' : CS} {A : AS} {r rd : Nat} {bf : List Nat} {jf : Nat}
theorem FR.fr (h : FR N C jf bf) (hj : jf ≠ 0) (hf : frC C C') : FR N C' jf bf := by
  obtain ⟨h5, h13, h11, h9, hw, hr, h8⟩ := h
  exact ⟨h5, h13, h11, by rw [hf.2.1]; exact h9, RW_fr hf hj hw, RB_fr hf hj hr, h8⟩
theorem slice_get {f q : Nat} (h : q ≤ bf.length) (hf : f ≤ q) : ((bf.drop f).take (q - f)).length = q - f ∧ ∀ i (hi : i < ((bf.drop f).take (q - f)).length), ((bf.drop f).take (q - f))[i] = bf[f + i]'(by rw [List.length_take, List.length_drop] at hi; omega) := by
  refine ⟨by rw [List.length_take, List.length_drop]; omega, ?_⟩
  intro i hi
  rw [List.getElem_take, List.getElem_drop]
/-- the class's step: to what lies there, or to nothing -/
theorem cF_step (G : RC N C A rd) (hA : AI A) (hv : VC C A r) (hF : FR N C jf bf) (hrd : rd + 5000 < 2 ^ 30) {y : Option Nat} (hy : ndOK A r y) {p q i : Nat} (hp : p < bf.length) (hs : stp bf p = some q) (hi : i < 8192) :
    ∃ C' rd', m_cJT_find_B45 N 0 C (some (ox y)) (nI p) (nI i) = some (.inl (C', (nxt A r bf y p q).map (· + 1), nI q, nI (i + 1))) ∧ RC N C' A rd' ∧ VC C' A r ∧ frC C C' ∧ rd ≤ rd' ∧ rd' ≤ rd + (A.L y).length + 1 := by
  obtain ⟨u0, u1, u2, u3, u4, u5, u6, u7, u8, u9, u10, u11, u12, u13, u14, u15, u16, u17, u18⟩ := G.nn
  obtain ⟨s1, s2, s3, s4, s5, s6, s7, s8, s9, s10, s11, s12, s13, s14, s15, s16, s17, s18, s19, s20, s21⟩ := G.st
  have hb := hF.b
  have hF0 := hF
  obtain ⟨h5, h13, h11, h9, hw, hr, h8⟩ := hF
  have hjf := hw.1
  have hyl : ∀ m, y = some m → m < A.n := fun m hm => (hy m hm).1
  have hox := ox_lt hyl
  have hkd := kd_ox G hyl
  have hkl : A.kd y ≤ 8 := by
    cases y with
    | none => simp [AS.kd]
    | some m => exact (hy m rfl).2.2
  have hql := stp_lt hs
  have hq := hql.2 (by omega)
  have hn0 := hA.1.1
  have hLl := L_len hA (x := y)
  -- the top of a spot
  have htop : ∀ {C1 : CS} {rd1 s : Nat}, RC N C1 A rd1 → VC C1 A r → rd1 < 2 ^ 30 → s < A.n → A.sp s = s → ∃ C2, m_cVw_top N 0 C1 (A.sj s) = some (C2, if A.flB r s then some (A.top r s + 1) else none) ∧ RC N C2 A (rd1 + 1) ∧ VC C2 A r ∧ frC C1 C2 ∧ A.sj s < A.ns := by
    intro C1 rd1 s g1 g2 g3 g4 g5
    obtain ⟨C2, c1, c2, c3⟩ := cV_top g1 hA g2 g4 g5 g3
    exact ⟨C2, c1, c3, c2.toVC g2, c2.fr, (g1.ln.1 s g4 g5).1⟩
  have hpre : m_cJT_find_B45 N 0 C (some (ox y)) (nI p) (nI i) = (if atI bf p = 91 then ob (m_cJT_elementOf N 0 C (ox y) (nI p) (nI q)) (fun o_17 => m_cJT_find_J123 N 0 o_17.1 (nI i) (nI q) o_17.2) else (if nI p = 0 then m_cJT_find_J118 N 0 C (nI i) (nI q) 0 (some (ox y)) (some 0) else m_cJT_find_J118 N 0 C (nI i) (nI q) (nI p + 1) (some (ox y)) (some 0))) := by
    unfold m_cJT_find_B45
    rw [if_neg (show ¬ (8192 : Int32) ≤ nI i from fun e => by have := (nI_leI (a := 8192) (by omega) (by omega)).mp e; omega), onSome, gl_ok (by omega), h9, gn_s (by omega), hw.2.2.1, if_neg (nle hp (by omega)), cJ_stepEnd hF0 (by omega), hs, ob_ok]
    simp only []
    rw [h9, gn_s (by omega), cR_atI h5 h13 hw hr (by omega), ob_ok]
    simp only []
    rw [gl_ok (by omega)]
    rfl
  have e91 := at_eq hb (p := p) (k := 91) (by omega)
  rw [hpre]
  unfold nxt
  by_cases c91 : bf[p]? = some 91
  · rw [if_pos (show atI bf p = 91 from e91.mpr c91), if_pos c91]
    obtain ⟨g0, g1, g2, g3, g4⟩ := stp_idx hs c91
    have hnum := cJ_number (N := N) (C := C) (p := p) (n := rn dgB bf (p + 1)) (z := some (ox y)) hF0 (fun j hj => ⟨(idx_dg hj).1, (idx_dg hj).2.1⟩) (by omega)
    rw [← g1] at hnum
    have hqn : q - p - 2 = rn dgB bf (p + 1) := by omega
    rw [hqn]
    have hdl : dgv bf (p + 1) (rn dgB bf (p + 1)) < 2 ^ 31 := by
      have h1 := dgv_lt (bf := bf) (p := p + 1) (n := rn dgB bf (p + 1)) (fun j hj => (idx_dg hj).2.2)
      have h2 : 10 ^ (rn dgB bf (p + 1)) ≤ 10 ^ 6 := Nat.pow_le_pow_right (by omega) g3
      omega
    unfold m_cJT_elementOf m_cJT_elementOf_J0
    rw [nI_s, show m_cJT_elementOf_L8 N 0 C (some (ox y)) (nI q) 0 (nI (p + 1)) = _ from hnum, ob_ok]
    simp only []
    rw [gn_s (by omega), hkd]
    by_cases ck : A.kd y = 7 ∨ A.kd y = 8
    · have hkne : A.kd y ≠ 6 := by omega
      obtain ⟨C3, hV3, hsp⟩ := cV_spotAt G hA hv hyl (by omega) (nI (dgv bf (p + 1) (rn dgB bf (p + 1))))
      obtain ⟨rd3, r31, r32, G3⟩ := hV3.toRC G
      have hv3 := hV3.toVC hv
      have hJ : (if nI (A.kd y) = 7 then m_cJT_elementOf_J60 N 0 C (some (ox y)) (nI (dgv bf (p + 1) (rn dgB bf (p + 1)))) else (if nI (A.kd y) = 8 then m_cJT_elementOf_J60 N 0 C (some (ox y)) (nI (dgv bf (p + 1) (rn dgB bf (p + 1)))) else m_cJT_elementOf_J74 N 0 C none)) = m_cJT_elementOf_J60 N 0 C (some (ox y)) (nI (dgv bf (p + 1) (rn dgB bf (p + 1)))) := by
        rcases ck with h | h
        · rw [h]; rfl
        · rw [h]; rfl
      rw [hJ, if_pos ck]
      unfold m_cJT_elementOf_J60
      rw [gl_ok (by omega), gn_s (by omega), s3, gn_s (by omega)]
      rcases hsp with ⟨k', s, hke, hk31', hfs, hsp⟩ | ⟨hnos, hsp⟩
      · have hkk := (nI_eq hdl hk31').mp hke
        rw [← hkk] at hfs
        have hsm : s ∈ A.fl r y := List.mem_of_getElem? hfs
        have hsf := fl_at hA hkne hsm
        obtain ⟨C4, t1, t2, t3, t4, t5⟩ := htop G3 hv3 (by omega) hsf.2.1 hsf.2.2.2.1
        refine ⟨C4, rd3 + 1, ?_, t2, t3, hV3.fr.trans t4, by omega, by omega⟩
        rw [hsp, ob_ok]
        unfold m_cJT_elementOf_J74 m_cJT_elementOf_J94 m_cJT_find_J123
        simp only []
        rw [onSome, gl_ok (by omega), gl_ok (by omega), G3.st.2.2.1, gn_s (by omega), t1, hsf.2.2.2.2.2.2, ob_ok]
        simp only [ob_ok]
        rw [hfs, nI_s]
        rfl
      · refine ⟨C3, rd3, ?_, G3, hv3, hV3.fr, by omega, by omega⟩
        rw [hsp, ob_ok]
        unfold m_cJT_elementOf_J74 m_cJT_elementOf_J94 m_cJT_find_J123
        simp only [on_none, ob_ok]
        have hnone : (A.fl r y)[dgv bf (p + 1) (rn dgB bf (p + 1))]? = none := by
          rw [List.getElem?_eq_none]
          rcases Nat.lt_or_ge (dgv bf (p + 1) (rn dgB bf (p + 1))) (A.fl r y).length with h | h
          · exact absurd rfl (hnos _ h)
          · exact h
        rw [hnone, nI_s]
        rfl
    · rw [if_neg ck]
      refine ⟨C, rd, ?_, G, hv, frC.refl, by omega, by omega⟩
      rw [if_neg (show ¬ nI (A.kd y) = 7 from fun e => ck (Or.inl ((nI_eq (b := 7) (by omega) (by omega)).mp e))), if_neg (show ¬ nI (A.kd y) = 8 from fun e => ck (Or.inr ((nI_eq (b := 8) (by omega) (by omega)).mp e)))]
      unfold m_cJT_elementOf_J74 m_cJT_elementOf_J94 m_cJT_find_J123
      simp only [on_none, ob_ok]
      rw [nI_s]
      rfl
  · rw [if_neg (show ¬ atI bf p = 91 from fun e => c91 (e91.mp e)), if_neg c91]
    obtain ⟨g1, g2, g3, g4⟩ := stp_key hb hs c91
    have hkf : (if nI p = 0 then m_cJT_find_J118 N 0 C (nI i) (nI q) 0 (some (ox y)) (some 0) else m_cJT_find_J118 N 0 C (nI i) (nI q) (nI p + 1) (some (ox y)) (some 0)) = m_cJT_find_J118 N 0 C (nI i) (nI q) (nI (kfr p)) (some (ox y)) (some 0) := by
      unfold kfr
      by_cases e : p = 0
      · rw [if_pos (by rw [e]; rfl), if_pos e]; rfl
      · rw [if_neg (show ¬ nI p = 0 from fun h => e ((nI_eq (b := 0) (by omega) (by omega)).mp h)), if_neg e, nI_s]
    rw [hkf]
    have hkfq : kfr p ≤ q := by omega
    obtain ⟨sl1, sl2⟩ := slice_get (bf := bf) hq hkfq
    unfold m_cJT_find_J118 m_cJT_keyOf m_cJT_keyOf_J0
    rw [gn_s (by omega), gn_s (by omega), gl_ok (by omega), hkd]
    by_cases ck : A.kd y = 6
    · rw [if_pos (show nI (A.kd y) = 6 by rw [ck]; rfl), if_pos ck, gl_ok (by omega), h9, gn_s (by omega), s1, gn_s (by omega), sub_nI hkfq]
      have hsw := cS_spotWith G hA hyl ck (j := jf) (l := bf.length) (p := kfr p) (k := (bf.drop (kfr p)).take (q - kfr p)) hw (by
        intro j hj
        have := sl2 j hj
        have hlt : kfr p + j < bf.length := by omega
        have h2 := hr (kfr p + j) hlt
        rw [Nat.zero_add] at h2
        rw [this]
        exact h2) (by omega)
      rw [sl1] at hsw
      rw [hsw, ob_ok]
      cases hks : A.ks y ((bf.drop (kfr p)).take (q - kfr p)) with
      | none =>
        refine ⟨C, rd, ?_, G, hv, frC.refl, by omega, by omega⟩
        unfold m_cJT_keyOf_J29 m_cJT_keyOf_J49 m_cJT_find_J123
        simp only [Option.map_none, on_none, ob_ok]
        rw [nI_s]
      | some s =>
        have hsL := L_mem hA ((ks_some hA ck).mp hks).1
        obtain ⟨C4, t1, t2, t3, t4, t5⟩ := htop G hv (by omega) hsL.1 hsL.2.2
        refine ⟨C4, rd + 1, ?_, t2, t3, t4, by omega, by omega⟩
        unfold m_cJT_keyOf_J29 m_cJT_keyOf_J49 m_cJT_find_J123
        simp only [Option.map_some, onSome]
        rw [gl_ok (by omega), gl_ok (by omega), s3, gn_s (by omega), t1, ob_ok]
        simp only [ob_ok]
        rw [nI_s]
        cases A.flB r s <;> rfl
    · rw [if_neg (show ¬ nI (A.kd y) = 6 from fun e => ck ((nI_eq (b := 6) (by omega) (by omega)).mp e)), if_neg ck]
      refine ⟨C, rd, ?_, G, hv, frC.refl, by omega, by omega⟩
      unfold m_cJT_keyOf_J29 m_cJT_keyOf_J49 m_cJT_find_J123
      simp only [on_none, ob_ok]
      rw [nI_s]
      rfl
theorem cF_loop (G : RC N C A rd) (hA : AI A) (hv : VC C A r) (hF : FR N C jf bf) (hj : jf ≠ 0) (hrd : rd + 30000 < 2 ^ 30) (hpk : pok bf (bf.length + 1) 0 = true) :
    ∃ C' rd', m_cJT_find_L45 N 0 C (some 0) (nI 0) (nI 0) = some (C', (fnd A r bf (bf.length + 1) none 0).map ox) ∧ RC N C' A rd' ∧ frC C C' ∧ rd ≤ rd' ∧ rd' ≤ rd + 20000 := by
  have hn0 := hA.1.1
  have h8 := hF.2.2.2.2.2.2
  obtain ⟨R, hR⟩ : ∃ R, R = fnd A r bf (bf.length + 1) none 0 := ⟨_, rfl⟩
  rw [← hR]
  have := lp_run (body := fun w : CS × Option Nat × Int32 × Int32 => m_cJT_find_B45 N 0 w.1 w.2.1 w.2.2.1 w.2.2.2)
    (fun i w => (∃ W y p rd1, w = (W, some (ox y), nI p, nI i) ∧ i ≤ p ∧ p ≤ bf.length ∧ i ≤ ox y ∧ ndOK A r y ∧ pok bf (bf.length + 1 - i) p = true ∧ fnd A r bf (bf.length + 1 - i) y p = R ∧ RC N W A rd1 ∧ VC W A r ∧ frC C W ∧ rd ≤ rd1 ∧ rd1 ≤ rd + A.cum (ox y) + i) ∨ (∃ W v rd1, w = (W, none, v, nI i) ∧ R = none ∧ RC N W A rd1 ∧ frC C W ∧ rd ≤ rd1 ∧ rd1 ≤ rd + 20000))
    (fun e => ∃ W rd1, e = (W, R.map ox) ∧ RC N W A rd1 ∧ frC C W ∧ rd ≤ rd1 ∧ rd1 ≤ rd + 20000) (bf.length + 1) ?_ FU (C, some 0, nI 0, nI 0) (by unfold FU; omega)
    (Or.inl ⟨C, none, 0, rd, rfl, by omega, by omega, by omega, (fun m h => by cases h), hpk, hR.symm, G, hv, frC.refl, by omega, by omega⟩)
  · obtain ⟨e, h1, W, rd1, rfl, h2, h3, h4, h5⟩ := this
    refine ⟨W, rd1, ?_, h2, h3, h4, h5⟩
    unfold m_cJT_find_L45
    exact h1
  · rintro i _ hi (⟨W, y, p, rd1, rfl, hip, hpl, hiy, hnd, hpk', hfn, w1, w2, w3, w4, w5⟩ | ⟨W, v, rd1, rfl, hRn, w1, w2, w3, w4⟩)
    · have hFW := hF.fr hj w3
      have hyl : ∀ m, y = some m → m < A.n := fun m hm => (hnd m hm).1
      have hox := ox_lt hyl
      have hcum := cum_le (A := A) (k := ox y)
      rw [show bf.length + 1 - i = (bf.length - i) + 1 by omega] at hpk' hfn
      rw [pok_s] at hpk'
      rw [fnd_s] at hfn
      by_cases c1 : bf.length ≤ p
      · right
        rw [if_pos c1] at hfn
        refine ⟨(W, some (ox y)), ?_, W, rd1, by rw [← hfn]; rfl, w1, w3, w4, by omega⟩
        show m_cJT_find_B45 N 0 W (some (ox y)) (nI p) (nI i) = _
        unfold m_cJT_find_B45
        by_cases c8 : 8192 ≤ i
        · rw [if_pos (show (8192 : Int32) ≤ nI i from (nI_leI (a := 8192) (by omega) (by omega)).mpr c8)]
        · obtain ⟨h5, h13, h11, h9, hw, hr, _⟩ := hFW
          have hjf := hw.1
          rw [if_neg (show ¬ (8192 : Int32) ≤ nI i from fun e => c8 ((nI_leI (a := 8192) (by omega) (by omega)).mp e)), onSome, gl_ok (by omega), h9, gn_s (by omega), hw.2.2.1, if_pos ((nI_leI (by omega) (by omega)).mpr c1)]
      · left
        rw [if_neg c1] at hpk' hfn
        cases hs : stp bf p with
        | none => rw [hs] at hpk'; cases hpk'
        | some q =>
          rw [hs] at hpk' hfn
          simp only [] at hpk' hfn
          have hql := stp_lt hs
          obtain ⟨C', rd', f1, f2, f3, f4, f5, f6⟩ := cF_step (i := i) w1 hA w2 hFW (by omega) hnd (by omega) hs (by omega)
          have hLl := L_len hA (x := y)
          refine ⟨_, f1, by omega, ?_⟩
          cases hx : nxt A r bf y p q with
          | none =>
            rw [hx] at hfn
            right
            exact ⟨C', nI q, rd', rfl, hfn.symm, f2, w3.trans f4, by omega, by omega⟩
          | some z =>
            rw [hx] at hfn
            left
            have hlt := nxt_lt hA hx
            have hca := cum_add hA hlt
            refine ⟨C', some z, q, rd', rfl, by omega, hql.2 (by omega), by omega, nxt_nd hA hx, by rw [show bf.length + 1 - (i + 1) = bf.length - i by omega]; exact hpk', by rw [show bf.length + 1 - (i + 1) = bf.length - i by omega]; exact hfn, f2, f3, w3.trans f4, by omega, by omega⟩
    · right
      refine ⟨(W, none), ?_, W, rd1, by rw [hRn]; rfl, w1, w2, w3, w4⟩
      show m_cJT_find_B45 N 0 W none v (nI i) = _
      unfold m_cJT_find_B45
      by_cases c8 : 8192 ≤ i
      · rw [if_pos (show (8192 : Int32) ≤ nI i from (nI_leI (a := 8192) (by omega) (by omega)).mpr c8)]
      · rw [if_neg (show ¬ (8192 : Int32) ≤ nI i from fun e => c8 ((nI_leI (a := 8192) (by omega) (by omega)).mp e)), on_none]
end FDE
