/-! THE CALL text, whole. -/
section TXQ
variable {S S' : MS} {N : Nat → Nat} {C C' : CS} {A : AS} {r rd : Nat} {w : List Nat} {k : List Nat} {bi bf bs bo : List Nat} {ji jf js a : Nat}
theorem long_or {T w : List Nat} (h : w = T ∨ (16384 < w.length ∧ ∃ t, T = w ++ t)) : (T.length ≤ 16384 → w = T) ∧ (16384 < T.length ↔ 16384 < w.length) := by
  rcases h with rfl | ⟨h1, t, rfl⟩
  · exact ⟨fun _ => rfl, Iff.rfl⟩
  · rw [List.length_append]
    exact ⟨fun h => by omega, fun _ => h1, fun _ => by omega⟩
theorem call_text (hI : INV S N C A rd) (hrd : rd + 60000 < 2 ^ 30) (x1 x2 : Int32) : RLIKE [(1, 1), (2, 2), (3, 3)] A rd N (m_cJT_text N 0 C x1 x2) (m_rtext S x1 x2) := by
  obtain ⟨hR, G, hA, bi, bf, bs, bo, ji, jf, js, a, hio⟩ := hI
  obtain ⟨u0, u1, u2, u3, u4, u5, u6, u7, u8, u9, u10, u11, u12, u13, u14, u15, u16, u17, u18⟩ := G.nn
  obtain ⟨s1, s2, s3, s4, s5, s6, s7, s8, s9, s10, s11, s12, s13, s14, s15, s16, s17, s18, s19, s20, s21⟩ := G.st
  have hnn := hA.1.1
  unfold m_cJT_text m_cJT_text_J0 m_rtext m_rtext_J0
  rcases rep_or x1 with hx1 | ⟨r, hr, rfl⟩
  · refine rlikeT (t := 1) (k := 1) (C' := C) (S1 := S) (v := nI 0) ?_ ?_ rfl hR G hA hio (Nat.le_refl _) (by omega)
    · rw [gl_ok (by omega), cJ_shownN hx1, oe_r]
    · rw [pS_isN hx1]
      rfl
  · obtain ⟨C2, hsh, G2, hv2, hfr2⟩ := cJ_shown G hA hr
    have hio2 := hio.fr frS.refl hfr2
    rw [gl_ok (by omega), hsh, oe_l, pS_isR hr, ob_ok, if_neg (show ¬ nI 1 = 0 by decide)]
    rcases cJ_objectAt G2 hA hv2 x2 with ⟨y, hy, rfl, hob⟩ | ⟨hno, hob⟩
    · have hyl := oV_ltn hy
      have hox := ox_lt hyl
      have h68 := kd_le8 hy
      simp only []
      rw [hob, oe_l, kind_x hR hA hr hy, ob_ok]
      simp only []
      rw [if_pos (show (0 : Int32) ≤ nI (A.kd y) from (nI_leI (a := 0) (by omega) (by omega)).mpr (Nat.zero_le _)), gn_s (by omega), G2.st.2.2.2.2.1, gn_s (by omega)]
      obtain ⟨C3, k1, w, rd1, k2, k3, k4, k5, k6, k7, k8⟩ := cT_object G2 hA hv2 hy (by omega)
      obtain ⟨S2, W, m1, m2, w', m3, m4, m5, m6⟩ := rT_object hR hA hr hy
      generalize vb A r (A.val r) y = T at k3 m6
      obtain ⟨n1, n2⟩ := long_or k3
      obtain ⟨n3, n4⟩ := long_or m6
      have hio3 := hio2.frX k6
      rw [k1, ob_ok]
      simp only []
      rw [gn_s (by omega), k2.2.1, m1, ob_ok, m2, ob_ok]
      unfold m_rtext_J202
      have hwl := m4.2.1
      rw [m4.1, show nI (400000 + w'.length) - 400000 = nI w'.length from by
        rw [show (400000 : Int32) = nI 400000 from by decide, sub_nI (by omega), Nat.add_sub_cancel_left]]
      by_cases hT : 16384 < T.length
      · rw [if_pos (n2.mp hT), if_neg (show ¬ nI 1 = 0 by decide), if_neg (fun h => by
          have := (nI_leI (b := 16384) (by omega) (by omega)).mp h
          have := n4.mp hT
          omega)]
        exact rlikeT (t := 2) (k := 2) (C' := C3) (S1 := W.setI 41 (S.i 41)) (v := nI 0) rfl rfl rfl (m3.setI rfl) k4 hA (m5.RIO hio3) k7 (by omega)
      · have e1 := n1 (by omega)
        have e2 := n3 (by omega)
        subst e2
        subst e1
        rw [if_neg hT, if_pos (show nI 0 = 0 from rfl), if_pos (show nI w.length ≤ 16384 from (nI_leI (b := 16384) (by omega) (by omega)).mpr (by omega))]
        -- class
        have q6 : C3.r 11 6 0 = some 3 := k4.st.2.2.2.2.2.2.1
        have hz3 : C3.z 13 3 = 224582 := k4.sz.2.2.2.2.2.2.2.2.1
        have hz2 : C3.z 13 2 = 16384 := k4.sz.2.2.2.2.2.2.2.1
        have hrr := k4.sz.2.2.2.2.2.2.2.2.2.2.2.2.2.2.1
        obtain ⟨C4, hC4⟩ : ∃ C4, C4 = (C3.setI 5 1 3 0).setI 5 2 3 0 := ⟨_, rfl⟩
        have hcl : m_cRw_clear N 3 C3 = some C4 := by rw [hC4]; exact pc_clear (by omega)
        have i4 : ∀ k f j, ¬ (k = 5 ∧ j = 3) → C4.i k f j = C3.i k f j := by
          intro k f j h
          rw [hC4, CS.i_setI, if_neg (by omega), CS.i_setI, if_neg (by omega)]
        have r4 : C4.r = C3.r := by rw [hC4]; rfl
        have z4 : C4.z = C3.z := by rw [hC4]; rfl
        have a4 : C4.a = C3.a := by rw [hC4]; rfl
        have hl2 : C3.i 5 1 2 = nI w.length := by rw [k2.1, Nat.min_eq_left (by omega)]
        have hb2 : RB C4 2 0 w := by
          intro i hi
          rw [a4, Nat.zero_add]
          exact ⟨(k2.2.2 i hi).1, (k2.2.2 i hi).2 (by omega)⟩
        have hw2 : RW C4 2 w.length := ⟨by omega, by rw [r4]; exact hrr 2 (by omega), by rw [i4 _ _ _ (by omega)]; exact hl2, by rw [z4, hz2]; omega, by rw [z4, hz2]; omega⟩
        have hw3 : RW C4 3 0 := ⟨by omega, by rw [r4]; exact hrr 3 (by omega), by rw [hC4, CS.i_setI, if_neg (by omega), CS.i_setI, if_pos ⟨rfl, rfl, rfl⟩]; rfl, by omega, by rw [z4, hz3]; omega⟩
        obtain ⟨f, hwa, _, hf2⟩ := cR_writeAll u5 u13 hw3 hw2 hb2 (by omega) (by rw [z4, hz3]; omega)
        obtain ⟨C5, hC5⟩ : ∃ C5, C5 = C4.row 3 f (nI (0 + w.length)) := ⟨_, rfl⟩
        rw [← hC5] at hwa
        have r5 : C5.r = C3.r := by rw [hC5, row_r, r4]
        have hlen5 : C5.i 5 1 3 = nI w.length := by rw [hC5, row_i, if_pos ⟨rfl, rfl, rfl⟩, Nat.zero_add]
        have G4 : RC N C4 A rd1 := by
          rw [hC4]
          exact RC_setI5 (by omega) (RC_setI5 (by omega) k4)
        have G5 : RC N C5 A rd1 := by
          rw [hC5]
          exact RC_row (by omega) (by omega) G4
        -- reference
        have hS1 : ∀ i (h : i < w.length), w[i] < 256 ∧ ((W.setI 41 (S.i 41)).setI 0 0).a 40 (400000 + i) = sb w[i] := by
          intro i hi
          rw [MS.a_setI, MS.a_setI]
          exact ⟨(m4.2.2 i hi).1, (m4.2.2 i hi).2 (by omega)⟩
        obtain ⟨g, hg1, hg2⟩ := rT_copy (by omega) hS1
        rw [hg1, ob_ok]
        have h40 : RS (((W.setI 41 (S.i 41)).setI 0 0).setA 40 g) A := ((m3.setI rfl).setI rfl).setA rfl
        have h0 : (((((W.setI 41 (S.i 41)).setI 0 0).setA 40 g).setI 41 (nI w.length)).setI 43 0).i 0 = nI 0 := by
          rw [MS.i_setI, if_neg (by decide), MS.i_setI, if_neg (by decide), MS.i_setA, MS.i_setI, if_pos rfl]; rfl
        refine Or.inl ⟨C5.setI 11 7 0 0, nI w.length, (((((W.setI 41 (S.i 41)).setI 0 0).setA 40 g).setI 41 (nI w.length)).setI 43 0), rd1, ?_, rfl, h0, ⟨(h40.setI rfl).setI rfl, RC_setI11 G5, hA, bi, bf, bs, w, ji, jf, js, a, ?_⟩, k7, by omega⟩
        · rw [q6, gn_s (by omega), hcl, ob_ok, r4, q6, gn_s (by omega), show C4.i 5 1 2 = nI w.length from hw2.2.2.1, show m_cRw_writeAll N 3 C4 2 0 (nI w.length) = _ from hwa, ob_ok, r5, q6, gn_s (by omega), hlen5]
        · refine RIO.out (C := C3) (f := f) (g := g) (sv := false) hio3 ?_ ?_ ?_ ?_ ?_ ?_ ?_ ?_ ?_ ?_ ?_ ?_ ?_ (by rw [hz3]; omega)
          · intro j hj
            rw [MS.i_setI, if_neg (by omega), MS.i_setI, if_neg (by omega), MS.i_setA, MS.i_setI, if_neg (by omega), MS.i_setI, if_neg (by omega)]
            exact m5.1 j (by omega)
          · intro k hk
            rw [MS.a_setI, MS.a_setI, MS.a_setA, if_neg (by omega), MS.a_setI, MS.a_setI]
            exact m5.2.1 k hk
          · rw [MS.i_setI, if_neg (by decide), MS.i_setI, if_pos rfl]
          · intro i hi
            rw [MS.a_setI, MS.a_setI, MS.a_setA, if_pos rfl, Nat.zero_add]
            exact ⟨(hS1 i hi).1, hg2 i hi⟩
          · rw [MS.i_setI, if_pos rfl]; rfl
          · exact r5
          · show C5.z = C3.z
            rw [hC5, row_z, z4]
          · intro f1 j hj
            rw [CS.i_setI, if_neg (by omega), hC5, row_i, if_neg (by omega), i4 _ _ _ (by omega)]
          · intro j hj
            funext p
            rw [CS.a_setI, hC5, row_a, if_neg (by omega), a4]
          · intro f1 hf1
            rw [CS.i_setI, if_neg (by omega), hC5, row_i, if_neg (by omega), i4 _ _ _ (by omega)]
          · rw [CS.i_setI, if_neg (by omega)]
            exact hlen5
          · intro i hi
            rw [CS.a_setI, hC5, row_a, if_pos ⟨rfl, rfl⟩]
            exact ⟨(hS1 i hi).1, hf2 i hi⟩
          · rw [CS.i_setI, if_pos ⟨rfl, rfl, rfl⟩]; rfl
    · simp only []
      rw [hob, oe_r, kind_n hR hA hr hno, ob_ok]
      simp only []
      rw [if_neg (show ¬ (0 : Int32) ≤ -nI 1 by decide)]
      exact rlikeT (t := 3) (k := 3) (C' := C2) (S1 := S) (v := nI 0) rfl rfl rfl hR G2 hA hio2 (Nat.le_refl _) (by omega)
end TXQ
