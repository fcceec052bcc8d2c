/-! THE CALL out. -/
section COU
variable {S S' : MS} {N : Nat → Nat} {C C' : CS} {A : AS} {r rd : Nat} {bi bf bs bo : List Nat} {ji jf js a : Nat}
def outW (bo : List Nat) (q : Nat) : Nat → Int64
  | 0 => 0
  | i + 1 => (outW bo q i <<< ((8 : Int32).toInt64 &&& 63)) ||| (nI (bo.getD (8 * q + i) 0)).toInt64
theorem outW_s {q i : Nat} : outW bo q (i + 1) = (outW bo q i <<< ((8 : Int32).toInt64 &&& 63)) ||| (nI (bo.getD (8 * q + i) 0)).toInt64 := rfl
theorem mul8 {q : Nat} : (8 : Int32) * nI q = nI (8 * q) := by
  rw [show (8 : Int32) = nI 8 from by decide]
  exact (Int32.ofNat_mul 8 q).symm
theorem pos_or {b : Nat} (h : b < 256) : (if (0 : Int32) < nI b then nI b else 0) = nI b := by
  by_cases e : b = 0
  · rw [e]; rfl
  · rw [if_pos (show (0 : Int32) < nI b from (nI_ltI (a := 0) (by omega) (by omega)).mpr (by omega))]
theorem call_out (hI : INV S N C A rd) (x1 : Int32) : RLIKE [(1, 1)] A rd N (m_cJT_out N 0 C x1) (m_rout S x1) := by
  obtain ⟨hR, G, hA, bi, bf, bs, bo, ji, jf, js, a, hio⟩ := hI
  obtain ⟨u0, u1, u2, u3, u4, u5, u6, u7, u8, u9, u10, u11, u12, u13, u14, u15, u16, u17, u18⟩ := G.nn
  obtain ⟨s1, s2, s3, s4, s5, s6, s7, s8, s9, s10, s11, s12, s13, s14, s15, s16, s17, s18, s19, s20, s21⟩ := G.st
  have hio0 := hio
  obtain ⟨_, _, _, _, ⟨g1, g2, g3, g4⟩, _⟩ := hio0
  have g1' := g1
  obtain ⟨z1, z2, z3, z4, z5⟩ := g1'
  unfold m_cJT_out m_cJT_out_J0 m_rout m_rout_J0
  by_cases c1 : x1 < nI 0
  · refine rlikeT (t := 1) (k := 1) (C' := C) (S1 := S) (v := (nI 0).toInt64) ?_ ?_ rfl hR G hA hio (Nat.le_refl _) (by omega)
    · rw [if_pos (show x1 < 0 from c1)]; rfl
    · rw [if_pos (show x1 < 0 from c1)]; rfl
  rw [if_neg (show ¬ x1 < 0 from c1), if_neg (show ¬ x1 < 0 from c1)]
  obtain ⟨q, hq31, rfl⟩ := nI_of c1
  by_cases c2 : q < 8192
  · rw [if_pos (show nI q < 8192 from (nI_ltI (b := 8192) (by omega) (by omega)).mpr c2), if_pos (show nI q ≤ 8191 from (nI_leI (b := 8191) (by omega) (by omega)).mpr (by omega))]
    have hC : m_cJT_out_L24 N 0 C (nI q) 0 (nI 0) = some (C, outW bo q 8) := by
      have := lp_run (body := fun w : CS × Int32 × Int64 × Int32 => m_cJT_out_B24 N 0 w.1 w.2.1 w.2.2.1 w.2.2.2) (fun i w => w = (C, nI q, outW bo q i, nI i)) (fun e => e = (C, outW bo q 8)) 8 ?_ FU (C, nI q, 0, nI 0) (by unfold FU; omega) rfl
      · obtain ⟨e, h1, rfl⟩ := this
        unfold m_cJT_out_L24
        exact h1
      · rintro i _ hi rfl
        unfold m_cJT_out_B24
        by_cases hin : i < 8
        · left
          have hat : m_cRw_at N 3 C (nI (8 * q + i)) = some (C, if 8 * q + i < bo.length then nI (bo.getD (8 * q + i) 0) else -nI 1) := by
            by_cases e : 8 * q + i < bo.length
            · rw [cR_at u5 u13 g1 e, if_pos e]
              have := g2 _ e
              rw [Nat.zero_add] at this
              rw [this.2, sb_and this.1, List.getD_eq_getElem?_getD, List.getElem?_eq_getElem e]
              rfl
            · rw [cR_out u5 g1 (by omega) (by omega), if_neg e]
          refine ⟨(C, nI q, outW bo q (i + 1), nI (i + 1)), ?_, hin, rfl⟩
          show (if (8 : Int32) ≤ nI i then _ else _) = _
          rw [if_neg (show ¬ (8 : Int32) ≤ nI i from fun h => absurd ((nI_leI (a := 8) (by omega) (by omega)).mp h) (by omega))]
          rw [gl_ok (by omega), s7, gn_s (by omega)]
          rw [mul8, show nI (8 * q) + nI i = nI (8 * q + i) from nI_add _ _, hat]
          simp only [ob_ok]
          have hv : (if (0 : Int32) < (if 8 * q + i < bo.length then nI (bo.getD (8 * q + i) 0) else -nI 1) then (if 8 * q + i < bo.length then nI (bo.getD (8 * q + i) 0) else -nI 1) else 0) = nI (bo.getD (8 * q + i) 0) := by
            by_cases e : 8 * q + i < bo.length
            · rw [if_pos e]
              refine pos_or ?_
              rw [List.getD_eq_getElem?_getD, List.getElem?_eq_getElem e]
              exact (g2 _ e).1
            · rw [if_neg e, if_neg (show ¬ (0 : Int32) < -nI 1 by decide), List.getD_eq_getElem?_getD, List.getElem?_eq_none (by omega)]
              rfl
          rw [hv, show nI i + 1 = nI (i + 1) from nI_add _ _, outW_s]
        · right
          refine ⟨_, ?_, rfl⟩
          show (if (8 : Int32) ≤ nI i then _ else _) = _
          rw [show i = 8 by omega]
          rfl
    have hS : m_rout_L31 (S.setI 0 (nI 0)) (nI q) 0 (nI (8 * q)) = some (S.setI 0 (nI 0), outW bo q 8) := by
      have e41 : (S.setI 0 (nI 0)).i 41 = nI bo.length := by rw [MS.i_setI, if_neg (by decide)]; exact g3
      have e40 : (S.setI 0 (nI 0)).a 40 = S.a 40 := by rw [MS.a_setI]
      generalize S.setI 0 (nI 0) = S0 at e41 e40
      have := lp_run (body := fun w : MS × Int32 × Int64 × Int32 => m_rout_B31 w.1 w.2.1 w.2.2.1 w.2.2.2) (fun i w => w = (S0, nI q, outW bo q i, nI (8 * q + i))) (fun e => e = (S0, outW bo q 8)) 8 ?_ FU (S0, nI q, 0, nI (8 * q)) (by unfold FU; omega) rfl
      · obtain ⟨e, h1, rfl⟩ := this
        unfold m_rout_L31
        exact h1
      · rintro i _ hi rfl
        unfold m_rout_B31 m_rout_J71
        by_cases hin : i < 8
        · left
          refine ⟨(S0, nI q, outW bo q (i + 1), nI (8 * q + (i + 1))), ?_, hin, rfl⟩
          show (if (8 : Int32) * nI q + 8 ≤ nI (8 * q + i) then _ else (if S0.i 41 ≤ nI (8 * q + i) then _ else _)) = _
          rw [mul8, if_neg (show ¬ nI (8 * q) + 8 ≤ nI (8 * q + i) from fun h => absurd ((nI_leI (a := 8 * q + 8) (by omega) (by omega)).mp (show nI (8 * q + 8) ≤ nI (8 * q + i) by rw [← nI_add (8 * q) 8]; exact h)) (by omega)), e41]
          by_cases e : 8 * q + i < bo.length
          · rw [if_neg (fun h => absurd ((nI_leI (by omega) (by omega)).mp h) (by omega)), gd_ok (by omega) (by omega), cl_nI (by omega), e40]
            have := g4 _ e
            rw [Nat.zero_add] at this
            rw [this.2, show (255 : Int32) = nI 255 from q255, sb_and this.1]
            show some (Sum.inl (S0, nI q, (outW bo q i <<< _ ||| _), nI (8 * q + i) + nI 1)) = _
            rw [nI_add]
            rw [outW_s]
            rw [List.getD_eq_getElem?_getD, List.getElem?_eq_getElem e]
            rfl
          · rw [if_pos ((nI_leI (by omega) (by omega)).mpr (by omega))]
            show some (Sum.inl (S0, nI q, (outW bo q i <<< _ ||| _), nI (8 * q + i) + nI 1)) = _
            rw [nI_add]
            rw [outW_s]
            rw [List.getD_eq_getElem?_getD, List.getElem?_eq_none (by omega)]
            rfl
        · right
          have hi8 : i = 8 := by omega
          subst hi8
          refine ⟨_, ?_, rfl⟩
          show (if (8 : Int32) * nI q + 8 ≤ nI (8 * q + 8) then _ else _) = _
          rw [mul8, if_pos (show nI (8 * q) + 8 ≤ nI (8 * q + 8) by rw [show nI (8 * q) + 8 = nI (8 * q + 8) from nI_add _ _]; exact Int32.le_refl _)]
    refine rlikeV (C' := C) (S1 := S) (v := outW bo q 8) ?_ ?_ hR G hA hio (Nat.le_refl _) (by omega)
    · rw [show m_cJT_out_L24 N 0 C (nI q) 0 0 = _ from hC]
      rfl
    · rw [mul8, show m_rout_L31 (S.setI 0 0) (nI q) 0 (nI (8 * q)) = _ from hS]
      rfl
  · refine rlikeT (t := 1) (k := 1) (C' := C) (S1 := S) (v := (nI 0).toInt64) ?_ ?_ rfl hR G hA hio (Nat.le_refl _) (by omega)
    · rw [if_neg (show ¬ nI q < 8192 from fun h => c2 ((nI_ltI (b := 8192) (by omega) (by omega)).mp h))]; rfl
    · rw [if_neg (show ¬ nI q ≤ 8191 from fun h => c2 (by have := (nI_leI (b := 8191) (by omega) (by omega)).mp h; omega))]; rfl
end COU
