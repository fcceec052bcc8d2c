/-! THE CALL find. -/
section FDG
variable {S S' : MS} {N : Nat → Nat} {C C' : CS} {A : AS} {r rd : Nat} {bi bf bs bo : List Nat} {ji jf js a : Nat}
theorem fnd_ok (hA : AI A) : ∀ {f p : Nat} {y y' : Option Nat}, fnd A r bf f y p = some y' → (bf.length ≤ p ∧ y' = y) ∨ ∃ z, y' = some z ∧ z < A.n := by
  intro f
  induction f with
  | zero => intro p y y' h; cases h
  | succ f ih =>
    intro p y y' h
    rw [fnd_s] at h
    by_cases c : bf.length ≤ p
    · rw [if_pos c] at h
      exact Or.inl ⟨c, (Option.some.inj h).symm⟩
    · rw [if_neg c] at h
      cases hs : stp bf p with
      | none => rw [hs] at h; cases h
      | some q =>
        rw [hs] at h
        simp only [] at h
        cases hx : nxt A r bf y p q with
        | none => rw [hx] at h; cases h
        | some z =>
          rw [hx] at h
          rcases ih h with ⟨_, h2⟩ | h2
          · exact Or.inr ⟨z, h2, (nxt_ok hA hx).1⟩
          · exact Or.inr h2
theorem call_find (hI : INV S N C A rd) (hrd : rd + 60000 < 2 ^ 30) (x1 : Int32) : RLIKE [(1, 1), (3, 2)] A rd N (m_cJT_find N 0 C x1) (m_rfind2 S x1) := by
  obtain ⟨hR, G, hA, bi, bf, bs, bo, ji, jf, js, a, hio⟩ := hI
  obtain ⟨u0, u1, u2, u3, u4, u5, u6, u7, u8, u9, u10, u11, u12, u13, u14, u15, u16, u17, u18⟩ := G.nn
  obtain ⟨s1, s2, s3, s4, s5, s6, s7, s8, s9, s10, s11, s12, s13, s14, s15, s16, s17, s18, s19, s20, s21⟩ := G.st
  have hnn := hA.1.1
  have hio0 := hio
  obtain ⟨⟨a1, a2, a3, a4, a5, a6, a7⟩, _, ⟨c1, c2, c3, c4, c5⟩, ⟨d1, d2, d3, d4, d5⟩, _, ⟨f1, f2, f3⟩, _⟩ := hio0
  have htk := pS_taken f1
  have htc := cJ_take u11 f2
  have hR1 : RS (S.setI 7 (nI 0)) A := hR.setI rfl
  have G1 : RC N (C.setI 11 11 0 (nI 0)) A rd := RC_take G
  have hio1 := hio.take
  have e5 : (S.setI 7 (nI 0)).i 5 = nI bf.length := c3
  generalize S.setI 7 (nI 0) = S1 at htk hR1 hio1 e5
  generalize C.setI 11 11 0 (nI 0) = C1 at htc G1 hio1
  rcases rep_or x1 with hx1 | ⟨r, hr, rfl⟩
  · refine rlikeT (t := 1) (k := 1) (C' := C1) (S1 := S1) (v := nI 0) ?_ ?_ rfl hR1 G1 hA hio1 (Nat.le_refl _) (by omega)
    · unfold m_cJT_find m_cJT_find_J0
      rw [gl_ok (by omega), htc, ob_ok]
      simp only []
      rw [cJ_shownN hx1, oe_r]
    · unfold m_rfind2 m_rfind2_J0
      rw [htk, ob_ok]
      simp only []
      rw [pS_isN hx1]
      rfl
  obtain ⟨C2, hsh, G2, hv2, hfr2⟩ := cJ_shown G1 hA hr
  have hio2 := hio1.fr frS.refl hfr2
  have hbad : m_cJT_find N 0 C (nI r) = m_cJT_find_J23 N 0 C2 → m_rfind2 S (nI r) = m_rfind2_J24 S1 → RLIKE [(1, 1), (3, 2)] A rd N (m_cJT_find N 0 C (nI r)) (m_rfind2 S (nI r)) := by
    intro h1 h2
    exact rlikeT (t := 1) (k := 1) (C' := C2) (S1 := S1) (v := nI 0) (by rw [h1]; rfl) (by rw [h2]; rfl) rfl hR1 G2 hA hio2 (Nat.le_refl _) (by omega)
  have hF : FR N C2 jf bf := ⟨u5, u13, u11, hio2.1.2.1, hio2.2.2.1.1, hio2.2.2.1.2.1, c5⟩
  have hbS : byts S1 2 0 bf := hio2.2.2.1.2.2.2.1
  have hjf : jf ≠ 0 := by omega
  have hcx : m_cJT_find N 0 C (nI r) = (if nI a = 1 then ob (m_cJT_isPath N 0 C2) (fun o_7 => (if o_7.2 = 0 then m_cJT_find_J23 N 0 o_7.1 else gn (o_7.1.r 11 0 0) (N 8) (fun j_10 => ob (m_cJT_find_L45 N 0 o_7.1 (o_7.1.r 8 0 j_10) 0 0) (fun b_13 => m_cJT_find_J134 N 0 b_13.1 b_13.2)))) else m_cJT_find_J23 N 0 C2) := by
    unfold m_cJT_find m_cJT_find_J0
    rw [gl_ok (by omega), htc, ob_ok]
    simp only []
    rw [hsh, oe_l]
  have hrx : m_rfind2 S (nI r) = (if nI a = 1 then ob (m_risPath S1) (fun o_7 => (if o_7.2 = 0 then m_rfind2_J24 o_7.1 else oe (m_rfind2_L42 o_7.1 (nI r) 0 6 (-1) 0) (fun b_10 => gd b_10.2 4000 (some ((b_10.1.setI 0 0), b_10.1.a 8 b_10.2.toNatClampNeg))) (fun r_12 => some r_12))) else m_rfind2_J24 S1) := by
    unfold m_rfind2 m_rfind2_J0
    rw [htk, ob_ok]
    simp only []
    rw [pS_isR hr, ob_ok, if_neg (show ¬ nI 1 = 0 by decide)]
  by_cases ha1 : ¬ a = 1
  · have hn1 : ¬ nI a = 1 := fun h => ha1 ((nI_eq (b := 1) (by omega) (by omega)).mp h)
    rw [if_neg hn1] at hcx hrx
    exact hbad hcx hrx
  have ha1 : a = 1 := Classical.not_not.mp ha1
  rw [if_pos (show nI a = 1 by rw [ha1]; rfl), cJ_isPath hF, ob_ok] at hcx
  rw [if_pos (show nI a = 1 by rw [ha1]; rfl), pS_isPath e5 hbS c5, ob_ok] at hrx
  simp only [] at hcx hrx
  cases hpk : (decide (0 < bf.length) && pok bf (bf.length + 1) 0) with
  | false =>
    rw [hpk, if_pos (show b2 false = 0 by decide)] at hcx hrx
    exact hbad hcx hrx
  | true =>
    rw [hpk, if_neg (show ¬ b2 true = 0 by decide)] at hcx hrx
    simp only [Bool.and_eq_true, decide_eq_true_eq] at hpk
    have hst := G2.st
    obtain ⟨C3, rd3, k1, k2, k3, k4, k5⟩ := cF_loop G2 hA hv2 hF hjf (by omega) hpk.2
    obtain ⟨S3, m1, m2, m3⟩ := rF_loop hR1 hA hr e5 hbS c5 hpk.2
    have hio3 := hio2.fr m3 k3
    rw [hst.1, gn_s (by omega), hst.2.2.2.2.2.2.2.1, show m_cJT_find_L45 N 0 C2 (some 0) 0 0 = _ from k1, ob_ok] at hcx
    rw [m1] at hrx
    cases hf : fnd A r bf (bf.length + 1) none 0 with
    | none =>
      rw [hf] at hcx hrx
      exact rlikeT (t := 3) (k := 2) (C' := C3) (S1 := S3) (v := nI 0) hcx hrx rfl m2 k2 hA hio3 (by omega) (by omega)
    | some y =>
      rw [hf] at hcx hrx
      rcases fnd_ok hA hf with ⟨h1, _⟩ | ⟨z, rfl, hz⟩
      · omega
      · have hz2 := k2.nn.2.2.2.1
        refine rlikeV (C' := C3) (S1 := S3) (v := nI (A.id z)) ?_ ?_ m2 k2 hA hio3 (by omega) (by omega)
        · rw [hcx]
          unfold m_cJT_find_J134
          simp only [Option.map_some]
          rw [onSome, show ox (some z) = z + 1 from rfl, gl_ok (by omega), (k2.op z hz).1]
        · rw [hrx, oe_l]
          simp only []
          rw [show cI (some z) = nI z from rfl, gd_ok (by omega) (by omega), cl_nI (by omega), (m2.2.1 z hz).1]
          rfl
end FDG
