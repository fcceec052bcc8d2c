/-! LOADED: isRight. -/
section LDD
variable {S S' : MS} {N : Nat → Nat} {C C' : CS} {A : AS} {r rd : Nat} {w bo : List Nat}
theorem and255 (x : Int32) : x &&& 255 = nI (byt x) := by
  have h1 : byt x = x.toBitVec.toNat % 2 ^ 8 := by
    unfold byt
    show (x.toBitVec.signExtend 8).toNat = _
    rw [BitVec.signExtend_eq_setWidth_of_le _ (by decide), BitVec.toNat_setWidth]
  apply Int32.toBitVec_inj.mp
  apply BitVec.eq_of_toNat_eq
  rw [nI_bv, h1, Int32.toBitVec_and, BitVec.toNat_and, show (Int32.toBitVec 255).toNat = 2 ^ 8 - 1 from by decide, Nat.and_two_pow_sub_one_eq_mod]
  omega
theorem k_crc4 (h5 : N 5 = 7) (h13 : N 13 = 7) (h6 : N 6 = 1) (hp : PC bo C w) (y x : Int32) : ∃ C', m_cSv_isRight_L143 N 0 C y x 24 = some (C', y) ∧ PC bo C' (w ++ by4 x) ∧ X3 C C' := by
  have hE := PC_E (bo := bo) h5 h13 h6
  obtain ⟨C1, a1, a2, a3⟩ := hE C w (byt (ushr32 x 24)) hp (byt_lt _)
  obtain ⟨C2, b1, b2', b3⟩ := hE C1 _ (byt (ushr32 x 16)) a2 (byt_lt _)
  obtain ⟨C3, c1, c2, c3⟩ := hE C2 _ (byt (ushr32 x 8)) b2' (byt_lt _)
  obtain ⟨C4, d1, d2, d3⟩ := hE C3 _ (byt x) c2 (byt_lt _)
  refine ⟨C4, ?_, by simpa [by4] using d2, ((a3.trans b3).trans c3).trans d3⟩
  have hb : ∀ (W : CS) (z : Int32) (W' : CS), ¬ z < 0 → m_cSv_emit N 0 W (nI (byt (ushr32 x z))) = some W' → m_cSv_isRight_B143 N 0 W y x z = some (.inl (W', y, x, z + (-8))) := by
    intro W z W' h1 h2
    unfold m_cSv_isRight_B143
    rw [if_neg h1, gl_ok (by omega), and255, h2, ob_ok]
  have e1 := hb C 24 C1 (by decide) a1
  have e2 := hb C1 16 C2 (by decide) b1
  have e3 := hb C2 8 C3 (by decide) c1
  have e4 := hb C3 0 C4 (by decide) (by rw [show ushr32 x 0 = x from ushr0' x]; exact d1)
  have e5 : m_cSv_isRight_B143 N 0 C4 y x (-8) = some (.inr (C4, y)) := by
    unfold m_cSv_isRight_B143
    rw [if_pos (by decide)]
  unfold m_cSv_isRight_L143 FU
  rw [show (1000000 : Nat) = 999995 + 1 + 1 + 1 + 1 + 1 from rfl]
  simp only [lp, e1, show (24 : Int32) + (-8) = 16 from by decide, e2, show (16 : Int32) + (-8) = 8 from by decide, e3, show (8 : Int32) + (-8) = 0 from by decide, e4, show (0 : Int32) + (-8) = -8 from by decide, e5]
theorem svd_pfx {t : Nat → Nat} : A.svd t = pfx A (grp (sumTo t 8)) t 8 := by
  unfold AS.svd pfx
  rw [chs_B]
  rfl
theorem k_right (G : RC N C A rd) (hA : AI A) (hw : RW C 3 bo.length) (hb : RB C 3 0 bo) : ∃ C' ok k, m_cSv_isRight N 0 C = some (C', b2 ok) ∧ X4 C C' ∧ RW C' 3 bo.length ∧ RB C' 3 0 bo ∧ (∀ a, k a ≤ A.hv a a) ∧ (∀ a, a < 8 → C'.a 12 9 a = nI (k a)) ∧ (ok = true → bo = sv4 (A.svd k)) ∧
    ∀ t : Nat → Nat, (∀ a, t a ≤ A.hv a a) → bo = sv4 (A.svd t) → ok = true ∧ ∀ a, a < 8 → k a = t a := by
  obtain ⟨u0, u1, u2, u3, u4, u5, u6, u7, u8, u9, u10, u11, u12, u13, u14, u15, u16, u17, u18⟩ := G.nn
  have hK := LOK_of G hA
  have hE := PC_E (bo := bo) u5 u13 u6
  obtain ⟨C1, hC1⟩ : ∃ C1, C1 = ((C.setI 6 3 0 1).setI 6 4 0 0).setI 6 5 0 0 := ⟨_, rfl⟩
  have x1 : X3 C C1 := by rw [hC1]; exact (X3_setI6.trans X3_setI6).trans X3_setI6
  have hp1 : PC bo C1 [] := by
    refine ⟨?_, ?_, ⟨hw.1, by rw [x1.rr]; exact hw.2.1, ?_, by rw [x1.zz]; exact hw.2.2.2.1, by rw [x1.zz]; exact hw.2.2.2.2⟩, ?_, fun _ => ⟨?_, ?_⟩⟩
    · rw [hC1, CS.i_setI, if_neg (by omega), CS.i_setI, if_neg (by omega), CS.i_setI, if_pos ⟨rfl, rfl, rfl⟩]
    · rw [x1.rr]; exact G.st.2.2.2.2.2.2.2.2.2.2.2.2.2.2.2.2.2.2.2.1
    · rw [hC1, CS.i_setI, if_neg (by omega), CS.i_setI, if_neg (by omega), CS.i_setI, if_neg (by omega)]; exact hw.2.2.1
    · intro i hi
      rw [hC1]
      exact hb i hi
    · rw [hC1, CS.i_setI, if_pos ⟨rfl, rfl, rfl⟩]; rfl
    · rw [hC1, CS.i_setI, if_neg (by omega), CS.i_setI, if_pos ⟨rfl, rfl, rfl⟩, decide_eq_true (List.nil_prefix)]; rfl
  obtain ⟨ht1, ht2⟩ := k_told u5 u13 u6 hp1
  obtain ⟨C2, a1, a2, a3⟩ := e_n (N := N) hE u6 hp1 (n := toldN bo) (by omega)
  rw [List.nil_append] at a2
  have g1 := grp_len (toldN bo)
  have G2 := a3.RC (x1.RC G)
  obtain ⟨C3, k, b1, b2', b3, b4, b5, b6, b7⟩ := r_all G2 hA hK (L := toldN bo) a2 (by omega) (by omega)
  have hPl : (pfx A (grp (toldN bo)) k 8).length ≤ 224586 := by
    obtain ⟨n1, n2⟩ := chs_nodup hA b4
    have := chB_sum hA hK n1 n2
    rw [chs_B] at this
    unfold pfx
    rw [List.length_append]
    have h2 : ((List.range 8).flatMap (fun b => A.blk b (k b))).length ≤ 224576 := this
    omega
  generalize hP : pfx A (grp (toldN bo)) k 8 = P at b2' hPl
  obtain ⟨q1, _⟩ := b2'.2.2.2.2 (by omega)
  have hcrc := k_crc u5 u13 u6 b2'.2.1 b2'.2.2.1 b2'.2.2.2.1 (n := P.length) (by omega)
  obtain ⟨C4, c1, c2, c3⟩ := k_crc4 u5 u13 u6 b2' (nI (toldN bo - sumTo k 8)) (crcV (pad bo P.length))
  generalize hQ : P ++ by4 (crcV (pad bo P.length)) = Q at c2
  have hQl : Q.length = P.length + 4 := by rw [← hQ, List.length_append, by4_len]
  obtain ⟨q3, q4⟩ := c2.2.2.2.2 (by omega)
  have x4 : X4 C C4 := ((x1.trans a3).to4.trans b3).trans c3.to4
  have hlen := c2.2.2.1
  have hC4a : ∀ a, a < 8 → C4.a 12 9 a = nI (k a) := fun a ha => by rw [c3.aa (by omega)]; exact b6 a ha
  have hb256 : ∀ i (h : i < bo.length), bo[i] < 256 := fun i h => (hb i h).1
  refine ⟨C4, decide (Q <+: bo) && decide (sumTo k 8 = toldN bo) && decide (Q.length = bo.length), k, ?_, x4, c2.2.2.1, c2.2.2.2.1, b4, hC4a, ?_, ?_⟩
  · unfold m_cSv_isRight m_cSv_isRight_J0
    rw [gl_ok (by omega), ← hC1, ht1, ob_ok]
    simp only []
    rw [a1, ob_ok, b1, ob_ok]
    simp only []
    rw [q1, hcrc, ob_ok]
    simp only []
    rw [c1, ob_ok]
    simp only []
    rw [q4, q3]
    unfold m_cSv_isRight_J193 m_cSv_isRight_J194
    cases hd : decide (Q <+: bo) with
    | false => rfl
    | true =>
      rw [if_pos (show b2 (!true) = 0 by decide)]
      by_cases e2 : sumTo k 8 = toldN bo
      · rw [e2, Nat.sub_self, if_pos (show nI 0 = 0 from rfl), c2.2.1, gn_s (by omega), hlen.2.2.1, decide_eq_true rfl]
        by_cases e3 : Q.length = bo.length
        · rw [if_pos (by rw [e3]), decide_eq_true e3]; rfl
        · have hz := hlen.2.2.2
          rw [if_neg (fun h => e3 ((nI_eq (by omega) (by omega)).mp h)), decide_eq_false e3]; rfl
      · rw [if_neg (show ¬ nI (toldN bo - sumTo k 8) = 0 from fun h => e2 (by have := (nI_eq (b := 0) (by omega) (by omega)).mp h; omega)), decide_eq_false e2]
        rfl
  · intro h
    simp only [Bool.and_eq_true, decide_eq_true_eq] at h
    obtain ⟨⟨h1, h2⟩, h3⟩ := h
    have hbo : Q = bo := h1.eq_of_length h3
    have hPp : P <+: bo := by rw [← hbo, ← hQ]; exact List.prefix_append _ _
    have hpad : pad bo P.length = P := by
      rw [pad_self (List.IsPrefix.length_le hPp)]
      exact (List.prefix_iff_eq_take.mp hPp).symm
    rw [hpad] at hQ
    have hPs : P = A.svd k := by rw [svd_pfx, h2]; exact hP.symm
    rw [← hbo, ← hQ, hPs]
    rfl
  · intro t ht hbt
    obtain ⟨hsl, hsm⟩ := svd_len hA hK ht
    have hn0 : toldN bo = sumTo t 8 := by
      rw [hbt]
      unfold sv4 AS.svd
      rw [List.append_assoc]
      exact told_grp (by omega)
    have hbp : bo = pfx A (grp (toldN bo)) t 8 ++ by4 (crcV (A.svd t)) := by
      rw [hn0, ← svd_pfx]
      exact hbt
    have hk := cmp_eq (bo := bo) (w := grp (toldN bo)) (k := k) hA ht hbp hb256 (fun a ha => by rw [← hn0]; exact b7 a ha) 8 (Nat.le_refl _)
    have hPt : P = A.svd t := by
      rw [← hP, svd_pfx, ← hn0]
      exact pfx_congr hk
    have hpad : pad bo P.length = P := by
      have hPp : P <+: bo := by rw [hPt, hbt]; exact List.prefix_append _ _
      rw [pad_self (List.IsPrefix.length_le hPp)]
      exact (List.prefix_iff_eq_take.mp hPp).symm
    have hQb : Q = bo := by
      rw [← hQ, hpad, hPt, hbt]
      rfl
    refine ⟨?_, hk⟩
    rw [hQb, hn0, sumTo_congr hk]
    simp
end LDD
