/-! READ: all values are written; the sum. -/
section RDD
variable {S S' : MS} {N N' : Nat → Nat} {C C' : CS} {A B D : AS} {J : JS} {r rd rd' i lb : Nat} {tx : List Nat} {x3 x3' : Int32} {x : Option Nat} {bi bf bs bo : List Nat} {ji jf js a : Nat}
theorem lpA_l {α ε : Type} {body : α → Option ((α ⊕ ε) × Nat × Nat)} {m c z : Nat} {a a' : α} (h : body a = some (.inl a', c, z)) : lpA body (m + 1) a = al c z (lpA body m a') := by
  conv => lhs; unfold lpA
  rw [h]
theorem lpA_r {α ε : Type} {body : α → Option ((α ⊕ ε) × Nat × Nat)} {m c z : Nat} {a : α} {e : ε} (h : body a = some (.inr e, c, z)) : lpA body (m + 1) a = some (e, c, z) := by
  unfold lpA
  rw [h]
theorem w_all (hI : JI tx J 0) (hr : r < 8) (hx : A.oV r x) (hkd : A.kd x = 6) (hb : 1 ≤ bf.length ∧ bf.length ≤ 64) (hN : A.n + J.n ≤ 4000) (hT : A.kn + bf.length + sumN J.w J.n ≤ 24576) :
    ∀ (k i m : Nat) (N : Nat → Nat) (C : CS) (S : MS) (B : AS) (rd : Nat) (x3 : Int32), i + k = J.n → k < m → WIN A J r bf.length i N C S B rd x3 → RIO S C bi bf bs bo ji jf js a → rd + k < 2 ^ 30 → ∃ N' C' S' B' rd' x3' c z, lpA (fun a : (Nat → Nat) × CS × Option Nat × Option Nat × Int32 × Int32 => m_cJT_writeValues_B5 a.1 0 a.2.1 a.2.2.1 a.2.2.2.1 a.2.2.2.2.1 a.2.2.2.2.2) m (N, C, some r, some (ox x), x3, nI i) = some ((N', C', x3'), c, z) ∧ lp (fun a : MS × Int32 × Int32 × Int32 => m_rread_B194 a.1 a.2.1 a.2.2.1 a.2.2.2) m (S, nI r, nI (A.oi x), nI i) = some S' ∧ WIN A J r bf.length J.n N' C' S' B' rd' x3' ∧ RIO S' C' bi bf bs bo ji jf js a ∧ c ≤ 2 * k ∧ z ≤ 23 * k ∧ rd ≤ rd' ∧ rd' ≤ rd + k := by
  intro k
  induction k with
  | zero =>
    intro i m N C S B rd x3 hik hm hW hio hrd
    obtain ⟨m', rfl⟩ : ∃ m', m = m' + 1 := ⟨m - 1, by omega⟩
    obtain rfl : i = J.n := by omega
    obtain ⟨⟨hR, G, hA, hV, hlk⟩, _, ⟨hKC, hKS⟩, _⟩ := id hW
    obtain ⟨u0, u1, u2, u3, u4, u5, u6, u7, u8, u9, u10, u11, u12, u13, u14, u15, u16, u17, u18⟩ := G.nn
    obtain ⟨s1, s2, s3, s4, s5, s6, s7, s8, s9, s10, s11, s12, s13, s14, s15, s16, s17, s18, s19, s20, s21⟩ := G.st
    have h1i := hI.1
    refine ⟨N, C, S, B, rd, x3, 0, 0, lpA_r ?_, lp_r ?_, hW, hio, by omega, by omega, Nat.le_refl _, by omega⟩
    · show m_cJT_writeValues_B5 N 0 C (some r) (some (ox x)) x3 (nI J.n) = _
      unfold m_cJT_writeValues_B5
      rw [gl_ok (by omega), s4, gn_s (by omega), hKC.2.1, if_pos (Int32.le_refl _)]
    · show m_rread_B194 S (nI r) (nI (A.oi x)) (nI J.n) = _
      unfold m_rread_B194
      rw [hKS.2.1, if_pos (Int32.le_refl _)]
  | succ k ih =>
    intro i m N C S B rd x3 hik hm hW hio hrd
    obtain ⟨m', rfl⟩ : ∃ m', m = m' + 1 := ⟨m - 1, by omega⟩
    have hi : i < J.n := by omega
    have hst : WST A J r x bi bf bs bo ji jf js a i N C S rd x3 := by
      obtain ⟨j1, j2, j3, j4, j5, j6⟩ := hI.2.2.1 i hi
      cases har : J.ar i with
      | none =>
        have h0 := j2.mp har
        subst h0
        exact w_root hW hio hI hi hr hx hkd hb (by omega) hN hT
      | some w =>
        rcases (j3 w har).2.1 with h6 | h7
        · exact w_map hW hio hI hi hr hx har h6 (by omega) hN hT
        · exact w_list hW hio hI hi hr hx har h7 hN hT
    obtain ⟨N1, C1, S1, B1, rd1, y3, c1, z1, e1, e2, e3, e4, e5, e6, e7, e8⟩ := hst
    obtain ⟨N2, C2, S2, B2, rd2, y4, c2, z2, f1, f2, f3, f4, f5, f6, f7, f8⟩ := ih (i + 1) m' N1 C1 S1 B1 rd1 y3 (by omega) (by omega) e3 e4 (by omega)
    refine ⟨N2, C2, S2, B2, rd2, y4, c2 + c1, z2 + z1, ?_, ?_, f3, f4, by omega, by omega, by omega, by omega⟩
    · rw [lpA_l (show (fun a : (Nat → Nat) × CS × Option Nat × Option Nat × Int32 × Int32 => m_cJT_writeValues_B5 a.1 0 a.2.1 a.2.2.1 a.2.2.2.1 a.2.2.2.2.1 a.2.2.2.2.2) (N, C, some r, some (ox x), x3, nI i) = _ from e1), f1, al_ok]
    · rw [lp_l (show (fun a : MS × Int32 × Int32 × Int32 => m_rread_B194 a.1 a.2.1 a.2.2.1 a.2.2.2) (S, nI r, nI (A.oi x), nI i) = _ from e2), f2]
theorem s_sum (hI : JI tx J 0) (hS : KS S J) (x1 x2 : Int32) {lb : Nat} (hlb : lb ≤ 8192) : m_rread_L117 S x1 x2 (nI lb) 0 = some (S, x1, x2, nI (lb + sumN J.w J.n)) := by
  have h1i := hI.1
  have h8 := hI.2.2.2.1
  have := lp_run (body := fun a : MS × Int32 × Int32 × Int32 × Int32 => m_rread_B117 a.1 a.2.1 a.2.2.1 a.2.2.2.1 a.2.2.2.2)
    (fun i u => u = (S, x1, x2, nI (lb + sumN J.w i), nI i) ∧ i ≤ J.n) (fun e => e = (S, x1, x2, nI (lb + sumN J.w J.n))) J.n ?_ FU (S, x1, x2, nI lb, nI 0) (by unfold FU; omega) ⟨rfl, Nat.zero_le _⟩
  · obtain ⟨e, h1, h2⟩ := this
    unfold m_rread_L117
    rw [show lp (fun a : MS × Int32 × Int32 × Int32 × Int32 => m_rread_B117 a.1 a.2.1 a.2.2.1 a.2.2.2.1 a.2.2.2.2) FU (S, x1, x2, nI lb, 0) = _ from h1, h2]
  · rintro i _ hi ⟨rfl, him⟩
    show (∃ a', m_rread_B117 S x1 x2 (nI (lb + sumN J.w i)) (nI i) = _ ∧ _) ∨ (∃ e, m_rread_B117 S x1 x2 (nI (lb + sumN J.w i)) (nI i) = _ ∧ _)
    by_cases ci : i = J.n
    · right
      refine ⟨_, ?_, rfl⟩
      unfold m_rread_B117
      rw [hS.2.1, if_pos ((nI_leI (by omega) (by omega)).mpr (by omega)), ci]
    · left
      have hlt : i < J.n := by omega
      obtain ⟨v0, v1, v2, v3, v4, v5⟩ := hS.2.2 i hlt
      have hso := (hI.2.2.1 i hlt).1.1
      refine ⟨(S, x1, x2, nI (lb + sumN J.w (i + 1)), nI (i + 1)), ?_, hlt, rfl, hlt⟩
      unfold m_rread_B117 m_rread_J157
      rw [hS.2.1, if_neg (nle hlt (by omega)), gd_ok (by omega) (by omega), gd_ok (by omega) (by omega), gd_ok (by omega) (by omega), cl_nI (by omega), v0, v4, nI_s]
      have e : sumN J.w (i + 1) = sumN J.w i + J.w i := rfl
      rw [e]
      unfold JS.w
      by_cases c4 : J.so i = 4
      · rw [if_pos (show nI (J.so i) = 4 by rw [c4]; rfl), if_pos c4, (v5 c4).2, nI_add, nI_add, Nat.add_assoc]
      · rw [if_neg (show ¬ nI (J.so i) = 4 from fun g => c4 ((nI_eq (a := J.so i) (b := 4) (by omega) (by omega)).mp g)), if_neg c4, show (0 : Int32) = nI 0 from rfl, nI_add, nI_add, Nat.add_assoc]
theorem RIO.q (h : RIO S C bi bf bs bo ji jf js a) (hS : QR S S') (hC : QC C C') : RIO S' C' bi bf bs bo ji jf js a := by
  obtain ⟨⟨a1, a2, a3, a4, a5, a6, a7⟩, ⟨b1, b2, b3, b4, b5⟩, ⟨c1, c2, c3, c4, c5⟩, ⟨d1, d2, d3, d4, d5⟩, ⟨e1, e2, e3, e4⟩, ⟨f1, f2, f3⟩, g1, sv, g2, g3⟩ := h
  have hr : ∀ f, C'.r 11 f 0 = C.r 11 f 0 := fun f => hC.2.2.1 11 f 0 (by decide) (by decide)
  have hi : ∀ f, C'.i 11 f 0 = C.i 11 f 0 := fun f => hC.1 11 f 0 (by decide) (by decide) (by omega)
  have hW : ∀ j l, 3 ≤ j → RW C j l → RW C' j l := fun j l hj hh => ⟨hh.1, by rw [hC.2.2.1 5 0 j (by decide) (by decide)]; exact hh.2.1, by rw [hC.1 5 1 j (by decide) (by decide) (by omega)]; exact hh.2.2.1, by rw [hC.2.2.2.2.2]; exact hh.2.2.2⟩
  have hB : ∀ j p k, 3 ≤ j → RB C j p k → RB C' j p k := fun j p k hj hh q hq => by rw [hC.2.2.2.1 13 j _ (by omega)]; exact hh q hq
  have sa : ∀ k, k < 53 → S'.a k = S.a k := fun k hk => hS.2.1 k (Or.inl hk) (by omega) (by omega)
  have si : ∀ k, k < 64 → S'.i k = S.i k := fun k hk => hS.1 k (Or.inl hk)
  refine ⟨⟨by rw [hr]; exact a1, by rw [hr]; exact a2, by rw [hr]; exact a3, a4, a5, a6, a7⟩, ⟨hW _ _ (by omega) b1, hB _ _ _ (by omega) b2, by rw [si 4 (by omega)]; exact b3, byts_fr b4 (sa 1 (by omega)), b5⟩, ⟨hW _ _ (by omega) c1, hB _ _ _ (by omega) c2, by rw [si 5 (by omega)]; exact c3, byts_fr c4 (sa 2 (by omega)), c5⟩, ⟨hW _ _ (by omega) d1, hB _ _ _ (by omega) d2, by rw [si 6 (by omega)]; exact d3, byts_fr d4 (sa 3 (by omega)), d5⟩, ⟨hW _ _ (by omega) e1, hB _ _ _ (by omega) e2, by rw [si 41 (by omega)]; exact e3, byts_fr e4 (sa 40 (by omega))⟩, ⟨by rw [si 7 (by omega)]; exact f1, by rw [hi]; exact f2, f3⟩, by rw [si 42 (by omega), hi]; exact g1, sv, by rw [si 43 (by omega)]; exact g2, by rw [hi]; exact g3⟩
theorem RIO.whr (h : RIO S C bi bf bs bo ji jf js a) {v : Int32} : RIO (S.setI 42 v) (C.setI 11 12 0 v) bi bf bs bo ji jf js a := by
  obtain ⟨a1, b, c, d, e, f, g1, g2⟩ := h
  exact ⟨a1, b, c, d, e, f, rfl, g2⟩
end RDD
