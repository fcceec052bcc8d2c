/-! JSON: the loop. -/
theorem lp_mono {α ε : Type} {body : α → Option (α ⊕ ε)} : ∀ (m k : Nat) (a : α) (e : ε), lp body m a = some e → lp body (m + k) a = some e := by
  intro m
  induction m with
  | zero => intro k a e h; cases h
  | succ m ih =>
    intro k a e h
    rw [show m + 1 + k = (m + k) + 1 by omega]
    unfold lp at h ⊢
    cases hb : body a with
    | none => rw [hb] at h; cases h
    | some o =>
      rw [hb] at h
      cases o with
      | inl a' => exact ih k a' e h
      | inr e' => exact h
theorem lp_l {α ε : Type} {body : α → Option (α ⊕ ε)} {m : Nat} {a a' : α} (h : body a = some (.inl a')) : lp body (m + 1) a = lp body m a' := by
  conv => lhs; unfold lp
  rw [h]
theorem lp_r {α ε : Type} {body : α → Option (α ⊕ ε)} {m : Nat} {a : α} {e : ε} (h : body a = some (.inr e)) : lp body (m + 1) a = some e := by
  unfold lp
  rw [h]
def bC (N : Nat → Nat) : CS × Int32 × Int32 → Option ((CS × Int32 × Int32) ⊕ (CS × Int32)) := fun a => m_cRd_parse_B53 N 0 a.1 a.2.1 a.2.2
def bR : MS → Option (MS ⊕ MS) := fun a => m_rjson_B36 a
def OUT (N : Nat → Nat) (C C' : CS) (S S' : MS) (js : Nat) (bs : List Nat) (y : Int32) : Prop := QC C C' ∧ QR S S' ∧ WF N C' ∧ C'.r 1 0 0 = some 0 ∧ C'.r 1 1 0 = some 1 ∧ ((y = 1 ∧ S'.i 68 = 0 ∧ ∃ J', CR N C' js bs J' ∧ SR S' bs J' ∧ JI bs J' 0 ∧ J'.dp = 0 ∧ 0 < J'.n) ∨ (S'.i 68 = 1 ∧ ∃ q, q ≤ bs.length ∧ S'.i 66 = nI q ∧ C'.i 1 4 0 = nI q ∧ (y = 0 ∨ (y = 1 ∧ isD bs q = true ∧ CT N C' js bs q))))
section JSQ
variable {S S' T : MS} {N : Nat → Nat} {C C' B : CS} {J : JS} {p js k kl t q : Nat} {bs d0 y : List Nat}
theorem OUT.mono {C0 : CS} {S0 : MS} {y : Int32} (h : OUT N C C' S S' js bs y) (h1 : QC C0 C) (h2 : QR S0 S) : OUT N C0 C' S0 S' js bs y := ⟨h1.trans h.1, h2.trans h.2.1, h.2.2⟩
theorem isD_skp (hb : ∀ i (hi : i < bs.length), bs[i] < 256) (h : isD bs q = true) : skp bs q = q := by
  have : rn blB bs q = 0 := by
    cases e : rn blB bs q with
    | zero => rfl
    | succ n =>
      have h1 := rn_at (q := blB) (bf := bs) (p := q) (j := 0) (by omega)
      rw [Nat.add_zero] at h1
      have h2 := (bl_atI hb).mp h1
      have h3 := ((isD_at hb).mp h).1
      exfalso
      rcases h2 with g | g | g | g <;> rw [g] at h3 <;> exact h3 (by decide)
  unfold skp
  rw [this, Nat.add_zero]
/-- a number goes on: the class finds it in its next step -/
theorem zomb (hC : CR N C js bs J) (hI : JI bs J 0) (hf : J.fr = false) (hd : 0 < J.dp) (hD : isD bs J.p = true) {i : Nat} (hi : i ≤ 8192) : ∃ C', m_cRd_parse_B53 N 0 C 1 (nI i) = some (.inl (C', 0, nI (i + 1))) ∧ QC C C' ∧ WF N C' ∧ C'.r 1 0 0 = some 0 ∧ C'.r 1 1 0 = some 1 ∧ C'.i 1 4 0 = nI J.p := by
  have hb := hC.2.1.b
  have hN := hC.2.1.1
  have hjs := hC.2.1.2.2.1.1
  have h1i := hI.1
  have htp : J.tp = some (J.st (J.dp - 1)) := by unfold JS.tp; rw [if_neg (by omega)]
  have htn := hI.2.1 (J.dp - 1) (by omega)
  have hsoC := (hC.2.2.2.2.2.2.2.2 _ htn.1).1
  have h16 : C.r 1 6 0 = some (J.st (J.dp - 1)) := by rw [hC.2.2.2.2.2.2.1, htp]
  have h97 := hC.2.2.2.2.2.2.2.1 (J.dp - 1) (by omega)
  rw [if_neg (fun g => by rw [hf] at g; cases g.2)] at h97
  have hsk := c_skip hC.2.1
  rw [isD_skp hb hD] at hsk
  have hC1 := hC.mv h1i.2.2.2.1
  have hat := hC1.2.1.at
  rw [show (J.mv J.p).p = J.p from rfl] at hat
  obtain ⟨n1, n2⟩ := (isD_at hb).mp hD
  have hlt : ∀ c : Int32, (c < 48 ∨ 57 < c) → ¬ atI bs J.p = c := by
    rintro c hc e
    rw [e] at n1 n2
    rcases hc with g | g
    · exact n1 g
    · exact n2 g
  have hJ : ∀ cl : Int32, (57 < cl) → m_cRd_readInside_J34 N 0 (C.setI 1 4 0 (nI J.p)) cl (atI bs J.p) = some (C.setI 1 4 0 (nI J.p), 0) := by
    intro cl hcl
    unfold m_cRd_readInside_J34
    rw [if_neg (hlt cl (Or.inr hcl)), gl_ok (by omega), show (C.setI 1 4 0 (nI J.p)).r 1 6 0 = some (J.st (J.dp - 1)) from h16, gn_s (by omega), if_neg (show ¬ (C.setI 1 4 0 (nI J.p)).i 9 7 (J.st (J.dp - 1)) = 0 by rw [CS.i_setI, if_neg (by omega), h97]; decide), hC1.2.1.2.1.1, gn_s (by omega), hat, ob_ok]
    simp only []
    rw [if_neg (hlt 44 (Or.inl (by decide)))]
  refine ⟨C.setI 1 4 0 (nI J.p), ?_, QC_i1, hC.1, hC.2.2.2.1.1, hC.2.2.1.2.2.2, by rw [CS.i_setI, if_pos ⟨rfl, rfl, rfl⟩]⟩
  unfold m_cRd_parse_B53 m_cRd_parse_J96 m_cRd_parse_J97 m_cRd_readInside m_cRd_readInside_J0
  rw [if_neg (show ¬ (8192 : Int32) < nI i from fun g => by have := (nI_ltI (a := 8192) (b := i) (by omega) (by omega)).mp g; omega), if_neg (show ¬ (1 : Int32) = 0 by decide), gl_ok (by omega), h16, onSome, gl_ok (by omega), hsk, ob_ok, hC1.2.1.2.1.1, gn_s (by omega), hat, ob_ok]
  simp only []
  rw [show (C.setI 1 4 0 (nI J.p)).r 1 6 0 = some (J.st (J.dp - 1)) from h16, gn_s (by omega), hJ 125 (by decide), hJ 93 (by decide), nI_s]
  split <;> rfl
theorem jl : ∀ (m : Nat) (C C' : CS) (S S' : MS) (p0 i : Nat) (y : Int32), VAL N C C' S S' js bs p0 y → bs.length - p0 ≤ m → i ≤ p0 → p0 ≤ 8192 → ∃ C'' S'' y', lp (bC N) (m + 3) (C', y, nI i) = some (C'', y') ∧ lp bR (2 * m + 4) S' = some S'' ∧ OUT N C C'' S S'' js bs y' := by
  intro m
  induction m with
  | zero =>
    intro C C' S S' p0 i y hV hm hi hp
    obtain ⟨a1, a2, a3, a4, a5, a6, a7⟩ := hV
    have hc0 : ∀ (D : CS) (j : Nat), bC N (D, 0, nI j) = some (.inr (D, 0)) := by
      intro D j
      show m_cRd_parse_B53 N 0 D 0 (nI j) = _
      unfold m_cRd_parse_B53
      rw [if_pos rfl]
      split <;> rfl
    have hs1 : ∀ T : MS, T.i 68 = 1 → bR T = some (.inr T) := by
      intro T hT
      show m_rjson_B36 T = _
      unfold m_rjson_B36
      rw [if_neg (by rw [hT]; decide)]
    rcases a7 with ⟨b1, J', b2, b3, b4, b5, b6⟩ | ⟨b1, q, b2, b3, b4, b5⟩
    · have := b4.1; omega
    · rcases b5 with b5 | ⟨b5, J', c1, c2, c3, c4, c5⟩
      · subst b5
        exact ⟨C', S', 0, lp_r (hc0 C' i), lp_r (hs1 S' b1), a1, a2, a4, a5, a6, Or.inr ⟨b1, q, b2, b3, b4, Or.inl rfl⟩⟩
      · subst b5
        subst c4
        by_cases hd : J'.dp = 0
        · have hx : bC N (C', 1, nI i) = some (.inr (C', 1)) := by
            have hN := c1.2.1.1
            show m_cRd_parse_B53 N 0 C' 1 (nI i) = _
            unfold m_cRd_parse_B53
            rw [if_neg (show ¬ (8192 : Int32) < nI i from fun g => by have := (nI_ltI (a := 8192) (b := i) (by omega) (by omega)).mp g; omega), if_neg (show ¬ (1 : Int32) = 0 by decide), gl_ok (by omega), c1.2.2.2.2.2.2.1]
            unfold JS.tp
            rw [if_pos hd]
            rfl
          exact ⟨C', S', 1, lp_r hx, lp_r (hs1 S' b1), a1, a2, a4, a5, a6, Or.inr ⟨b1, J'.p, b2, b3, b4, Or.inr ⟨rfl, c5, c1.2.1⟩⟩⟩
        · obtain ⟨C2, z1, z2, z3, z4, z5, z6⟩ := zomb c1 c2 c3 (by omega) c5 (i := i) (by omega)
          refine ⟨C2, S', 0, ?_, lp_r (hs1 S' b1), a1.trans z2, a2, z3, z4, z5, Or.inr ⟨b1, J'.p, b2, b3, z6, Or.inl rfl⟩⟩
          rw [show 0 + 3 = 1 + 1 + 1 from rfl, lp_l (show bC N (C', 1, nI i) = _ from z1), lp_r (hc0 C2 (i + 1))]
  | succ m ih =>
    intro C C' S S' p0 i y hV hm hi hp
    have hV0 := hV
    obtain ⟨a1, a2, a3, a4, a5, a6, a7⟩ := hV
    have hc0 : ∀ (D : CS) (j : Nat), bC N (D, 0, nI j) = some (.inr (D, 0)) := by
      intro D j
      show m_cRd_parse_B53 N 0 D 0 (nI j) = _
      unfold m_cRd_parse_B53
      rw [if_pos rfl]
      split <;> rfl
    have hs1 : ∀ T : MS, T.i 68 = 1 → bR T = some (.inr T) := by
      intro T hT
      show m_rjson_B36 T = _
      unfold m_rjson_B36
      rw [if_neg (by rw [hT]; decide)]
    have hx : ∀ J' : JS, CR N C' js bs J' → J'.dp = 0 → bC N (C', 1, nI i) = some (.inr (C', 1)) := by
      intro J' c1 hd
      have hN := c1.2.1.1
      show m_cRd_parse_B53 N 0 C' 1 (nI i) = _
      unfold m_cRd_parse_B53
      rw [if_neg (show ¬ (8192 : Int32) < nI i from fun g => by have := (nI_ltI (a := 8192) (b := i) (by omega) (by omega)).mp g; omega), if_neg (show ¬ (1 : Int32) = 0 by decide), gl_ok (by omega), c1.2.2.2.2.2.2.1]
      unfold JS.tp
      rw [if_pos hd]
      rfl
    rcases a7 with ⟨b1, J', b2, b3, b4, b5, b6, b7⟩ | ⟨b1, q, b2, b3, b4, b5⟩
    · subst b1
      by_cases hd : J'.dp = 0
      · refine ⟨C', S', 1, lp_r (hx J' b2 hd), ?_, a1, a2, a4, a5, a6, Or.inl ⟨rfl, b3.2.2.2.2.1, J', b2, b3, b4, hd, b7⟩⟩
        apply lp_r
        show m_rjson_B36 S' = _
        unfold m_rjson_B36
        rw [if_pos b3.2.2.2.2.1, b3.2.2.2.1, hd, if_pos (show nI 0 ≤ 0 by decide)]
      · have h4 := b4.1
        obtain ⟨C2, S2, y2, e1, e2, e3, e4⟩ := jstep b2 b3 b4 (by omega) (a3 rfl) b6 b7 (i := i) (by omega)
        obtain ⟨C3, S3, y3, f1, f2, f3⟩ := ih C' C2 S' S2 J'.p (i + 1) y2 e4 (by omega) (by omega) (by omega)
        refine ⟨C3, S3, y3, ?_, ?_, f3.mono a1 a2⟩
        · rw [show m + 1 + 3 = m + 3 + 1 by omega, lp_l (show bC N (C', 1, nI i) = _ from e1)]
          exact f1
        · rcases e3 with e3 | ⟨S1, e3, e5⟩
          · rw [show 2 * (m + 1) + 4 = (2 * m + 4 + 1) + 1 by omega, lp_l (show bR S' = _ from e3)]
            exact lp_mono (2 * m + 4) 1 S2 S3 f2
          · rw [show 2 * (m + 1) + 4 = (2 * m + 4 + 1) + 1 by omega, lp_l (show bR S' = _ from e3), lp_l (show bR S1 = _ from e5)]
            exact f2
    · rcases b5 with b5 | ⟨b5, J', c1, c2, c3, c4, c5⟩
      · subst b5
        exact ⟨C', S', 0, lp_r (hc0 C' i), lp_r (hs1 S' b1), a1, a2, a4, a5, a6, Or.inr ⟨b1, q, b2, b3, b4, Or.inl rfl⟩⟩
      · subst b5
        subst c4
        by_cases hd : J'.dp = 0
        · exact ⟨C', S', 1, lp_r (hx J' c1 hd), lp_r (hs1 S' b1), a1, a2, a4, a5, a6, Or.inr ⟨b1, J'.p, b2, b3, b4, Or.inr ⟨rfl, c5, c1.2.1⟩⟩⟩
        · obtain ⟨C2, z1, z2, z3, z4, z5, z6⟩ := zomb c1 c2 c3 (by omega) c5 (i := i) (by omega)
          refine ⟨C2, S', 0, ?_, lp_r (hs1 S' b1), a1.trans z2, a2, z3, z4, z5, Or.inr ⟨b1, J'.p, b2, b3, z6, Or.inl rfl⟩⟩
          rw [show m + 1 + 3 = (m + 2) + 1 + 1 by omega, lp_l (show bC N (C', 1, nI i) = _ from z1), lp_r (hc0 C2 (i + 1))]
end JSQ
