/-! LOADED: the class compares. -/
/-- the saver compares with what goes out -/
def PC (bo : List Nat) (C : CS) (w : List Nat) : Prop := C.i 6 3 0 = 1 ∧ C.r 6 1 0 = some 3 ∧ RW C 3 bo.length ∧ RB C 3 0 bo ∧ (w.length ≤ 1000000000 → C.i 6 5 0 = nI w.length ∧ C.i 6 4 0 = b2 (!decide (w <+: bo)))
theorem pre_snoc {w bo : List Nat} {b : Nat} : (w ++ [b]) <+: bo ↔ w <+: bo ∧ bo[w.length]? = some b := by
  constructor
  · rintro ⟨t, rfl⟩
    refine ⟨⟨b :: t, by simp⟩, ?_⟩
    simp
  · rintro ⟨⟨t, rfl⟩, h⟩
    rw [List.getElem?_append_right (Nat.le_refl _), Nat.sub_self] at h
    cases t with
    | nil => cases h
    | cons c t =>
      simp at h
      subst h
      exact ⟨t, by simp⟩
theorem atI_eq {bo : List Nat} {p b : Nat} (hb : b < 256) (hbo : ∀ i (h : i < bo.length), bo[i] < 256) : atI bo p = nI b ↔ bo[p]? = some b := by
  unfold atI
  cases h : bo[p]? with
  | none =>
    constructor
    · intro h1
      have h3 : (-nI 1 : Int32) < 0 := by decide
      rw [show (-nI 1 : Int32) = nI b from h1] at h3
      exact absurd h3 (nI_pos (by omega))
    · intro h1; cases h1
  | some c =>
    have hc : c < 256 := by
      have := List.getElem?_eq_some_iff.mp h
      obtain ⟨h1, h2⟩ := this
      rw [← h2]
      exact hbo p h1
    constructor
    · intro h1
      rw [(nI_eq (by omega) (by omega)).mp h1]
    · intro h1
      rw [Option.some.inj h1]
section LDA
variable {S S' : MS} {N : Nat → Nat} {C C' : CS} {A : AS} {r rd : Nat} {w bo : List Nat}
theorem PC_E (h5 : N 5 = 7) (h13 : N 13 = 7) (h6 : N 6 = 1) : EMI N (PC bo) := by
  intro C w b hp hb
  obtain ⟨p1, p2, p3, p4, p5⟩ := hp
  have hbo : ∀ i (h : i < bo.length), bo[i] < 256 := fun i h => (p4 i h).1
  have htot : ∃ v, m_cRw_at N 3 C (C.i 6 5 0) = some (C, v) := by
    by_cases e : C.i 6 5 0 < nI 0
    · refine ⟨-1, ?_⟩
      unfold m_cRw_at m_cRw_at_J0
      rw [if_pos (show C.i 6 5 0 < 0 from e)]
      rfl
    · obtain ⟨q, hq, hq2⟩ := nI_of e
      rw [hq2]
      exact ⟨_, cR_atI h5 h13 p3 p4 hq⟩
  obtain ⟨v, hv⟩ := htot
  have hx : m_cSv_emit N 0 C (nI b) = some (((if v = nI b then C else C.setI 6 4 0 1)).setI 6 5 0 (C.i 6 5 0 + 1)) := by
    unfold m_cSv_emit m_cSv_emit_J0 m_cSv_emit_J36
    rw [gl_ok (by omega), p1, if_neg (show ¬ (1 : Int32) = 0 by decide), p2, gn_s (by omega), hv, ob_ok]
    simp only []
    by_cases e : v = nI b
    · rw [if_pos e, if_pos e, gl_ok (by omega)]
    · rw [if_neg e, if_neg e, gl_ok (by omega)]
      rfl
  refine ⟨_, hx, ?_, ?_⟩
  · have hf : ∀ D : CS, D = (if v = nI b then C else C.setI 6 4 0 1).setI 6 5 0 (C.i 6 5 0 + 1) → D.i 6 3 0 = C.i 6 3 0 ∧ D.r = C.r ∧ D.z = C.z ∧ (∀ f, D.i 5 f 3 = C.i 5 f 3) ∧ D.a = C.a ∧ D.i 6 5 0 = C.i 6 5 0 + 1 ∧ D.i 6 4 0 = (if v = nI b then C.i 6 4 0 else 1) := by
      intro D hD
      by_cases e : v = nI b
      · rw [if_pos e] at hD ⊢
        rw [hD]
        exact ⟨by rw [CS.i_setI, if_neg (by omega)], rfl, rfl, fun f => by rw [CS.i_setI, if_neg (by omega)], rfl, by rw [CS.i_setI, if_pos ⟨rfl, rfl, rfl⟩], by rw [CS.i_setI, if_neg (by omega)]⟩
      · rw [if_neg e] at hD ⊢
        rw [hD]
        exact ⟨by rw [CS.i_setI, if_neg (by omega), CS.i_setI, if_neg (by omega)], rfl, rfl, fun f => by rw [CS.i_setI, if_neg (by omega), CS.i_setI, if_neg (by omega)], rfl, by rw [CS.i_setI, if_pos ⟨rfl, rfl, rfl⟩], by rw [CS.i_setI, if_neg (by omega), CS.i_setI, if_pos ⟨rfl, rfl, rfl⟩]⟩
    generalize hD : (if v = nI b then C else C.setI 6 4 0 1).setI 6 5 0 (C.i 6 5 0 + 1) = D at hf
    obtain ⟨f1, f2, f3, f4, f5, f6, f7⟩ := hf D rfl
    refine ⟨by rw [f1]; exact p1, by rw [f2]; exact p2, ⟨p3.1, by rw [f2]; exact p3.2.1, by rw [f4]; exact p3.2.2.1, by rw [f3]; exact p3.2.2.2.1, by rw [f3]; exact p3.2.2.2.2⟩, fun i hi => by rw [f5]; exact p4 i hi, ?_⟩
    intro hl
    rw [List.length_append, List.length_singleton] at hl
    obtain ⟨q1, q2⟩ := p5 (by omega)
    have hve : v = atI bo w.length := by
      rw [q1, cR_atI h5 h13 p3 p4 (by omega)] at hv
      exact (Prod.mk.inj (Option.some.inj hv)).2.symm
    refine ⟨by rw [f6, q1, List.length_append, List.length_singleton]; exact nI_add _ 1, ?_⟩
    rw [f7, q2, hve]
    have hiff := atI_eq (bo := bo) (p := w.length) hb hbo
    by_cases e : atI bo w.length = nI b
    · rw [if_pos e]
      congr 2
      rw [decide_eq_decide, pre_snoc]
      exact ⟨fun h => ⟨h, hiff.mp e⟩, fun h => h.1⟩
    · rw [if_neg e, decide_eq_false]
      · rfl
      · rw [pre_snoc]
        exact fun h => e (hiff.mpr h.2)
  · by_cases e : v = nI b
    · rw [if_pos e]
      exact X3_setI6
    · rw [if_neg e]
      exact X3_setI6.trans X3_setI6
/-- how many changes are told -/
def toldN (bo : List Nat) : Nat := match bo with
  | [] => 0
  | b :: t => if b < 128 then b else b - 128 + 128 * t.headD 0
theorem k_told (h5 : N 5 = 7) (h13 : N 13 = 7) (h6 : N 6 = 1) (hp : PC bo C w) : m_cSv_changesTold N 0 C = some (C, nI (toldN bo)) ∧ toldN bo < 32768 := by
  obtain ⟨p1, p2, p3, p4, p5⟩ := hp
  have hbo : ∀ i (h : i < bo.length), bo[i] < 256 := fun i h => (p4 i h).1
  unfold m_cSv_changesTold m_cSv_changesTold_J0
  rw [gl_ok (by omega), p2, gn_s (by omega), show m_cRw_at N 3 C 0 = _ from cR_atI h5 h13 p3 p4 (p := 0) (by omega), ob_ok]
  simp only []
  cases hb : bo with
  | nil =>
    rw [show atI ([] : List Nat) 0 = -nI 1 from rfl, if_neg (show ¬ (128 : Int32) ≤ -nI 1 by decide), if_neg (show ¬ (0 : Int32) < -nI 1 by decide)]
    exact ⟨rfl, by decide⟩
  | cons b t =>
    have hb256 : b < 256 := by
      have := hbo 0 (by rw [hb]; simp)
      simp only [hb] at this
      exact this
    rw [show atI (b :: t) 0 = nI b from rfl]
    by_cases e : b < 128
    · rw [if_neg (show ¬ (128 : Int32) ≤ nI b from fun h => by have := (nI_leI (a := 128) (by omega) (by omega)).mp h; omega), pos_or hb256]
      unfold toldN
      simp only [if_pos e]
      exact ⟨trivial, by omega⟩
    · rw [if_pos (show (128 : Int32) ≤ nI b from (nI_leI (a := 128) (by omega) (by omega)).mpr (by omega)), p2, gn_s (by omega), show m_cRw_at N 3 C 1 = _ from cR_atI h5 h13 p3 p4 (p := 1) (by omega), ob_ok]
      simp only []
      have h1 : (if (0 : Int32) < atI bo 1 then atI bo 1 else 0) = nI (t.headD 0) ∧ t.headD 0 < 256 := by
        rw [hb]
        cases t with
        | nil => exact ⟨by rw [show atI [b] 1 = -nI 1 from rfl]; decide, by decide⟩
        | cons c t =>
          have hc : c < 256 := by
            have := hbo 1 (by rw [hb]; simp)
            simp only [hb] at this
            exact this
          exact ⟨pos_or hc, hc⟩
      rw [h1.1]
      unfold toldN
      simp only [if_neg e]
      have hh := h1.2
      refine ⟨?_, by omega⟩
      congr 2
      generalize t.headD 0 = c at hh
      apply Int32.toBitVec_inj.mp
      apply BitVec.eq_of_toNat_eq
      rw [nI_bv, Int32.toBitVec_or, BitVec.toNat_or, Int32.toBitVec_and, BitVec.toNat_and, nI_bv, show (Int32.toBitVec 127).toNat = 2 ^ 7 - 1 from by decide, Nat.and_two_pow_sub_one_eq_mod, Int32.toBitVec_shiftLeft, show ((Int32.toBitVec ((7 : Int32) &&& 31)).smod 32) = 7#32 from by decide, BitVec.shiftLeft_eq', BitVec.toNat_shiftLeft, show (7#32).toNat = 7 from by decide, nI_bv, Nat.shiftLeft_eq]
      have e1 : b % 2 ^ 32 % 2 ^ 7 = b - 128 := by omega
      have e2 : c % 2 ^ 32 * 2 ^ 7 % 2 ^ 32 = 2 ^ 7 * c := by omega
      rw [e1, e2, Nat.or_comm, ← Nat.two_pow_add_eq_or_of_lt (show b - 128 < 2 ^ 7 by omega)]
      omega
theorem told_grp {n : Nat} {t : List Nat} (h : n < 16384) : toldN (grp n ++ t) = n := by
  unfold grp
  rw [gN]
  by_cases e : n < 128
  · rw [if_pos e]
    show (if n < 128 then n else _) = n
    rw [if_pos e]
  · rw [if_neg e, gN, if_pos (by omega)]
    show (if n % 128 + 128 < 128 then n % 128 + 128 else n % 128 + 128 - 128 + 128 * (n / 128)) = n
    rw [if_neg (by omega)]
    omega
end LDA
