/-! LOADED: the class compares all. -/
section LDC
variable {S S' : MS} {N : Nat → Nat} {C C' : CS} {A : AS} {r rd : Nat} {w bo : List Nat}
theorem fm_congr {f g : Nat → List Nat} : ∀ {n : Nat}, (∀ b, b < n → f b = g b) → (List.range n).flatMap f = (List.range n).flatMap g := by
  intro n
  induction n with
  | zero => intro _; rfl
  | succ n ih => intro h; rw [range_s, range_s, ih (fun b hb => h b (by omega)), h n (by omega)]
/-- what was emitted before actor a's changes -/
def pfx (A : AS) (w : List Nat) (k : Nat → Nat) (a : Nat) : List Nat := w ++ (List.range a).flatMap (fun b => A.blk b (k b))
theorem pfx_s {k : Nat → Nat} {a : Nat} : pfx A w k (a + 1) = pfx A w k a ++ A.blk a (k a) := by
  unfold pfx
  rw [range_s, List.append_assoc]
theorem pfx_congr {k k' : Nat → Nat} {a : Nat} (h : ∀ b, b < a → k b = k' b) : pfx A w k a = pfx A w k' a := by
  unfold pfx
  rw [fm_congr (fun b hb => by rw [h b hb])]
/-- how an actor's changes were compared -/
def CMP (A : AS) (bo w : List Nat) (L : Nat) (k : Nat → Nat) (a : Nat) : Prop :=
  k a ≤ L - sumTo k a ∧ (∀ j, j < k a → atI bo (pfx A w k a ++ A.blk a j).length = nI a) ∧ ((pfx A w k a ++ A.blk a (k a)) <+: bo → k a = L - sumTo k a ∨ k a = A.hv a a ∨ atI bo (pfx A w k a ++ A.blk a (k a)).length ≠ nI a)
theorem CMP_congr {k k' : Nat → Nat} {L a : Nat} (h : ∀ b, b ≤ a → k b = k' b) (hc : CMP A bo w L k a) : CMP A bo w L k' a := by
  unfold CMP at *
  rw [← h a (Nat.le_refl _), ← pfx_congr (fun b hb => h b (by omega)), ← sumTo_congr (fun b hb => h b (by omega))]
  exact hc
theorem pfx_len (hA : AI A) (hK : LOK A) {k : Nat → Nat} (hk : ∀ b, k b ≤ A.hv b b) : ∀ a, (pfx A w k a).length ≤ w.length + 224576 * a := by
  intro a
  induction a with
  | zero => simp [pfx]
  | succ a ih =>
    rw [pfx_s, List.length_append]
    have := blk_len hA hK (hk a)
    omega
theorem r_all (G : RC N C A rd) (hA : AI A) (hK : LOK A) {L : Nat} (hp : PC bo C w) (hl : w.length ≤ 1000) (hL : L < 40000) :
    ∃ C' k, m_cSv_isRight_L28 N 0 C (nI L) 0 = some (C', nI (L - sumTo k 8)) ∧ PC bo C' (pfx A w k 8) ∧ X4 C C' ∧ (∀ b, k b ≤ A.hv b b) ∧ sumTo k 8 ≤ L ∧ (∀ a, a < 8 → C'.a 12 9 a = nI (k a)) ∧ ∀ a, a < 8 → CMP A bo w L k a := by
  obtain ⟨u0, u1, u2, u3, u4, u5, u6, u7, u8, u9, u10, u11, u12, u13, u14, u15, u16, u17, u18⟩ := G.nn
  have hm := hA.1.2.1
  have := lp_run (body := fun u : CS × Int32 × Int32 => m_cSv_isRight_B28 N 0 u.1 u.2.1 u.2.2) (fun i u => ∃ W k, u = (W, nI (L - sumTo k i), nI i) ∧ PC bo W (pfx A w k i) ∧ X4 C W ∧ (∀ b, k b ≤ A.hv b b) ∧ (∀ b, i ≤ b → k b = 0) ∧ sumTo k i ≤ L ∧ (∀ a, a < i → W.a 12 9 a = nI (k a)) ∧ ∀ a, a < i → CMP A bo w L k a)
    (fun e => ∃ W k, e = (W, nI (L - sumTo k 8)) ∧ PC bo W (pfx A w k 8) ∧ X4 C W ∧ (∀ b, k b ≤ A.hv b b) ∧ sumTo k 8 ≤ L ∧ (∀ a, a < 8 → W.a 12 9 a = nI (k a)) ∧ ∀ a, a < 8 → CMP A bo w L k a) 8 ?_ FU (C, nI L, nI 0) (by unfold FU; omega) ⟨C, fun _ => 0, rfl, by simpa [pfx] using hp, X4.refl, fun _ => Nat.zero_le _, fun _ _ => rfl, Nat.zero_le _, fun a ha => by omega, fun a ha => by omega⟩
  · obtain ⟨e, h1, W, k, rfl, h2⟩ := this
    refine ⟨W, k, ?_, h2⟩
    unfold m_cSv_isRight_L28
    exact h1
  · rintro i _ hi ⟨W, k, rfl, h1, h2, h3, h4, h5, h6, h7⟩
    by_cases hin : i < 8
    · left
      have GW := h2.RC G
      have hW62 : W.r 6 2 0 = some 9 := GW.st.2.2.2.2.2.2.2.2.2.2.2.2.2.2.2.2.2.2.2.2
      have hWz : W.z 12 9 = 8 := GW.sz.2.2.2.2.2.2.2.2.2.2.2.2.2.1 9 (by omega)
      have hpl := pfx_len (w := w) hA hK h3 i
      obtain ⟨D, k', d1, d2, d3, d4, d5, d6, d7, d8, d9⟩ := r_actor (X4_set9 (p := i) (x := 0) |>.RC GW) hA hK hin (PC_set9 (p := i) (x := 0) h1) (by omega) (show L - sumTo k i < 40000 by omega) (by rw [CS.a_setA, if_pos ⟨rfl, rfl, rfl⟩])
      obtain ⟨k2, hk2⟩ : ∃ k2 : Nat → Nat, k2 = fun b => if b = i then k' else k b := ⟨_, rfl⟩
      have e1 : ∀ b, b < i → k b = k2 b := fun b hb => by rw [hk2]; exact (if_neg (by omega)).symm
      have e2 : k2 i = k' := by rw [hk2]; exact if_pos rfl
      have e3 : pfx A w k2 i = pfx A w k i := (pfx_congr e1).symm
      have e4 : sumTo k2 i = sumTo k i := (sumTo_congr e1).symm
      have e5 : sumTo k2 (i + 1) = sumTo k i + k' := by rw [sumTo, e4, e2]
      refine ⟨(D, nI (L - sumTo k2 (i + 1)), nI (i + 1)), ?_, hin, D, k2, rfl, ?_, (h2.trans X4_set9).trans d3, ?_, ?_, by omega, ?_, ?_⟩
      · show m_cSv_isRight_B28 N 0 W (nI (L - sumTo k i)) (nI i) = _
        unfold m_cSv_isRight_B28 m_cSv_isRight_J125
        rw [if_neg (show ¬ (8 : Int32) ≤ nI i from fun h => by have := (nI_leI (a := 8) (by omega) (by omega)).mp h; omega), gl_ok (by omega), hW62, gn_s (by omega), hWz, gd_ok (by omega) (by omega), cl_nI (by omega), d1, ob_ok]
        simp only []
        rw [nI_s, e5, show L - sumTo k i - k' = L - (sumTo k i + k') by omega]
      · rw [pfx_s, e2, e3]
        exact d2
      · intro b
        by_cases e : b = i
        · rw [e, e2]; exact d5
        · rw [hk2]
          show (if b = i then k' else k b) ≤ _
          rw [if_neg e]
          exact h3 b
      · intro b hb
        rw [hk2]
        show (if b = i then k' else k b) = 0
        rw [if_neg (by omega)]
        exact h4 b (by omega)
      · intro a ha
        by_cases e : a = i
        · rw [e, e2]; exact d6
        · rw [d7 a e, CS.a_setA, if_neg (by omega), h6 a (by omega), e1 a (by omega)]
      · intro a ha
        by_cases e : a = i
        · rw [e]
          unfold CMP
          rw [e2, e3, e4]
          exact ⟨d4, d8, d9⟩
        · exact CMP_congr (fun b hb => e1 b (by omega)) (h7 a (by omega))
    · right
      have e : i = 8 := by omega
      subst e
      refine ⟨(W, nI (L - sumTo k 8)), ?_, W, k, rfl, h1, h2, h3, h5, h6, h7⟩
      show m_cSv_isRight_B28 N 0 W (nI (L - sumTo k 8)) (nI 8) = _
      unfold m_cSv_isRight_B28
      rw [if_pos (show (8 : Int32) ≤ nI 8 by decide)]
/-! what is SAVED is found right -/
theorem chB_head (hA : AI A) {c : Nat} (hc : c < A.m) : ∃ y, A.chB c = A.ca c :: y := by
  have hca := (hA.2.1.1 c hc).1
  unfold AS.chB
  rw [grp_1 (n := A.ca c) (by omega)]
  exact ⟨_, rfl⟩
theorem blk_pre {a k : Nat} : ∀ {t : Nat}, k ≤ t → A.blk a k <+: A.blk a t := by
  intro t h
  obtain ⟨d, rfl⟩ : ∃ d, t = k + d := ⟨t - k, by omega⟩
  induction d with
  | zero => exact List.prefix_rfl
  | succ d ih =>
    have h1 := ih (by omega)
    rw [show k + (d + 1) = k + d + 1 by omega, blk_s]
    exact h1.trans (List.prefix_append _ _)
theorem blk_next (hA : AI A) {a k t : Nat} (ht : t ≤ A.hv a a) (hk : k < t) : ∃ y, A.blk a t = A.blk a k ++ a :: y := by
  obtain ⟨c, c1, c2, c3, c4, c5⟩ := fc_some hA (a := a) (k := k + 1) (by omega) (by omega)
  obtain ⟨y, hy⟩ := chB_head hA c3
  obtain ⟨z, hz⟩ := blk_pre (A := A) (a := a) (show k + 1 ≤ t by omega)
  rw [blk_s, c2, hy, c4] at hz
  exact ⟨y ++ z, by rw [← hz]; simp⟩
theorem pfx_pre {t : Nat → Nat} {a : Nat} : ∀ {b : Nat}, a ≤ b → pfx A w t a <+: pfx A w t b := by
  intro b h
  obtain ⟨d, rfl⟩ : ∃ d, b = a + d := ⟨b - a, by omega⟩
  induction d with
  | zero => exact List.prefix_rfl
  | succ d ih =>
    have h1 := ih (by omega)
    rw [show a + (d + 1) = a + d + 1 by omega, pfx_s]
    exact h1.trans (List.prefix_append _ _)
theorem sum_le {t : Nat → Nat} {a : Nat} : ∀ {b : Nat}, a ≤ b → sumTo t a ≤ sumTo t b := by
  intro b h
  obtain ⟨d, rfl⟩ : ∃ d, b = a + d := ⟨b - a, by omega⟩
  induction d with
  | zero => exact Nat.le_refl _
  | succ d ih =>
    have := ih (by omega)
    rw [show a + (d + 1) = a + d + 1 by omega, sumTo]
    omega
theorem pfx_next (hA : AI A) {t : Nat → Nat} (ht : ∀ a, t a ≤ A.hv a a) : ∀ d a, a + d = 8 → sumTo t 8 = sumTo t a ∨ ∃ a' y, a ≤ a' ∧ a' < 8 ∧ pfx A w t 8 = pfx A w t a ++ a' :: y := by
  intro d
  induction d with
  | zero => intro a h; left; rw [show a = 8 by omega]
  | succ d ih =>
    intro a h
    by_cases e : t a = 0
    · have hp : pfx A w t (a + 1) = pfx A w t a := by rw [pfx_s, e]; simp [AS.blk]
      have hs : sumTo t (a + 1) = sumTo t a := by rw [sumTo, e]; rfl
      rcases ih (a + 1) (by omega) with h1 | ⟨a', y, h1, h2, h3⟩
      · left; rw [h1, hs]
      · right; exact ⟨a', y, by omega, h2, by rw [h3, hp]⟩
    · right
      obtain ⟨y, hy⟩ := blk_next hA (ht a) (show 0 < t a by omega)
      obtain ⟨z, hz⟩ := pfx_pre (A := A) (w := w) (t := t) (show a + 1 ≤ 8 by omega)
      rw [pfx_s, hy] at hz
      refine ⟨a, y ++ z, by omega, by omega, ?_⟩
      rw [← hz]
      simp [AS.blk]
theorem cmp_eq (hA : AI A) {t k : Nat → Nat} (ht : ∀ a, t a ≤ A.hv a a) {x : List Nat} (hbo : bo = pfx A w t 8 ++ x) (hb256 : ∀ i (h : i < bo.length), bo[i] < 256) (hC : ∀ a, a < 8 → CMP A bo w (sumTo t 8) k a) : ∀ a, a ≤ 8 → ∀ b, b < a → k b = t b := by
  intro a
  induction a with
  | zero => intro _ b hb; omega
  | succ a ih =>
    intro ha b hb
    have ih := ih (by omega)
    by_cases e : b = a
    · subst e
      obtain ⟨c1, c2, c3⟩ := hC b (by omega)
      have e1 : pfx A w k b = pfx A w t b := pfx_congr ih
      have e2 : sumTo k b = sumTo t b := sumTo_congr ih
      rw [e1, e2] at c3
      rw [e2] at c1
      rw [e1] at c2
      have hs1 : sumTo t (b + 1) = sumTo t b + t b := rfl
      have hs2 := sum_le (t := t) (show b + 1 ≤ 8 by omega)
      have hle : k b ≤ t b := by
        rcases Nat.lt_or_ge (t b) (k b) with h | h
        · exfalso
          have f1 := c2 (t b) h
          rw [← pfx_s] at f1
          rcases pfx_next (w := w) hA ht (8 - (b + 1)) (b + 1) (by omega) with g | ⟨a', y, g1, g2, g3⟩
          · omega
          · rw [atI_eq (by omega) hb256, hbo, g3, List.append_assoc, List.getElem?_append_right (Nat.le_refl _), Nat.sub_self] at f1
            simp at f1
            omega
        · exact h
      have hpre : (pfx A w t b ++ A.blk b (k b)) <+: bo := by
        obtain ⟨y, hy⟩ := blk_pre (A := A) (a := b) hle
        obtain ⟨z, hz⟩ := pfx_pre (A := A) (w := w) (t := t) (show b + 1 ≤ 8 by omega)
        refine ⟨y ++ z ++ x, ?_⟩
        rw [hbo, ← hz, pfx_s, ← hy]
        simp
      rcases c3 hpre with h | h | h
      · omega
      · have := ht b
        omega
      · rcases Nat.lt_or_ge (k b) (t b) with hlt | hge
        · exfalso
          obtain ⟨y, hy⟩ := blk_next hA (ht b) hlt
          obtain ⟨z, hz⟩ := pfx_pre (A := A) (w := w) (t := t) (show b + 1 ≤ 8 by omega)
          apply h
          rw [atI_eq (by omega) hb256, hbo, ← hz, pfx_s, hy]
          rw [show pfx A w t b ++ (A.blk b (k b) ++ b :: y) ++ z ++ x = (pfx A w t b ++ A.blk b (k b)) ++ (b :: (y ++ z ++ x)) by simp, List.getElem?_append_right (Nat.le_refl _), Nat.sub_self]
          rfl
        · omega
    · exact ih b (by omega)
end LDC
