/-! CHANGES ARE FOUND; THE CALL look. -/
theorem firstTo_congr {p q : Nat → Bool} : ∀ {n : Nat}, (∀ i, i < n → p i = q i) → firstTo p n = firstTo q n := by
  intro n
  induction n with
  | zero => intro _; rfl
  | succ n ih =>
    intro h
    rw [firstTo, firstTo, ih (fun i hi => h i (by omega)), h n (by omega)]
/-- a call that makes nothing but changes the replicas -/
def SLIKE (hd : List (Nat × Int32)) (A : AS) (rd : Nat) (N : Nat → Nat) (x : Option ((CS × Int32) ⊕ (CS × Nat))) (y : Option (MS × Int32)) : Prop :=
  (∃ C' v S' A' rd', x = some (.inl (C', v)) ∧ y = some (S', v) ∧ S'.i 0 = nI 0 ∧ INV S' N C' A' rd' ∧ A'.n = A.n ∧ A'.m = A.m ∧ rd ≤ rd' ∧ rd' ≤ rd + 50000) ∨
  (∃ C' t k v S' rd', x = some (.inr (C', t)) ∧ hd.lookup t = some k ∧ y = some (S', v) ∧ S'.i 0 = k ∧ INV S' N C' A rd' ∧ rd ≤ rd' ∧ rd' ≤ rd + 50000)
def AS.fc (A : AS) (a : Nat) (x : Int32) : Option Nat := firstTo (fun c => decide (A.ca c = a) && decide (nI (A.cu c) = x)) A.m
section CLO
variable {S S' : MS} {N : Nat → Nat} {C C' : CS} {A : AS} {r rd : Nat} {bi bf bs bo : List Nat} {ji jf js a : Nat}
theorem slikeT {hd : List (Nat × Int32)} {x : Option ((CS × Int32) ⊕ (CS × Nat))} {y : Option (MS × Int32)} {t k rd' : Nat} {v : Int32} {S1 : MS} (hx : x = some (.inr (C', t))) (hy : y = some (S1.setI 0 (nI k), v)) (ht : hd.lookup t = some (nI k)) (hR : RS S1 A) (G : RC N C' A rd') (hA : AI A) (hio : RIO S1 C' bi bf bs bo ji jf js a) (h1 : rd ≤ rd') (h2 : rd' ≤ rd + 50000) : SLIKE hd A rd N x y :=
  Or.inr ⟨C', t, nI k, v, _, rd', hx, ht, hy, by rw [MS.i_setI, if_pos rfl], ⟨hR.setI rfl, G, hA, _, _, _, _, _, _, _, _, hio.fr (frS_setI (by decide)) frC.refl⟩, h1, h2⟩
theorem fc_lt {x : Int32} {c : Nat} (h : A.fc a x = some c) : c < A.m ∧ A.ca c = a ∧ nI (A.cu c) = x := by
  obtain ⟨h1, h2, _⟩ := firstTo_some h
  simp only [Bool.and_eq_true, decide_eq_true_eq] at h2
  exact ⟨h1, h2⟩
theorem pS_find (hR : RS S A) (hA : AI A) {y : Nat} (hy : y < 8) (x : Int32) : m_rfind S (nI y) x = some (S, cI (A.fc y x)) := by
  rw [pr_find hR.1.2.1 hA.1.2.1]
  congr 2
  have : firstTo (rFd S (nI y) x) A.m = A.fc y x := by
    refine firstTo_congr (fun c hc => ?_)
    unfold rFd
    have hcg := hR.2.2.2.2.2.1 c hc
    have hca := (hA.2.1.1 c hc).1
    rw [hcg.1, hcg.2]
    have e : (nI (A.ca c) = nI y) ↔ A.ca c = y := nI_eq (by omega) (by omega)
    simp only [e]
  rw [this]
  cases A.fc y x <;> rfl
theorem cS_changeAt (G : RC N C A rd) (hA : AI A) {y : Nat} (hy : y < 8) (x : Int32) : m_cSt_changeAt N 0 C (nI y) x = some (C, A.fc y x) := by
  obtain ⟨u0, u1, u2, u3, u4, u5, u6, u7, u8, u9, u10, u11, u12, u13, u14, u15, u16, u17, u18⟩ := G.nn
  obtain ⟨s1, s2, s3, s4, s5, s6, s7, s8, s9, s10, s11, s12, s13, s14, s15, s16, s17, s18, s19, s20, s21⟩ := G.st
  have hm := hA.1.2.1
  have hcg := G.cg
  have hz := G.sz.2.2.1
  have hl : m_cSt_changeAt_L2 N 0 C (nI y) x 0 = some (match A.fc y x with | some c => .inr (C, some c) | none => .inl C) := by
    refine lp_first (body := fun w : CS × Int32 × Int32 × Int32 => m_cSt_changeAt_B2 N 0 w.1 w.2.1 w.2.2.1 w.2.2.2) (fun i => (C, nI y, x, nI i)) (fun c => decide (A.ca c = y) && decide (nI (A.cu c) = x)) A.m (.inl C) (fun c => .inr (C, some c)) (by omega) ?_ ?_ ?_
    · intro i hi hp
      show m_cSt_changeAt_B2 N 0 C (nI y) x (nI i) = _
      have h := hcg.2.2.2 i hi
      have hca := (hA.2.1.1 i hi).1
      unfold m_cSt_changeAt_B2 m_cSt_changeAt_J43
      rw [gl_ok (by omega), hcg.1, if_neg (nle hi (by omega)), s11, gn_s (by omega), hz, gd_ok (by omega) (by omega), cl_nI (by omega), h.1, gn_s (by omega), h.2.1, h.2.2.1]
      by_cases e1 : A.ca i = y
      · by_cases e2 : nI (A.cu i) = x
        · simp [e1, e2] at hp
        · rw [if_pos (by rw [e1]), gd_ok (by omega) (by omega), if_neg e2, nI_s]
      · rw [if_neg (fun e => e1 ((nI_eq (by omega) (by omega)).mp e)), nI_s]
    · intro i hi hp
      show m_cSt_changeAt_B2 N 0 C (nI y) x (nI i) = _
      have h := hcg.2.2.2 i hi
      simp only [Bool.and_eq_true, decide_eq_true_eq] at hp
      unfold m_cSt_changeAt_B2 m_cSt_changeAt_J43
      rw [gl_ok (by omega), hcg.1, if_neg (nle hi (by omega)), s11, gn_s (by omega), hz, gd_ok (by omega) (by omega), cl_nI (by omega), h.1, gn_s (by omega), h.2.1, h.2.2.1, if_pos (by rw [hp.1]), gd_ok (by omega) (by omega), if_pos hp.2, gd_ok (by omega) (by omega)]
    · show m_cSt_changeAt_B2 N 0 C (nI y) x (nI A.m) = _
      unfold m_cSt_changeAt_B2
      rw [gl_ok (by omega), hcg.1, if_pos (Int32.le_refl _)]
  unfold m_cSt_changeAt m_cSt_changeAt_J0
  rw [hl]
  cases A.fc y x <;> rfl
theorem cR_holds (G : RC N C A rd) (hA : AI A) (hr : r < 8) {c : Nat} (hc : c < A.m) : m_cRp_holds N r C c = some (C, b2 (A.hasB r c)) := by
  obtain ⟨u0, u1, u2, u3, u4, u5, u6, u7, u8, u9, u10, u11, u12, u13, u14, u15, u16, u17, u18⟩ := G.nn
  have hm := hA.1.2.1
  have hsz := G.sz.2.2.2.2.2.2.2.2.2.2.2.2.1 r hr
  have hz := G.sz.2.2.2.2.2.2.2.2.2.2.2.2.2.1 r (by omega)
  have h := G.cg.2.2.2 c hc
  have hca := (hA.2.1.1 c hc).1
  have hcu := (hA.2.1.1 c hc).2.2.2.2
  have hv := (G.rp r hr).1 (A.ca c) hca
  have hle := hA.2.1.2.2.2.2.2.1.1 r (A.ca c)
  have hcn := hA.2.2.2.2.2.2 (A.ca c)
  have hcnt := cntTo_le (fun d => decide (A.ca d = A.ca c)) A.m
  unfold m_cRp_holds m_cRp_holds_J0 m_cRp_holds_J21
  rw [gl_ok (by omega), gl_ok (by omega), hsz.2.1, gn_s (by omega), h.2.1, hz, gd_ok (by omega) (by omega), cl_nI (by omega), hv, h.2.2.1]
  unfold AS.hasB
  rw [decide_eq_true hc]
  by_cases e : A.cu c ≤ A.hv r (A.ca c)
  · rw [if_neg (fun h => absurd ((nI_ltI (by omega) (by omega)).mp h) (by omega)), if_pos (Or.inr rfl), decide_eq_true e]
    rfl
  · rw [if_pos ((nI_ltI (by omega) (by omega)).mpr (by omega)), if_pos (Or.inl rfl), decide_eq_false e]
    rfl
end CLO
