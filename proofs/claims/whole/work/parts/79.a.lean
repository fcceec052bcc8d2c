/-! THE CALL drop. -/
def CS.drp (C : CS) (F I : Nat → Bool) : CS := (fun k f j => if k = 3 ∧ f = 4 ∧ F j = true then nI 1002 else C.i k f j, C.l, C.r, C.a, fun k j p => if k = 15 ∧ j = 0 ∧ I p = true then none else C.q k j p, C.z)
section CDR
variable {S S' : MS} {N : Nat → Nat} {C C' : CS} {A : AS} {r rd : Nat} {bi bf bs bo : List Nat} {ji jf js a : Nat} {F I : Nat → Bool}
theorem drp_i (k f j : Nat) : (C.drp F I).i k f j = if k = 3 ∧ f = 4 ∧ F j = true then nI 1002 else C.i k f j := rfl
theorem drp_q (k j p : Nat) : (C.drp F I).q k j p = if k = 15 ∧ j = 0 ∧ I p = true then none else C.q k j p := rfl
theorem drp_none (hF : ∀ j, F j = false) (hI : ∀ p, I p = false) : C.drp F I = C := by
  apply CS_ext <;> intros <;> try rfl
  · rw [drp_i, if_neg]
    rintro ⟨_, _, h⟩
    rw [hF] at h
    cases h
  · rw [drp_q, if_neg]
    rintro ⟨_, _, h⟩
    rw [hI] at h
    cases h
theorem drp_step {F' I' : Nat → Bool} {j0 p0 : Nat} (hF : ∀ j, F' j = (F j || decide (j = j0))) (hI : ∀ p, I' p = (I p || decide (p = p0))) : ((C.drp F I).setI 3 4 j0 (nI 1002)).setQ 15 0 p0 none = C.drp F' I' := by
  apply CS_ext <;> intros <;> try rfl
  · rename_i k f j
    rw [CS.i_setQ, CS.i_setI, drp_i, drp_i, hF j]
    by_cases e1 : k = 3 ∧ f = 4
    · by_cases e2 : j = j0
      · rw [if_pos ⟨e1.1, e1.2, e2⟩, if_pos ⟨e1.1, e1.2, by simp [e2]⟩]
      · rw [if_neg (by rintro ⟨_, _, h⟩; exact e2 h), show (F j || decide (j = j0)) = F j by simp [e2]]
    · rw [if_neg (by rintro ⟨h1, h2, _⟩; exact e1 ⟨h1, h2⟩), if_neg (by rintro ⟨h1, h2, _⟩; exact e1 ⟨h1, h2⟩), if_neg (by rintro ⟨h1, h2, _⟩; exact e1 ⟨h1, h2⟩)]
  · rename_i k j p
    rw [CS.q_setQ, CS.q_setI, drp_q, drp_q, hI p]
    by_cases e1 : k = 15 ∧ j = 0
    · by_cases e2 : p = p0
      · rw [if_pos ⟨e1.1, e1.2, e2⟩, if_pos ⟨e1.1, e1.2, by simp [e2]⟩]
      · rw [if_neg (by rintro ⟨_, _, h⟩; exact e2 h), show (I p || decide (p = p0)) = I p by simp [e2]]
    · rw [if_neg (by rintro ⟨h1, h2, _⟩; exact e1 ⟨h1, h2⟩), if_neg (by rintro ⟨h1, h2, _⟩; exact e1 ⟨h1, h2⟩), if_neg (by rintro ⟨h1, h2, _⟩; exact e1 ⟨h1, h2⟩)]
/-- what has been forgotten after i rounds -/
def AS.dF (A : AS) (r i j : Nat) : Bool := decide (1 ≤ j) && A.opn r (j - 1) && decide (A.tp r < A.id (j - 1) / 8 + i)
def AS.dI (A : AS) (r i p : Nat) : Bool := decide (p % 8 = r) && decide (A.tp r < p / 8 + i) && decide (p / 8 ≤ A.tp r)
theorem mul8' {q : Nat} : (8 : Int32) * nI q = nI (8 * q) := mul8
theorem drop_loop (G : RC N C A rd) (hA : AI A) (hr : r < 8) : m_cJT_drop_L14 N 0 C (some r) (nI (A.on r)) 0 = some (C.drp (A.dF r (A.on r)) (A.dI r (A.on r)), some r, nI (A.on r)) := by
  obtain ⟨u0, u1, u2, u3, u4, u5, u6, u7, u8, u9, u10, u11, u12, u13, u14, u15, u16, u17, u18⟩ := G.nn
  obtain ⟨s1, s2, s3, s4, s5, s6, s7, s8, s9, s10, s11, s12, s13, s14, s15, s16, s17, s18, s19, s20, s21⟩ := G.st
  have hn := hA.1.1
  have hT := hA.2.2.2.1
  have hon := hT.1 r
  have hrp := G.rp r hr
  have hsz := G.sz.2.2.2.2.2.2.2.2.2.2.2.2.1 r hr
  have hz := G.sz.1
  have := lp_run (body := fun w : CS × Option Nat × Int32 × Int32 => m_cJT_drop_B14 N 0 w.1 w.2.1 w.2.2.1 w.2.2.2) (fun i w => w = (C.drp (A.dF r i) (A.dI r i), some r, nI (A.on r), nI i)) (fun e => e = (C.drp (A.dF r (A.on r)) (A.dI r (A.on r)), some r, nI (A.on r))) (A.on r) ?_ FU (C, some r, nI (A.on r), nI 0) (by unfold FU; omega) (by
    rw [drp_none]
    · intro j
      unfold AS.dF
      by_cases e : 1 ≤ j ∧ A.opn r (j - 1) = true
      · obtain ⟨h1, h2, h3, h4⟩ := opn_iff.mp e.2
        have := (hT.2.1 _ h1 h2 h3).2
        rw [h4] at this
        rw [show decide (A.tp r < A.id (j - 1) / 8 + 0) = false from decide_eq_false (by omega), Bool.and_false]
      · by_cases e1 : 1 ≤ j
        · have : A.opn r (j - 1) = false := by
            cases h : A.opn r (j - 1) with
            | false => rfl
            | true => exact absurd ⟨e1, h⟩ e
          rw [this]; simp
        · rw [decide_eq_false e1]; rfl
    · intro p
      unfold AS.dI
      by_cases e : A.tp r < p / 8 + 0
      · rw [show decide (p / 8 ≤ A.tp r) = false from decide_eq_false (by omega), Bool.and_false]
      · rw [decide_eq_false e]; simp)
  · obtain ⟨e, h1, rfl⟩ := this
    unfold m_cJT_drop_L14
    exact h1
  · rintro i _ hi rfl
    by_cases hin : i < A.on r
    · left
      refine ⟨(C.drp (A.dF r (i + 1)) (A.dI r (i + 1)), some r, nI (A.on r), nI (i + 1)), ?_, hin, rfl⟩
      show m_cJT_drop_B14 N 0 (C.drp (A.dF r i) (A.dI r i)) (some r) (nI (A.on r)) (nI i) = _
      obtain ⟨o, o1, o2, o3, o4, o5⟩ := hT.2.2.1 r (A.tp r - i) hr (by omega) (by omega)
      have hid := (hA.2.2.1.1 o o1).2.1
      have hido : A.id o = 8 * (A.tp r - i) + r := by omega
      have hq : C.q 15 0 (A.id o) = some (o + 1) := G.idd.1 o o1 o2
      have hnI : A.dI r i (A.id o) = false := by
        unfold AS.dI
        rw [show decide (A.tp r < A.id o / 8 + i) = false from decide_eq_false (by omega)]
        simp
      have hst : ((C.drp (A.dF r i) (A.dI r i)).setI 3 4 (o + 1) (nI 1002)).setQ 15 0 (A.id o) none = C.drp (A.dF r (i + 1)) (A.dI r (i + 1)) := by
        refine drp_step ?_ ?_
        · intro j
          by_cases e : j = o + 1
          · subst e
            unfold AS.dF
            simp only [Nat.add_sub_cancel]
            rw [opn_iff.mpr ⟨o1, o2, o3, o4⟩, show decide (1 ≤ o + 1) = true from decide_eq_true (by omega), show decide (A.tp r < A.id o / 8 + (i + 1)) = true from decide_eq_true (by omega)]
            simp
          · rw [decide_eq_false e, Bool.or_false]
            unfold AS.dF
            by_cases e1 : 1 ≤ j ∧ A.opn r (j - 1) = true
            · obtain ⟨h1, h2, h3, h4⟩ := opn_iff.mp e1.2
              have hne : A.id (j - 1) / 8 ≠ A.tp r - i := by
                intro he
                have hid2 := (hA.2.2.1.1 _ h1).2.1
                have := hA.2.2.1.2.1 (j - 1) o h1 o1 h2 o2 (by omega)
                omega
              have e2 : decide (A.tp r < A.id (j - 1) / 8 + (i + 1)) = decide (A.tp r < A.id (j - 1) / 8 + i) := by
                by_cases e3 : A.tp r < A.id (j - 1) / 8 + i
                · rw [decide_eq_true e3, decide_eq_true (by omega)]
                · rw [decide_eq_false e3, decide_eq_false (by omega)]
              rw [e2]
            · by_cases e2 : 1 ≤ j
              · have : A.opn r (j - 1) = false := by
                  cases h : A.opn r (j - 1) with
                  | false => rfl
                  | true => exact absurd ⟨e2, h⟩ e1
                rw [this]; simp
              · rw [decide_eq_false e2]; rfl
        · intro p
          unfold AS.dI
          by_cases e : p = A.id o
          · rw [decide_eq_true e, Bool.or_true]
            rw [show decide (p % 8 = r) = true from decide_eq_true (by omega), show decide (A.tp r < p / 8 + (i + 1)) = true from decide_eq_true (by omega), show decide (p / 8 ≤ A.tp r) = true from decide_eq_true (by omega)]
            rfl
          · rw [decide_eq_false e, Bool.or_false]
            by_cases e1 : p % 8 = r
            · have e2 : decide (A.tp r < p / 8 + (i + 1)) = decide (A.tp r < p / 8 + i) := by
                by_cases e3 : A.tp r < p / 8 + i
                · rw [decide_eq_true e3, decide_eq_true (by omega)]
                · rw [decide_eq_false e3, decide_eq_false (by omega)]
              rw [e2]
            · rw [decide_eq_false e1]; rfl
      have hidl : A.id o < 32008 := by omega
      unfold m_cJT_drop_B14 m_cSt_forget m_cSt_forget_J0 m_cSt_forget_J25
      rw [if_neg (nle hin (by omega)), gl_ok (by omega), gn_s (by omega)]
      rw [show (C.drp (A.dF r i) (A.dI r i)).r 11 0 0 = some 0 from s1, gn_s (by omega), gl_ok (by omega)]
      rw [show (C.drp (A.dF r i) (A.dI r i)).i 4 8 r = nI (A.tp r) by rw [drp_i, if_neg (by omega)]; exact hrp.2.2.2.2.2.2.2.1, show (C.drp (A.dF r i) (A.dI r i)).i 4 0 r = nI r by rw [drp_i, if_neg (by omega)]; exact hsz.1]
      rw [sub_nI (by omega), mul8, nI_add, ← hido]
      rw [show (C.drp (A.dF r i) (A.dI r i)).r 8 1 0 = some 0 from s9, gn_s (by omega)]
      rw [show (C.drp (A.dF r i) (A.dI r i)).z 15 0 = 32008 from hz, gd_ok (by omega) (by omega), cl_nI (by omega), drp_q, if_neg (by rintro ⟨_, _, h⟩; rw [hnI] at h; cases h), hq, onSome, gl_ok (by omega), gd_ok (by omega) (by omega), show (1002 : Int32) = nI 1002 from by decide, hst]
      simp only [ob_ok]
      rw [show nI i + 1 = nI (i + 1) from nI_add _ _]
    · right
      refine ⟨_, ?_, rfl⟩
      show m_cJT_drop_B14 N 0 (C.drp (A.dF r i) (A.dI r i)) (some r) (nI (A.on r)) (nI i) = _
      unfold m_cJT_drop_B14
      rw [show i = A.on r by omega, if_pos (Int32.le_refl _)]
end CDR
