/-! THE CALL drop. -/
section CDS
variable {S S' : MS} {N : Nat → Nat} {C C' : CS} {A : AS} {r rd : Nat} {bi bf bs bo : List Nat} {ji jf js a : Nat} {F I : Nat → Bool}
theorem dF_opn (hA : AI A) {o : Nat} : A.dF r (A.on r) (o + 1) = A.opn r o := by
  unfold AS.dF
  simp only [Nat.add_sub_cancel]
  rw [show decide (1 ≤ o + 1) = true from decide_eq_true (by omega), Bool.true_and]
  cases h : A.opn r o with
  | false => rfl
  | true =>
    obtain ⟨h1, h2, h3, h4⟩ := opn_iff.mp h
    have := (hA.2.2.2.1.2.1 o h1 h2 h3).1
    rw [h4] at this
    rw [decide_eq_true this]
    rfl
theorem dr_nop (hA : AI A) (hr : r < 8) {q : Nat} : (A.dr r).nop q + (if q = r then A.on r else 0) = A.nop q := by
  unfold AS.nop
  have hown : ∀ o, o < A.n → (A.dr r).owns q o = (A.owns q o && !A.opn r o) := by
    intro o ho
    unfold AS.owns
    rw [dr_gone]
    show (_ && (match A.chg o with
      | none => decide (A.own o = q)
      | some c => A.hasB q c)) = _
    cases h : A.opn r o with
    | false => rw [if_neg (by decide), Bool.not_false, Bool.and_true]; rfl
    | true => rw [if_pos rfl]; simp
  rw [show (A.dr r).n = A.n from rfl, cntTo_congr hown]
  by_cases e : q = r
  · subst e
    rw [if_pos rfl, ← cnt_open hA hr]
    have key : ∀ n, n ≤ A.n → cntTo (fun o => A.owns q o && !A.opn q o) n + cntTo (fun o => decide (A.gone o = 0) && decide (A.chg o = none) && decide (A.own o = q)) n = cntTo (A.owns q) n := by
      intro n
      induction n with
      | zero => intro _; rfl
      | succ n ih =>
        intro hn
        have h := ih (by omega)
        rw [cntTo_s, cntTo_s, cntTo_s, ← h]
        have hop : A.opn q n = (decide (A.gone n = 0) && decide (A.chg n = none) && decide (A.own n = q)) := by
          unfold AS.opn
          rw [decide_eq_true (show n < A.n by omega), Bool.true_and]
        rw [← hop]
        cases h1 : A.opn q n with
        | true =>
          obtain ⟨_, h2, h3, h4⟩ := opn_iff.mp h1
          have : A.owns q n = true := by
            unfold AS.owns
            rw [h3]
            simp [h2, h4]
          rw [this]
          simp
          omega
        | false =>
          simp
          omega
    exact key A.n (Nat.le_refl _)
  · rw [if_neg e, Nat.add_zero]
    refine cntTo_congr (fun o ho => ?_)
    cases h : A.opn r o with
    | false => simp
    | true =>
      obtain ⟨_, h2, h3, h4⟩ := opn_iff.mp h
      have : A.owns q o = false := by
        unfold AS.owns
        rw [h3]
        simp [h4, Ne.symm e]
      rw [this]
      rfl
theorem RC_dr (G : RC N C A rd) (hA : AI A) (hr : r < 8) : RC N ((((C.drp (A.dF r (A.on r)) (A.dI r (A.on r))).setI 4 8 r (nI (A.tp r - A.on r))).setI 4 7 r (nI ((A.dr r).nop r))).setI 4 9 r (nI 0)) (A.dr r) rd := by
  obtain ⟨C1, hC1⟩ : ∃ C1, C1 = C.drp (A.dF r (A.on r)) (A.dI r (A.on r)) := ⟨_, rfl⟩
  have i1 : ∀ k f j, C1.i k f j = if k = 3 ∧ f = 4 ∧ A.dF r (A.on r) j = true then nI 1002 else C.i k f j := fun k f j => by rw [hC1, drp_i]
  have q1 : ∀ k j p, C1.q k j p = if k = 15 ∧ j = 0 ∧ A.dI r (A.on r) p = true then none else C.q k j p := fun k j p => by rw [hC1, drp_q]
  have r1 : C1.r = C.r := by rw [hC1]; rfl
  have l1 : C1.l = C.l := by rw [hC1]; rfl
  have a1 : C1.a = C.a := by rw [hC1]; rfl
  have z1 : C1.z = C.z := by rw [hC1]; rfl
  rw [← hC1]
  clear hC1
  obtain ⟨C2, hC2⟩ : ∃ C2, C2 = ((C1.setI 4 8 r (nI (A.tp r - A.on r))).setI 4 7 r (nI ((A.dr r).nop r))).setI 4 9 r (nI 0) := ⟨_, rfl⟩
  have i2 : ∀ k f j, k ≠ 4 → C2.i k f j = C1.i k f j := fun k f j h => by rw [hC2, CS.i_setI, if_neg (by omega), CS.i_setI, if_neg (by omega), CS.i_setI, if_neg (by omega)]
  have i4 : ∀ f j, C2.i 4 f j = if j = r then (if f = 9 then nI 0 else if f = 7 then nI ((A.dr r).nop r) else if f = 8 then nI (A.tp r - A.on r) else C1.i 4 f j) else C1.i 4 f j := by
    intro f j
    rw [hC2, CS.i_setI, CS.i_setI, CS.i_setI]
    by_cases e : j = r
    · rw [if_pos e]
      by_cases e1 : f = 9
      · rw [if_pos ⟨rfl, e1, e⟩, if_pos e1]
      · rw [if_neg (by omega), if_neg e1]
        by_cases e2 : f = 7
        · rw [if_pos ⟨rfl, e2, e⟩, if_pos e2]
        · rw [if_neg (by omega), if_neg e2]
          by_cases e3 : f = 8
          · rw [if_pos ⟨rfl, e3, e⟩, if_pos e3]
          · rw [if_neg (by omega), if_neg e3]
    · rw [if_neg (by omega), if_neg (by omega), if_neg (by omega), if_neg e]
  have q2 : C2.q = C1.q := by rw [hC2]; rfl
  have r2 : C2.r = C.r := by rw [hC2]; exact r1
  have l2 : C2.l = C.l := by rw [hC2]; exact l1
  have a2 : C2.a = C.a := by rw [hC2]; exact a1
  have z2 : C2.z = C.z := by rw [hC2]; exact z1
  rw [← hC2]
  clear hC2 r1 l1 a1 z1
  have qo : ∀ k j p, ¬ (k = 15 ∧ j = 0) → C2.q k j p = C.q k j p := fun k j p h => by rw [q2, q1, if_neg (fun e => h ⟨e.1, e.2.1⟩)]
  have qs : ∀ k j p y, C2.q k j p = some y → C.q k j p = some y := by
    intro k j p y h
    rw [q2, q1] at h
    split at h
    · cases h
    · exact h
  have io : ∀ k f j, k ≠ 4 → ¬ (k = 3 ∧ f = 4) → C2.i k f j = C.i k f j := fun k f j h1 h2 => by rw [i2 k f j h1, i1, if_neg (fun e => h2 ⟨e.1, e.2.1⟩)]
  obtain ⟨⟨g1, g2, g3, g4, g5, g6, g7, g8, g9, g10, g11, g12⟩, h1, h2, h3⟩ := G
  refine ⟨⟨g1, ⟨?_, ?_⟩, ?_, ?_, ?_, ?_, ⟨?_, ?_⟩, ⟨?_, ?_⟩, ⟨?_, ?_, ?_, ?_⟩, ?_, ?_, ?_⟩, ?_, ?_, ?_⟩
  · rw [r2]; exact g2.1
  · intro k j p y b1 b2 b3 b4
    exact g2.2 k j p y b1 b2 b3 (qs k j p y b4)
  · unfold RC_st at *; rw [r2]; exact g3
  · unfold RC_sz at *
    rw [z2, r2]
    refine ⟨g4.1, g4.2.1, g4.2.2.1, g4.2.2.2.1, g4.2.2.2.2.1, g4.2.2.2.2.2.1, g4.2.2.2.2.2.2.1, g4.2.2.2.2.2.2.2.1, g4.2.2.2.2.2.2.2.2.1, g4.2.2.2.2.2.2.2.2.2.1, g4.2.2.2.2.2.2.2.2.2.2.1, g4.2.2.2.2.2.2.2.2.2.2.2.1, ?_, g4.2.2.2.2.2.2.2.2.2.2.2.2.2.1, g4.2.2.2.2.2.2.2.2.2.2.2.2.2.2.1, ?_⟩
    · intro q hq
      have := g4.2.2.2.2.2.2.2.2.2.2.2.2.1 q hq
      refine ⟨?_, this.2.1, this.2.2.1, this.2.2.2.1, this.2.2.2.2.1, this.2.2.2.2.2.1, ?_⟩
      · rw [i4]
        simp only [show ¬ (0 = 9) by omega, show ¬ (0 = 7) by omega, show ¬ (0 = 8) by omega, if_false, ite_self']
        rw [i1, if_neg (by omega)]
        exact this.1
      · rw [qo 17 0 q (by omega)]
        exact this.2.2.2.2.2.2
    · intro i hi
      rw [qo 18 0 i (by omega)]
      exact g4.2.2.2.2.2.2.2.2.2.2.2.2.2.2.2 i hi
  · unfold RC_rt at *
    rw [r2, io 3 0 0 (by omega) (by omega), io 3 2 0 (by omega) (by omega), io 3 5 0 (by omega) (by omega), io 3 9 0 (by omega) (by omega), io 3 10 0 (by omega) (by omega)]
    exact g5
  · intro o ho
    have := g6 o ho
    show match A.pre o with
      | [] => C2.r 3 7 (o + 1) = none
      | l => ∃ j, 2 ≤ j ∧ j < N 15 ∧ C2.r 3 7 (o + 1) = some j ∧ C2.z 15 j = l.length ∧ ∀ k (h : k < l.length), C2.q 15 j k = some (l[k] + 1)
    rw [r2, z2]
    cases hp : A.pre o with
    | nil => rw [hp] at this; exact this
    | cons x l =>
      rw [hp] at this
      obtain ⟨j, b1, b2, b3, b4, b5⟩ := this
      exact ⟨j, b1, b2, b3, b4, fun k hk => by rw [qo 15 j k (by omega)]; exact b5 k hk⟩
  · intro o ho hg
    obtain ⟨e1, e2⟩ := dr_g0 hg
    show C2.q 15 0 (A.id o) = _
    rw [q2, q1, if_neg]
    · exact g7.1 o ho e1
    · rintro ⟨_, _, hI⟩
      unfold AS.dI at hI
      simp only [Bool.and_eq_true, decide_eq_true_eq] at hI
      obtain ⟨o', b1, b2, b3, b4, b5⟩ := hA.2.2.2.1.2.2.1 r (A.id o / 8) hr hI.1.2 hI.2
      have hid := (hA.2.2.1.1 o' b1).2.1
      have := hA.2.2.1.2.1 o o' ho b1 e1 b2 (by omega)
      rw [this, opn_iff.mpr ⟨b1, b2, b3, b4⟩] at e2
      cases e2
  · intro i j hj
    obtain ⟨o, b1, b2, b3, b4⟩ := g7.2 i j (qs _ _ _ _ hj)
    refine ⟨o, b1, ?_, b3, b4⟩
    rw [dr_gone, if_neg]
    · exact b2
    · intro hop
      obtain ⟨c1, c2, c3, c4⟩ := opn_iff.mp hop
      have hT := hA.2.2.2.1.2.1 o c1 c2 c3
      rw [c4] at hT
      have hid := (hA.2.2.1.1 o c1).2.1
      rw [q2, q1, if_pos] at hj
      · cases hj
      · refine ⟨rfl, rfl, ?_⟩
        unfold AS.dI
        simp only [Bool.and_eq_true, decide_eq_true_eq]
        refine ⟨⟨by omega, by omega⟩, by omega⟩
  · rw [io 5 1 0 (by omega) (by omega)]; exact g8.1
  · rw [a2]; exact g8.2
  · rw [io 8 4 0 (by omega) (by omega)]; exact g9.1
  · rw [io 8 5 0 (by omega) (by omega)]; exact g9.2.1
  · intro c hc hm
    rw [qo 16 0 c (by omega)]
    exact g9.2.2.1 c hc hm
  · intro c hc
    obtain ⟨b1, b2, b3, b4, b5, b6, b7, b8, b9, dl, d1, d2, d3, d4, d5⟩ := g9.2.2.2 c hc
    rw [qo 16 0 c (by omega), io 0 0 c (by omega) (by omega), io 0 1 c (by omega) (by omega), io 0 2 c (by omega) (by omega), io 0 3 c (by omega) (by omega), io 0 4 c (by omega) (by omega), r2, a2, z2]
    exact ⟨b1, b2, b3, b4, b5, b6, b7, b8, b9, dl, d1, d2, d3, d4, fun k hk => by rw [qo 16 (9 + c) k (by omega)]; exact d5 k hk⟩
  · intro q hq
    obtain ⟨b1, b2', b3, b4, b5, b6, b7, b8, b9⟩ := g10 q hq
    have hnp := dr_nop hA hr (q := q)
    rw [a2, r2]
    refine ⟨b1, b2', ?_, b4, ?_, ?_, ?_, ?_, ?_⟩
    · intro x d hx
      rw [qo 16 (1 + q) x (by omega)]
      exact b3 x d hx
    · rw [i4]
      simp only [show ¬ (5 = 9) by omega, show ¬ (5 = 7) by omega, show ¬ (5 = 8) by omega, if_false, ite_self']
      rw [i1, if_neg (by omega)]
      exact b5
    · rw [i4]
      simp only [show ¬ (6 = 9) by omega, show ¬ (6 = 7) by omega, show ¬ (6 = 8) by omega, if_false, ite_self']
      rw [i1, if_neg (by omega)]
      exact b6
    · rw [i4]
      simp only [show ¬ (7 = 9) by omega, if_true, if_false]
      by_cases e : q = r
      · rw [if_pos e, e]
      · rw [if_neg e, i1, if_neg (by omega), b7]
        rw [if_neg e, Nat.add_zero] at hnp
        rw [hnp]
    · rw [i4, dr_tp]
      simp only [show ¬ (8 = 9) by omega, show ¬ (8 = 7) by omega, if_true, if_false]
      by_cases e : q = r
      · rw [if_pos e, if_pos e]
      · rw [if_neg e, if_neg e, i1, if_neg (by omega)]; exact b8
    · rw [i4, dr_on]
      simp only [if_true]
      by_cases e : q = r
      · rw [if_pos e, if_pos e]
      · rw [if_neg e, if_neg e, i1, if_neg (by omega)]; exact b9
  · intro o ho
    obtain ⟨b1, b2', b3, b4, b5, b6⟩ := g11 o ho
    rw [io 3 0 (o + 1) (by omega) (by omega), r2, io 3 2 (o + 1) (by omega) (by omega), l2, io 3 5 (o + 1) (by omega) (by omega), io 3 8 (o + 1) (by omega) (by omega), io 3 9 (o + 1) (by omega) (by omega), io 3 10 (o + 1) (by omega) (by omega)]
    refine ⟨b1, b2', b3, b4, ?_, b6⟩
    rw [i2 3 4 (o + 1) (by omega), i1, dF_opn hA, dr_gone]
    show _ = nI (if (if A.opn r o = true then 1 else A.gone o) = 0 then A.cn o else 1002)
    cases h : A.opn r o with
    | true => rfl
    | false => exact b5
  · unfold RC_ln at *
    rw [r2]
    exact g12
  · rw [io 10 4 0 (by omega) (by omega)]; exact h1
  · intro j hj
    rw [io 3 14 j (by omega) (by omega)]
    exact h2 j hj
  · intro p y hy
    rw [qo 15 1 p (by omega)] at hy
    exact h3 p y hy
end CDS
