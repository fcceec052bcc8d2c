/-! DROP, over the abstract state. -/
def AS.dr (A : AS) (r : Nat) : AS :=
  (A.1, fun k o => if k = 3 then (if A.opn r o = true then 1 else A.gone o) else A.2.1 k o, A.2.2.1, A.2.2.2.1, A.2.2.2.2.1,
   fun k c => if k = 4 then (if c = r then A.tp r - A.on r else A.tp c) else if k = 5 then (if c = r then 0 else A.on c) else A.2.2.2.2.2.1 k c,
   A.2.2.2.2.2.2.1, A.wt, A.dp, A.lk, A.L, A.O)
section DR
variable {A : AS} {r : Nat}
theorem dr_gone (o : Nat) : (A.dr r).gone o = if A.opn r o = true then 1 else A.gone o := rfl
theorem dr_tp (q : Nat) : (A.dr r).tp q = if q = r then A.tp r - A.on r else A.tp q := rfl
theorem dr_on (q : Nat) : (A.dr r).on q = if q = r then 0 else A.on q := rfl
theorem dr_g0 {o : Nat} (h : (A.dr r).gone o = 0) : A.gone o = 0 ∧ A.opn r o = false := by
  rw [dr_gone] at h
  cases e : A.opn r o with
  | true => rw [if_pos e] at h; omega
  | false => rw [if_neg (by rw [e]; decide)] at h; exact ⟨h, rfl⟩
theorem dr_seen (hA : AI A) {x o : Nat} (hx : x < A.n) (ho : o < A.n) (hg : (A.dr r).gone o = 0) (h : A.seen x o) : (A.dr r).seen x o := by
  obtain ⟨g1, g2⟩ := dr_g0 hg
  refine ⟨?_, h.2⟩
  rw [dr_gone, if_neg]
  · exact h.1
  · intro e
    obtain ⟨_, e2, e3, e4⟩ := opn_iff.mp e
    have hk := hA.2.2.1.2.2.1
    have h1 := hk x hx
    rw [e3] at h1
    have h1 := (h1 e2).1
    have h2 := h.2
    rw [e4] at h1 h2
    have h3 := hk o ho
    have hle := hA.2.1.2.2.2.2.2.1
    cases hc : A.chg o with
    | some c =>
      rw [hc] at h3
      have := hle.2.1 c r h3.1
      rw [h3.2.2.2.2] at h2
      omega
    | none =>
      rw [hc] at h3
      have h4 := (h3 g1).2 r
      have hne : A.own o ≠ r := by
        intro e5
        rw [opn_iff.mpr ⟨ho, g1, hc, e5⟩] at g2
        cases g2
      rw [if_neg (Ne.symm hne)] at h4
      have := hle.1 (A.own o) r
      omega
theorem dr_AI (hA : AI A) : AI (A.dr r) := by
  obtain ⟨k1, k2, k3, k4, k5, k6, k7, k8, k9, k10⟩ := hA.2.2.1
  obtain ⟨t1, t2, t3, t4, t5, t6, t7, t8⟩ := hA.2.2.2.1
  refine ⟨hA.1, hA.2.1, ⟨?_, ?_, ?_, ?_, ?_, ?_, ?_, ?_, ?_, k10⟩, ⟨?_, ?_, ?_, t4, t5, t6, ?_, ?_⟩, hA.2.2.2.2.1, hA.2.2.2.2.2⟩
  · intro o ho
    have := k1 o ho
    refine ⟨this.1, this.2.1, this.2.2.1, this.2.2.2.1, this.2.2.2.2.1, ?_, this.2.2.2.2.2.2⟩
    rw [dr_gone]
    split <;> omega
  · intro o p ho hp h1 h2 h3
    exact k2 o p ho hp (dr_g0 h1).1 (dr_g0 h2).1 h3
  · intro o ho
    have h := k3 o ho
    show match A.chg o with
      | some c => c < A.m ∧ (A.dr r).gone o = 0 ∧ A.ca c = A.own o ∧ A.cn o = A.cu c ∧ A.oc o = A.cl c
      | none => (A.dr r).gone o = 0 → A.cn o = A.hv (A.own o) (A.own o) + 1 ∧ ∀ a, A.oc o a = A.hv (A.own o) a + (if a = A.own o then 1 else 0)
    cases hc : A.chg o with
    | some c =>
      rw [hc] at h
      refine ⟨h.1, ?_, h.2.2⟩
      rw [dr_gone, if_neg]
      · exact h.2.1
      · intro e
        have := (opn_iff.mp e).2.2.1
        rw [hc] at this
        cases this
    | none =>
      rw [hc] at h
      intro hg
      exact h (dr_g0 hg).1
  · intro o x ho hx
    have h := k4 o x ho hx
    exact ⟨h.1, h.2.1, h.2.2.1, fun hg => dr_seen hA (Nat.lt_trans h.1 ho) ho hg (h.2.2.2 (dr_g0 hg).1)⟩
  · intro o ho hi
    have h := k5 o ho hi
    refine ⟨h.1, h.2.1, h.2.2.1, h.2.2.2.1, h.2.2.2.2.1, ?_⟩
    intro p hp
    have g := h.2.2.2.2.2 p hp
    exact ⟨g.1, g.2.1, g.2.2.1, g.2.2.2.1, fun hg => dr_seen hA (Nat.lt_trans g.1 ho) ho hg (g.2.2.2.2 (dr_g0 hg).1)⟩
  · intro o ho hi
    have h := k6 o ho hi
    refine ⟨h.1, h.2.1, h.2.2.1, h.2.2.2.1, ?_, h.2.2.2.2.2⟩
    intro hk
    have g := h.2.2.2.2.1 hk
    exact ⟨g.1, g.2.1, g.2.2.1, g.2.2.2.1, fun hg => dr_seen hA h.2.1 ho hg (g.2.2.2.2 (dr_g0 hg).1)⟩
  · intro o ho
    have h := k7 o ho
    refine ⟨h.1, h.2.1, ?_⟩
    intro p hp
    have g := h.2.2 p hp
    exact ⟨g.1, g.2.1, g.2.2.1, g.2.2.2.1, g.2.2.2.2.1, fun hg => dr_seen hA (Nat.lt_trans g.1 ho) ho hg (g.2.2.2.2.2 (dr_g0 hg).1)⟩
  · intro o q ho hq h1 h2 h3 h4 h5 h6
    obtain ⟨p, g1, g2, g3, g4⟩ := k8 o q ho hq (dr_g0 h1).1 (dr_g0 h2).1 h3 h4 h5 h6
    refine ⟨p, g1, g2, g3, ?_⟩
    rcases g4 with g4 | g4
    · exact Or.inl g4
    · exact Or.inr (dr_seen hA g1 ho h1 g4)
  · intro x
    have h := k9 x
    exact ⟨h.1, h.2.1, h.2.2.1, fun hk => Jp_gone (h.2.2.2 hk) (fun o _ hg => (dr_g0 hg).1)⟩
  · intro q
    have := t1 q
    rw [dr_on, dr_tp]
    show _ ∧ _ ≤ A.n
    by_cases e : q = r
    · rw [if_pos e, if_pos e]; rw [e] at this; omega
    · rw [if_neg e, if_neg e]; exact this
  · intro o ho hg hch
    obtain ⟨g1, g2⟩ := dr_g0 hg
    have hne : A.own o ≠ r := by
      intro e5
      have e6 : A.opn r o = true := opn_iff.mpr ⟨ho, g1, hch, e5⟩
      rw [e6] at g2
      cases g2
    have := t2 o ho g1 hch
    show (A.dr r).tp (A.own o) < A.id o / 8 + (A.dr r).on (A.own o) ∧ A.id o / 8 ≤ (A.dr r).tp (A.own o)
    rw [dr_on, dr_tp, if_neg hne, if_neg hne]
    exact this
  · intro q t hq h1 h2
    rw [dr_tp] at h1 h2
    rw [dr_on] at h1
    by_cases e : q = r
    · rw [if_pos e] at h1 h2
      rw [if_pos e] at h1
      omega
    · rw [if_neg e] at h1 h2
      rw [if_neg e] at h1
      obtain ⟨o, g1, g2, g3, g4, g5⟩ := t3 q t hq h1 h2
      refine ⟨o, g1, ?_, g3, g4, g5⟩
      rw [dr_gone, if_neg]
      · exact g2
      · intro h
        exact e (by rw [← g4]; exact (opn_iff.mp h).2.2.2)
  · intro q c hqc
    have := t7 q c hqc
    rw [dr_tp, dr_on]
    show A.cf c + A.cz c ≤ _
    by_cases e : q = r
    · rw [if_pos e, if_pos e]; rw [e] at this; omega
    · rw [if_neg e, if_neg e]; exact this
  · intro q
    rw [dr_tp, dr_on]
    by_cases e : q = r
    · rw [if_pos e, if_pos e]
      have := t8 q
      rw [e] at this ⊢
      exact this
    · rw [if_neg e, if_neg e]
      exact t8 q
end DR
