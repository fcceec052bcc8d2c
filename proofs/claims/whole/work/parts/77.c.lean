/-! A CHANGE IS EXPECTED, GAINED, LOOKED AT, over the abstract state. -/
def AS.ex (A : AS) (r c : Nat) : AS := (A.1, A.2.1, A.2.2.1, A.2.2.2.1, A.2.2.2.2.1, A.2.2.2.2.2.1, A.2.2.2.2.2.2.1, fun q d => if q = r ∧ d = c then true else A.wt q d, A.dp, A.lk, A.L, A.O)
def AS.lo (A : AS) (r : Nat) (x : Option Nat) : AS := (A.1, A.2.1, A.2.2.1, A.2.2.2.1, A.2.2.2.2.1, A.2.2.2.2.2.1, A.2.2.2.2.2.2.1, A.wt, A.dp, fun q => if q = r then x else A.lk q, A.L, A.O)
def AS.ga (A : AS) (r c : Nat) : AS := (A.1, A.2.1, A.2.2.1, A.2.2.2.1, A.2.2.2.2.1, fun k q => if k = 4 then (if q = r then max (A.tp r) (A.cf c + A.cz c - 1) else A.tp q) else A.2.2.2.2.2.1 k q,
  fun k q a => if k = 2 then (if q = r ∧ a = A.ca c then A.cu c else A.hv q a) else A.2.2.2.2.2.2.1 k q a, fun q d => if q = r ∧ d = c then false else A.wt q d, A.dp, A.lk, A.L, A.O)
section GA
variable {A : AS} {r c : Nat}
theorem ex_wt (q d : Nat) : (A.ex r c).wt q d = if q = r ∧ d = c then true else A.wt q d := rfl
theorem lo_lk {x : Option Nat} (q : Nat) : (A.lo r x).lk q = if q = r then x else A.lk q := rfl
theorem ga_tp (q : Nat) : (A.ga r c).tp q = if q = r then max (A.tp r) (A.cf c + A.cz c - 1) else A.tp q := rfl
theorem ga_hv (q a : Nat) : (A.ga r c).hv q a = if q = r ∧ a = A.ca c then A.cu c else A.hv q a := rfl
theorem ga_wt (q d : Nat) : (A.ga r c).wt q d = if q = r ∧ d = c then false else A.wt q d := rfl
theorem ex_AI (hA : AI A) (hc : c < A.m) (hn : ¬ A.has r c) : AI (A.ex r c) := by
  obtain ⟨h1, h2, h3, h4, h5, h6, h7, h8, h9, h10⟩ := hA.2.1
  refine ⟨hA.1, ⟨h1, h2, h3, h4, h5, h6, h7, h8, h9, ?_⟩, hA.2.2⟩
  intro q d h
  rw [ex_wt] at h
  by_cases e : q = r ∧ d = c
  · obtain ⟨rfl, rfl⟩ := e
    exact ⟨hc, hn⟩
  · rw [if_neg e] at h
    exact h10 q d h
theorem lo_AI {x : Option Nat} (hA : AI A) (hx : ∀ c, x = some c → A.has r c) : AI (A.lo r x) := by
  obtain ⟨h1, h2, h3, h4, h5, h6, h7, h8, h9, h10⟩ := hA.2.1
  refine ⟨hA.1, ⟨h1, h2, h3, h4, h5, h6, h7, h8, ?_, h10⟩, hA.2.2⟩
  intro q d h
  rw [lo_lk] at h
  by_cases e : q = r
  · rw [if_pos e] at h
    rw [e]
    exact hx d h
  · rw [if_neg e] at h
    exact h9 q d h
/-- the next one of its actor, with all that it depends on -/
def AS.rdy (A : AS) (r c : Nat) : Prop := c < A.m ∧ A.cu c = A.hv r (A.ca c) + 1 ∧ ∀ d, A.dp c d = true → A.has r d
theorem rdy_ne (hA : AI A) (h : A.rdy r c) : A.ca c ≠ r := by
  intro e
  have h1 := (hA.2.1.1 c h.1).2.2.1
  have h2 := h.2.1
  rw [e] at h1 h2
  omega
theorem rdy_no (h : A.rdy r c) : ¬ A.has r c := fun e => by have := e.2; have := h.2.1; omega
theorem ga_hvd (hA : AI A) (h : A.rdy r c) (a : Nat) : (A.ga r c).hv a a = A.hv a a := by
  have := rdy_ne hA h
  rw [ga_hv, if_neg (by omega)]
theorem ga_hvle (h : A.rdy r c) (q a : Nat) : A.hv q a ≤ (A.ga r c).hv q a := by
  rw [ga_hv]
  split
  · rename_i e; rw [e.1, e.2, h.2.1]; omega
  · omega
theorem ga_has (hA : AI A) (h : A.rdy r c) {q d : Nat} : (A.ga r c).has q d ↔ A.has q d ∨ (q = r ∧ d = c) := by
  constructor
  · rintro ⟨h1, h2⟩
    have h2 : A.cu d ≤ (A.ga r c).hv q (A.ca d) := h2
    rw [ga_hv] at h2
    by_cases e : q = r ∧ A.ca d = A.ca c
    · rw [if_pos e] at h2
      have hc1 := h.2.1
      by_cases e2 : A.cu d ≤ A.hv r (A.ca c)
      · left
        refine ⟨h1, ?_⟩
        rw [e.1, e.2]
        exact e2
      · right
        exact ⟨e.1, cu_inj hA.2.1.2.1 h1 h.1 e.2 (by omega)⟩
    · rw [if_neg e] at h2
      exact Or.inl ⟨h1, h2⟩
  · rintro (h1 | ⟨rfl, rfl⟩)
    · exact ⟨h1.1, Nat.le_trans h1.2 (ga_hvle h _ _)⟩
    · refine ⟨h.1, ?_⟩
      show A.cu d ≤ (A.ga q d).hv q (A.ca d)
      rw [ga_hv, if_pos ⟨rfl, rfl⟩]
      omega
theorem ga_cl (hA : AI A) (h : A.rdy r c) (a : Nat) : A.cl c a ≤ A.hv r a + (if a = A.ca c then 1 else 0) := by
  rcases hA.2.1.2.2.2.2.2.2.2.1 c a h.1 with g | ⟨d, g1, g2⟩
  · omega
  · have := hA.2.1.2.2.2.2.1 r d (h.2.2 d g1) a
    omega
theorem ga_AI (hA : AI A) (h : A.rdy r c) (hon : A.on r = 0) : AI (A.ga r c) := by
  obtain ⟨h1, h2, h3, h4, h5, h6, h7, h8, h9, h10⟩ := hA.2.1
  obtain ⟨k1, k2, k3, k4, k5, k6, k7, k8, k9, k10⟩ := hA.2.2.1
  obtain ⟨t1, t2, t3, t4, t5, t6, t7, t8⟩ := hA.2.2.2.1
  have hno : ∀ o, o < A.n → A.gone o = 0 → A.chg o = none → A.own o ≠ r := by
    intro o ho hg hc e
    have := t2 o ho hg hc
    rw [e] at this
    omega
  refine ⟨hA.1, ⟨?_, h2, ?_, h4, ?_, ⟨?_, ?_, ?_⟩, h7, h8, ?_, ?_⟩, ⟨k1, k2, ?_, k4, k5, k6, k7, k8, k9, k10⟩, ⟨?_, ?_, ?_, t4, t5, t6, ?_, ?_⟩, hA.2.2.2.2.1, hA.2.2.2.2.2.1, ?_⟩
  · intro d hd
    have g := h1 d hd
    refine ⟨g.1, g.2.1, ?_, g.2.2.2⟩
    show A.cu d ≤ (A.ga r c).hv (A.ca d) (A.ca d)
    rw [ga_hvd hA h]
    exact g.2.2.1
  · intro a k hk1 hk2
    rw [ga_hvd hA h] at hk2
    exact h3 a k hk1 hk2
  · intro q d hd a
    show A.cl d a ≤ _
    rcases (ga_has hA h).mp hd with g | ⟨rfl, rfl⟩
    · exact Nat.le_trans (h5 q d g a) (ga_hvle h _ _)
    · rw [ga_hv]
      have := ga_cl hA h a
      by_cases e : a = A.ca d
      · rw [if_pos ⟨rfl, e⟩, e, (h1 d h.1).2.2.2.1]
        omega
      · rw [if_neg (by omega)]
        rw [if_neg e] at this
        exact this
  · intro q a
    rw [ga_hvd hA h, ga_hv]
    by_cases e : q = r ∧ a = A.ca c
    · rw [if_pos e, e.2]
      exact (h1 c h.1).2.2.1
    · rw [if_neg e]
      exact h6.1 q a
  · intro d a hd
    rw [ga_hvd hA h]
    exact h6.2.1 d a hd
  · intro q a ha
    have := (h1 c h.1).1
    rw [ga_hv, if_neg (by omega)]
    exact h6.2.2 q a ha
  · intro q d hd
    exact (ga_has hA h).mpr (Or.inl (h9 q d hd))
  · intro q d hd
    rw [ga_wt] at hd
    by_cases e : q = r ∧ d = c
    · rw [if_pos e] at hd; cases hd
    · rw [if_neg e] at hd
      have g := h10 q d hd
      refine ⟨g.1, fun hh => ?_⟩
      rcases (ga_has hA h).mp hh with g2 | g2
      · exact g.2 g2
      · exact e g2
  · intro o ho
    have g := k3 o ho
    show match A.chg o with
      | some c => c < A.m ∧ A.gone o = 0 ∧ A.ca c = A.own o ∧ A.cn o = A.cu c ∧ A.oc o = A.cl c
      | none => A.gone o = 0 → A.cn o = (A.ga r c).hv (A.own o) (A.own o) + 1 ∧ ∀ a, A.oc o a = (A.ga r c).hv (A.own o) a + (if a = A.own o then 1 else 0)
    cases hc : A.chg o with
    | some d => rw [hc] at g; exact g
    | none =>
      rw [hc] at g
      intro hg
      have hne := hno o ho hg hc
      refine ⟨by rw [ga_hvd hA h]; exact (g hg).1, ?_⟩
      intro a
      rw [ga_hv, if_neg (by omega)]
      exact (g hg).2 a
  · intro q
    have g := t1 q
    have g2 := t4 c h.1
    rw [ga_tp]
    show A.on q ≤ _ ∧ _ ≤ A.n
    split
    · rename_i e; rw [e] at g ⊢; omega
    · exact g
  · intro o ho hg hch
    have hne := hno o ho hg hch
    show (A.ga r c).tp (A.own o) < A.id o / 8 + A.on (A.own o) ∧ A.id o / 8 ≤ (A.ga r c).tp (A.own o)
    rw [ga_tp, if_neg hne]
    exact t2 o ho hg hch
  · intro q t hq g1 g2
    have g1 : (A.ga r c).tp q < t + A.on q := g1
    by_cases e : q = r
    · rw [e] at g1 g2; omega
    · rw [ga_tp, if_neg e] at g1 g2
      exact t3 q t hq g1 g2
  · intro q d hd
    show A.cf d + A.cz d ≤ (A.ga r c).tp q - A.on q + 1
    rw [ga_tp]
    rcases (ga_has hA h).mp hd with g | ⟨rfl, rfl⟩
    · have := t7 q d g
      split
      · rename_i e; rw [e] at this ⊢; omega
      · exact this
    · rw [if_pos rfl, hon]; omega
  · intro q
    show (A.ga r c).tp q - A.on q = 0 ∨ ∃ d, (A.ga r c).has q d ∧ (A.ga r c).tp q - A.on q + 1 = A.cf d + A.cz d
    rw [ga_tp]
    have g2 := t4 c h.1
    by_cases e : q = r
    · subst e
      rw [if_pos rfl, hon]
      by_cases e2 : A.cf c + A.cz c - 1 ≤ A.tp q
      · rcases t8 q with g | ⟨d, g1, g2⟩
        · left; omega
        · right
          exact ⟨d, (ga_has hA h).mpr (Or.inl g1), by rw [hon] at g2; omega⟩
      · right
        exact ⟨c, (ga_has hA h).mpr (Or.inr ⟨rfl, rfl⟩), by omega⟩
    · rw [if_neg e]
      rcases t8 q with g | ⟨d, g1, g2⟩
      · exact Or.inl g
      · exact Or.inr ⟨d, (ga_has hA h).mpr (Or.inl g1), g2⟩
  · intro a
    rw [ga_hvd hA h]
    exact hA.2.2.2.2.2.2 a
end GA
