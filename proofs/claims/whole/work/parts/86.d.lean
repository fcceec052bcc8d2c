/-! SAVED: changes in their order. -/
theorem srt_uniq (f : Nat → Nat) : ∀ {l l' : List Nat}, l.Pairwise (fun a b => f a < f b) → l'.Pairwise (fun a b => f a < f b) → (∀ x, x ∈ l ↔ x ∈ l') → l = l' := by
  intro l
  induction l with
  | nil =>
    intro l' _ _ h
    cases l' with
    | nil => rfl
    | cons b l' => have := (h b).mpr (by simp); cases this
  | cons a l ih =>
    intro l' h1 h2 h
    cases l' with
    | nil => have := (h a).mp (by simp); cases this
    | cons b l' =>
      rw [List.pairwise_cons] at h1 h2
      have hab : a = b := by
        have ha := (h a).mp (by simp)
        have hb := (h b).mpr (by simp)
        rw [List.mem_cons] at ha hb
        rcases ha with ha | ha
        · exact ha
        · rcases hb with hb | hb
          · exact hb.symm
          · have p1 := h1.1 b hb
            have p2 := h2.1 a ha
            omega
      subst hab
      congr 1
      apply ih h1.2 h2.2
      intro x
      have hx := h x
      rw [List.mem_cons, List.mem_cons] at hx
      constructor
      · intro hm
        rcases hx.mp (Or.inr hm) with e | e
        · subst e; have := h1.1 x hm; omega
        · exact e
      · intro hm
        rcases hx.mpr (Or.inr hm) with e | e
        · subst e; have := h2.1 x hm; omega
        · exact e
/-- change number k of actor a -/
def AS.ch (A : AS) (a k : Nat) : Nat := (A.fc a (nI k)).getD 0
/-- the first t a changes of each actor a -/
def AS.chs (A : AS) (t : Nat → Nat) : List Nat := (List.range 8).flatMap (fun a => (List.range (t a)).map (fun k => A.ch a (k + 1)))
/-- what a change depends on, in order -/
def AS.cdl (A : AS) (c : Nat) : List Nat := (A.chs (fun a => A.hv a a)).filter (A.dp c)
/-- the op with an id -/
def AS.opI (A : AS) (i : Nat) : Nat := (firstTo (fun o => decide (A.gone o = 0) && decide (A.id o = i)) A.n).getD 0
def AS.cops (A : AS) (c : Nat) : List Nat := (List.range (A.cz c)).map (fun t => A.opI (8 * (A.cf c + t) + A.ca c))
/-- the bytes of a change -/
def AS.chB (A : AS) (c : Nat) : List Nat :=
  grp (A.ca c) ++ (grp (A.cu c) ++ (grp (A.cdl c).length ++ ((A.cdl c).flatMap (fun d => grp (A.ca d) ++ grp (A.cu d)) ++ (grp (A.cf c) ++ (grp (A.cz c) ++ (A.cops c).flatMap A.opB)))))
section SVD
variable {S S' : MS} {N : Nat → Nat} {C C' : CS} {A : AS} {r rd : Nat} {w : List Nat} {P : CS → List Nat → Prop}
theorem hv_m (hA : AI A) (a : Nat) : A.hv a a ≤ A.m := by
  rw [hA.2.2.2.2.2.2 a]
  exact cnt_le _ _
theorem cu_le (hA : AI A) {c : Nat} (hc : c < A.m) : A.cu c ≤ 1000 := by
  have := (hA.2.1.1 c hc).2.2.2.2
  have := hA.1.2.1
  omega
theorem fc_some (hA : AI A) {a k : Nat} (h1 : 1 ≤ k) (h2 : k ≤ A.hv a a) : ∃ c, A.fc a (nI k) = some c ∧ A.ch a k = c ∧ c < A.m ∧ A.ca c = a ∧ A.cu c = k := by
  have hm := hA.1.2.1
  have hle := hv_m hA a
  obtain ⟨d, d1, d2, d3⟩ := hA.2.1.2.2.1 a k h1 h2
  cases h : A.fc a (nI k) with
  | none =>
    exfalso
    unfold AS.fc at h
    have := firstTo_none h d d1
    rw [d2, d3] at this
    simp at this
  | some c =>
    have := fc_lt h
    have hcu := cu_le hA this.1
    refine ⟨c, rfl, by unfold AS.ch; rw [h]; rfl, this.1, this.2.1, (nI_eq (by omega) (by omega)).mp this.2.2⟩
theorem fc_no (hA : AI A) {a k : Nat} (h1 : A.hv a a < k) (hk : k < 2 ^ 31) : A.fc a (nI k) = none := by
  cases h : A.fc a (nI k) with
  | none => rfl
  | some c =>
    have h2 := fc_lt h
    have hcu := cu_le hA h2.1
    have h3 := (nI_eq (by omega) (by omega)).mp h2.2.2
    have h4 := (hA.2.1.1 c h2.1).2.2.1
    rw [h2.2.1] at h4
    omega
theorem ch_cu (hA : AI A) {c : Nat} (hc : c < A.m) : A.ch (A.ca c) (A.cu c) = c := by
  have h := hA.2.1.1 c hc
  obtain ⟨d, d1, d2, d3, d4, d5⟩ := fc_some hA h.2.1 h.2.2.1
  rw [d2]
  exact cu_inj hA.2.1.2.1 d3 hc d4 d5
theorem chs_mem (hA : AI A) {t : Nat → Nat} (ht : ∀ a, t a ≤ A.hv a a) {c : Nat} : c ∈ A.chs t ↔ c < A.m ∧ A.cu c ≤ t (A.ca c) := by
  unfold AS.chs
  rw [List.mem_flatMap]
  constructor
  · rintro ⟨a, ha, hc⟩
    rw [List.mem_map] at hc
    obtain ⟨k, hk, rfl⟩ := hc
    rw [List.mem_range] at ha hk
    have := ht a
    obtain ⟨d, d1, d2, d3, d4, d5⟩ := fc_some hA (a := a) (k := k + 1) (by omega) (by omega)
    rw [d2, d4, d5]
    exact ⟨d3, by omega⟩
  · rintro ⟨h1, h2⟩
    have h := hA.2.1.1 c h1
    refine ⟨A.ca c, List.mem_range.mpr h.1, ?_⟩
    rw [List.mem_map]
    refine ⟨A.cu c - 1, List.mem_range.mpr (by omega), ?_⟩
    rw [show A.cu c - 1 + 1 = A.cu c by omega]
    exact ch_cu hA h1
theorem chs_srt (hA : AI A) {t : Nat → Nat} (ht : ∀ a, t a ≤ A.hv a a) : (A.chs t).Pairwise (fun c d => 2000 * A.ca c + A.cu c < 2000 * A.ca d + A.cu d) := by
  have hm := hA.1.2.1
  unfold AS.chs
  rw [List.pairwise_flatMap]
  have hch : ∀ a k, k < t a → A.ca (A.ch a (k + 1)) = a ∧ A.cu (A.ch a (k + 1)) = k + 1 ∧ k + 1 ≤ 1000 := by
    intro a k hk
    have := ht a
    have hle := hv_m hA a
    obtain ⟨d, d1, d2, d3, d4, d5⟩ := fc_some hA (a := a) (k := k + 1) (by omega) (by omega)
    rw [d2]
    exact ⟨d4, d5, by omega⟩
  constructor
  · intro a ha
    rw [List.pairwise_map]
    refine List.Pairwise.imp_of_mem ?_ List.pairwise_lt_range
    intro x y hx hy hxy
    rw [List.mem_range] at hx hy
    have h1 := hch a x hx
    have h2 := hch a y hy
    rw [h1.1, h1.2.1, h2.1, h2.2.1]
    omega
  · refine List.Pairwise.imp_of_mem ?_ List.pairwise_lt_range
    intro a b ha hb hab c hc d hd
    rw [List.mem_map] at hc hd
    obtain ⟨x, hx, rfl⟩ := hc
    obtain ⟨y, hy, rfl⟩ := hd
    rw [List.mem_range] at hx hy
    have h1 := hch a x hx
    have h2 := hch b y hy
    rw [h1.1, h1.2.1, h2.1, h2.2.1]
    omega
/-- an actor's first changes, by their places -/
theorem ch_filter (hA : AI A) {a t : Nat} (ht : t ≤ A.hv a a) : (List.range A.m).filter (fun c => decide (A.ca c = a) && decide (A.cu c ≤ t)) = (List.range t).map (fun k => A.ch a (k + 1)) := by
  apply srt_uniq (fun c => c)
  · exact List.Pairwise.filter _ List.pairwise_lt_range
  · rw [List.pairwise_map]
    refine List.Pairwise.imp_of_mem ?_ List.pairwise_lt_range
    intro x y hx hy hxy
    rw [List.mem_range] at hx hy
    obtain ⟨c, c1, c2, c3, c4, c5⟩ := fc_some hA (a := a) (k := x + 1) (by omega) (by omega)
    obtain ⟨d, d1, d2, d3, d4, d5⟩ := fc_some hA (a := a) (k := y + 1) (by omega) (by omega)
    rw [c2, d2]
    exact (hA.2.1.2.1 c d c3 d3 (by rw [c4, d4])).mp (by omega)
  · intro c
    rw [List.mem_filter, List.mem_range, List.mem_map]
    simp only [Bool.and_eq_true, decide_eq_true_eq]
    constructor
    · rintro ⟨h1, h2, h3⟩
      have h := hA.2.1.1 c h1
      refine ⟨A.cu c - 1, List.mem_range.mpr (by omega), ?_⟩
      rw [show A.cu c - 1 + 1 = A.cu c by omega, ← h2]
      exact ch_cu hA h1
    · rintro ⟨k, hk, rfl⟩
      rw [List.mem_range] at hk
      obtain ⟨d, d1, d2, d3, d4, d5⟩ := fc_some hA (a := a) (k := k + 1) (by omega) (by omega)
      rw [d2]
      exact ⟨d3, d4, by omega⟩
theorem cdl_mem (hA : AI A) {c d : Nat} (hc : c < A.m) : d ∈ A.cdl c ↔ A.dp c d = true := by
  unfold AS.cdl
  rw [List.mem_filter, chs_mem hA (fun a => Nat.le_refl _)]
  constructor
  · exact fun h => h.2
  · intro h
    have h1 := hA.2.1.2.2.2.2.2.2.1 c d hc h
    exact ⟨⟨h1.2.1, (hA.2.1.1 d h1.2.1).2.2.1⟩, h⟩
theorem cdl_eq (hA : AI A) {c : Nat} (hc : c < A.m) {dl : List Nat} (h1 : ∀ d, d ∈ dl ↔ A.dp c d = true) (h2 : dl.Pairwise (fun a b => A.ca a < A.ca b)) : dl = A.cdl c := by
  apply srt_uniq (fun c => 2000 * A.ca c + A.cu c)
  · refine List.Pairwise.imp_of_mem ?_ h2
    intro a b ha hb hab
    have p1 := (hA.2.1.2.2.2.2.2.2.1 c a hc ((h1 a).mp ha)).2.1
    have := cu_le hA p1
    show 2000 * A.ca a + A.cu a < 2000 * A.ca b + A.cu b
    omega
  · exact List.Pairwise.filter _ (chs_srt hA (fun a => Nat.le_refl _))
  · intro x
    rw [h1, cdl_mem hA hc]
theorem opI_ok (hA : AI A) {o : Nat} (ho : o < A.n) (hg : A.gone o = 0) : A.opI (A.id o) = o := by
  unfold AS.opI
  cases h : firstTo (fun p => decide (A.gone p = 0) && decide (A.id p = A.id o)) A.n with
  | none =>
    have := firstTo_none h o ho
    rw [hg] at this
    simp at this
  | some p =>
    have := firstTo_some h
    simp only [Bool.and_eq_true, decide_eq_true_eq] at this
    exact hA.2.2.1.2.1 p o this.1 ho this.2.1.1 hg this.2.1.2
theorem cops_at (hA : AI A) {c t : Nat} (hc : c < A.m) (ht : t < A.cz c) : ∃ o, A.opI (8 * (A.cf c + t) + A.ca c) = o ∧ o < A.n ∧ A.gone o = 0 ∧ A.chg o = some c ∧ A.id o = 8 * (A.cf c + t) + A.ca c := by
  obtain ⟨o, o1, o2, o3⟩ := hA.2.2.2.1.2.2.2.2.2.1 c (A.cf c + t) hc (by omega) (by omega)
  have h1 := hA.2.2.1.2.2.1 o o1
  rw [o2] at h1
  have h2 := hA.2.2.1.1 o o1
  have hid : A.id o = 8 * (A.cf c + t) + A.ca c := by
    have := h1.2.2.1
    omega
  refine ⟨o, ?_, o1, h1.2.1, o2, hid⟩
  rw [← hid]
  exact opI_ok hA o1 h1.2.1
theorem cops_mem (hA : AI A) {c o : Nat} (hc : c < A.m) : o ∈ A.cops c ↔ o < A.n ∧ A.chg o = some c := by
  unfold AS.cops
  rw [List.mem_map]
  constructor
  · rintro ⟨t, ht, rfl⟩
    obtain ⟨o, o1, o2, o3, o4, o5⟩ := cops_at hA hc (List.mem_range.mp ht)
    rw [o1]
    exact ⟨o2, o4⟩
  · rintro ⟨h1, h2⟩
    have hr := hA.2.2.2.1.2.2.2.2.1 o c h1 h2
    have h3 := hA.2.2.1.2.2.1 o h1
    rw [h2] at h3
    have h4 := hA.2.2.1.1 o h1
    refine ⟨A.id o / 8 - A.cf c, List.mem_range.mpr (by omega), ?_⟩
    have hid : A.id o = 8 * (A.cf c + (A.id o / 8 - A.cf c)) + A.ca c := by
      have := h3.2.2.1
      omega
    rw [← hid]
    exact opI_ok hA h1 h3.2.1
theorem cops_srt (hA : AI A) {c : Nat} (hc : c < A.m) : (A.cops c).Pairwise (fun a b => A.id a < A.id b) := by
  unfold AS.cops
  rw [List.pairwise_map]
  refine List.Pairwise.imp_of_mem ?_ List.pairwise_lt_range
  intro x y hx hy hxy
  obtain ⟨o, o1, o2, o3, o4, o5⟩ := cops_at hA hc (List.mem_range.mp hx)
  obtain ⟨p, p1, p2, p3, p4, p5⟩ := cops_at hA hc (List.mem_range.mp hy)
  rw [o1, p1, o5, p5]
  omega
end SVD
