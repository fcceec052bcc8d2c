/-! CAUSES: what a change depends on, heads, views. -/
/-- all that is true of changes and clocks -/
def I_C (A : AS) : Prop := I_cgs A ∧ I_cun A ∧ I_cex A ∧ I_clo A ∧ I_has A ∧ I_le A ∧ I_dp A ∧ I_sup A ∧ I_lk A ∧ I_wt A
section CAUSE
variable {A : AS}
theorem cu_inj (h : I_cun A) {c d : Nat} (hc : c < A.m) (hd : d < A.m) (ha : A.ca c = A.ca d) (hu : A.cu c = A.cu d) : c = d := by
  have h1 := h c d hc hd ha
  have h2 := h d c hd hc ha.symm
  omega
theorem clo_refl (h : I_C A) {c : Nat} (hc : c < A.m) : A.clo c c := ⟨hc, by rw [(h.1 c hc).2.2.2.1]; exact Nat.le_refl _⟩
theorem clo_trans (h : I_C A) {c d e : Nat} (hc : c < A.m) (h1 : A.clo c d) (h2 : A.clo d e) : A.clo c e :=
  ⟨h2.1, Nat.le_trans h2.2 ((h.2.2.2.1 c d hc h1).2 _)⟩
theorem clo_dp (h : I_C A) {c d : Nat} (hc : c < A.m) (h1 : A.clo c d) (hne : d ≠ c) : ∃ e, A.dp c e = true ∧ A.clo e d := by
  obtain ⟨hg, hu, _, hcl, _, _, _, hs, _, _⟩ := h
  obtain ⟨hd, h2⟩ := h1
  have g1 := hg d hd
  have g2 := hg c hc
  have hlt : A.ca d = A.ca c → A.cu d < A.cu c := by
    intro e
    rw [e, g2.2.2.2.1] at h2
    rcases Nat.lt_or_ge (A.cu d) (A.cu c) with h3 | h3
    · exact h3
    · exact absurd (cu_inj hu hd hc e (by omega)) hne
  rcases hs c (A.ca d) hc with h3 | ⟨e, h3, h4⟩
  · exfalso
    by_cases e : A.ca d = A.ca c
    · have := hlt e
      rw [if_pos e, e, g2.2.2.2.1] at h3
      omega
    · rw [if_neg e] at h3
      omega
  · refine ⟨e, h3, hd, ?_⟩
    by_cases e1 : A.ca d = A.ca c
    · have := hlt e1
      rw [if_pos e1] at h4
      have h5 : A.cl c (A.ca d) = A.cu c := by rw [e1, g2.2.2.2.1]
      omega
    · rw [if_neg e1] at h4
      omega
/-- what c depends on, and isn't c, something that c is or depends on depends on directly -/
theorem clo_parent (h : I_C A) {c : Nat} (hc : c < A.m) {d : Nat} (hd : A.clo c d) (hne : d ≠ c) : ∃ p, A.clo c p ∧ A.dp p d = true := by
  have key : ∀ k e, e ≤ k → A.clo c e → A.clo e d → d ≠ e → ∃ p, A.clo c p ∧ A.dp p d = true := by
    intro k
    induction k with
    | zero =>
      intro e he h1 h2 h3
      have := (h.2.2.2.1 e d h1.1 h2).1
      omega
    | succ k ih =>
      intro e he h1 h2 h3
      obtain ⟨x, hx, hxd⟩ := clo_dp h h1.1 h2 h3
      by_cases hdx : d = x
      · subst hdx; exact ⟨e, h1, hx⟩
      · have h4 := h.2.2.2.2.2.2.1 e x h1.1 hx
        exact ih x (by omega) (clo_trans h hc h1 h4.2) hxd hdx
  exact key c c (Nat.le_refl _) (clo_refl h hc) hd hne
/-- a change that r has and that no other that it has depends on directly -/
def AS.head (A : AS) (r d : Nat) : Prop := A.has r d ∧ ∀ e, A.has r e → A.dp e d = false
theorem has_clo (h : I_C A) {r c d : Nat} (h1 : A.has r c) (h2 : A.clo c d) : A.has r d :=
  ⟨h2.1, Nat.le_trans h2.2 (h.2.2.2.2.1 r c h1 _)⟩
theorem head_le (h : I_C A) {r c d : Nat} (h1 : A.head r c) (h2 : A.has r d) (ha : A.ca c = A.ca d) : A.cu d ≤ A.cu c := by
  rcases Nat.lt_or_ge (A.cu c) (A.cu d) with h3 | h3
  · exfalso
    have hcd : A.clo d c := ⟨h1.1.1, by rw [ha, (h.1 d h2.1).2.2.2.1]; omega⟩
    have hne : c ≠ d := by intro e; subst e; omega
    obtain ⟨p, hp, hpc⟩ := clo_parent h h2.1 hcd hne
    have := h1.2 p (has_clo h h2 hp)
    rw [hpc] at this
    cases this
  · exact h3
theorem head_one (h : I_C A) {r c d : Nat} (h1 : A.head r c) (h2 : A.head r d) (ha : A.ca c = A.ca d) : c = d :=
  cu_inj h.2.1 h1.1.1 h2.1.1 ha (Nat.le_antisymm (head_le h h2 h1.1 ha.symm) (head_le h h1 h2.1 ha))
/-- each count of r stands in the clock of a head -/
theorem head_cover (h : I_C A) {r a : Nat} : A.hv r a = 0 ∨ ∃ d, A.head r d ∧ A.hv r a ≤ A.cl d a := by
  rcases Nat.eq_zero_or_pos (A.hv r a) with h0 | h0
  · exact Or.inl h0
  right
  obtain ⟨c, hc, h1, h2⟩ := h.2.2.1 a (A.hv r a) h0 (h.2.2.2.2.2.1.1 r a)
  have hbase : A.has r c ∧ A.hv r a ≤ A.cl c a := by
    refine ⟨⟨hc, ?_⟩, ?_⟩
    · rw [h1, h2]; exact Nat.le_refl _
    · have := (h.1 c hc).2.2.2.1
      rw [h1] at this
      omega
  have key : ∀ k d, A.m - d ≤ k → A.has r d ∧ A.hv r a ≤ A.cl d a → ∃ d, A.head r d ∧ A.hv r a ≤ A.cl d a := by
    intro k
    induction k with
    | zero => intro d hk hd; have := hd.1.1; omega
    | succ k ih =>
      intro d hk hd
      by_cases hh : ∀ e, A.has r e → A.dp e d = false
      · exact ⟨d, ⟨hd.1, hh⟩, hd.2⟩
      · have : ∃ e, A.has r e ∧ A.dp e d = true := by
          apply Classical.byContradiction
          intro hn
          apply hh
          intro e he
          cases hde : A.dp e d with
          | false => rfl
          | true => exact absurd ⟨e, he, hde⟩ hn
        obtain ⟨e, he, hde⟩ := this
        have h5 := h.2.2.2.2.2.2.1 e d he.1 hde
        have h6 := (h.2.2.2.1 e d he.1 h5.2).2 a
        exact ih e (by have := he.1; omega) ⟨he, Nat.le_trans hd.2 h6⟩
  exact key (A.m - c) c (Nat.le_refl _) hbase
/-! views -/
theorem vw_clo (h : I_C A) {r c : Nat} (hc : c < A.m) (h1 : A.cu c ≤ A.vw r (A.ca c)) (a : Nat) : A.cl c a ≤ A.vw r a := by
  unfold AS.vw at *
  cases hl : A.lk r with
  | none =>
    rw [hl] at h1
    simp only at h1 ⊢
    have hh : A.has r c := by
      refine ⟨hc, ?_⟩
      by_cases e : A.ca c = r
      · have := (h.1 c hc).2.2.1
        rw [e] at this ⊢
        exact this
      · rw [if_neg e] at h1
        exact h1
    exact Nat.le_trans (h.2.2.2.2.1 r c hh a) (Nat.le_add_right _ _)
  | some c0 =>
    rw [hl] at h1
    simp only at h1 ⊢
    have h0 := (h.2.2.2.2.2.2.2.2.1 r c0 hl).1
    exact (h.2.2.2.1 c0 c h0 ⟨hc, h1⟩).2 a
theorem vw_le (h : I_C A) {r a : Nat} : A.vw r a ≤ A.hv a a + (if a = r ∧ A.lk r = none then 1 else 0) := by
  unfold AS.vw
  cases hl : A.lk r with
  | none =>
    simp only [and_true]
    have := h.2.2.2.2.2.1.1 r a
    omega
  | some c0 =>
    have h0 := (h.2.2.2.2.2.2.2.2.1 r c0 hl).1
    have := h.2.2.2.2.2.1.2.1 c0 a h0
    simp only
    omega
theorem inV_oc (h : I_C A) (hg : I_chg A) {r o : Nat} (ho : o < A.n) (hv : A.inV r o = true) (a : Nat) : A.oc o a ≤ A.vw r a := by
  unfold AS.inV at hv
  simp only [Bool.and_eq_true, decide_eq_true_eq] at hv
  have h1 := hg o ho
  cases hc : A.chg o with
  | some c =>
    rw [hc] at h1
    simp only at h1
    obtain ⟨h2, h3, h4, h5, h6⟩ := h1
    rw [h6]
    exact vw_clo h h2 (by rw [h4, ← h5]; exact hv.2) a
  | none =>
    rw [hc] at h1
    simp only at h1
    obtain ⟨h2, h3⟩ := h1 hv.1
    have h4 := vw_le h (r := r) (a := A.own o)
    have h5 := hv.2
    rw [h2] at h5
    split at h4
    · rename_i h6
      rw [h3 a]
      unfold AS.vw
      rw [h6.2]
      simp only
      rw [h6.1]
      exact Nat.le_refl _
    · omega
theorem inV_seen (h : I_C A) (hg : I_chg A) {r o p : Nat} (ho : o < A.n) (hv : A.inV r o = true) (hs : A.seen p o) : A.inV r p = true := by
  unfold AS.inV
  simp only [Bool.and_eq_true, decide_eq_true_eq]
  exact ⟨hs.1, Nat.le_trans hs.2 (inV_oc h hg ho hv _)⟩
theorem inV_gone {r o : Nat} (hv : A.inV r o = true) : A.gone o = 0 := by
  unfold AS.inV at hv
  simp only [Bool.and_eq_true, decide_eq_true_eq] at hv
  exact hv.1
/-- what the reference says of being in the view -/
theorem inV_ref (h : I_C A) (hg : I_chg A) {r o : Nat} (ho : o < A.n) (hr : A.own o < 8) : A.inV r o = true ↔ A.gone o = 0 ∧ (match A.chg o with
    | none => A.own o = r ∧ A.lk r = none
    | some c => match A.lk r with
      | none => A.cu c ≤ A.hv r (A.ca c)
      | some c0 => A.cu c ≤ A.cl c0 (A.ca c)) := by
  unfold AS.inV
  simp only [Bool.and_eq_true, decide_eq_true_eq]
  have h1 := hg o ho
  constructor
  · rintro ⟨h2, h3⟩
    refine ⟨h2, ?_⟩
    cases hc : A.chg o with
    | none =>
      rw [hc] at h1
      simp only at h1 ⊢
      obtain ⟨h4, h5⟩ := h1 h2
      have h6 := vw_le h (r := r) (a := A.own o)
      split at h6
      · assumption
      · omega
    | some c =>
      rw [hc] at h1
      simp only at h1 ⊢
      obtain ⟨h4, _, h6, h7, _⟩ := h1
      unfold AS.vw at h3
      cases hl : A.lk r with
      | none =>
        rw [hl] at h3
        simp only at h3 ⊢
        rw [h6, ← h7]
        by_cases e : A.own o = r
        · have := (h.1 c h4).2.2.1
          rw [h6, ← h7] at this
          rw [← e]
          exact this
        · rw [if_neg e] at h3
          exact h3
      | some c0 =>
        rw [hl] at h3
        simp only at h3 ⊢
        rw [h6, ← h7]
        exact h3
  · rintro ⟨h2, h3⟩
    refine ⟨h2, ?_⟩
    cases hc : A.chg o with
    | none =>
      rw [hc] at h1 h3
      simp only at h1 h3
      obtain ⟨h4, h5⟩ := h1 h2
      unfold AS.vw
      rw [h3.2, h4]
      simp only
      rw [h3.1]
      simp
    | some c =>
      rw [hc] at h1 h3
      simp only at h1 h3
      obtain ⟨h4, _, h6, h7, _⟩ := h1
      unfold AS.vw
      cases hl : A.lk r with
      | none =>
        rw [hl] at h3
        simp only at h3 ⊢
        rw [← h6, h7]
        omega
      | some c0 =>
        rw [hl] at h3
        simp only at h3 ⊢
        rw [← h6, h7]
        exact h3
/-- of each actor at most one op shows at a place -/
theorem vis_one (h : I_C A) (hg : I_chg A) (hh : I_hid A) {r o q : Nat} (ho : o < A.n) (hq : q < A.n) (h1 : A.vis r o) (h2 : A.vis r q) (hs : A.sp q = A.sp o) (hw : A.own q = A.own o) : q = o := by
  have key : ∀ o q, o < A.n → q < A.n → A.vis r o → A.vis r q → A.sp q = A.sp o → A.own q = A.own o → ¬ q < o := by
    intro o q ho hq h1 h2 hs hw hlt
    obtain ⟨p, hp, hqp, hpa, hpo⟩ := hh o q ho hlt (inV_gone h1.1) (inV_gone h2.1) (by have := h1.2.1; omega) h2.2.1 hw hs
    apply h2.2.2
    refine ⟨p, hp, ?_, hpa, hqp⟩
    rcases hpo with rfl | hpo
    · exact h1.1
    · exact inV_seen h hg ho h1.1 hpo
  have a := key o q ho hq h1 h2 hs hw
  have b := key q o hq ho h2 h1 hs.symm hw.symm
  omega
end CAUSE
theorem nodup_len : ∀ (k : Nat) (l : List Nat), l.Nodup → (∀ x, x ∈ l → x < k) → l.length ≤ k := by
  intro k
  induction k with
  | zero =>
    intro l _ h
    cases l with
    | nil => simp
    | cons a l => have := h a (by simp); omega
  | succ k ih =>
    intro l hn h
    have h1 := ih (l.filter (fun x => decide (x ≠ k))) (hn.sublist List.filter_sublist) (by
      intro x hx
      simp only [List.mem_filter, decide_eq_true_eq] at hx
      have := h x hx.1
      omega)
    have h2 : l.length ≤ (l.filter (fun x => decide (x ≠ k))).length + 1 := by
      clear h1 ih h
      induction l with
      | nil => simp
      | cons a l ih2 =>
        rw [List.nodup_cons] at hn
        by_cases e : a = k
        · subst e
          have : l.filter (fun x => decide (x ≠ a)) = l := by
            apply List.filter_eq_self.mpr
            intro x hx
            simp only [decide_eq_true_eq]
            rintro rfl
            exact hn.1 hx
          have e2 : List.filter (fun x => decide (x ≠ a)) (a :: l) = l := by rw [List.filter_cons_of_neg (by simp), this]
          rw [e2]
          simp
        · have := ih2 hn.2
          simp [e] at this ⊢
          omega
    omega
/-- a list of ops that show at one place has at most eight -/
theorem vis_len {A : AS} (h : I_C A) (hg : I_chg A) (hh : I_hid A) (hi : I_ops A) {r s : Nat} {l : List Nat} (hn : l.Nodup) (hl : ∀ o, o ∈ l → o < A.n ∧ A.sp o = s ∧ A.vis r o) : l.length ≤ 8 := by
  have h1 : (l.map A.own).Nodup := by
    unfold List.Nodup
    rw [List.pairwise_map]
    refine List.Pairwise.imp_of_mem ?_ hn
    intro a b ha hb hab e
    have h2 := hl a ha
    have h3 := hl b hb
    exact hab (vis_one h hg hh h3.1 h2.1 h3.2.2 h2.2.2 (by rw [h2.2.1, h3.2.1]) e)
  have h2 := nodup_len 8 (l.map A.own) h1 (by
    intro x hx
    rw [List.mem_map] at hx
    obtain ⟨o, ho, rfl⟩ := hx
    exact (hi o (hl o ho).1).1)
  simpa using h2
/-- two lists that fall strictly and hold the same are the same -/
theorem desc_ext (f : Nat → Nat) : ∀ (l l' : List Nat), l.Pairwise (fun a b => f b < f a) → l'.Pairwise (fun a b => f b < f a) → (∀ x, x ∈ l ↔ x ∈ l') → l = l' := by
  intro l
  induction l with
  | nil =>
    intro l' _ _ h
    cases l' with
    | nil => rfl
    | cons b l' => have := (h b).mpr (by simp); cases this
  | cons a l ih =>
    intro l' h1 h2 h
    cases l' with
    | nil => have := (h a).mp (by simp); cases this
    | cons b l' =>
      rw [List.pairwise_cons] at h1 h2
      have hab : a = b := by
        have ha := (h a).mp (by simp)
        have hb := (h b).mpr (by simp)
        rw [List.mem_cons] at ha hb
        rcases ha with ha | ha
        · exact ha
        · rcases hb with hb | hb
          · exact hb.symm
          · have := h1.1 b hb
            have := h2.1 a ha
            omega
      subst hab
      congr 1
      apply ih l' h1.2 h2.2
      intro x
      have := h x
      rw [List.mem_cons, List.mem_cons] at this
      constructor
      · intro hx
        rcases this.mp (Or.inr hx) with e | e
        · subst e; have := h1.1 x hx; omega
        · exact e
      · intro hx
        rcases this.mpr (Or.inr hx) with e | e
        · subst e; have := h2.1 x hx; omega
        · exact e
