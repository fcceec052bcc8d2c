/-! COMMIT, over the abstract state. -/
def AS.opn (A : AS) (r o : Nat) : Bool := decide (o < A.n) && decide (A.gone o = 0) && decide (A.chg o = none) && decide (A.own o = r)
theorem opn_iff {A : AS} {r o : Nat} : A.opn r o = true ↔ o < A.n ∧ A.gone o = 0 ∧ A.chg o = none ∧ A.own o = r := by
  unfold AS.opn
  simp [and_assoc]
def AS.cm (A : AS) (r : Nat) : AS :=
  (fun k => if k = 1 then A.m + 1 else A.1 k, A.2.1, fun k o => if k = 2 then (if A.opn r o = true then some A.m else A.chg o) else A.2.2.1 k o, A.2.2.2.1, A.2.2.2.2.1,
   fun k c => if k = 5 then (if c = r then 0 else A.on c) else if k = 4 then A.tp c else if c = A.m then (if k = 0 then r else if k = 1 then A.hv r r + 1 else if k = 2 then A.tp r - A.on r + 1 else if k = 3 then A.on r else 0) else A.2.2.2.2.2.1 k c,
   fun k c a => if k = 1 then (if c = A.m then A.hv r a + (if a = r then 1 else 0) else A.cl c a) else if k = 2 then (if c = r ∧ a = r then A.hv r r + 1 else A.hv c a) else A.2.2.2.2.2.2.1 k c a,
   A.wt, fun c d => if c = A.m then A.headB r d else A.dp c d, A.lk, A.L, A.O)
section CM
variable {A : AS} {r : Nat}
theorem cm_n : (A.cm r).n = A.n := rfl
theorem cm_m : (A.cm r).m = A.m + 1 := rfl
theorem cm_kn : (A.cm r).kn = A.kn := rfl
theorem cm_ns : (A.cm r).ns = A.ns := rfl
theorem cm_op : (A.cm r).2.1 = A.2.1 := rfl
theorem cm_chg (o : Nat) : (A.cm r).chg o = if A.opn r o = true then some A.m else A.chg o := rfl
theorem cm_ca (c : Nat) : (A.cm r).ca c = if c = A.m then r else A.ca c := rfl
theorem cm_cu (c : Nat) : (A.cm r).cu c = if c = A.m then A.hv r r + 1 else A.cu c := rfl
theorem cm_cf (c : Nat) : (A.cm r).cf c = if c = A.m then A.tp r - A.on r + 1 else A.cf c := rfl
theorem cm_cz (c : Nat) : (A.cm r).cz c = if c = A.m then A.on r else A.cz c := rfl
theorem cm_tp : (A.cm r).tp = A.tp := rfl
theorem cm_on (q : Nat) : (A.cm r).on q = if q = r then 0 else A.on q := rfl
theorem cm_cl (c a : Nat) : (A.cm r).cl c a = if c = A.m then A.hv r a + (if a = r then 1 else 0) else A.cl c a := rfl
theorem cm_hv (q a : Nat) : (A.cm r).hv q a = if q = r ∧ a = r then A.hv r r + 1 else A.hv q a := rfl
theorem cm_oc : (A.cm r).oc = A.oc := rfl
theorem cm_dp (c d : Nat) : (A.cm r).dp c d = if c = A.m then A.headB r d else A.dp c d := rfl
theorem cm_wt : (A.cm r).wt = A.wt := rfl
theorem cm_lk : (A.cm r).lk = A.lk := rfl
theorem cm_hvle (q a : Nat) : A.hv q a ≤ (A.cm r).hv q a := by
  rw [cm_hv]
  split
  · rename_i h; rw [h.1, h.2]; omega
  · omega
/-- what was had before: what is had now, but the new one -/
theorem cm_has (hA : AI A) {q c : Nat} (hc : c < A.m) : (A.cm r).has q c ↔ A.has q c := by
  have h := hA.2.1.1 c hc
  unfold AS.has
  rw [cm_m, cm_cu, cm_ca, if_neg (by omega), if_neg (by omega), cm_hv]
  constructor
  · rintro ⟨_, h2⟩
    refine ⟨hc, ?_⟩
    split at h2
    · rename_i e
      rw [e.1, e.2]
      have := h.2.2.1
      rw [e.2] at this
      exact this
    · exact h2
  · rintro ⟨_, h2⟩
    refine ⟨by omega, ?_⟩
    split
    · rename_i e; rw [e.1, e.2] at h2; omega
    · exact h2
theorem cm_has1 (hA : AI A) {q : Nat} : (A.cm r).has q A.m ↔ q = r := by
  unfold AS.has
  rw [cm_m, cm_cu, cm_ca, if_pos rfl, if_pos rfl, cm_hv]
  have := hA.2.1.2.2.2.2.2.1.1 q r
  constructor
  · rintro ⟨_, h2⟩
    by_cases e : q = r
    · exact e
    · rw [if_neg (by omega)] at h2; omega
  · rintro rfl
    refine ⟨by omega, ?_⟩
    rw [if_pos ⟨rfl, rfl⟩]
    omega
theorem cm_clo (hA : AI A) {c d : Nat} (hc : c < A.m) : (A.cm r).clo c d ↔ A.clo c d := by
  unfold AS.clo
  rw [cm_m, cm_cu, cm_ca, cm_cl, if_neg (show ¬ c = A.m by omega)]
  constructor
  · rintro ⟨h1, h2⟩
    by_cases e : d = A.m
    · rw [if_pos e, if_pos e] at h2
      have := hA.2.1.2.2.2.2.2.1.2.1 c r hc
      omega
    · rw [if_neg e, if_neg e] at h2
      exact ⟨by omega, h2⟩
  · rintro ⟨h1, h2⟩
    rw [if_neg (by omega), if_neg (by omega)]
    exact ⟨by omega, h2⟩
theorem cm_clo1 (hA : AI A) {d : Nat} (hd : d < A.m) : (A.cm r).clo A.m d ↔ A.has r d := by
  have h := hA.2.1.1 d hd
  unfold AS.clo AS.has
  rw [cm_m, cm_cu, cm_ca, cm_cl, if_neg (show ¬ d = A.m by omega), if_neg (show ¬ d = A.m by omega), if_pos rfl]
  constructor
  · rintro ⟨_, h2⟩
    refine ⟨hd, ?_⟩
    by_cases e : A.ca d = r
    · have := h.2.2.1
      rw [e] at this ⊢
      exact this
    · rw [if_neg e] at h2; exact h2
  · rintro ⟨_, h2⟩
    exact ⟨by omega, by omega⟩
theorem cm_C (hA : AI A) (hr : r < 8) (hm : A.m < 1000) : I_C (A.cm r) := by
  have hC := hA.2.1
  obtain ⟨h1, h2, h3, h4, h5, h6, h7, h8, h9, h10⟩ := hC
  have hcm := hA.2.2.2.2.2.2 r
  have hcnt := cntTo_le (fun d => decide (A.ca d = r)) A.m
  refine ⟨?_, ?_, ?_, ?_, ?_, ?_, ?_, ?_, ?_, ?_⟩
  · intro c hc
    rw [cm_m] at hc
    rw [cm_ca, cm_cu, cm_cl]
    by_cases e : c = A.m
    · rw [if_pos e, if_pos e, if_pos e, if_pos rfl, cm_hv, if_pos ⟨rfl, rfl⟩]
      exact ⟨hr, by omega, by omega, rfl, by omega⟩
    · have h := h1 c (by omega)
      rw [if_neg e, if_neg e, if_neg e]
      exact ⟨h.1, h.2.1, Nat.le_trans h.2.2.1 (cm_hvle _ _), h.2.2.2.1, h.2.2.2.2⟩
  · intro c d hc hd he
    rw [cm_m] at hc hd
    rw [cm_ca, cm_ca] at he
    rw [cm_cu, cm_cu]
    by_cases e1 : c = A.m
    · by_cases e2 : d = A.m
      · rw [if_pos e1, if_pos e2]; omega
      · rw [if_pos e1, if_neg e2] at he ⊢
        have h := (h1 d (by omega)).2.2.1
        rw [← he] at h
        omega
    · by_cases e2 : d = A.m
      · rw [if_neg e1, if_pos e2] at he ⊢
        have h := (h1 c (by omega)).2.2.1
        rw [he] at h
        omega
      · rw [if_neg e1, if_neg e2] at he ⊢
        exact h2 c d (by omega) (by omega) he
  · intro a k hk1 hk2
    rw [cm_hv] at hk2
    by_cases e : a = r ∧ k = A.hv r r + 1
    · exact ⟨A.m, by rw [cm_m]; omega, by rw [cm_ca, if_pos rfl, e.1], by rw [cm_cu, if_pos rfl, e.2]⟩
    · obtain ⟨c, g1, g2, g3⟩ := h3 a k hk1 (by
        split at hk2
        · rename_i e2; rw [e2.1]; rcases Nat.lt_or_ge k (A.hv r r + 1) with h | h
          · omega
          · exact absurd ⟨e2.1, by omega⟩ e
        · exact hk2)
      exact ⟨c, by rw [cm_m]; omega, by rw [cm_ca, if_neg (by omega)]; exact g2, by rw [cm_cu, if_neg (by omega)]; exact g3⟩
  · intro c d hc hcd
    rw [cm_m] at hc
    by_cases e : c = A.m
    · subst e
      have hd := hcd.1
      rw [cm_m] at hd
      refine ⟨by omega, ?_⟩
      intro a
      by_cases e2 : d = A.m
      · rw [e2]; exact Nat.le_refl _
      · have := h5 r d ((cm_clo1 hA (by omega)).mp hcd) a
        rw [cm_cl, cm_cl, if_neg e2, if_pos rfl]
        omega
    · have g := (cm_clo hA (by omega)).mp hcd
      have := h4 c d (by omega) g
      refine ⟨this.1, ?_⟩
      intro a
      rw [cm_cl, cm_cl, if_neg e, if_neg (by have := g.1; omega)]
      exact this.2 a
  · intro q c hqc a
    have hc := hqc.1
    rw [cm_m] at hc
    by_cases e : c = A.m
    · subst e
      have hq := (cm_has1 hA).mp hqc
      subst hq
      rw [cm_cl, if_pos rfl, cm_hv]
      by_cases e2 : a = q
      · rw [if_pos e2, if_pos ⟨rfl, e2⟩, e2]; omega
      · rw [if_neg e2, if_neg (by omega)]; omega
    · rw [cm_cl, if_neg e]
      exact Nat.le_trans (h5 q c ((cm_has hA (by omega)).mp hqc) a) (cm_hvle _ _)
  · refine ⟨?_, ?_, ?_⟩
    · intro q a
      rw [cm_hv, cm_hv]
      have := h6.1 q a
      by_cases e : q = r ∧ a = r
      · rw [if_pos e, if_pos ⟨e.2, e.2⟩]; omega
      · rw [if_neg e]
        split
        · rename_i e2; rw [e2.1] at this ⊢; omega
        · exact this
    · intro c a hc
      rw [cm_m] at hc
      by_cases e : c = A.m
      · rw [cm_cl, if_pos e, cm_hv]
        by_cases e2 : a = r
        · rw [if_pos e2, if_pos ⟨e2, e2⟩, e2]; omega
        · rw [if_neg e2, if_neg (by omega)]; have := h6.1 r a; omega
      · rw [cm_cl, if_neg e]
        exact Nat.le_trans (h6.2.1 c a (by omega)) (cm_hvle _ _)
    · intro q a ha
      rw [cm_hv, if_neg (by omega)]
      exact h6.2.2 q a ha
  · intro c d hc hcd
    rw [cm_m] at hc
    rw [cm_dp] at hcd
    by_cases e : c = A.m
    · rw [if_pos e] at hcd
      have hh := (headB_iff.mp hcd).1
      have hd := hh.1
      subst e
      exact ⟨hd, (cm_clo1 hA hd).mpr hh⟩
    · rw [if_neg e] at hcd
      have := h7 c d (by omega) hcd
      exact ⟨this.1, (cm_clo hA (by omega)).mpr this.2⟩
  · intro c a hc
    rw [cm_m] at hc
    by_cases e : c = A.m
    · subst e
      rw [cm_cl, if_pos rfl, cm_ca, if_pos rfl]
      rw [show A.hv r a + (if a = r then 1 else 0) - (if a = r then 1 else 0) = A.hv r a by omega]
      rcases head_cover hA.2.1 (r := r) (a := a) with h | ⟨d, hd, hda⟩
      · exact Or.inl h
      · refine Or.inr ⟨d, ?_, ?_⟩
        · rw [cm_dp, if_pos rfl]; exact headB_iff.mpr hd
        · rw [cm_cl, if_neg (by have := hd.1.1; omega)]; exact hda
    · rw [cm_cl, if_neg e, cm_ca, if_neg e]
      rcases h8 c a (by omega) with h | ⟨d, hd, hda⟩
      · exact Or.inl h
      · refine Or.inr ⟨d, ?_, ?_⟩
        · rw [cm_dp, if_neg e]; exact hd
        · rw [cm_cl, if_neg (show ¬ d = A.m by have := (h7 c d (by omega) hd).1; omega)]; exact hda
  · intro q c hqc
    have := h9 q c hqc
    exact (cm_has hA this.1).mpr this
  · intro q c hqc
    have := h10 q c hqc
    exact ⟨by rw [cm_m]; omega, fun h => this.2 ((cm_has hA this.1).mp h)⟩
theorem cm_AI (hA : AI A) (hr : r < 8) (hm : A.m < 1000) (hon : A.on r ≠ 0) : AI (A.cm r) := by
  have hC := hA.2.1
  obtain ⟨k1, k2, k3, k4, k5, k6, k7, k8, k9, k10⟩ := hA.2.2.1
  obtain ⟨t1, t2, t3, t4, t5, t6, t7, t8⟩ := hA.2.2.2.1
  have hcn := hA.2.2.2.2.2
  refine ⟨⟨hA.1.1, by rw [cm_m]; omega, hA.1.2.2⟩, cm_C hA hr hm, ⟨k1, k2, ?_, k4, k5, k6, k7, k8, k9, k10⟩, ⟨?_, ?_, ?_, ?_, ?_, ?_, ?_, ?_⟩, hA.2.2.2.2.1, ?_, ?_⟩
  · intro o ho
    have h := k3 o ho
    rw [cm_chg]
    by_cases e : A.opn r o = true
    · rw [if_pos e]
      obtain ⟨_, e2, e3, e4⟩ := opn_iff.mp e
      rw [e3] at h
      have h := h e2
      rw [e4] at h
      refine ⟨by rw [cm_m]; omega, e2, by rw [cm_ca, if_pos rfl]; exact e4.symm, by rw [cm_cu, if_pos rfl]; exact h.1, ?_⟩
      funext a
      rw [cm_oc, cm_cl, if_pos rfl]
      exact h.2 a
    · rw [if_neg e]
      cases hx : A.chg o with
      | some c =>
        rw [hx] at h
        obtain ⟨g1, g2, g3, g4, g5⟩ := h
        have hne : c ≠ A.m := by omega
        refine ⟨by rw [cm_m]; omega, g2, by rw [cm_ca, if_neg hne]; exact g3, by rw [cm_cu, if_neg hne]; exact g4, ?_⟩
        funext a
        rw [cm_oc, cm_cl, if_neg hne, g5]
      | none =>
        rw [hx] at h
        intro hg
        have h := h hg
        have hne : A.own o ≠ r := fun e2 => e (opn_iff.mpr ⟨ho, hg, hx, e2⟩)
        refine ⟨?_, ?_⟩
        · show A.cn o = (A.cm r).hv (A.own o) (A.own o) + 1
          rw [cm_hv, if_neg (by omega)]
          exact h.1
        · intro a
          show A.oc o a = (A.cm r).hv (A.own o) a + (if a = A.own o then 1 else 0)
          rw [cm_hv, if_neg (by omega)]
          exact h.2 a
  · intro q
    rw [cm_on, cm_tp, cm_n]
    have := t1 q
    split <;> omega
  · intro o ho hg hch
    rw [cm_chg] at hch
    split at hch
    · cases hch
    · rename_i e
      have hne : A.own o ≠ r := fun e2 => e (opn_iff.mpr ⟨ho, hg, hch, e2⟩)
      have := t2 o ho hg hch
      show A.tp (A.own o) < A.id o / 8 + (A.cm r).on (A.own o) ∧ _
      rw [cm_on, if_neg hne]
      exact this
  · intro q t hq h1 h2
    rw [cm_tp] at h1 h2
    rw [cm_on] at h1
    by_cases e : q = r
    · rw [if_pos e] at h1; omega
    · rw [if_neg e] at h1
      obtain ⟨o, g1, g2, g3, g4, g5⟩ := t3 q t hq h1 h2
      refine ⟨o, g1, g2, ?_, g4, g5⟩
      rw [cm_chg, if_neg]
      · exact g3
      · intro h
        exact e (by rw [← g4]; exact (opn_iff.mp h).2.2.2)
  · intro c hc
    rw [cm_m] at hc
    rw [cm_cf, cm_cz, cm_n]
    by_cases e : c = A.m
    · rw [if_pos e, if_pos e]
      have := t1 r
      omega
    · rw [if_neg e, if_neg e]
      exact t4 c (by omega)
  · intro o c ho hch
    rw [cm_chg] at hch
    rw [cm_cf, cm_cz]
    show _ ≤ A.id o / 8 ∧ A.id o / 8 < _
    by_cases e : A.opn r o = true
    · rw [if_pos e] at hch
      obtain rfl := Option.some.inj hch
      obtain ⟨_, e2, e3, e4⟩ := opn_iff.mp e
      have h1 := t2 o ho e2 e3
      rw [e4] at h1
      have h2 := t1 r
      rw [if_pos rfl, if_pos rfl]
      omega
    · rw [if_neg e] at hch
      have hcl : c < A.m := chg_lt hA ho hch
      rw [if_neg (by omega), if_neg (by omega)]
      exact t5 o c ho hch
  · intro c t hc h1 h2
    rw [cm_m] at hc
    rw [cm_cf] at h1 h2
    rw [cm_cz] at h2
    by_cases e : c = A.m
    · rw [if_pos e] at h1 h2
      rw [if_pos e] at h2
      have h3 := t1 r
      obtain ⟨o, g1, g2, g3, g4, g5⟩ := t3 r t hr (by omega) (by omega)
      refine ⟨o, g1, ?_, g5⟩
      rw [cm_chg, if_pos (opn_iff.mpr ⟨g1, g2, g3, g4⟩), e]
    · rw [if_neg e] at h1 h2
      rw [if_neg e] at h2
      obtain ⟨o, g1, g2, g3⟩ := t6 c t (by omega) h1 h2
      refine ⟨o, g1, ?_, g3⟩
      rw [cm_chg, if_neg]
      · exact g2
      · intro h
        have := (opn_iff.mp h).2.2.1
        rw [g2] at this
        cases this
  · intro q c hqc
    have hc := hqc.1
    rw [cm_m] at hc
    rw [cm_cf, cm_cz, cm_tp, cm_on]
    have h3 := t1 r
    by_cases e : c = A.m
    · subst e
      have hq := (cm_has1 hA).mp hqc
      rw [if_pos rfl, if_pos rfl, if_pos hq, hq]
      omega
    · rw [if_neg e, if_neg e]
      have := t7 q c ((cm_has hA (by omega)).mp hqc)
      split <;> omega
  · intro q
    rw [cm_tp, cm_on]
    by_cases e : q = r
    · right
      refine ⟨A.m, (cm_has1 hA).mpr e, ?_⟩
      have h3 := t1 r
      rw [if_pos e, cm_cf, cm_cz, if_pos rfl, if_pos rfl, e]
      omega
    · rw [if_neg e]
      rcases t8 q with h | ⟨c, g1, g2⟩
      · exact Or.inl h
      · refine Or.inr ⟨c, (cm_has hA g1.1).mpr g1, ?_⟩
        have := g1.1
        rw [cm_cf, cm_cz, if_neg (by omega), if_neg (by omega)]
        exact g2
  · intro c hc
    rw [cm_m] at hc
    rw [cm_cu, cm_ca]
    by_cases e : c = A.m
    · subst e
      rw [if_pos rfl, if_pos rfl, cntTo_s, if_pos (by rw [cm_ca, if_pos rfl]; simp), hcn.2 r]
      congr 1
      refine cntTo_congr (fun d hd => ?_)
      rw [cm_ca, if_neg (by omega)]
    · rw [if_neg e, if_neg e, hcn.1 c (by omega)]
      refine cntTo_congr (fun d hd => ?_)
      rw [cm_ca, if_neg (by omega)]
  · intro a
    rw [cm_hv, cm_m, cntTo_s, cm_ca, if_pos rfl]
    rw [show cntTo (fun d => decide ((A.cm r).ca d = a)) A.m = cntTo (fun d => decide (A.ca d = a)) A.m from cntTo_congr (fun d hd => by rw [cm_ca, if_neg (by omega)])]
    by_cases e : a = r
    · rw [if_pos ⟨e, e⟩, if_pos (by simp [e]), e, hcn.2 r]
    · rw [if_neg (by omega), if_neg (by simp [Ne.symm e]), hcn.2 a]
      rfl
end CM
