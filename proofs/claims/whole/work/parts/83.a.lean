/-! SPLICE: what an op that deletes or inserts does to what is shown. -/
section SPA
variable {A : AS} {r : Nat} {x : Option Nat} {act : Nat} {num : Int64} {ins : Nat} {par : Option Nat} {s : Nat} {key pre : List Nat} {pl : Nat} {Lx Os : List Nat}
theorem mk_inVo (hlk : A.lk r = none) {o : Nat} (ho : o < A.n) : (A.mk r x act num ins par s key pre pl Lx Os).inV r o = A.inV r o := by
  unfold AS.inV AS.vw
  rw [mk_gone, mk_cn, mk_own, mk_lk, mk_hv, if_neg (by omega), if_neg (by omega), if_neg (by omega)]
  rfl
theorem mk_inVn (hlk : A.lk r = none) : (A.mk r x act num ins par s key pre pl Lx Os).inV r A.n = true := by
  unfold AS.inV AS.vw
  rw [mk_gone, mk_cn, mk_own, mk_lk, mk_hv, if_pos rfl, if_pos rfl, if_pos rfl, hlk]
  simp
theorem mk_hid (hlk : A.lk r = none) {o : Nat} : (A.mk r x act num ins par s key pre pl Lx Os).hid r o ↔ A.hid r o ∨ (act ≠ 10 ∧ o ∈ pre) := by
  unfold AS.hid
  constructor
  · rintro ⟨p, h1, h2, h3, h4⟩
    rw [mk_n] at h1
    by_cases e : p = A.n
    · right
      rw [mk_act, if_pos e] at h3
      rw [mk_pre, if_pos e] at h4
      exact ⟨h3, h4⟩
    · left
      rw [mk_inVo hlk (by omega)] at h2
      rw [mk_act, if_neg e] at h3
      rw [mk_pre, if_neg e] at h4
      exact ⟨p, by omega, h2, h3, h4⟩
  · rintro (⟨p, h1, h2, h3, h4⟩ | ⟨h1, h2⟩)
    · refine ⟨p, by rw [mk_n]; omega, by rw [mk_inVo hlk h1]; exact h2, ?_, ?_⟩
      · rw [mk_act, if_neg (by omega)]; exact h3
      · rw [mk_pre, if_neg (by omega)]; exact h4
    · refine ⟨A.n, by rw [mk_n]; omega, mk_inVn hlk, ?_, ?_⟩
      · rw [mk_act, if_pos rfl]; exact h1
      · rw [mk_pre, if_pos rfl]; exact h2
theorem mk_viso (hlk : A.lk r = none) {o : Nat} (ho : o < A.n) : (A.mk r x act num ins par s key pre pl Lx Os).vis r o ↔ A.vis r o ∧ ¬ (act ≠ 10 ∧ o ∈ pre) := by
  unfold AS.vis
  rw [mk_inVo hlk ho, mk_act, if_neg (by omega), mk_hid hlk]
  constructor
  · rintro ⟨h1, h2, h3⟩
    exact ⟨⟨h1, h2, fun h => h3 (Or.inl h)⟩, fun h => h3 (Or.inr h)⟩
  · rintro ⟨⟨h1, h2, h3⟩, h4⟩
    exact ⟨h1, h2, fun h => h.elim h3 h4⟩
theorem mk_visn (hA : AI A) (hlk : A.lk r = none) (hp : A.n ∉ pre) : (A.mk r x act num ins par s key pre pl Lx Os).vis r A.n ↔ act ≤ 8 := by
  unfold AS.vis
  rw [mk_inVn hlk, mk_act, if_pos rfl, mk_hid hlk]
  constructor
  · exact fun h => h.2.1
  · intro h
    refine ⟨rfl, h, ?_⟩
    rintro (⟨p, h1, h2, h3, h4⟩ | ⟨h1, h2⟩)
    · have := ((hA.2.2.1.2.2.2.2.2.2.1 p h1).2.2 A.n h4).1
      omega
    · exact hp h2
theorem flB_ex (hA : AI A) {t : Nat} : A.flB r t = true ↔ ∃ o, o < A.n ∧ A.sp o = t ∧ A.vis r o := by
  rw [flB_iff]
  constructor
  · intro h
    cases hc : A.cd r t with
    | nil => exact absurd hc h
    | cons o l =>
      have := (cd_mem hA (r := r) (s := t) (o := o)).mp (by rw [hc]; simp)
      exact ⟨o, this.1, this.2.1, visB_iff.mp this.2.2⟩
  · rintro ⟨o, h1, h2, h3⟩ hc
    have := (cd_mem hA (r := r) (s := t) (o := o)).mpr ⟨h1, h2, visB_iff.mpr h3⟩
    rw [hc] at this
    cases this
/-- an op that takes a place's candidates away -/
def AS.de (A : AS) (r : Nat) (x : Option Nat) (s : Nat) : AS := A.mk r x 9 0 0 none s (A.key s) ((A.cd r s).reverse.filter (fun c => !decide (9 = 10) || decide (A.act c = 5))) (if A.kd x = 6 then 0 else A.id s) (A.L x) (insO A.id (8 * (A.tp r + 1) + r) A.n (A.O s))
theorem de_pre {c : Nat} : c ∈ (A.cd r s).reverse.filter (fun c => !decide (9 = 10) || decide (A.act c = 5)) ↔ c ∈ A.cd r s := by
  rw [List.mem_filter, List.mem_reverse]
  simp
theorem de_flB (hA : AI A) (hA' : AI (A.de r x s)) (hlk : A.lk r = none) (hs : s < A.n) {t : Nat} : (A.de r x s).flB r t = (A.flB r t && !decide (t = s)) := by
  have key : (A.de r x s).flB r t = true ↔ (A.flB r t && !decide (t = s)) = true := by
    rw [flB_ex hA', Bool.and_eq_true, flB_ex hA, Bool.not_eq_true', decide_eq_false_iff_not]
    constructor
    · rintro ⟨o, h1, h2, h3⟩
      have h1 : o < A.n + 1 := h1
      by_cases e : o = A.n
      · subst e
        have hn : A.n ∉ (A.cd r s).reverse.filter (fun c => !decide (9 = 10) || decide (A.act c = 5)) := by
          intro h
          have := ((cd_mem hA).mp (de_pre.mp h)).1
          omega
        have := (mk_visn hA hlk hn).mp h3
        omega
      · have ho : o < A.n := by omega
        have h5 : A.sp o = t := by
          unfold AS.de at h2
          rw [mk_sp, if_neg e] at h2
          exact h2
        have h4 := (mk_viso hlk ho).mp h3
        refine ⟨⟨o, ho, h5, h4.1⟩, ?_⟩
        intro ets
        apply h4.2
        exact ⟨by decide, de_pre.mpr ((cd_mem hA).mpr ⟨ho, by rw [h5, ets], visB_iff.mpr h4.1⟩)⟩
    · rintro ⟨⟨o, h1, h2, h3⟩, h4⟩
      refine ⟨o, show o < A.n + 1 by omega, ?_, ?_⟩
      · show (A.de r x s).sp o = t
        unfold AS.de
        rw [mk_sp, if_neg (by omega)]
        exact h2
      · refine (mk_viso hlk h1).mpr ⟨h3, fun h => h4 ?_⟩
        have := ((cd_mem hA).mp (de_pre.mp h.2)).2.1
        rw [← h2, this]
  cases h1 : (A.de r x s).flB r t with
  | true => exact (key.mp h1).symm
  | false =>
    cases h2 : (A.flB r t && !decide (t = s)) with
    | false => rfl
    | true => rw [key.mpr h2] at h1; cases h1
theorem de_L : (A.de r x s).L x = A.L x := by
  unfold AS.de
  rw [mk_L, if_pos rfl]
theorem de_fl (hA : AI A) (hA' : AI (A.de r x s)) (hlk : A.lk r = none) (hs : s < A.n) : (A.de r x s).fl r x = (A.fl r x).filter (fun t => !decide (t = s)) := by
  unfold AS.fl
  rw [de_L, List.filter_filter]
  refine List.filter_congr (fun t _ => ?_)
  rw [de_flB hA hA' hlk hs, Bool.and_comm]
/-- an op that inserts behind par -/
theorem in_flB {st : List Nat} (hA : AI A) (hA' : AI ((A.mk r x 4 num 1 par A.n [] [] pl Lx [A.n]).gs st)) (hlk : A.lk r = none) {t : Nat} : ((A.mk r x 4 num 1 par A.n [] [] pl Lx [A.n]).gs st).flB r t = (A.flB r t || decide (t = A.n)) := by
  have key : ((A.mk r x 4 num 1 par A.n [] [] pl Lx [A.n]).gs st).flB r t = true ↔ (A.flB r t || decide (t = A.n)) = true := by
    rw [flB_ex hA', Bool.or_eq_true, flB_ex hA, decide_eq_true_eq]
    constructor
    · rintro ⟨o, h1, h2, h3⟩
      have h1 : o < A.n + 1 := h1
      have h2 : (A.mk r x 4 num 1 par A.n [] [] pl Lx [A.n]).sp o = t := h2
      rw [mk_sp] at h2
      by_cases e : o = A.n
      · rw [if_pos e] at h2
        exact Or.inr h2.symm
      · rw [if_neg e] at h2
        left
        exact ⟨o, by omega, h2, ((mk_viso (A := A) (x := x) (act := 4) (num := num) (ins := 1) (par := par) (s := A.n) (key := []) (pre := []) (pl := pl) (Lx := Lx) (Os := [A.n]) hlk (by omega)).mp h3).1⟩
    · rintro (⟨o, h1, h2, h3⟩ | rfl)
      · refine ⟨o, show o < A.n + 1 by omega, ?_, ?_⟩
        · show (A.mk r x 4 num 1 par A.n [] [] pl Lx [A.n]).sp o = t
          rw [mk_sp, if_neg (by omega)]
          exact h2
        · exact (mk_viso (A := A) (par := par) hlk h1).mpr ⟨h3, fun h => by cases h.2⟩
      · refine ⟨A.n, show A.n < A.n + 1 by omega, ?_, ?_⟩
        · show (A.mk r x 4 num 1 par A.n [] [] pl Lx [A.n]).sp A.n = A.n
          rw [mk_sp, if_pos rfl]
        · exact (mk_visn (par := par) hA hlk (by simp)).mpr (by omega)
  cases h1 : ((A.mk r x 4 num 1 par A.n [] [] pl Lx [A.n]).gs st).flB r t with
  | true => exact (key.mp h1).symm
  | false =>
    cases h2 : (A.flB r t || decide (t = A.n)) with
    | false => rfl
    | true => rw [key.mpr h2] at h1; cases h1
theorem nodup_cnt {n : Nat} : ∀ {l : List Nat}, l.Nodup → (∀ y, y ∈ l → y < n) → l.length = cntTo (fun i => decide (i ∈ l)) n := by
  intro l
  induction l with
  | nil => intro _ _; exact (cntTo_none (fun i _ => by simp)).symm
  | cons b l ih =>
    intro h1 h2
    rw [List.nodup_cons] at h1
    rw [List.length_cons, ih h1.2 (fun y hy => h2 y (List.mem_cons_of_mem _ hy))]
    refine (cntTo_add (h2 b (by simp)) ?_ ?_ ?_).symm
    · exact decide_eq_false h1.1
    · exact decide_eq_true (by simp)
    · intro i _ hne
      simp [hne]
theorem in_fl {st : List Nat} (hA : AI A) (hA' : AI ((A.mk r x 4 num 1 par A.n [] [] pl Lx [A.n]).gs st)) (hlk : A.lk r = none) : (((A.mk r x 4 num 1 par A.n [] [] pl Lx [A.n]).gs st).fl r x).length = (A.fl r x).length + 1 := by
  obtain ⟨B, hB⟩ : ∃ B, B = (A.mk r x 4 num 1 par A.n [] [] pl Lx [A.n]).gs st := ⟨_, rfl⟩
  have hfl : ∀ t, B.flB r t = (A.flB r t || decide (t = A.n)) := fun t => by rw [hB]; exact in_flB hA hA' hlk
  have hBn : B.n = A.n + 1 := by rw [hB]; rfl
  have hob : ∀ t, B.obj t = if t = A.n then x else A.obj t := fun t => by rw [hB]; rfl
  have hsp : ∀ t, B.sp t = if t = A.n then A.n else A.sp t := fun t => by rw [hB]; rfl
  rw [← hB] at hA' ⊢
  have hLA := hA.2.2.1.2.2.2.2.2.2.2.2.1 x
  have hLB := hA'.2.2.1.2.2.2.2.2.2.2.2.1 x
  have m1 : ∀ t, t ∈ A.fl r x ↔ (t < A.n ∧ A.obj t = x ∧ A.sp t = t) ∧ A.flB r t = true := fun t => by unfold AS.fl; rw [List.mem_filter, hLA.2.1]
  have m2 : ∀ t, t ∈ B.fl r x ↔ (t < B.n ∧ B.obj t = x ∧ B.sp t = t) ∧ B.flB r t = true := fun t => by unfold AS.fl; rw [List.mem_filter, hLB.2.1]
  have n1 : (A.fl r x).Nodup := hLA.1.filter _
  have n2 : (B.fl r x).Nodup := hLB.1.filter _
  rw [nodup_cnt (n := A.n + 1) n2 (fun y hy => by rw [← hBn]; exact ((m2 y).mp hy).1.1), nodup_cnt (n := A.n + 1) n1 (fun y hy => by have := ((m1 y).mp hy).1.1; omega)]
  refine cntTo_add (k := A.n) (by omega) ?_ ?_ ?_
  · exact decide_eq_false (fun h => by have := ((m1 _).mp h).1.1; omega)
  · refine decide_eq_true ((m2 _).mpr ⟨⟨by omega, ?_, ?_⟩, ?_⟩)
    · rw [hob, if_pos rfl]
    · rw [hsp, if_pos rfl]
    · rw [hfl]; simp
  · intro t _ hne
    have : (t ∈ B.fl r x) ↔ t ∈ A.fl r x := by
      rw [m1, m2, hob, hsp, hfl, if_neg hne, if_neg hne, hBn, decide_eq_false hne, Bool.or_false]
      constructor
      · rintro ⟨⟨h1, h2⟩, h3⟩; exact ⟨⟨by omega, h2⟩, h3⟩
      · rintro ⟨⟨h1, h2⟩, h3⟩; exact ⟨⟨by omega, h2⟩, h3⟩
    by_cases e : t ∈ A.fl r x
    · rw [decide_eq_true e, decide_eq_true (this.mpr e)]
    · rw [decide_eq_false e, decide_eq_false (fun h => e (this.mp h))]
end SPA
