/-! A NEW OP keeps all that is true of the abstract state. -/
section MKI
variable {A : AS}
theorem inV_owns (hA : AI A) {r p : Nat} (hp : p < A.n) (hl : A.lk r = none) : A.inV r p = true ↔ A.owns r p = true := by
  rw [inV_ref hA.2.1 hA.2.2.1.2.2.1 hp (hA.2.2.1.1 p hp).1]
  unfold AS.owns
  rw [hl]
  simp only [Bool.and_eq_true, decide_eq_true_eq]
  cases hc : A.chg p with
  | none => simp
  | some c =>
    have := chg_lt hA hp hc
    simp only [hasB_iff]
    unfold AS.has
    simp [this]
theorem own_owns (hA : AI A) {r p : Nat} (hp : p < A.n) (hg : A.gone p = 0) (ho : A.own p = r) : A.owns r p = true := by
  unfold AS.owns
  simp only [Bool.and_eq_true, decide_eq_true_eq]
  refine ⟨hg, ?_⟩
  have h1 := hA.2.2.1.2.2.1 p hp
  cases hc : A.chg p with
  | none => simpa using ho
  | some c =>
    rw [hc] at h1
    simp only at h1 ⊢
    rw [hasB_iff]
    refine ⟨h1.1, ?_⟩
    have := (hA.2.1.1 c h1.1).2.2.1
    rw [h1.2.2.1, ho] at this
    rw [h1.2.2.1, ho]
    exact this
/-- the new op's id is greater than those of all ops that its maker has, and no other's -/
theorem nid_gt (hA : AI A) {r p : Nat} (hp : p < A.n) (h : A.owns r p = true) : A.id p < 8 * (A.tp r + 1) + r := by
  have := owns_le hA hp h
  omega
theorem nid_ne (hA : AI A) {r p : Nat} (hr : r < 8) (hp : p < A.n) (hg : A.gone p = 0) : A.id p ≠ 8 * (A.tp r + 1) + r := by
  intro e
  have h1 := (hA.2.2.1.1 p hp).2.1
  have h2 := nid_gt hA hp (own_owns hA hp hg (r := r) (by omega))
  omega
theorem vw_none {r a : Nat} (hl : A.lk r = none) : A.vw r a = A.hv r a + (if a = r then 1 else 0) := by
  unfold AS.vw
  rw [hl]
/-- what a new op must be -/
def mkOK (A : AS) (r : Nat) (x : Option Nat) (act : Nat) (num : Int64) (ins : Nat) (par : Option Nat) (s : Nat) (key pre : List Nat) (pl : Nat) (Lx Os : List Nat) : Prop :=
  r < 8 ∧ A.lk r = none ∧ A.n < 4000 ∧ A.kn + key.length ≤ 24576 ∧ act ≤ 10 ∧ A.oV r x ∧
  pl = (if ins = 1 then A.oi par else if A.kd x = 6 then 0 else A.id s) ∧
  (s = A.n ∨ (s < A.n ∧ A.obj s = x ∧ A.sp s = s)) ∧ (ins = 0 ∨ ins = 1) ∧
  (ins = 1 → s = A.n ∧ key = [] ∧ A.kd x ≠ 6 ∧ act ≤ 8 ∧ ∀ p, par = some p → p < A.n ∧ A.ins p = 1 ∧ A.obj p = x ∧ A.inV r p = true) ∧
  (ins = 0 → par = none ∧ (A.kd x ≠ 6 → key = [] ∧ s < A.n ∧ A.ins s = 1 ∧ A.inV r s = true) ∧ (A.kd x = 6 → 1 ≤ key.length ∧ key.length ≤ 64 ∧ (s < A.n → A.key s = key ∧ A.ins s = 0))) ∧
  pre = (if s = A.n then [] else (A.cd r s).reverse.filter (fun c => !decide (act = 10) || decide (A.act c = 5))) ∧
  (Os.Nodup ∧ (∀ o, o ∈ Os ↔ o = A.n ∨ o ∈ A.O s) ∧ Os.Pairwise (fun a b => (if b = A.n then 8 * (A.tp r + 1) + r else A.id b) ≤ (if a = A.n then 8 * (A.tp r + 1) + r else A.id a))) ∧
  (Lx.Nodup ∧ (∀ t, t ∈ Lx ↔ (t = A.n ∧ s = A.n) ∨ t ∈ A.L x) ∧ (A.kd x = 6 → Lx.Pairwise (fun a b => kcmp (if a = A.n then key else A.key a) (if b = A.n then key else A.key b) < 0)) ∧
    (A.kd x ≠ 6 → Jp (fun o => if o = A.n then par else A.par o) (fun o => if o = A.n then 8 * (A.tp r + 1) + r else A.id o) (fun o => (if o = A.n then 0 else A.gone o) = 0) Lx))
theorem mk_kbs {r : Nat} {x : Option Nat} {act : Nat} {num : Int64} {ins : Nat} {par : Option Nat} {s : Nat} {key pre : List Nat} {pl : Nat} {Lx Os : List Nat} (h : A.kbs A.n ≤ A.kn) : (A.mk r x act num ins par s key pre pl Lx Os).kbs (A.mk r x act num ins par s key pre pl Lx Os).n ≤ A.kn + key.length := by
  rw [mk_n, kbs_s, kbs_congr (A := A) (k := A.n) (fun o ho => ⟨by rw [mk_key, if_neg (by omega)], by rw [mk_str, if_neg (by omega)]⟩), mk_key, mk_str, if_pos rfl, if_pos rfl]
  simp only [List.length_nil]
  omega
theorem mk_AI {r : Nat} {x : Option Nat} {act : Nat} {num : Int64} {ins : Nat} {par : Option Nat} {s : Nat} {key pre : List Nat} {pl : Nat} {Lx Os : List Nat} (hA : AI A) (h : mkOK A r x act num ins par s key pre pl Lx Os) : AI (A.mk r x act num ins par s key pre pl Lx Os) := by
  obtain ⟨hr, hlk, hn, hkn, hact, hx, hpl, hs, hins, h1, h0, hpre, ⟨hO1, hO2, hO3⟩, hL1, hL2, hL3, hL4⟩ := h
  obtain ⟨hsz, hC, hP, hT, hPl, hCn⟩ := hA
  have hA : AI A := ⟨hsz, hC, hP, hT, hPl, hCn⟩
  obtain ⟨P1, P2, P3, P4, P5, P6, P7, P8, P9, P10⟩ := hP
  have hsn : s ≤ A.n := by rcases hs with h | h <;> omega
  -- what the new op has seen is what is in the view
  have seen_n : ∀ p, p < A.n → ((A.mk r x act num ins par s key pre pl Lx Os).seen p A.n ↔ A.inV r p = true) := by
    intro p hp
    unfold AS.seen AS.inV
    have hne : ¬ p = A.n := by omega
    simp only [mk_id, mk_act, mk_own, mk_gone, mk_ins, mk_sp, mk_cn, mk_pl, mk_obj, mk_par, mk_chg, mk_key, mk_pre, mk_oc, hne, if_true, if_false, vw_none hlk, Bool.and_eq_true, decide_eq_true_eq]
  have seen_o : ∀ p o, p < A.n → o < A.n → ((A.mk r x act num ins par s key pre pl Lx Os).seen p o ↔ A.seen p o) := by
    intro p o hp ho
    unfold AS.seen
    have hne : ¬ p = A.n := by omega
    have hne2 : ¬ o = A.n := by omega
    simp only [mk_id, mk_act, mk_own, mk_gone, mk_ins, mk_sp, mk_cn, mk_pl, mk_obj, mk_par, mk_chg, mk_key, mk_pre, mk_oc, hne, hne2, if_false]
  have kd_o : ∀ o, o < A.n → (A.mk r x act num ins par s key pre pl Lx Os).kd (A.obj o) = A.kd (A.obj o) := by
    intro o ho
    cases hx' : A.obj o with
    | none => rfl
    | some m =>
      have := (P4 o m ho hx').1
      simp only [AS.kd]
      rw [mk_act, if_neg (by omega)]
  have kd_x : (A.mk r x act num ins par s key pre pl Lx Os).kd x = A.kd x := by
    cases hx' : x with
    | none => rfl
    | some m =>
      rw [hx'] at hx
      have := hx.1
      simp only [AS.kd]
      rw [mk_act, if_neg (by omega)]
  have oi_o : ∀ y, (∀ m, y = some m → m < A.n) → (A.mk r x act num ins par s key pre pl Lx Os).oi y = A.oi y := fun y hy => oi_mk hy
  have hspn : ∀ o, o < A.n → A.sp o < A.n := fun o ho => (((P9 _).2.1 _).mp (sp_L hA ho)).1
  have hcd : ∀ c, c ∈ pre → s < A.n ∧ c ∈ A.cd r s := by
    intro c hc
    rw [hpre] at hc
    split at hc
    · cases hc
    · rw [List.mem_filter, List.mem_reverse] at hc
      exact ⟨by omega, hc.1⟩
  have hnew : ∀ o, ¬ A.n ∈ A.O o := by
    intro o h
    have := ((P10 o).2.1 _).mp h
    omega
  refine ⟨⟨by rw [mk_n]; omega, hsz.2.1, by rw [mk_kn]; exact hkn, mk_kbs hsz.2.2.2⟩, hC, ⟨?_, ?_, ?_, ?_, ?_, ?_, ?_, ?_, ?_, ?_⟩, ?_, ?_, hCn⟩
  · -- I_ops
    intro o ho
    rw [mk_n] at ho
    rw [mk_own, mk_id, mk_act, mk_gone, mk_ins]
    have htp := (hT.1 r).2
    by_cases e : o = A.n
    · simp only [e, if_true]
      refine ⟨hr, by omega, by omega, by omega, hact, by omega, by omega⟩
    · simp only [e, if_false]
      exact P1 o (by omega)
  · -- I_uni
    intro o p ho hp
    rw [mk_n] at ho hp
    rw [mk_gone, mk_gone, mk_id, mk_id]
    by_cases e : o = A.n
    · by_cases e2 : p = A.n
      · intros; omega
      · simp only [e, e2, if_true, if_false]
        intro _ hg he
        exact absurd he.symm (nid_ne hA hr (by omega) hg)
    · by_cases e2 : p = A.n
      · simp only [e, e2, if_true, if_false]
        intro hg _ he
        exact absurd he (nid_ne hA hr (by omega) hg)
      · simp only [e, e2, if_false]
        exact P2 o p (by omega) (by omega)
  · -- I_chg
    intro o ho
    rw [mk_n] at ho
    rw [mk_chg, mk_gone, mk_own, mk_cn]
    by_cases e : o = A.n
    · simp only [e, if_true]
      intro _
      exact ⟨rfl, fun a => by rw [mk_oc, if_pos rfl]; rfl⟩
    · simp only [e, if_false]
      have h3 := P3 o (by omega)
      cases hc : A.chg o with
      | none =>
        rw [hc] at h3
        simp only at h3 ⊢
        intro hg
        exact ⟨(h3 hg).1, fun a => by rw [mk_oc, if_neg e]; exact (h3 hg).2 a⟩
      | some c =>
        rw [hc] at h3
        simp only at h3 ⊢
        refine ⟨h3.1, h3.2.1, h3.2.2.1, h3.2.2.2.1, ?_⟩
        funext a
        rw [mk_oc, if_neg e, h3.2.2.2.2]
        rfl
  · -- I_obj
    intro o y ho hy
    rw [mk_n] at ho
    rw [mk_obj] at hy
    by_cases e : o = A.n
    · subst e
      rw [if_pos rfl] at hy
      subst hy
      have := hx.1
      rw [mk_act, if_neg (by omega), seen_n y hx.1]
      exact ⟨hx.1, hx.2.2.1, hx.2.2.2, fun _ => hx.2.1⟩
    · rw [if_neg e] at hy
      have h3 := P4 o y (by omega) hy
      rw [mk_act, if_neg (by omega), mk_gone, if_neg e, seen_o y o (by omega) (by omega)]
      exact h3
  · -- I_ins
    intro o ho hi
    rw [mk_n] at ho
    rw [mk_ins] at hi
    rw [mk_sp, mk_key, mk_pre, mk_obj, mk_act, mk_par, mk_gone]
    by_cases e : o = A.n
    · subst e
      rw [if_pos rfl] at hi
      simp only [if_true]
      obtain ⟨a1, a2, a3, a4, a5⟩ := h1 hi
      rw [kd_x]
      refine ⟨a1, a2, by rw [hpre, if_pos a1], a3, a4, ?_⟩
      intro p hp
      obtain ⟨b1, b2, b3, b4⟩ := a5 p hp
      rw [mk_ins, mk_obj, mk_id, mk_id, if_neg (by omega), if_neg (by omega), if_neg (by omega), if_pos rfl, seen_n p b1]
      exact ⟨b1, b2, b3, nid_gt hA b1 ((inV_owns hA b1 hlk).mp b4), fun _ => b4⟩
    · rw [if_neg e] at hi
      simp only [e, if_false]
      obtain ⟨a1, a2, a3, a4, a5, a6⟩ := P5 o (by omega) hi
      rw [kd_o o (by omega)]
      refine ⟨a1, a2, a3, a4, a5, ?_⟩
      intro p hp
      obtain ⟨b1, b2, b3, b4, b5⟩ := a6 p hp
      rw [mk_ins, mk_obj, mk_id, mk_id, if_neg (by omega), if_neg (by omega), if_neg (by omega), if_neg e, seen_o p o (by omega) (by omega)]
      exact ⟨b1, b2, b3, b4, b5⟩
  · -- I_on
    intro o ho hi
    rw [mk_n] at ho ⊢
    rw [mk_ins] at hi
    by_cases e : o = A.n
    · subst e
      rw [if_pos rfl] at hi
      obtain ⟨a1, a2, a3⟩ := h0 hi
      simp only [mk_id, mk_act, mk_own, mk_gone, mk_ins, mk_sp, mk_cn, mk_pl, mk_obj, mk_par, mk_chg, mk_key, mk_pre, mk_oc, if_true, kd_x]
      refine ⟨a1, by omega, ?_, ?_, ?_, ?_⟩
      · rcases hs with h | h
        · rw [if_pos h]
        · rw [if_neg (by omega)]; exact h.2.2
      · rcases hs with h | h
        · rw [if_pos h]
        · rw [if_neg (by omega)]; exact h.2.1
      · intro hk
        obtain ⟨b1, b2, b3, b4⟩ := a2 hk
        rw [if_neg (by omega), if_neg (by omega), seen_n s b2]
        exact ⟨b1, b2, b3, nid_gt hA b2 ((inV_owns hA b2 hlk).mp b4), fun _ => b4⟩
      · intro hk
        obtain ⟨b1, b2, b3⟩ := a3 hk
        refine ⟨b1, b2, ?_, ?_, hsn⟩
        · by_cases e2 : s = A.n
          · rw [if_pos e2]
          · rw [if_neg e2]; exact (b3 (by omega)).1
        · by_cases e2 : s = A.n
          · rw [if_pos e2]; exact hi
          · rw [if_neg e2]; exact (b3 (by omega)).2
    · rw [if_neg e] at hi
      obtain ⟨a1, a2, a3, a4, a5, a6⟩ := P6 o (by omega) hi
      have hne : ¬ A.sp o = A.n := by omega
      simp only [mk_id, mk_act, mk_own, mk_gone, mk_ins, mk_sp, mk_cn, mk_pl, mk_obj, mk_par, mk_chg, mk_key, mk_pre, mk_oc, e, hne, if_false, kd_o o (by omega), seen_o _ o a2 (by omega)]
      exact ⟨a1, by omega, a3, a4, a5, a6⟩
  · -- I_pre
    intro o ho
    rw [mk_n] at ho
    rw [mk_pre, mk_sp, mk_gone, mk_act]
    by_cases e : o = A.n
    · subst e
      simp only [if_true]
      refine ⟨?_, ?_, ?_⟩
      · rw [hpre]
        split
        · simp
        · refine Nat.le_trans (List.length_filter_le _ _) ?_
          rw [List.length_reverse]
          exact cd_len hA
      · have : pre.Pairwise (fun a b => A.id a < A.id b) := by
          rw [hpre]
          split
          · exact List.Pairwise.nil
          · refine List.Pairwise.filter _ ?_
            rw [List.pairwise_reverse]
            exact cd_desc hA
        refine List.Pairwise.imp_of_mem ?_ this
        intro a b ha hb hab
        have h3 := (cd_mem hA).mp (hcd a ha).2
        have h4 := (cd_mem hA).mp (hcd b hb).2
        rw [mk_id, mk_id, if_neg (by omega), if_neg (by omega)]
        exact hab
      · intro p hp
        have h3 := (cd_mem hA).mp (hcd p hp).2
        have h4 := visB_iff.mp h3.2.2
        have hne : ¬ p = A.n := by omega
        simp only [mk_id, mk_act, mk_own, mk_gone, mk_ins, mk_sp, mk_cn, mk_pl, mk_obj, mk_par, mk_chg, mk_key, mk_pre, mk_oc, hne, if_true, if_false, seen_n p h3.1]
        refine ⟨h3.1, h3.2.1, nid_gt hA h3.1 ((inV_owns hA h3.1 hlk).mp h4.1), h4.2.1, ?_, fun _ => h4.1⟩
        intro h10
        rw [hpre] at hp
        split at hp
        · cases hp
        · rw [List.mem_filter] at hp
          have := hp.2
          simpa [h10] using this
    · simp only [e, if_false]
      obtain ⟨a1, a2, a3⟩ := P7 o (by omega)
      refine ⟨a1, ?_, ?_⟩
      · refine List.Pairwise.imp_of_mem ?_ a2
        intro a b ha hb hab
        have h3 := (a3 a ha).1
        have h4 := (a3 b hb).1
        rw [mk_id, mk_id, if_neg (by omega), if_neg (by omega)]
        exact hab
      · intro p hp
        have h3 := a3 p hp
        have hne : ¬ p = A.n := by omega
        simp only [mk_id, mk_act, mk_own, mk_gone, mk_ins, mk_sp, mk_cn, mk_pl, mk_obj, mk_par, mk_chg, mk_key, mk_pre, mk_oc, hne, e, if_false, seen_o p o (by omega) (by omega)]
        exact h3
  · -- I_hid
    intro o q ho hq hg hg2 hac haq hw hsp
    rw [mk_n] at ho
    rw [mk_gone] at hg hg2
    rw [mk_act] at hac haq
    rw [mk_own, mk_own] at hw
    rw [mk_sp, mk_sp] at hsp
    have hqn : q < A.n := by omega
    have hqne : ¬ q = A.n := by omega
    rw [if_neg hqne] at hg2 haq hw hsp
    by_cases e : o = A.n
    · subst e
      rw [if_pos rfl] at hac hw hsp
      have hqo := own_owns hA hqn hg2 hw
      have hqv := (inV_owns hA hqn hlk).mpr hqo
      have hsl : s < A.n := by rw [← hsp]; exact hspn q hqn
      by_cases hh : A.hid r q
      · obtain ⟨p, hp1, hp2, hp3, hp4⟩ := hh
        refine ⟨p, by rw [mk_n]; omega, ?_, ?_, Or.inr ((seen_n p hp1).mpr hp2)⟩
        · rw [mk_pre, if_neg (by omega)]; exact hp4
        · rw [mk_act, if_neg (by omega)]; exact hp3
      · refine ⟨A.n, by rw [mk_n]; omega, ?_, ?_, Or.inl rfl⟩
        · rw [mk_pre, if_pos rfl, hpre, if_neg (by omega), List.mem_filter, List.mem_reverse, cd_mem hA]
          refine ⟨⟨hqn, hsp, visB_iff.mpr ⟨hqv, haq, hh⟩⟩, ?_⟩
          simp [hac]
        · rw [mk_act, if_pos rfl]; exact hac
    · rw [if_neg e] at hg hac hw hsp
      obtain ⟨p, hp1, hp2, hp3, hp4⟩ := P8 o q (by omega) hq hg hg2 hac haq hw hsp
      refine ⟨p, by rw [mk_n]; omega, ?_, ?_, ?_⟩
      · rw [mk_pre, if_neg (by omega)]; exact hp2
      · rw [mk_act, if_neg (by omega)]; exact hp3
      · rcases hp4 with h | h
        · exact Or.inl h
        · exact Or.inr ((seen_o p o hp1 (by omega)).mpr h)
  · -- I_L
    intro y
    have hm : ∀ t, (t < A.n + 1 ∧ (A.mk r x act num ins par s key pre pl Lx Os).obj t = y ∧ (A.mk r x act num ins par s key pre pl Lx Os).sp t = t) ↔ (t = A.n ∧ y = x ∧ s = A.n) ∨ t ∈ A.L y := by
      intro t
      rw [mk_obj, mk_sp, (P9 y).2.1]
      by_cases e : t = A.n
      · subst e
        simp only [if_true]
        constructor
        · rintro ⟨_, a, b⟩; exact Or.inl ⟨trivial, a.symm, b⟩
        · rintro (⟨_, a, b⟩ | ⟨a, _⟩)
          · exact ⟨by omega, a.symm, b⟩
          · omega
      · simp only [e, if_false, false_and, false_or]
        constructor
        · rintro ⟨a, b⟩; exact ⟨by omega, b⟩
        · rintro ⟨a, b⟩; exact ⟨by omega, b⟩
    rw [mk_L, mk_n]
    by_cases ey : y = x
    · subst ey
      rw [if_pos rfl, kd_x]
      refine ⟨hL1, ?_, ?_, ?_⟩
      · intro t
        rw [hL2, hm t]
        simp
      · intro hk
        refine (hL3 hk).imp ?_
        intro a b hab
        rw [mk_key, mk_key]
        exact hab
      · intro hk
        have := hL4 hk
        exact this
    · rw [if_neg ey]
      have hLy := P9 y
      have hne : ∀ t, t ∈ A.L y → t ≠ A.n := fun t ht e => by have := ((hLy.2.1 t).mp ht).1; omega
      refine ⟨hLy.1, ?_, ?_, ?_⟩
      · intro t
        rw [hm t]
        constructor
        · exact Or.inr
        · rintro (⟨_, h, _⟩ | h)
          · exact absurd h ey
          · exact h
      · intro hk
        rcases List.eq_nil_or_concat (A.L y) with hnil | ⟨l', t, hl'⟩
        · rw [hnil]; exact List.Pairwise.nil
        · have ht : t ∈ A.L y := by rw [hl']; simp
          have ht' := (hLy.2.1 t).mp ht
          have hk' : A.kd y = 6 := by rw [← hk, ← ht'.2.1]; exact (kd_o t ht'.1).symm
          refine List.Pairwise.imp_of_mem ?_ (hLy.2.2.1 hk')
          intro a b ha hb hab
          rw [mk_key, mk_key, if_neg (hne a ha), if_neg (hne b hb)]
          exact hab
      · intro hk
        rcases List.eq_nil_or_concat (A.L y) with hnil | ⟨l', t, hl'⟩
        · rw [hnil]; exact Jp_nil
        · have ht : t ∈ A.L y := by rw [hl']; simp
          have ht' := (hLy.2.1 t).mp ht
          have hk' : A.kd y ≠ 6 := by
            intro h6
            apply hk
            rw [← h6, ← ht'.2.1]
            exact kd_o t ht'.1
          have hJ := hLy.2.2.2 hk'
          intro l1 o l2 he
          have hJ' := hJ l1 o l2 he
          have hmem : ∀ z, z ∈ l1 → z ≠ A.n := fun z hz => hne z (by rw [he]; simp [hz])
          have hno : o ≠ A.n := hne o (by rw [he]; simp)
          rw [mk_par, if_neg hno]
          have hJo : ∀ z, z ≠ A.n → Jo A.id (fun o => A.gone o = 0) o z → Jo (A.mk r x act num ins par s key pre pl Lx Os).id (fun o => (A.mk r x act num ins par s key pre pl Lx Os).gone o = 0) o z := by
            intro z hz hj
            unfold Jo at hj ⊢
            simp only [mk_id, mk_act, mk_own, mk_gone, mk_ins, mk_sp, mk_cn, mk_pl, mk_obj, mk_par, mk_chg, mk_key, mk_pre, mk_oc, hno, hz, if_false]
            exact hj
          cases hp : A.par o with
          | none =>
            rw [hp] at hJ'
            simp only at hJ' ⊢
            exact fun z hz => hJo z (hmem z hz) (hJ' z hz)
          | some p =>
            rw [hp] at hJ'
            simp only at hJ' ⊢
            obtain ⟨a, b, hab, hJ2⟩ := hJ'
            exact ⟨a, b, hab, fun z hz => hJo z (hmem z (by rw [hab]; simp [hz])) (hJ2 z hz)⟩
  · -- I_O
    intro t
    rw [mk_O, mk_n]
    have hm : ∀ o, (o < A.n + 1 ∧ (A.mk r x act num ins par s key pre pl Lx Os).sp o = t) ↔ (o = A.n ∧ t = s) ∨ o ∈ A.O t := by
      intro o
      rw [mk_sp, (P10 t).2.1]
      by_cases e : o = A.n
      · subst e
        simp only [if_true]
        constructor
        · rintro ⟨_, b⟩; exact Or.inl ⟨trivial, b.symm⟩
        · rintro (⟨_, b⟩ | ⟨a, _⟩)
          · exact ⟨by omega, b.symm⟩
          · omega
      · simp only [e, if_false, false_and, false_or]
        constructor
        · rintro ⟨a, b⟩; exact ⟨by omega, b⟩
        · rintro ⟨a, b⟩; exact ⟨by omega, b⟩
    by_cases et : t = s
    · subst et
      rw [if_pos rfl]
      refine ⟨hO1, ?_, ?_⟩
      · intro o
        rw [hO2, hm o]
        simp
      · refine hO3.imp ?_
        intro a b hab
        rw [mk_id, mk_id]
        exact hab
    · rw [if_neg et]
      refine ⟨(P10 t).1, ?_, ?_⟩
      · intro o
        rw [hm o]
        constructor
        · exact Or.inr
        · rintro (⟨_, h⟩ | h)
          · exact absurd h et
          · exact h
      · refine List.Pairwise.imp_of_mem ?_ (P10 t).2.2
        intro a b ha hb hab
        have ha' := ((P10 t).2.1 a).mp ha
        have hb' := ((P10 t).2.1 b).mp hb
        rw [mk_id, mk_id, if_neg (by omega), if_neg (by omega)]
        exact hab
  · -- I_top
    obtain ⟨t1, t2, t3, t4, t5, t6, t7, t8⟩ := hT
    refine ⟨?_, ?_, ?_, ?_, ?_, ?_, ?_, ?_⟩
    · intro q
      rw [mk_on, mk_tp, mk_n]
      have := t1 q
      split
      · rename_i e; subst e; omega
      · omega
    · intro o ho hg hc
      rw [mk_n] at ho
      rw [mk_gone] at hg
      rw [mk_chg] at hc
      rw [mk_own, mk_id]
      by_cases e : o = A.n
      · subst e
        simp only [if_true]
        rw [mk_tp, mk_on, if_pos rfl, if_pos rfl]
        omega
      · rw [if_neg e] at hg hc
        simp only [e, if_false]
        have := t2 o (by omega) hg hc
        rw [mk_tp, mk_on]
        split
        · rename_i e2; rw [e2] at this; omega
        · exact this
    · intro q t hq h2 h3
      rw [mk_tp, mk_on] at h2
      rw [mk_tp] at h3
      have old : A.tp q < t + A.on q → t ≤ A.tp q → ∃ o, o < (A.mk r x act num ins par s key pre pl Lx Os).n ∧ (A.mk r x act num ins par s key pre pl Lx Os).gone o = 0 ∧ (A.mk r x act num ins par s key pre pl Lx Os).chg o = none ∧ (A.mk r x act num ins par s key pre pl Lx Os).own o = q ∧ (A.mk r x act num ins par s key pre pl Lx Os).id o / 8 = t := by
        intro a b
        obtain ⟨o, b1, b2, b3, b4, b5⟩ := t3 q t hq a b
        refine ⟨o, by rw [mk_n]; omega, ?_⟩
        rw [mk_gone, mk_chg, mk_own, mk_id, if_neg (by omega), if_neg (by omega), if_neg (by omega), if_neg (by omega)]
        exact ⟨b2, b3, b4, b5⟩
      by_cases e : q = r
      · subst e
        rw [if_pos rfl, if_pos rfl] at h2
        rw [if_pos rfl] at h3
        by_cases e2 : t = A.tp q + 1
        · refine ⟨A.n, by rw [mk_n]; omega, ?_⟩
          rw [mk_gone, mk_chg, mk_own, mk_id, if_pos rfl, if_pos rfl, if_pos rfl, if_pos rfl]
          exact ⟨rfl, rfl, rfl, by omega⟩
        · exact old (by omega) (by omega)
      · rw [if_neg e, if_neg e] at h2
        rw [if_neg e] at h3
        exact old h2 h3
    · intro c hc
      have := t4 c hc
      rw [mk_n]
      exact ⟨this.1, this.2.1, Nat.le_succ_of_le this.2.2⟩
    · intro o c ho hc
      rw [mk_n] at ho
      rw [mk_chg] at hc
      by_cases e : o = A.n
      · rw [if_pos e] at hc; cases hc
      · rw [if_neg e] at hc
        rw [mk_id, if_neg e]
        exact t5 o c (by omega) hc
    · intro c t hc h2 h3
      obtain ⟨o, b1, b2, b3⟩ := t6 c t hc h2 h3
      refine ⟨o, by rw [mk_n]; omega, ?_⟩
      rw [mk_chg, mk_id, if_neg (by omega), if_neg (by omega)]
      exact ⟨b2, b3⟩
    · intro q c hc
      have := t7 q c hc
      have h9 := (t1 q).1
      rw [mk_tp, mk_on]
      split
      · rename_i e; subst e
        show A.cf c + A.cz c ≤ _
        omega
      · exact this
    · intro q
      rw [mk_tp, mk_on]
      have h9 := (t1 q).1
      rcases t8 q with h | ⟨c, h, h4⟩
      · left
        split
        · rename_i e; subst e; omega
        · exact h
      · right
        refine ⟨c, h, ?_⟩
        split
        · rename_i e; subst e
          show _ = A.cf c + A.cz c
          omega
        · exact h4
  · -- I_pl
    intro o ho
    rw [mk_n] at ho
    by_cases e : o = A.n
    · subst e
      unfold AS.plc
      simp only [mk_id, mk_act, mk_own, mk_gone, mk_ins, mk_sp, mk_cn, mk_pl, mk_obj, mk_par, mk_chg, mk_key, mk_pre, mk_oc, if_true, kd_x]
      by_cases ei : ins = 1
      · rw [if_pos ei] at hpl ⊢
        rw [oi_o par (fun m hm => ((h1 ei).2.2.2.2 m hm).1)]
        exact hpl
      · rw [if_neg ei] at hpl ⊢
        by_cases ek : A.kd x = 6
        · rw [if_pos ek] at hpl ⊢
          exact hpl
        · rw [if_neg ek] at hpl ⊢
          have := ((h0 (by omega)).2.1 ek).2.1
          rw [if_neg (by omega)]
          exact hpl
    · have h9 := hPl o (by omega)
      have hne : ¬ A.sp o = A.n := by have := hspn o (by omega); omega
      unfold AS.plc at h9 ⊢
      simp only [mk_id, mk_act, mk_own, mk_gone, mk_ins, mk_sp, mk_cn, mk_pl, mk_obj, mk_par, mk_chg, mk_key, mk_pre, mk_oc, e, hne, if_false, kd_o o (by omega)]
      by_cases ei : A.ins o = 1
      · rw [if_pos ei] at h9 ⊢
        rw [oi_o _ (fun m hm => by have := ((P5 o (by omega) ei).2.2.2.2.2 m hm).1; omega)]
        exact h9
      · rw [if_neg ei] at h9 ⊢
        exact h9
end MKI
