/-! THE CLASS: a new op is written, whole. -/
theorem Jp_congr {pr pr' : Nat → Option Nat} {f f' : Nat → Nat} {g g' : Nat → Prop} {l : List Nat} (h : Jp pr f g l) (he : ∀ o, o ∈ l → pr' o = pr o ∧ f' o = f o ∧ (g' o → g o)) : Jp pr' f' g' l := by
  intro l1 o l2 hl
  have h1 := h l1 o l2 hl
  have hm : ∀ y, y ∈ l1 → y ∈ l := fun y hy => by rw [hl]; simp [hy]
  have ho : o ∈ l := by rw [hl]; simp
  have hJ : ∀ y, y ∈ l1 → Jo f g o y → Jo f' g' o y := by
    intro y hy hj
    unfold Jo at hj ⊢
    rw [(he o ho).2.1, (he y (hm y hy)).2.1]
    exact ⟨hj.1, fun hg => hj.2 ((he o ho).2.2 hg)⟩
  rw [(he o ho).1]
  cases hp : pr o with
  | none =>
    rw [hp] at h1
    simp only at h1 ⊢
    exact fun y hy => hJ y hy (h1 y hy)
  | some p =>
    rw [hp] at h1
    simp only at h1 ⊢
    obtain ⟨a, b, h2, h3⟩ := h1
    exact ⟨a, b, h2, fun y hy => hJ y (by rw [h2]; simp [hy]) (h3 y hy)⟩
def e0OK (par : Option Nat) (e0 : List Nat) : Prop := match par with
  | none => e0 = []
  | some p => ∃ a, e0 = a ++ [p]
section WR
variable {N : Nat → Nat} {C : CS} {A : AS} {r rd : Nat} {x : Option Nat} {act : Nat} {num : Int64} {ins : Nat} {par : Option Nat} {s : Nat} {key pre : List Nat} {pl : Nat} {Lx Os : List Nat}
theorem O_new (hA : AI A) : A.O A.n = [] := by
  cases h : A.O A.n with
  | nil => rfl
  | cons o l =>
    have h1 := ((hA.2.2.1.2.2.2.2.2.2.2.2.2 A.n).2.1 o).mp (by rw [h]; simp)
    have h2 := (((hA.2.2.1.2.2.2.2.2.2.2.2.1 _).2.1 _).mp (sp_L hA h1.1)).1
    omega
/-- an element is put in behind its place -/
theorem mkOK_ins (hA : AI A) (hr : r < 8) (hlk : A.lk r = none) (hn : A.n < 4000) (hkn : A.kn ≤ 24576) (hact : act ≤ 8) (hx : A.oV r x) (hkd : A.kd x ≠ 6) {e0 rest : List Nat} (hL : A.L x = e0 ++ rest) (he0 : match par with
      | none => e0 = []
      | some p => ∃ a, e0 = a ++ [p]) (hpv : ∀ p, par = some p → A.inV r p = true) :
    mkOK A r x act num 1 par A.n [] [] (A.oi par) (e0 ++ rest.takeWhile (fun t => decide (8 * (A.tp r + 1) + r < A.id t)) ++ A.n :: rest.dropWhile (fun t => decide (8 * (A.tp r + 1) + r < A.id t))) [A.n] := by
  have hLx := hA.2.2.1.2.2.2.2.2.2.2.2.1 x
  have hLn : ∀ t, t ∈ A.L x → t ≠ A.n := fun t ht e => by have := (L_mem hA ht).1; omega
  have hLL : e0 ++ rest.takeWhile (fun t => decide (8 * (A.tp r + 1) + r < A.id t)) ++ rest.dropWhile (fun t => decide (8 * (A.tp r + 1) + r < A.id t)) = A.L x := by
    rw [List.append_assoc, List.takeWhile_append_dropWhile, hL]
  have hpL : ∀ p, par = some p → p ∈ A.L x := by
    intro p hp
    rw [hp] at he0
    obtain ⟨a, ha⟩ := he0
    rw [hL, ha]
    simp
  have hnd : (e0 ++ rest.takeWhile (fun t => decide (8 * (A.tp r + 1) + r < A.id t)) ++ A.n :: rest.dropWhile (fun t => decide (8 * (A.tp r + 1) + r < A.id t))).Nodup := by
    have h1 := hLx.1
    rw [← hLL, List.nodup_append] at h1
    rw [List.nodup_append]
    refine ⟨h1.1, ?_, ?_⟩
    · rw [List.nodup_cons]
      exact ⟨fun h => hLn A.n (by rw [hL]; exact List.mem_append.mpr (Or.inr (dk_mem h))) rfl, h1.2.1⟩
    · intro a ha b hb e
      subst e
      rcases List.mem_cons.mp hb with h2 | h2
      · subst h2
        exact hLn _ (by rw [← hLL]; exact List.mem_append.mpr (Or.inl ha)) rfl
      · exact h1.2.2 a ha a h2 rfl
  refine ⟨hr, hlk, hn, by simpa using hkn, by omega, hx, by simp, Or.inl rfl, Or.inr rfl, ?_, by intro h; omega, by simp, ?_, hnd, ?_, fun h => absurd h hkd, ?_⟩
  · intro _
    refine ⟨rfl, rfl, hkd, hact, ?_⟩
    intro p hp
    have h1 := L_ins hA hkd (hpL p hp)
    exact ⟨h1.1, h1.2.2.2, h1.2.1, hpv p hp⟩
  · rw [O_new hA]
    simp
  · intro t
    have : t ∈ A.L x ↔ t ∈ e0 ++ rest.takeWhile (fun t => decide (8 * (A.tp r + 1) + r < A.id t)) ++ rest.dropWhile (fun t => decide (8 * (A.tp r + 1) + r < A.id t)) := by rw [hLL]
    rw [this, List.mem_append, List.mem_cons, List.mem_append (s := e0 ++ _)]
    constructor
    · rintro (h | h | h)
      · exact Or.inr (Or.inl h)
      · exact Or.inl ⟨h, rfl⟩
      · exact Or.inr (Or.inr h)
    · rintro (⟨h, _⟩ | h | h)
      · exact Or.inr (Or.inl h)
      · exact Or.inl h
      · exact Or.inr (Or.inr h)
  · intro _
    have hJ := Jp_congr (pr' := fun o => if o = A.n then par else A.par o) (f' := fun o => if o = A.n then 8 * (A.tp r + 1) + r else A.id o) (g' := fun o => (if o = A.n then 0 else A.gone o) = 0) (hLx.2.2.2 hkd) (by
      intro o ho
      have := hLn o ho
      refine ⟨by simp [this], by simp [this], ?_⟩
      intro h
      simpa [this] using h)
    rw [← hLL] at hJ
    refine Jp_insert hJ hnd ?_ ?_ ?_ ?_ ?_
    · simp only [if_true]
      cases hp : par with
      | none => rw [hp] at he0; exact he0
      | some p =>
        rw [hp] at he0
        obtain ⟨a, ha⟩ := he0
        have h1 := L_mem hA (hpL p hp)
        refine ⟨a, ha, ?_⟩
        rw [if_neg (hLn p (hpL p hp))]
        exact nid_gt hA h1.1 ((inV_owns hA h1.1 hlk).mp (hpv p hp))
    · intro y hy
      have h1 := takeWhile_all hy
      simp only [decide_eq_true_eq] at h1
      have h2 := hLn y (by rw [hL]; exact List.mem_append.mpr (Or.inr (tk_mem hy)))
      simp only [if_true, h2, if_false]
      exact h1
    · intro y c' hc
      have h1 := dropWhile_head hc
      simp only [decide_eq_false_iff_not] at h1
      have h2 := hLn y (by rw [← hLL, hc]; simp)
      simp only [if_true, h2, if_false]
      omega
    · intro y q hy hq
      rw [hLL] at hy
      have h1 := L_ins hA hkd hy
      have h2 := hLn y hy
      simp only [h2, if_false] at hq
      have h3 := (hA.2.2.1.2.2.2.2.1 y h1.1 h1.2.2.2).2.2.2.2.2 q hq
      have h4 : q ≠ A.n := by omega
      simp only [h2, h4, if_false]
      exact h3.2.2.2.1
    · intro y hy hg
      rw [hLL] at hy
      have h1 := L_mem hA hy
      have h2 := hLn y hy
      simp only [h2, if_false] at hg
      simp only [if_true, h2, if_false]
      exact nid_ne hA hr h1.1 hg
theorem VC_mk (hv : VC C A r) {q : Nat} {C' : CS} (hc : ∀ p, C'.a 12 8 p = C.a 12 8 p) : VC C' (A.mk q x act num ins par s key pre pl Lx Os) r := by
  intro a ha
  rw [hc]
  exact hv a ha
theorem setP_a {r' : Nat → Nat → Nat → Option Nat} : (C.setP r').a = C.a := rfl
theorem setP_q {r' : Nat → Nat → Nat → Option Nat} : (C.setP r').q = C.q := rfl
theorem setP_l {r' : Nat → Nat → Nat → Option Nat} : (C.setP r').l = C.l := rfl
theorem setP_z {r' : Nat → Nat → Nat → Option Nat} : (C.setP r').z = C.z := rfl
theorem frC_T {D : CS} {r' : Nat → Nat → Nat → Option Nat} {a J : Nat} {v : Int32} (h : ∀ k g j, k ≠ 3 → k ≠ 7 → r' k g j = D.r k g j) : frC D (((D.setI 3 5 a v).new 7 J 0).setP r') := by
  refine ⟨?_, ?_, ?_, ?_, ?_, ?_, ?_, ?_, ?_, ?_, ?_, ?_⟩
  · intro f j; rw [setP_i, CS.i_new, if_neg (by omega), CS.i_setI, if_neg (by omega)]
  · intro f j; exact h 11 f j (by decide) (by decide)
  · intro f j; rw [setP_i, CS.i_new, if_neg (by omega), CS.i_setI, if_neg (by omega)]
  · intro f j; exact h 1 f j (by decide) (by decide)
  · intro f j _; rw [setP_i, CS.i_new, if_neg (by omega), CS.i_setI, if_neg (by omega)]
  · intro f j; exact h 5 f j (by decide) (by decide)
  · intro j p _; rw [setP_a, CS.a_new, if_neg (by omega), CS.a_setI]
  · intro j; rw [setP_z, CS.z_new, if_neg (by omega), CS.z_setI]
  · intro f j; rw [setP_i, CS.i_new, if_neg (by omega), CS.i_setI, if_neg (by omega)]
  · intro f j; rw [setP_l, CS.l_new, if_neg (by omega), CS.l_setI]
  · intro f j; exact h 9 f j (by decide) (by decide)
  · intro f j; rw [setP_i, CS.i_new, if_neg (by omega), CS.i_setI, if_neg (by omega)]
theorem cJ_writeBehind (G : RC N C A rd) (hA : AI A) (hv : VC C A r) (hr : r < 8) (hlk : A.lk r = none) (hn : A.n < 4000) (hact : act ≤ 8) (hx : A.oV r x) (hkd : A.kd x ≠ 6) (hpar : ∀ p, par = some p → p ∈ A.L x ∧ A.inV r p = true) :
    ∃ N' C' Lx, m_cJT_writeBehind N 0 C r (ox x) (par.map (· + 1)) (nI act) num = some ((N', C', some (A.n + 1)), 2, 18) ∧ RC N' C' (A.mk r x act num 1 par A.n [] [] (A.oi par) Lx [A.n]) rd ∧ AI (A.mk r x act num 1 par A.n [] [] (A.oi par) Lx [A.n]) ∧ VC C' (A.mk r x act num 1 par A.n [] [] (A.oi par) Lx [A.n]) r ∧ frC C C' := by
  obtain ⟨u0, u1, u2, u3, u4, u5, u6, u7, u8, u9, u10, u11, u12, u13, u14, u15, u16, u17, u18⟩ := G.nn
  obtain ⟨s1, s2, s3, s4, s5, s6, s7, s8, s9, s10, s11, s12, s13, s14, s15, s16, s17, s18, s19, s20, s21⟩ := G.st
  have hxl := oV_ltn hx
  have hox := ox_lt hxl
  have hsplit : ∃ e0 rest, A.L x = e0 ++ rest ∧ e0OK par e0 := by
    cases hp : par with
    | none => exact ⟨[], A.L x, rfl, rfl⟩
    | some p =>
      obtain ⟨a, b, hab⟩ := List.append_of_mem (hpar p hp).1
      exact ⟨a ++ [p], b, by rw [hab]; simp, a, rfl⟩
  obtain ⟨e0, rest, hL, he0⟩ := hsplit
  have hok := mkOK_ins (num := num) hA hr hlk hn hA.1.2.2.1 hact hx hkd hL he0 (fun p hp => (hpar p hp).2)
  have hm1 := cS_make1 G hA hr hxl (by omega : act ≤ 10) (num := num) hn
  obtain ⟨U, hsc, hfr⟩ := cS_make (num := num) (ins := 1) (par := par) (s := A.n) (pl := A.oi par) (Lx := e0 ++ rest.takeWhile (fun t => decide (8 * (A.tp r + 1) + r < A.id t)) ++ A.n :: rest.dropWhile (fun t => decide (8 * (A.tp r + 1) + r < A.id t))) (Os := [A.n]) G hA hr hxl (by omega : act ≤ 10) hn
  have e3 : (mkC C N A r x act num).r 11 0 0 = some 0 := by rw [hfr.2.1]; exact s1
  have e4 : ∀ p, (mkC C N A r x act num).a 12 8 p = C.a 12 8 p := fun p => rfl
  generalize mkC C N A r x act num = D at hm1 U hsc hfr e3 e4
  obtain ⟨r', k1, k2, k3⟩ := cS_openElement hA hr hxl hL he0 rfl rfl U
  refine ⟨_, _, _, ?_, ⟨k2, ?_⟩, mk_AI hA hok, VC_mk hv (fun p => by rw [setP_a, CS.a_new, if_neg (by omega), CS.a_setI]; exact e4 p), ?_⟩
  · have hpg : ∀ {τ : Type} (k : Option τ), gv (par.map (· + 1)) (A.n + 1) k = k := by
      intro τ k
      cases hp : par with
      | none => rfl
      | some p => exact gv_ok (by have := (L_mem hA (hpar p hp).1).1; show p + 1 < A.n + 1; omega)
    have e1 : Nup N 3 3 = A.n + 2 := by rw [nup_i, if_pos rfl, u3]
    have e2 : Nup N 3 8 = N 8 := rfl
    unfold m_cJT_writeBehind m_cJT_writeBehind_J0
    simp (disch := omega) only [gd_ok, cl_nI, nI_s, nI_add, nI_leI, nI_ltI, nI_eq, if_pos, if_neg, q0, q1, q2, q3, q4, q5, q6, q7, q8, q9, q10, CS.i_setI, CS.l_setI, CS.r_setI, CS.a_setI, CS.q_setI, CS.z_setI, CS.i_setL, CS.l_setL, CS.r_setL, CS.a_setL, CS.q_setL, CS.z_setL, CS.i_setR, CS.l_setR, CS.r_setR, CS.a_setR, CS.q_setR, CS.z_setR, CS.i_setA, CS.l_setA, CS.r_setA, CS.a_setA, CS.q_setA, CS.z_setA, CS.i_setQ, CS.l_setQ, CS.r_setQ, CS.a_setQ, CS.q_setQ, CS.z_setQ, CS.i_setF, CS.l_setF, CS.r_setF, CS.a_setF, CS.q_setF, CS.z_setF, CS.i_new, CS.l_new, CS.r_new, CS.a_new, CS.q_new, CS.z_new, Nat.reduceEqDiff, false_and, true_and, and_false, and_true, if_true, if_false, b2_0, b2_1, b2_nn, n0_or, n1_or, n10, n01, dec1, dec2, ob_ok, oe_l, oe_r, gl_ok, gle_ok, gn_s, gv_ok, gv_none, on_none, onSome,u11, u3, u4, u8, s1, hpg, hm1, oq_ok, e1, e2, e3, k1, ov_ok, al_ok]
  · refine ⟨?_, ?_, ?_⟩
    · rw [setP_i, CS.i_new, if_neg (by omega), CS.i_setI, if_neg (by omega)]
      exact hsc.1
    · intro j hj
      obtain ⟨t, t1, t2⟩ := hsc.2.1 j hj
      refine ⟨t, t1, ?_⟩
      rw [setP_i, CS.i_new, if_neg (by omega), CS.i_setI, if_neg (by omega)]
      exact t2
    · intro p y hq
      rw [setP_q, CS.q_new, if_neg (by omega), CS.q_setI] at hq
      exact hsc.2.2 p y hq
  · refine hfr.trans (frC_T (fun k g j => k3 k g j))
end WR
