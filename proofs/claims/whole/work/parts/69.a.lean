/-! THE CLASS: new objects; make. -/
section NW
variable {N : Nat → Nat} {C : CS} {A : AS} {r rd : Nat}
theorem WF_wfN (h : WF N C) {k : Nat} : wfN N C k := by
  refine ⟨?_, ?_⟩
  · intro k1 f1 j1 h1 h2 h3 h4
    have := h.1 k1 f1 j1 k (N k) h1 h2 h3 h4
    omega
  · intro k1 j1 p1 h1 h2 h3 h4 h5
    have := h.2 k1 j1 p1 (N k) h1 h2 h3 h5
    rw [h4] at this
    omega
theorem al_ok {τ : Type} {c s : Nat} {t : τ} {a b : Nat} : al c s (some (t, a, b)) = some (t, a + c, b + s) := rfl
theorem oa_ok {α τ : Type} {o : α} {a b : Nat} {f : α → Option (τ × Nat × Nat)} : oa (some (o, a, b)) f = al a b (f o) := rfl
theorem ov_ok {α τ : Type} {n : Nat → Nat} {o : α} {a b : Nat} {f : (Nat → Nat) → α → Option (τ × Nat × Nat)} : ov (some ((n, o), a, b)) f = al a b (f n o) := rfl
theorem oq_ok {α τ : Type} {n : Nat → Nat} {c : CS} {o : α} {a b : Nat} {f : (Nat → Nat) → CS → α → Option (τ × Nat × Nat)} : oq (some ((n, c, o), a, b)) f = al a b (f n c o) := rfl
theorem nup_i {k j : Nat} : Nup N k j = if j = k then N k + 1 else N j := rfl
theorem WF_setR (h : WF N C) {k f j : Nat} {v : Option Nat} (hv : ∀ t y, (cFT.getD k [])[f]? = some (t + 2) → v = some y → y < N t) : WF N (C.setR k f j v) := by
  refine ⟨?_, h.2⟩
  intro k1 f1 j1 t y h1 h2 h3 h4
  rw [CS.r_setR] at h4
  split at h4
  · rename_i e
    obtain ⟨rfl, rfl, rfl⟩ := e
    exact hv t y h3 h4
  · exact h.1 k1 f1 j1 t y h1 h2 h3 h4
theorem WF_setQ (h : WF N C) {k j p : Nat} {v : Option Nat} (hv : ∀ y, v = some y → y < N (cET k)) : WF N (C.setQ k j p v) := by
  refine ⟨h.1, ?_⟩
  intro k1 j1 p1 y h1 h2 h3 h4
  rw [CS.q_setQ] at h4
  split at h4
  · rename_i e
    obtain ⟨rfl, rfl, rfl⟩ := e
    exact hv y h4
  · exact h.2 k1 j1 p1 y h1 h2 h3 h4
theorem WF_new (h : WF N C) {k n : Nat} : WF (Nup N k) (C.new k (N k) n) := by
  have hup : ∀ t, N t ≤ Nup N k t := by
    intro t
    rw [nup_i]
    split
    · rename_i e; subst e; omega
    · omega
  refine ⟨?_, ?_⟩
  · intro k1 f1 j1 t y h1 h2 h3 h4
    rw [CS.r_new] at h4
    split at h4
    · cases h4
    · rename_i e
      have : j1 < N k1 := by
        rw [nup_i] at h2
        split at h2
        · rename_i e2; subst e2
          have : j1 ≠ N k1 := fun h => e ⟨rfl, h⟩
          omega
        · exact h2
      have := h.1 k1 f1 j1 t y h1 this h3 h4
      have := hup t
      omega
  · intro k1 j1 p1 y h1 h2 h3 h4
    rw [CS.q_new] at h4
    split at h4
    · cases h4
    · rename_i e
      have : j1 < N k1 := by
        rw [nup_i] at h3
        split at h3
        · rename_i e2; subst e2
          have : j1 ≠ N k1 := fun h => e ⟨rfl, h⟩
          omega
        · exact h3
      have := h.2 k1 j1 p1 y h1 h2 this h4
      have := hup (cET k1)
      omega
/-- the fields of an op that make writes -/
def RC_opm (C : CS) (B : AS) : Prop := ∀ o, o < B.n → C.i 3 0 (o + 1) = nI (B.id o) ∧ C.r 3 1 (o + 1) = some (ox (B.obj o)) ∧ C.i 3 2 (o + 1) = nI (B.act o) ∧ C.l 3 3 (o + 1) = B.num o ∧ C.i 3 4 (o + 1) = nI (if B.gone o = 0 then B.cn o else 1002) ∧ C.i 3 8 (o + 1) = nI (B.ba o) ∧ C.i 3 9 (o + 1) = nI (B.key o).length ∧ C.i 3 10 (o + 1) = nI (B.str o).length
/-- the fields that are written when it is put into its place: of the ops of A -/
def RC_opl (C : CS) (A : AS) : Prop := ∀ o, o < A.n → C.i 3 5 (o + 1) = nI (A.ins o) ∧ C.r 3 6 (o + 1) = (A.par o).map (· + 1) ∧ C.r 3 11 (o + 1) = some (A.sj (A.sp o))
/-- B is A and one op more, which is made, but stands nowhere yet -/
def RCu (N : Nat → Nat) (C : CS) (A B : AS) : Prop := (N 0 = A.m ∧ N 1 = 1 ∧ N 2 = 1 ∧ N 3 = A.n + 2 ∧ N 4 = 8 ∧ N 5 = 7 ∧ N 6 = 1 ∧ N 7 = A.ns ∧ N 8 = 1 ∧ N 9 = 500 ∧ N 10 = 1 ∧ N 11 = 1 ∧ N 12 = 10 + A.m ∧ N 13 = 7 ∧ N 14 = 8 ∧ 2 ≤ N 15 ∧ N 16 = 9 + A.m ∧ N 17 = 1 ∧ N 18 = 1) ∧
  WF N C ∧ RC_st C ∧ RC_sz C A.m ∧ RC_rt C ∧ RC_pr N C B ∧ RC_id C B ∧ RC_kp C B ∧ RC_cg C B ∧ RC_rp C B ∧ RC_opm C B ∧ RC_opl C A ∧ RC_ln C A ∧ (C.i 3 5 (A.n + 1) = nI 0 ∧ C.r 3 6 (A.n + 1) = none ∧ C.r 3 13 (A.n + 1) = none)
/-- what stands outside the store, the view and the replicas is untouched -/
def frC (C C' : CS) : Prop := (∀ f j, C'.i 11 f j = C.i 11 f j) ∧ (∀ f j, C'.r 11 f j = C.r 11 f j) ∧ (∀ f j, C'.i 1 f j = C.i 1 f j) ∧ (∀ f j, C'.r 1 f j = C.r 1 f j) ∧ (∀ f j, j ≠ 0 → C'.i 5 f j = C.i 5 f j) ∧ (∀ f j, C'.r 5 f j = C.r 5 f j) ∧ (∀ j p, j ≠ 0 → C'.a 13 j p = C.a 13 j p) ∧ (∀ j, C'.z 13 j = C.z 13 j) ∧ (∀ f j, C'.i 9 f j = C.i 9 f j) ∧ (∀ f j, C'.l 9 f j = C.l 9 f j) ∧ (∀ f j, C'.r 9 f j = C.r 9 f j) ∧ (∀ f j, C'.i 6 f j = C.i 6 f j)
theorem frC.refl {C : CS} : frC C C := ⟨fun _ _ => rfl, fun _ _ => rfl, fun _ _ => rfl, fun _ _ => rfl, fun _ _ _ => rfl, fun _ _ => rfl, fun _ _ _ => rfl, fun _ => rfl, fun _ _ => rfl, fun _ _ => rfl, fun _ _ => rfl, fun _ _ => rfl⟩
theorem frC.trans {C C' C'' : CS} (h : frC C C') (g : frC C' C'') : frC C C'' :=
  ⟨fun f j => (g.1 f j).trans (h.1 f j), fun f j => (g.2.1 f j).trans (h.2.1 f j), fun f j => (g.2.2.1 f j).trans (h.2.2.1 f j), fun f j => (g.2.2.2.1 f j).trans (h.2.2.2.1 f j), fun f j e => (g.2.2.2.2.1 f j e).trans (h.2.2.2.2.1 f j e), fun f j => (g.2.2.2.2.2.1 f j).trans (h.2.2.2.2.2.1 f j), fun f j e => (g.2.2.2.2.2.2.1 f j e).trans (h.2.2.2.2.2.2.1 f j e), fun j => (g.2.2.2.2.2.2.2.1 j).trans (h.2.2.2.2.2.2.2.1 j), fun f j => (g.2.2.2.2.2.2.2.2.1 f j).trans (h.2.2.2.2.2.2.2.2.1 f j), fun f j => (g.2.2.2.2.2.2.2.2.2.1 f j).trans (h.2.2.2.2.2.2.2.2.2.1 f j), fun f j => (g.2.2.2.2.2.2.2.2.2.2.1 f j).trans (h.2.2.2.2.2.2.2.2.2.2.1 f j), fun f j => (g.2.2.2.2.2.2.2.2.2.2.2 f j).trans (h.2.2.2.2.2.2.2.2.2.2.2 f j)⟩
theorem chn_congr {f g : Nat → Option Nat} : ∀ {l : List Nat} {h : Option Nat}, (∀ x, x ∈ l → f x = g x) → chn f h l → chn g h l := by
  intro l
  induction l with
  | nil => intro h _ h1; exact h1
  | cons a l ih =>
    intro h he h1
    refine ⟨h1.1, ?_⟩
    rw [← he a (by simp)]
    exact ih (fun x hx => he x (by simp [hx])) h1.2
theorem cntTo_congr {p q : Nat → Bool} {n : Nat} (h : ∀ i, i < n → p i = q i) : cntTo p n = cntTo q n := by
  induction n with
  | zero => rfl
  | succ n ih => rw [cntTo, cntTo, ih (fun i hi => h i (by omega)), h n (by omega)]
/-- the state behind make -/
def mkC (C : CS) (N : Nat → Nat) (A : AS) (r : Nat) (x : Option Nat) (act : Nat) (num : Int64) : CS :=
  (((((((((((C.setI 4 8 r (nI (A.tp r + 1))).setI 4 7 r (nI (A.nop r + 1))).setI 4 9 r (nI (A.on r + 1))).setI 8 5 0 (nI (A.n + 1))).new 3 (A.n + 1) 0).setI 3 0 (A.n + 1) (nI (8 * (A.tp r + 1) + r))).setR 3 1 (A.n + 1) (some (ox x))).setI 3 2 (A.n + 1) (nI act)).setL 3 3 (A.n + 1) (if act = 3 ∨ act = 5 ∨ act = 10 then num else 0)).setI 3 4 (A.n + 1) (nI (A.hv r r + 1))).setI 3 8 (A.n + 1) (nI A.kn)).setQ 15 0 (8 * (A.tp r + 1) + r) (some (A.n + 1))
theorem cS_make1 (G : RC N C A rd) (hA : AI A) (hr : r < 8) {x : Option Nat} (hx : ∀ m, x = some m → m < A.n) {act : Nat} (hact : act ≤ 10) {num : Int64} (hn : A.n < 4000) :
    m_cSt_make N 0 C r (ox x) (nI act) num = some ((Nup N 3, mkC C N A r x act num, some (A.n + 1)), 1, 15) := by
  obtain ⟨u0, u1, u2, u3, u4, u5, u6, u7, u8, u9, u10, u11, u12, u13, u14, u15, u16, u17, u18⟩ := G.nn
  obtain ⟨s1, s2, s3, s4, s5, s6, s7, s8, s9, s10, s11, s12, s13, s14, s15, s16, s17, s18, s19, s20, s21⟩ := G.st
  have htp := (hA.2.2.2.1.1 r)
  have hox := ox_lt hx
  have hrp := G.rp r hr
  have hsz := G.sz.2.2.2.2.2.2.2.2.2.2.2.2.1 r hr
  have hz12 := G.sz.2.2.2.2.2.2.2.2.2.2.2.2.2.1 r (by omega)
  have hcg := G.cg
  have hkp := G.kp.1
  have hz0 := G.sz.1
  have hhv := hv_le hA (q := r) (a := r)
  have hnop : A.nop r ≤ A.n := cntTo_le _ _
  have hwf : wfN N ((((C.setI 4 8 r (nI (A.tp r + 1))).setI 4 7 r (nI (A.nop r + 1))).setI 4 9 r (nI (A.on r + 1))).setI 8 5 0 (nI (A.n + 1))) 3 := WF_wfN (C := C) G.1.2.1
  have hN3 : Nup N 3 3 = A.n + 2 := by rw [nup_i, if_pos rfl, u3]
  have hNk : ∀ k, k ≠ 3 → Nup N 3 k = N k := fun k hk => if_neg hk
  unfold m_cSt_make m_cSt_make_J0 nw
  simp (disch := omega) only [gd_ok, cl_nI, nI_s, nI_add, nI_leI, nI_ltI, nI_eq, if_pos, if_neg, q0, q1, q2, q3, q4, q5, q6, q7, q8, q9, q10, CS.i_setI, CS.l_setI, CS.r_setI, CS.a_setI, CS.q_setI, CS.z_setI, CS.i_setL, CS.l_setL, CS.r_setL, CS.a_setL, CS.q_setL, CS.z_setL, CS.i_setR, CS.l_setR, CS.r_setR, CS.a_setR, CS.q_setR, CS.z_setR, CS.i_setA, CS.l_setA, CS.r_setA, CS.a_setA, CS.q_setA, CS.z_setA, CS.i_setQ, CS.l_setQ, CS.r_setQ, CS.a_setQ, CS.q_setQ, CS.z_setQ, CS.i_setF, CS.l_setF, CS.r_setF, CS.a_setF, CS.q_setF, CS.z_setF, CS.i_new, CS.l_new, CS.r_new, CS.a_new, CS.q_new, CS.z_new, Nat.reduceEqDiff, false_and, true_and, and_false, and_true, if_true, if_false, b2_0, b2_1, b2_nn, n0_or, n1_or, n10, n01, dec1, dec2, ob_ok, oe_l, oe_r, gl_ok, gle_ok, gn_s, gv_ok, gv_none, on_none, onSome,u4, u8, u3, hrp.2.2.2.2.2.2.1, hrp.2.2.2.2.2.2.2.1, hrp.2.2.2.2.2.2.2.2, hcg.2.1, gW_ok hwf, pk_mul]
  unfold m_cOp_init m_cOp_init_J0 m_cOp_init_J36 m_cOp_init_J42
  simp (disch := omega) only [gd_ok, cl_nI, nI_s, nI_add, nI_leI, nI_ltI, nI_eq, if_pos, if_neg, q0, q1, q2, q3, q4, q5, q6, q7, q8, q9, q10, CS.i_setI, CS.l_setI, CS.r_setI, CS.a_setI, CS.q_setI, CS.z_setI, CS.i_setL, CS.l_setL, CS.r_setL, CS.a_setL, CS.q_setL, CS.z_setL, CS.i_setR, CS.l_setR, CS.r_setR, CS.a_setR, CS.q_setR, CS.z_setR, CS.i_setA, CS.l_setA, CS.r_setA, CS.a_setA, CS.q_setA, CS.z_setA, CS.i_setQ, CS.l_setQ, CS.r_setQ, CS.a_setQ, CS.q_setQ, CS.z_setQ, CS.i_setF, CS.l_setF, CS.r_setF, CS.a_setF, CS.q_setF, CS.z_setF, CS.i_new, CS.l_new, CS.r_new, CS.a_new, CS.q_new, CS.z_new, Nat.reduceEqDiff, false_and, true_and, and_false, and_true, if_true, if_false, b2_0, b2_1, b2_nn, n0_or, n1_or, n10, n01, dec1, dec2, ob_ok, oe_l, oe_r, gl_ok, gle_ok, gn_s, gv_ok, gv_none, on_none, onSome,hN3, hNk 12 (by decide), hNk 5 (by decide), hNk 15 (by decide), hsz.1, pk_mul, hsz.2.1, u12, hz12, u5, u15, s10, s9, hz0, hkp, hrp.1 r hr]
  have hif : ∀ D : CS, (if act = 3 then some (D.setL 3 3 (A.n + 1) num) else if act = 5 then some (D.setL 3 3 (A.n + 1) num) else if act = 10 then some (D.setL 3 3 (A.n + 1) num) else some (D.setL 3 3 (A.n + 1) 0)) = some (D.setL 3 3 (A.n + 1) (if act = 3 ∨ act = 5 ∨ act = 10 then num else 0)) := by
    intro D
    by_cases c3 : act = 3
    · rw [if_pos c3, if_pos (Or.inl c3)]
    · rw [if_neg c3]
      by_cases c5 : act = 5
      · rw [if_pos c5, if_pos (Or.inr (Or.inl c5))]
      · rw [if_neg c5]
        by_cases c10 : act = 10
        · rw [if_pos c10, if_pos (Or.inr (Or.inr c10))]
        · rw [if_neg c10, if_neg (by simp [c3, c5, c10])]
  rw [hif]
  simp (disch := omega) only [gd_ok, cl_nI, nI_s, nI_add, nI_leI, nI_ltI, nI_eq, if_pos, if_neg, q0, q1, q2, q3, q4, q5, q6, q7, q8, q9, q10, CS.i_setI, CS.l_setI, CS.r_setI, CS.a_setI, CS.q_setI, CS.z_setI, CS.i_setL, CS.l_setL, CS.r_setL, CS.a_setL, CS.q_setL, CS.z_setL, CS.i_setR, CS.l_setR, CS.r_setR, CS.a_setR, CS.q_setR, CS.z_setR, CS.i_setA, CS.l_setA, CS.r_setA, CS.a_setA, CS.q_setA, CS.z_setA, CS.i_setQ, CS.l_setQ, CS.r_setQ, CS.a_setQ, CS.q_setQ, CS.z_setQ, CS.i_setF, CS.l_setF, CS.r_setF, CS.a_setF, CS.q_setF, CS.z_setF, CS.i_new, CS.l_new, CS.r_new, CS.a_new, CS.q_new, CS.z_new, Nat.reduceEqDiff, false_and, true_and, and_false, and_true, if_true, if_false, b2_0, b2_1, b2_nn, n0_or, n1_or, n10, n01, dec1, dec2, ob_ok, oe_l, oe_r, gl_ok, gle_ok, gn_s, gv_ok, gv_none, on_none, onSome,hsz.1, hsz.2.1, hz12, s10, s9, hz0, hkp, hrp.1 r hr, al_ok]
  rfl
/-- the abstract new op -/
theorem cS_make (G : RC N C A rd) (hA : AI A) (hr : r < 8) {x : Option Nat} (hx : ∀ m, x = some m → m < A.n) {act : Nat} (hact : act ≤ 10) {num : Int64} (hn : A.n < 4000) {ins : Nat} {par : Option Nat} {s pl : Nat} {Lx Os : List Nat} :
    RCu (Nup N 3) (mkC C N A r x act num) A (A.mk r x act num ins par s [] [] pl Lx Os) ∧ SC (A.mk r x act num ins par s [] [] pl Lx Os) (mkC C N A r x act num) rd ∧ frC C (mkC C N A r x act num) := by
  obtain ⟨u0, u1, u2, u3, u4, u5, u6, u7, u8, u9, u10, u11, u12, u13, u14, u15, u16, u17, u18⟩ := G.nn
  have hox := ox_lt hx
  have htp := (hA.2.2.2.1.1 r)
  have hN3 : Nup N 3 3 = A.n + 2 := by rw [nup_i, if_pos rfl, u3]
  have hNk : ∀ k, k ≠ 3 → Nup N 3 k = N k := fun k hk => if_neg hk
  have hne : ∀ o, o < A.n → ¬ o + 1 = A.n + 1 := fun o h => by omega
  have hop := G.op
  refine ⟨⟨⟨?_, ?_⟩, ?_, ?_, ?_, ?_, ?_, ?_, ?_, ?_, ?_, ?_, ?_, ?_, ?_⟩, ?_, ?_⟩
  · rw [hNk 0 (by decide)]; exact u0
  · rw [hN3, hNk 1 (by decide), hNk 2 (by decide), hNk 4 (by decide), hNk 5 (by decide), hNk 6 (by decide), hNk 7 (by decide), hNk 8 (by decide), hNk 9 (by decide), hNk 10 (by decide), hNk 11 (by decide), hNk 12 (by decide), hNk 13 (by decide), hNk 14 (by decide), hNk 15 (by decide), hNk 16 (by decide), hNk 17 (by decide), hNk 18 (by decide)]
    exact ⟨u1, u2, rfl, u4, u5, u6, u7, u8, u9, u10, u11, u12, u13, u14, u15, u16, u17, u18⟩
  · -- WF
    have w0 : WF N ((((C.setI 4 8 r (nI (A.tp r + 1))).setI 4 7 r (nI (A.nop r + 1))).setI 4 9 r (nI (A.on r + 1))).setI 8 5 0 (nI (A.n + 1))) := G.1.2.1
    have w1 := WF_new w0 (k := 3) (n := 0)
    rw [u3] at w1
    unfold mkC
    refine WF_setQ ?_ ?_
    · refine WF_setR (C := (((((C.setI 4 8 r (nI (A.tp r + 1))).setI 4 7 r (nI (A.nop r + 1))).setI 4 9 r (nI (A.on r + 1))).setI 8 5 0 (nI (A.n + 1))).new 3 (A.n + 1) 0).setI 3 0 (A.n + 1) (nI (8 * (A.tp r + 1) + r))) w1 ?_
      intro t y h1 h2
      have : t = 3 := by
        have e : (cFT.getD 3 [])[1]? = some (3 + 2) := by decide
        rw [e] at h1
        have := Option.some.inj h1
        omega
      subst this
      cases h2
      rw [hN3]
      omega
    · intro y hy
      cases hy
      show A.n + 1 < Nup N 3 3
      rw [hN3]
      omega
  · exact G.st
  · have hz := G.sz
    unfold RC_sz at hz ⊢
    unfold mkC
    simp only [CS.i_setI, CS.l_setI, CS.r_setI, CS.a_setI, CS.q_setI, CS.z_setI, CS.i_setL, CS.l_setL, CS.r_setL, CS.a_setL, CS.q_setL, CS.z_setL, CS.i_setR, CS.l_setR, CS.r_setR, CS.a_setR, CS.q_setR, CS.z_setR, CS.i_setA, CS.l_setA, CS.r_setA, CS.a_setA, CS.q_setA, CS.z_setA, CS.i_setQ, CS.l_setQ, CS.r_setQ, CS.a_setQ, CS.q_setQ, CS.z_setQ, CS.i_setF, CS.l_setF, CS.r_setF, CS.a_setF, CS.q_setF, CS.z_setF, CS.i_new, CS.l_new, CS.r_new, CS.a_new, CS.q_new, CS.z_new, Nat.reduceEqDiff, false_and, if_false, and_false]
    exact hz
  · have := G.rt
    unfold RC_rt at this ⊢
    unfold mkC
    have h0 : ¬ (0 : Nat) = A.n + 1 := by omega
    simp only [CS.i_setI, CS.l_setI, CS.r_setI, CS.a_setI, CS.q_setI, CS.z_setI, CS.i_setL, CS.l_setL, CS.r_setL, CS.a_setL, CS.q_setL, CS.z_setL, CS.i_setR, CS.l_setR, CS.r_setR, CS.a_setR, CS.q_setR, CS.z_setR, CS.i_setA, CS.l_setA, CS.r_setA, CS.a_setA, CS.q_setA, CS.z_setA, CS.i_setQ, CS.l_setQ, CS.r_setQ, CS.a_setQ, CS.q_setQ, CS.z_setQ, CS.i_setF, CS.l_setF, CS.r_setF, CS.a_setF, CS.q_setF, CS.z_setF, CS.i_new, CS.l_new, CS.r_new, CS.a_new, CS.q_new, CS.z_new, Nat.reduceEqDiff, false_and, true_and, h0, if_false, and_false]
    exact this
  · intro o ho
    rw [mk_n] at ho
    rw [mk_pre]
    unfold mkC
    by_cases e : o = A.n
    · subst e
      simp only [if_true]
      simp only [CS.i_setI, CS.l_setI, CS.r_setI, CS.a_setI, CS.q_setI, CS.z_setI, CS.i_setL, CS.l_setL, CS.r_setL, CS.a_setL, CS.q_setL, CS.z_setL, CS.i_setR, CS.l_setR, CS.r_setR, CS.a_setR, CS.q_setR, CS.z_setR, CS.i_setA, CS.l_setA, CS.r_setA, CS.a_setA, CS.q_setA, CS.z_setA, CS.i_setQ, CS.l_setQ, CS.r_setQ, CS.a_setQ, CS.q_setQ, CS.z_setQ, CS.i_setF, CS.l_setF, CS.r_setF, CS.a_setF, CS.q_setF, CS.z_setF, CS.i_new, CS.l_new, CS.r_new, CS.a_new, CS.q_new, CS.z_new, Nat.reduceEqDiff, false_and, true_and, if_true, if_false, and_false, and_self]
    · rw [if_neg e]
      have h1 := G.pr o (by omega)
      have h2 := hne o (by omega)
      rw [hNk 15 (by decide)]
      cases hp : A.pre o with
      | nil =>
        rw [hp] at h1
        simp only [CS.i_setI, CS.l_setI, CS.r_setI, CS.a_setI, CS.q_setI, CS.z_setI, CS.i_setL, CS.l_setL, CS.r_setL, CS.a_setL, CS.q_setL, CS.z_setL, CS.i_setR, CS.l_setR, CS.r_setR, CS.a_setR, CS.q_setR, CS.z_setR, CS.i_setA, CS.l_setA, CS.r_setA, CS.a_setA, CS.q_setA, CS.z_setA, CS.i_setQ, CS.l_setQ, CS.r_setQ, CS.a_setQ, CS.q_setQ, CS.z_setQ, CS.i_setF, CS.l_setF, CS.r_setF, CS.a_setF, CS.q_setF, CS.z_setF, CS.i_new, CS.l_new, CS.r_new, CS.a_new, CS.q_new, CS.z_new, Nat.reduceEqDiff, false_and, true_and, h2, if_false, and_false]
        exact h1
      | cons a l =>
        rw [hp] at h1
        obtain ⟨j, b1, b2, b3, b4, b5⟩ := h1
        have hj0 : ¬ j = 0 := by omega
        refine ⟨j, b1, b2, ?_⟩
        simp only [CS.i_setI, CS.l_setI, CS.r_setI, CS.a_setI, CS.q_setI, CS.z_setI, CS.i_setL, CS.l_setL, CS.r_setL, CS.a_setL, CS.q_setL, CS.z_setL, CS.i_setR, CS.l_setR, CS.r_setR, CS.a_setR, CS.q_setR, CS.z_setR, CS.i_setA, CS.l_setA, CS.r_setA, CS.a_setA, CS.q_setA, CS.z_setA, CS.i_setQ, CS.l_setQ, CS.r_setQ, CS.a_setQ, CS.q_setQ, CS.z_setQ, CS.i_setF, CS.l_setF, CS.r_setF, CS.a_setF, CS.q_setF, CS.z_setF, CS.i_new, CS.l_new, CS.r_new, CS.a_new, CS.q_new, CS.z_new, Nat.reduceEqDiff, false_and, true_and, h2, hj0, if_false, and_false]
        exact ⟨b3, b4, b5⟩
  · -- by id
    have hid := G.idd
    refine ⟨?_, ?_⟩
    · intro o ho hg
      rw [mk_n] at ho
      rw [mk_gone] at hg
      rw [mk_id]
      unfold mkC
      by_cases e : o = A.n
      · subst e
        simp only [if_true, CS.i_setI, CS.l_setI, CS.r_setI, CS.a_setI, CS.q_setI, CS.z_setI, CS.i_setL, CS.l_setL, CS.r_setL, CS.a_setL, CS.q_setL, CS.z_setL, CS.i_setR, CS.l_setR, CS.r_setR, CS.a_setR, CS.q_setR, CS.z_setR, CS.i_setA, CS.l_setA, CS.r_setA, CS.a_setA, CS.q_setA, CS.z_setA, CS.i_setQ, CS.l_setQ, CS.r_setQ, CS.a_setQ, CS.q_setQ, CS.z_setQ, CS.i_setF, CS.l_setF, CS.r_setF, CS.a_setF, CS.q_setF, CS.z_setF, CS.i_new, CS.l_new, CS.r_new, CS.a_new, CS.q_new, CS.z_new, true_and, and_self]
      · rw [if_neg e] at hg ⊢
        have h2 := nid_ne hA hr (show o < A.n by omega) hg
        simp only [CS.i_setI, CS.l_setI, CS.r_setI, CS.a_setI, CS.q_setI, CS.z_setI, CS.i_setL, CS.l_setL, CS.r_setL, CS.a_setL, CS.q_setL, CS.z_setL, CS.i_setR, CS.l_setR, CS.r_setR, CS.a_setR, CS.q_setR, CS.z_setR, CS.i_setA, CS.l_setA, CS.r_setA, CS.a_setA, CS.q_setA, CS.z_setA, CS.i_setQ, CS.l_setQ, CS.r_setQ, CS.a_setQ, CS.q_setQ, CS.z_setQ, CS.i_setF, CS.l_setF, CS.r_setF, CS.a_setF, CS.q_setF, CS.z_setF, CS.i_new, CS.l_new, CS.r_new, CS.a_new, CS.q_new, CS.z_new, Nat.reduceEqDiff, false_and, true_and, h2, if_false, and_false]
        exact hid.1 o (by omega) hg
    · intro i j hq
      unfold mkC at hq
      simp only [CS.i_setI, CS.l_setI, CS.r_setI, CS.a_setI, CS.q_setI, CS.z_setI, CS.i_setL, CS.l_setL, CS.r_setL, CS.a_setL, CS.q_setL, CS.z_setL, CS.i_setR, CS.l_setR, CS.r_setR, CS.a_setR, CS.q_setR, CS.z_setR, CS.i_setA, CS.l_setA, CS.r_setA, CS.a_setA, CS.q_setA, CS.z_setA, CS.i_setQ, CS.l_setQ, CS.r_setQ, CS.a_setQ, CS.q_setQ, CS.z_setQ, CS.i_setF, CS.l_setF, CS.r_setF, CS.a_setF, CS.q_setF, CS.z_setF, CS.i_new, CS.l_new, CS.r_new, CS.a_new, CS.q_new, CS.z_new, Nat.reduceEqDiff, false_and, true_and, if_false, and_false] at hq
      by_cases e : i = 8 * (A.tp r + 1) + r
      · rw [if_pos e] at hq
        cases hq
        exact ⟨A.n, by rw [mk_n]; omega, by rw [mk_gone, if_pos rfl], by rw [mk_id, if_pos rfl, e], rfl⟩
      · rw [if_neg e] at hq
        obtain ⟨o, o1, o2, o3, o4⟩ := hid.2 i j hq
        exact ⟨o, by rw [mk_n]; omega, by rw [mk_gone, if_neg (by omega)]; exact o2, by rw [mk_id, if_neg (by omega)]; exact o3, o4⟩
  · -- kept
    have hk := G.kp
    refine ⟨?_, ?_⟩
    · rw [mk_kn]
      unfold mkC
      simp only [CS.i_setI, CS.l_setI, CS.r_setI, CS.a_setI, CS.q_setI, CS.z_setI, CS.i_setL, CS.l_setL, CS.r_setL, CS.a_setL, CS.q_setL, CS.z_setL, CS.i_setR, CS.l_setR, CS.r_setR, CS.a_setR, CS.q_setR, CS.z_setR, CS.i_setA, CS.l_setA, CS.r_setA, CS.a_setA, CS.q_setA, CS.z_setA, CS.i_setQ, CS.l_setQ, CS.r_setQ, CS.a_setQ, CS.q_setQ, CS.z_setQ, CS.i_setF, CS.l_setF, CS.r_setF, CS.a_setF, CS.q_setF, CS.z_setF, CS.i_new, CS.l_new, CS.r_new, CS.a_new, CS.q_new, CS.z_new, Nat.reduceEqDiff, false_and, if_false, and_false]
      exact hk.1
    · intro o ho
      rw [mk_n] at ho
      rw [mk_ba, mk_key, mk_str, mk_act, mk_kn]
      unfold mkC
      simp only [CS.i_setI, CS.l_setI, CS.r_setI, CS.a_setI, CS.q_setI, CS.z_setI, CS.i_setL, CS.l_setL, CS.r_setL, CS.a_setL, CS.q_setL, CS.z_setL, CS.i_setR, CS.l_setR, CS.r_setR, CS.a_setR, CS.q_setR, CS.z_setR, CS.i_setA, CS.l_setA, CS.r_setA, CS.a_setA, CS.q_setA, CS.z_setA, CS.i_setQ, CS.l_setQ, CS.r_setQ, CS.a_setQ, CS.q_setQ, CS.z_setQ, CS.i_setF, CS.l_setF, CS.r_setF, CS.a_setF, CS.q_setF, CS.z_setF, CS.i_new, CS.l_new, CS.r_new, CS.a_new, CS.q_new, CS.z_new, Nat.reduceEqDiff, false_and, if_false, and_false]
      by_cases e : o = A.n
      · subst e
        simp only [if_true]
        refine ⟨by simp, ?_, ?_, by simp⟩
        · intro i h; simp at h
        · intro i h; simp at h
      · simp only [e, if_false]
        exact hk.2 o (by omega)
  · -- changes
    have hc := G.cg
    unfold RC_cg at hc ⊢
    unfold mkC
    simp only [CS.i_setI, CS.l_setI, CS.r_setI, CS.a_setI, CS.q_setI, CS.z_setI, CS.i_setL, CS.l_setL, CS.r_setL, CS.a_setL, CS.q_setL, CS.z_setL, CS.i_setR, CS.l_setR, CS.r_setR, CS.a_setR, CS.q_setR, CS.z_setR, CS.i_setA, CS.l_setA, CS.r_setA, CS.a_setA, CS.q_setA, CS.z_setA, CS.i_setQ, CS.l_setQ, CS.r_setQ, CS.a_setQ, CS.q_setQ, CS.z_setQ, CS.i_setF, CS.l_setF, CS.r_setF, CS.a_setF, CS.q_setF, CS.z_setF, CS.i_new, CS.l_new, CS.r_new, CS.a_new, CS.q_new, CS.z_new, Nat.reduceEqDiff, false_and, true_and, if_false, if_true, and_false, and_self]
    exact ⟨hc.1, by rw [mk_n], hc.2.2⟩
  · -- replicas
    intro q hq
    have h1 := G.rp q hq
    have hown : ∀ o, o < A.n → (A.mk r x act num ins par s [] [] pl Lx Os).owns q o = A.owns q o := by
      intro o ho
      unfold AS.owns
      rw [mk_gone, mk_chg, mk_own, if_neg (by omega), if_neg (by omega), if_neg (by omega)]
      rfl
    have hnop : (A.mk r x act num ins par s [] [] pl Lx Os).nop q = A.nop q + (if q = r then 1 else 0) := by
      unfold AS.nop
      rw [mk_n, cntTo, cntTo_congr hown]
      congr 1
      have : (A.mk r x act num ins par s [] [] pl Lx Os).owns q A.n = decide (r = q) := by
        unfold AS.owns
        rw [mk_gone, mk_chg, mk_own, if_pos rfl, if_pos rfl, if_pos rfl]
        simp
      rw [this]
      by_cases e : q = r
      · simp [e]
      · simp [e, Ne.symm e]
    have hz15 : ∀ c, (mkC C N A r x act num).q 16 (1 + q) c = C.q 16 (1 + q) c := fun c => rfl
    refine ⟨?_, ?_, ?_, ?_, ?_, ?_, ?_, ?_, ?_⟩
    · exact h1.1
    · exact h1.2.1
    · exact h1.2.2.1
    · exact h1.2.2.2.1
    · exact h1.2.2.2.2.1
    · exact h1.2.2.2.2.2.1
    · rw [hnop]
      unfold mkC
      simp only [CS.i_setI, CS.l_setI, CS.r_setI, CS.a_setI, CS.q_setI, CS.z_setI, CS.i_setL, CS.l_setL, CS.r_setL, CS.a_setL, CS.q_setL, CS.z_setL, CS.i_setR, CS.l_setR, CS.r_setR, CS.a_setR, CS.q_setR, CS.z_setR, CS.i_setA, CS.l_setA, CS.r_setA, CS.a_setA, CS.q_setA, CS.z_setA, CS.i_setQ, CS.l_setQ, CS.r_setQ, CS.a_setQ, CS.q_setQ, CS.z_setQ, CS.i_setF, CS.l_setF, CS.r_setF, CS.a_setF, CS.q_setF, CS.z_setF, CS.i_new, CS.l_new, CS.r_new, CS.a_new, CS.q_new, CS.z_new, Nat.reduceEqDiff, false_and, true_and, if_false, and_false]
      by_cases e : q = r
      · subst e; simp
      · simp only [e, if_false, Nat.add_zero]; exact h1.2.2.2.2.2.2.1
    · rw [mk_tp]
      unfold mkC
      simp only [CS.i_setI, CS.l_setI, CS.r_setI, CS.a_setI, CS.q_setI, CS.z_setI, CS.i_setL, CS.l_setL, CS.r_setL, CS.a_setL, CS.q_setL, CS.z_setL, CS.i_setR, CS.l_setR, CS.r_setR, CS.a_setR, CS.q_setR, CS.z_setR, CS.i_setA, CS.l_setA, CS.r_setA, CS.a_setA, CS.q_setA, CS.z_setA, CS.i_setQ, CS.l_setQ, CS.r_setQ, CS.a_setQ, CS.q_setQ, CS.z_setQ, CS.i_setF, CS.l_setF, CS.r_setF, CS.a_setF, CS.q_setF, CS.z_setF, CS.i_new, CS.l_new, CS.r_new, CS.a_new, CS.q_new, CS.z_new, Nat.reduceEqDiff, false_and, true_and, if_false, and_false]
      by_cases e : q = r
      · subst e; simp
      · simp only [e, if_false]; exact h1.2.2.2.2.2.2.2.1
    · rw [mk_on]
      unfold mkC
      simp only [CS.i_setI, CS.l_setI, CS.r_setI, CS.a_setI, CS.q_setI, CS.z_setI, CS.i_setL, CS.l_setL, CS.r_setL, CS.a_setL, CS.q_setL, CS.z_setL, CS.i_setR, CS.l_setR, CS.r_setR, CS.a_setR, CS.q_setR, CS.z_setR, CS.i_setA, CS.l_setA, CS.r_setA, CS.a_setA, CS.q_setA, CS.z_setA, CS.i_setQ, CS.l_setQ, CS.r_setQ, CS.a_setQ, CS.q_setQ, CS.z_setQ, CS.i_setF, CS.l_setF, CS.r_setF, CS.a_setF, CS.q_setF, CS.z_setF, CS.i_new, CS.l_new, CS.r_new, CS.a_new, CS.q_new, CS.z_new, Nat.reduceEqDiff, false_and, true_and, if_false, and_false]
      by_cases e : q = r
      · subst e; simp
      · simp only [e, if_false]; exact h1.2.2.2.2.2.2.2.2
  · -- the fields that make writes
    intro o ho
    rw [mk_n] at ho
    rw [mk_id, mk_obj, mk_act, mk_num, mk_gone, mk_cn, mk_ba, mk_key, mk_str]
    unfold mkC
    by_cases e : o = A.n
    · subst e
      simp only [CS.i_setI, CS.l_setI, CS.r_setI, CS.a_setI, CS.q_setI, CS.z_setI, CS.i_setL, CS.l_setL, CS.r_setL, CS.a_setL, CS.q_setL, CS.z_setL, CS.i_setR, CS.l_setR, CS.r_setR, CS.a_setR, CS.q_setR, CS.z_setR, CS.i_setA, CS.l_setA, CS.r_setA, CS.a_setA, CS.q_setA, CS.z_setA, CS.i_setQ, CS.l_setQ, CS.r_setQ, CS.a_setQ, CS.q_setQ, CS.z_setQ, CS.i_setF, CS.l_setF, CS.r_setF, CS.a_setF, CS.q_setF, CS.z_setF, CS.i_new, CS.l_new, CS.r_new, CS.a_new, CS.q_new, CS.z_new, Nat.reduceEqDiff, false_and, true_and, if_true, if_false, and_false, and_self, List.length_nil]
      rfl
    · have h2 := hne o (by omega)
      have h3 := hop o (by omega)
      simp only [CS.i_setI, CS.l_setI, CS.r_setI, CS.a_setI, CS.q_setI, CS.z_setI, CS.i_setL, CS.l_setL, CS.r_setL, CS.a_setL, CS.q_setL, CS.z_setL, CS.i_setR, CS.l_setR, CS.r_setR, CS.a_setR, CS.q_setR, CS.z_setR, CS.i_setA, CS.l_setA, CS.r_setA, CS.a_setA, CS.q_setA, CS.z_setA, CS.i_setQ, CS.l_setQ, CS.r_setQ, CS.a_setQ, CS.q_setQ, CS.z_setQ, CS.i_setF, CS.l_setF, CS.r_setF, CS.a_setF, CS.q_setF, CS.z_setF, CS.i_new, CS.l_new, CS.r_new, CS.a_new, CS.q_new, CS.z_new, Nat.reduceEqDiff, false_and, true_and, h2, e, if_false, and_false]
      exact ⟨h3.1, h3.2.1, h3.2.2.1, h3.2.2.2.1, h3.2.2.2.2.1, h3.2.2.2.2.2.2.2.1, h3.2.2.2.2.2.2.2.2.1, h3.2.2.2.2.2.2.2.2.2.1⟩
  · intro o ho
    have h2 := hne o ho
    have h3 := hop o ho
    unfold mkC
    simp only [CS.i_setI, CS.l_setI, CS.r_setI, CS.a_setI, CS.q_setI, CS.z_setI, CS.i_setL, CS.l_setL, CS.r_setL, CS.a_setL, CS.q_setL, CS.z_setL, CS.i_setR, CS.l_setR, CS.r_setR, CS.a_setR, CS.q_setR, CS.z_setR, CS.i_setA, CS.l_setA, CS.r_setA, CS.a_setA, CS.q_setA, CS.z_setA, CS.i_setQ, CS.l_setQ, CS.r_setQ, CS.a_setQ, CS.q_setQ, CS.z_setQ, CS.i_setF, CS.l_setF, CS.r_setF, CS.a_setF, CS.q_setF, CS.z_setF, CS.i_new, CS.l_new, CS.r_new, CS.a_new, CS.q_new, CS.z_new, Nat.reduceEqDiff, false_and, true_and, h2, if_false, and_false]
    exact ⟨h3.2.2.2.2.2.1, h3.2.2.2.2.2.2.1, h3.2.2.2.2.2.2.2.2.2.2⟩
  · -- chains
    have hl := G.ln
    have hr12 : ∀ o, o < A.n + 1 → (mkC C N A r x act num).r 3 12 o = C.r 3 12 o := by
      intro o ho
      have h2 : ¬ o = A.n + 1 := by omega
      unfold mkC
      simp only [CS.i_setI, CS.l_setI, CS.r_setI, CS.a_setI, CS.q_setI, CS.z_setI, CS.i_setL, CS.l_setL, CS.r_setL, CS.a_setL, CS.q_setL, CS.z_setL, CS.i_setR, CS.l_setR, CS.r_setR, CS.a_setR, CS.q_setR, CS.z_setR, CS.i_setA, CS.l_setA, CS.r_setA, CS.a_setA, CS.q_setA, CS.z_setA, CS.i_setQ, CS.l_setQ, CS.r_setQ, CS.a_setQ, CS.q_setQ, CS.z_setQ, CS.i_setF, CS.l_setF, CS.r_setF, CS.a_setF, CS.q_setF, CS.z_setF, CS.i_new, CS.l_new, CS.r_new, CS.a_new, CS.q_new, CS.z_new, Nat.reduceEqDiff, false_and, true_and, h2, if_false, and_false]
    have hr13 : ∀ o, o < A.n + 1 → (mkC C N A r x act num).r 3 13 o = C.r 3 13 o := by
      intro o ho
      have h2 : ¬ o = A.n + 1 := by omega
      unfold mkC
      simp only [CS.i_setI, CS.l_setI, CS.r_setI, CS.a_setI, CS.q_setI, CS.z_setI, CS.i_setL, CS.l_setL, CS.r_setL, CS.a_setL, CS.q_setL, CS.z_setL, CS.i_setR, CS.l_setR, CS.r_setR, CS.a_setR, CS.q_setR, CS.z_setR, CS.i_setA, CS.l_setA, CS.r_setA, CS.a_setA, CS.q_setA, CS.z_setA, CS.i_setQ, CS.l_setQ, CS.r_setQ, CS.a_setQ, CS.q_setQ, CS.z_setQ, CS.i_setF, CS.l_setF, CS.r_setF, CS.a_setF, CS.q_setF, CS.z_setF, CS.i_new, CS.l_new, CS.r_new, CS.a_new, CS.q_new, CS.z_new, Nat.reduceEqDiff, false_and, true_and, h2, if_false, and_false]
    refine ⟨?_, hl.2.1, ?_⟩
    · intro t ht hts
      obtain ⟨l1, l2, l3⟩ := hl.1 t ht hts
      refine ⟨l1, l2, ?_⟩
      refine chn_congr ?_ l3
      intro y hy
      rw [List.mem_map] at hy
      obtain ⟨o, ho, rfl⟩ := hy
      have := ((hA.2.2.1.2.2.2.2.2.2.2.2.2 t).2.1 o).mp ho
      exact (hr12 (o + 1) (by omega)).symm
    · intro y hy
      rw [hr13 _ (ox_lt hy)]
      exact hl.2.2 y hy
  · unfold mkC
    simp only [CS.i_setI, CS.l_setI, CS.r_setI, CS.a_setI, CS.q_setI, CS.z_setI, CS.i_setL, CS.l_setL, CS.r_setL, CS.a_setL, CS.q_setL, CS.z_setL, CS.i_setR, CS.l_setR, CS.r_setR, CS.a_setR, CS.q_setR, CS.z_setR, CS.i_setA, CS.l_setA, CS.r_setA, CS.a_setA, CS.q_setA, CS.z_setA, CS.i_setQ, CS.l_setQ, CS.r_setQ, CS.a_setQ, CS.q_setQ, CS.z_setQ, CS.i_setF, CS.l_setF, CS.r_setF, CS.a_setF, CS.q_setF, CS.z_setF, CS.i_new, CS.l_new, CS.r_new, CS.a_new, CS.q_new, CS.z_new, Nat.reduceEqDiff, false_and, true_and, if_true, if_false, and_false, and_self]
    exact ⟨rfl, trivial⟩
  · -- what the view left
    have hs := G.2
    refine ⟨hs.1, ?_, ?_⟩
    · intro j hj
      rw [mk_n] at hj
      by_cases e : j = A.n + 1
      · subst e
        exact ⟨0, by omega, by unfold mkC; simp only [CS.i_setI, CS.l_setI, CS.r_setI, CS.a_setI, CS.q_setI, CS.z_setI, CS.i_setL, CS.l_setL, CS.r_setL, CS.a_setL, CS.q_setL, CS.z_setL, CS.i_setR, CS.l_setR, CS.r_setR, CS.a_setR, CS.q_setR, CS.z_setR, CS.i_setA, CS.l_setA, CS.r_setA, CS.a_setA, CS.q_setA, CS.z_setA, CS.i_setQ, CS.l_setQ, CS.r_setQ, CS.a_setQ, CS.q_setQ, CS.z_setQ, CS.i_setF, CS.l_setF, CS.r_setF, CS.a_setF, CS.q_setF, CS.z_setF, CS.i_new, CS.l_new, CS.r_new, CS.a_new, CS.q_new, CS.z_new, Nat.reduceEqDiff, false_and, true_and, if_true, if_false, and_false, and_self]; rfl⟩
      · obtain ⟨t, t1, t2⟩ := hs.2.1 j (by omega)
        refine ⟨t, t1, ?_⟩
        unfold mkC
        simp only [CS.i_setI, CS.l_setI, CS.r_setI, CS.a_setI, CS.q_setI, CS.z_setI, CS.i_setL, CS.l_setL, CS.r_setL, CS.a_setL, CS.q_setL, CS.z_setL, CS.i_setR, CS.l_setR, CS.r_setR, CS.a_setR, CS.q_setR, CS.z_setR, CS.i_setA, CS.l_setA, CS.r_setA, CS.a_setA, CS.q_setA, CS.z_setA, CS.i_setQ, CS.l_setQ, CS.r_setQ, CS.a_setQ, CS.q_setQ, CS.z_setQ, CS.i_setF, CS.l_setF, CS.r_setF, CS.a_setF, CS.q_setF, CS.z_setF, CS.i_new, CS.l_new, CS.r_new, CS.a_new, CS.q_new, CS.z_new, Nat.reduceEqDiff, false_and, true_and, e, if_false, and_false]
        exact t2
    · intro p y hq
      have : (mkC C N A r x act num).q 15 1 p = C.q 15 1 p := rfl
      rw [this] at hq
      have := hs.2.2 p y hq
      rw [mk_n]
      omega
  · exact ⟨fun _ _ => rfl, fun _ _ => rfl, fun _ _ => rfl, fun _ _ => rfl, fun _ _ _ => rfl, fun _ _ => rfl, fun _ _ _ => rfl, fun _ => rfl, fun _ _ => rfl, fun _ _ => rfl, fun _ _ => rfl, fun _ _ => rfl⟩
end NW
