/-! SPLICE: a run is erased. -/
theorem lpA_run {α ε : Type} {body : α → Option ((α ⊕ ε) × Nat × Nat)} (I : Nat → α → Nat → Nat → Prop) (P : ε → Nat → Nat → Prop) (n : Nat)
    (h : ∀ i a c z, i ≤ n → I i a c z → (∃ a' dc dz, body a = some (.inl a', dc, dz) ∧ i < n ∧ I (i + 1) a' (c + dc) (z + dz)) ∨ (∃ e dc dz, body a = some (.inr e, dc, dz) ∧ P e (c + dc) (z + dz))) :
    ∀ m a, n < m → I 0 a 0 0 → ∃ e c z, lpA body m a = some (e, c, z) ∧ P e c z := by
  have key : ∀ d i m a c z, i + d = n → d < m → I i a c z → ∃ e c' z', lpA body m a = some (e, c', z') ∧ P e (c + c') (z + z') := by
    intro d
    induction d with
    | zero =>
      intro i m a c z hi hm ha
      obtain ⟨m', rfl⟩ : ∃ m', m = m' + 1 := ⟨m - 1, by omega⟩
      rcases h i a c z (by omega) ha with ⟨a', _, _, _, hlt, _⟩ | ⟨e, dc, dz, h1, h2⟩
      · omega
      · exact ⟨e, dc, dz, by rw [lpA, h1], h2⟩
    | succ d ih =>
      intro i m a c z hi hm ha
      obtain ⟨m', rfl⟩ : ∃ m', m = m' + 1 := ⟨m - 1, by omega⟩
      rcases h i a c z (by omega) ha with ⟨a', dc, dz, h1, _, h3⟩ | ⟨e, dc, dz, h1, h2⟩
      · obtain ⟨e, c', z', h4, h5⟩ := ih (i + 1) m' a' _ _ (by omega) (by omega) h3
        refine ⟨e, c' + dc, z' + dz, by rw [lpA, h1]; simp only; rw [h4]; rfl, ?_⟩
        rw [show c + (c' + dc) = c + dc + c' by omega, show z + (z' + dz) = z + dz + z' by omega]
        exact h5
      · exact ⟨e, dc, dz, by rw [lpA, h1], h2⟩
  intro m a hm ha
  obtain ⟨e, c, z, h1, h2⟩ := key n 0 m a 0 0 (by omega) hm ha
  exact ⟨e, c, z, h1, by rw [Nat.zero_add, Nat.zero_add] at h2; exact h2⟩
def AS.des (A : AS) (r : Nat) (x : Option Nat) (D : List Nat) : Nat → AS
  | 0 => A
  | k + 1 => (A.des r x D k).de r x (D.getD k 0)
/-- what is so after k of D have been erased -/
def DST (A : AS) (r : Nat) (x : Option Nat) (i k : Nat) (B : AS) : Prop :=
  B = A.des r x ((A.fl r x).drop i) k ∧ AI B ∧ B.oV r x ∧ B.kd x = A.kd x ∧ B.lk r = none ∧ B.n = A.n + k ∧ B.m = A.m ∧ B.kn = A.kn ∧ B.oi x = A.oi x ∧ B.L x = A.L x ∧ B.fl r x = (A.fl r x).take i ++ (A.fl r x).drop (i + k) ∧ (∀ t, B.flB r t = (A.flB r t && !(((A.fl r x).drop i).take k).contains t)) ∧ (∀ t, t < A.n → B.sj t = A.sj t) ∧ ∀ t, t < A.n → B.inV r t = A.inV r t
section SPB
variable {S S' : MS} {N : Nat → Nat} {C C' : CS} {A B : AS} {r rd : Nat} {x : Option Nat} {i k : Nat}
theorem fl_nodup (hA : AI A) : (A.fl r x).Nodup := (hA.2.2.1.2.2.2.2.2.2.2.2.1 x).1.filter _
theorem fl_at (hA : AI A) (hkd : A.kd x ≠ 6) {s : Nat} (h : s ∈ A.fl r x) : s ∈ A.L x ∧ s < A.n ∧ A.obj s = x ∧ A.sp s = s ∧ A.inV r s = true ∧ A.key s = [] ∧ A.flB r s = true := by
  unfold AS.fl at h
  rw [List.mem_filter] at h
  have hL := L_mem hA h.1
  have hc := cd_inV hA (by rw [hL.2.1]; exact hkd) (flB_iff.mp h.2)
  exact ⟨h.1, hL.1, hL.2.1, hL.2.2, hc.2, (key_nil hA hL.1).mpr (by rw [hL.2.1]; exact hkd), h.2⟩
theorem DST_0 (hA : AI A) (hx : A.oV r x) (hlk : A.lk r = none) : DST A r x i 0 A := by
  refine ⟨rfl, hA, hx, rfl, hlk, rfl, rfl, rfl, rfl, rfl, ?_, ?_, fun _ _ => rfl, fun _ _ => rfl⟩
  · rw [Nat.add_zero, List.take_append_drop]
  · intro t; simp
theorem de_AI (hB : AI B) (hr : r < 8) (hx : B.oV r x) (hkd : B.kd x ≠ 6) (hlk : B.lk r = none) (hn : B.n < 4000) {s : Nat} (hs : s ∈ B.fl r x) : AI (B.de r x s) := by
  obtain ⟨f1, f2, f3, f4, f5, f6, f7⟩ := fl_at hB hkd hs
  exact mk_AI hB (mkOK_on hB hr hlk hn f2 f4 f3 hx (by rw [f6]; exact hB.1.2.2.1) (by omega) (fun _ => f5))
theorem DST_s (h : DST A r x i k B) (hkd : A.kd x ≠ 6) (hr : r < 8) (hn : A.n + k < 4000) {s : Nat} (hs : (A.fl r x)[i + k]? = some s) : DST A r x i (k + 1) (B.de r x s) ∧ s ∈ B.fl r x ∧ (B.fl r x)[i]? = some s := by
  obtain ⟨e0, hB, hx, ekd, hlk, en, em, ekn, eoi, eL, efl, eflB, esj, eiv⟩ := h
  have hkB : B.kd x ≠ 6 := by rw [ekd]; exact hkd
  have hlt : i + k < (A.fl r x).length := by
    rcases Nat.lt_or_ge (i + k) (A.fl r x).length with h | h
    · exact h
    · rw [List.getElem?_eq_none h] at hs; cases hs
  have hse : (A.fl r x)[i + k] = s := by
    rw [List.getElem?_eq_getElem hlt] at hs
    exact Option.some.inj hs
  have hdrop : (A.fl r x).drop (i + k) = s :: (A.fl r x).drop (i + (k + 1)) := by
    rw [List.drop_eq_getElem_cons hlt, hse]
    rfl
  have hgB : (B.fl r x)[i]? = some s := by
    rw [efl, List.getElem?_append_right (by rw [List.length_take]; omega), List.length_take, hdrop, show i - min i (A.fl r x).length = 0 by omega]
    rfl
  have hsB : s ∈ B.fl r x := List.mem_of_getElem? hgB
  have hA' := de_AI hB hr hx hkB hlk (by omega) hsB
  obtain ⟨f1, f2, f3, f4, f5, f6, f7⟩ := fl_at hB hkB hsB
  have hD : ((A.fl r x).drop i).getD k 0 = s := by
    rw [List.getD_eq_getElem?_getD, List.getElem?_drop, hs]
    rfl
  have hxl := oV_ltn hx
  refine ⟨⟨?_, hA', ?_, ?_, ?_, ?_, em, ?_, ?_, ?_, ?_, ?_, ?_, ?_⟩, hsB, hgB⟩
  · show _ = (A.des r x ((A.fl r x).drop i) k).de r x (((A.fl r x).drop i).getD k 0)
    rw [hD, ← e0]
  · cases x with
    | none => trivial
    | some m =>
      obtain ⟨b1, b2, b3, b4⟩ := hx
      refine ⟨Nat.lt_succ_of_lt b1, ?_, ?_, ?_⟩
      · unfold AS.de; rw [mk_inVo hlk b1]; exact b2
      · unfold AS.de; rw [mk_act, if_neg (by omega)]; exact b3
      · unfold AS.de; rw [mk_act, if_neg (by omega)]; exact b4
  · rw [← ekd]
    cases x with
    | none => rfl
    | some m =>
      have := hxl m rfl
      show (B.de r (some m) s).act m = B.act m
      unfold AS.de
      rw [mk_act, if_neg (by omega)]
  · exact hlk
  · show B.n + 1 = _
    omega
  · show B.kn + (B.key s).length = _
    rw [f6, ekn]
    rfl
  · rw [← eoi]
    cases x with
    | none => rfl
    | some m =>
      have := hxl m rfl
      show (B.de r (some m) s).id m = B.id m
      unfold AS.de
      rw [mk_id, if_neg (by omega)]
  · rw [de_L, eL]
  · rw [de_fl hB hA' hlk f2, efl, hdrop, List.filter_append, List.filter_cons_of_neg (by simp)]
    have hnd := fl_nodup hB (r := r) (x := x)
    rw [efl, hdrop] at hnd
    have h1 := List.nodup_append.mp hnd
    congr 1
    · refine List.filter_eq_self.mpr ?_
      intro t ht
      have : t ≠ s := h1.2.2 t ht s (by simp)
      simp [this]
    · refine List.filter_eq_self.mpr ?_
      intro t ht
      have : t ≠ s := by
        rintro rfl
        exact (List.nodup_cons.mp h1.2.1).1 ht
      simp [this]
  · intro t
    rw [de_flB hB hA' hlk f2, eflB t]
    have hk' : k < ((A.fl r x).drop i).length := by rw [List.length_drop]; omega
    have hgk : ((A.fl r x).drop i)[k] = s := by rw [List.getElem_drop]; exact hse
    rw [List.take_succ_eq_append_getElem hk', hgk]
    rw [List.contains_append]
    simp only [List.contains_cons, List.contains_nil, Bool.or_false]
    by_cases e : t = s
    · subst e
      simp
    · rw [decide_eq_false e, show (t == s) = false from by simp [e]]
      simp
  · intro t ht
    unfold AS.de
    rw [mk_sj, if_neg (by omega)]
    exact esj t ht
  · intro t ht
    unfold AS.de
    rw [mk_inVo hlk (by omega)]
    exact eiv t ht
/-- the reference erases one -/
theorem rsp_step {x4 x7 : Int32} (hR : RS S B) (hB : AI B) (hr : r < 8) (hx : B.oV r x) (hkd : B.kd x ≠ 6) (hlk : B.lk r = none) (hn : B.n < 4000) {s : Nat} (hs : (B.fl r x)[i]? = some s) (hi : i < 2 ^ 31) (hle : ¬ x4 ≤ x7) :
    ∃ S', m_rsplice_B147 S (nI r) (nI (B.oi x)) (nI i) x4 x7 = some (.inl (S', nI r, nI (B.oi x), nI i, x4, x7 + 1)) ∧ RS S' (B.de r x s) ∧ frS S S' ∧ S'.i 0 = S.i 0 := by
  have hsm : s ∈ B.fl r x := List.mem_of_getElem? hs
  obtain ⟨f1, f2, f3, f4, f5, f6, f7⟩ := fl_at hB hkd hsm
  have hil : i < (B.fl r x).length := by
    rcases Nat.lt_or_ge i (B.fl r x).length with h | h
    · exact h
    · rw [List.getElem?_eq_none h] at hs; cases hs
  obtain ⟨S3, hLS3, hat⟩ := pS_at hR hB hr hx hkd (nI i)
  rcases hat with ⟨k', s', e, hke, hk31', hfs', hen, hee, hat⟩ | ⟨hnos', hat⟩
  · have hkk : i = k' := (nI_eq (by omega) hk31').mp hke
    subst hkk
    rw [hs] at hfs'
    obtain rfl : s = s' := Option.some.inj hfs'
    have hg := hLS3.get
    have hR3 := hLS3.RS hR
    have h6 : e < (B.el r x).length := by
      rcases Nat.lt_or_ge e (B.el r x).length with h | h
      · exact h
      · rw [List.getElem?_eq_none h] at hee; cases hee
    have h48 : S3.a 48 e = nI s := by
      rw [hg.2.1 e h6]
      rw [List.getElem?_eq_getElem h6] at hee
      rw [Option.some.inj hee]
    have hs8 : S3.a 8 s = nI (B.id s) := (hR3.2.1 s f2).1
    obtain ⟨g, hc1, hc2⟩ := pS_elCand hR3 hB hr f2 f5 f4 (by rw [f3]; exact hkd) hg.2.2.1
    rw [f3] at hc1
    obtain ⟨S4, hS4⟩ : ∃ S4, S4 = (S3.setA 46 g).setI 47 (nI (B.cd r s).length) := ⟨_, rfl⟩
    have hR4 : RS S4 B := by rw [hS4]; exact (hR3.setA rfl).setI rfl
    have h47 : S4.i 47 = nI (B.cd r s).length := by rw [hS4, MS.i_setI, if_pos rfl]
    have h46 : rowN (S4.a 46) (B.cd r s) := by
      intro j hj
      rw [hS4, MS.a_setI, MS.a_setA, if_pos rfl]
      exact hc2 j hj
    rw [← hS4] at hc1
    have hfr4 : frS S S4 := hLS3.frS.trans (by rw [hS4]; exact (frS_setA (by decide)).trans (frS_setI (by decide)))
    have h40 : S4.i 0 = S.i 0 := by
      rw [hS4, MS.i_setI, if_neg (by decide), MS.i_setA]
      obtain ⟨f, c, g', t, rfl, _⟩ := hLS3
      rw [MS.i_setA, MS.i_setI, if_neg (by decide), MS.i_setA, MS.i_setA, MS.i_setA]
    have hcl := cd_len hB (r := r) (s := s)
    obtain ⟨S5, m1, m2, m3, m4, m5, m6⟩ := pS_make hR4 hB hr (oV_ltn hx) (act := 9) (by omega) hn (num := 0) (par := none) (s := s) (Lx := B.L x) (Os := insO B.id (8 * (B.tp r + 1) + r) B.n (B.O s))
    have hR5 := RS_pl (v := B.id s) m2
    obtain ⟨S6, hS6⟩ : ∃ S6, S6 = S5.setA 10 (upd (S5.a 10) B.n (nI (B.id s))) := ⟨_, rfl⟩
    rw [← hS6] at hR5
    have i6 : ∀ j, S6.i j = S5.i j := fun j => by rw [hS6, MS.i_setA]
    have a6 : ∀ j, j ≠ 10 → S6.a j = S5.a j := fun j hj => by rw [hS6, MS.a_setA, if_neg hj]
    obtain ⟨t, pa, t1, t2, _⟩ := hR4.2.2.2.1
    obtain ⟨f7', g7, v7, n1, n2⟩ := pS_follows (cf := false) (cs := B.cd r s) hR5 hn (t := t) (by rw [i6, m3 25 (by decide)]; exact t1) (by rw [a6 18 (by decide), m6]; exact t1) t2 (by
      intro j hj
      rw [a6 46 (by decide), m4 46 (mkA_not (by omega))]
      exact h46 j hj) (by rw [i6, m3 47 (by decide)]; exact h47) (fun c hc => ((cd_mem hB).mp hc).1) hcl (fun c hc => (hB.2.2.1.1 c ((cd_mem hB).mp hc).1).2.2.2.2.1)
    obtain ⟨S7, hS7⟩ : ∃ S7, S7 = ((S6.setA 24 f7').setA 19 g7).setI 25 v7 := ⟨_, rfl⟩
    rw [← hS7] at n1 n2
    refine ⟨S7, ?_, ?_, ?_, ?_⟩
    · unfold m_rsplice_B147
      rw [if_neg hle, hat, ob_ok]
      simp only []
      rw [gd_ok (by have := hB.1.1; omega) (by omega), cl_nI (by have := hB.1.1; omega), h48, gd_ok (by have := hB.1.1; omega) (by omega), cl_nI (by have := hB.1.1; omega), hs8, hc1, ob_ok]
      rw [show m_rmake S4 (nI r) (nI (B.oi x)) 9 0 = some (S5, nI B.n) from m1, ob_ok]
      simp only []
      rw [gd_ok (by omega) (by omega), cl_nI (by omega), ← hS6, show m_rfollows S6 (nI B.n) 0 = some S7 from n1, ob_ok]
    · unfold AS.de
      rw [f6, if_neg hkd]
      exact n2
    · refine hfr4.trans ⟨?_, ?_⟩
      · intro j hj
        rw [hS7, MS.i_setI, if_neg (by omega), MS.i_setA, MS.i_setA, i6, m3 j (by omega)]
      · intro k hk
        rw [hS7, MS.a_setI, MS.a_setA, if_neg (by omega), MS.a_setA, if_neg (by omega), a6 k (by omega), m4 k (mkA_not (by omega))]
    · rw [hS7, MS.i_setI, if_neg (by decide), MS.i_setA, MS.i_setA, i6, m3 0 (by decide), h40]
  · exact absurd rfl (hnos' i hil)
theorem rsp_erase (hR : RS S A) (hA : AI A) (hr : r < 8) (hx : A.oV r x) (hkd : A.kd x ≠ 6) (hlk : A.lk r = none) {n : Nat} (hin : i + n ≤ (A.fl r x).length) (hn : A.n + n ≤ 4000) :
    ∃ S', m_rsplice_L147 S (nI r) (nI (A.oi x)) (nI i) (nI n) (nI 0) = some (S', nI r, nI (A.oi x), nI i) ∧ RS S' (A.des r x ((A.fl r x).drop i) n) ∧ DST A r x i n (A.des r x ((A.fl r x).drop i) n) ∧ frS S S' ∧ S'.i 0 = S.i 0 := by
  have hfl : (A.fl r x).length ≤ A.n := Nat.le_trans (List.length_filter_le _ _) (L_len hA)
  have hnn := hA.1.1
  have := lp_run (body := fun w : MS × Int32 × Int32 × Int32 × Int32 × Int32 => m_rsplice_B147 w.1 w.2.1 w.2.2.1 w.2.2.2.1 w.2.2.2.2.1 w.2.2.2.2.2) (fun k w => ∃ W, w = (W, nI r, nI (A.oi x), nI i, nI n, nI k) ∧ RS W (A.des r x ((A.fl r x).drop i) k) ∧ DST A r x i k (A.des r x ((A.fl r x).drop i) k) ∧ frS S W ∧ W.i 0 = S.i 0) (fun e => ∃ W, e = (W, nI r, nI (A.oi x), nI i) ∧ RS W (A.des r x ((A.fl r x).drop i) n) ∧ DST A r x i n (A.des r x ((A.fl r x).drop i) n) ∧ frS S W ∧ W.i 0 = S.i 0) n ?_ FU (S, nI r, nI (A.oi x), nI i, nI n, nI 0) (by unfold FU; omega) ⟨S, rfl, hR, DST_0 hA hx hlk, frS.refl, rfl⟩
  · obtain ⟨e, h1, W, rfl, h2⟩ := this
    refine ⟨W, ?_, h2⟩
    unfold m_rsplice_L147
    exact h1
  · rintro k _ hk ⟨W, rfl, w1, w2, w3, w4⟩
    by_cases hkn : k < n
    · left
      have hlt : i + k < (A.fl r x).length := by omega
      obtain ⟨d1, d2, d3⟩ := DST_s w2 hkd hr (by omega) (s := (A.fl r x)[i + k]) (List.getElem?_eq_getElem hlt)
      obtain ⟨e0, hB, hx', ekd, hlk', en, em, ekn, eoi, eL, efl, eflB, esj, eiv⟩ := w2
      obtain ⟨W', v1, v2, v3, v4⟩ := rsp_step (x4 := nI n) (x7 := nI k) w1 hB hr hx' (by rw [ekd]; exact hkd) hlk' (by omega) d3 (by omega) (nle hkn (by omega))
      rw [eoi] at v1
      have hs : A.des r x ((A.fl r x).drop i) (k + 1) = (A.des r x ((A.fl r x).drop i) k).de r x (A.fl r x)[i + k] := d1.1.symm
      refine ⟨_, v1, hkn, W', by rw [nI_s], by rw [hs]; exact v2, by rw [hs]; exact d1, w3.trans v3, by rw [v4]; exact w4⟩
    · right
      have e : k = n := by omega
      refine ⟨(W, nI r, nI (A.oi x), nI i), ?_, W, rfl, by rw [← e]; exact w1, by rw [← e]; exact w2, w3, w4⟩
      show m_rsplice_B147 W (nI r) (nI (A.oi x)) (nI i) (nI n) (nI k) = _
      unfold m_rsplice_B147
      rw [e, if_pos (Int32.le_refl _)]
end SPB
