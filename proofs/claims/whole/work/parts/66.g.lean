/-! THE REFERENCE: the keys of a map. -/
theorem kcmp_at : ∀ (i : Nat) (a b : List Nat) (ha : i < a.length) (hb : i < b.length), a.take i = b.take i → a[i] ≠ b[i] → kcmp a b = (a[i] : Int) - b[i] := by
  intro i
  induction i with
  | zero =>
    intro a b ha hb _ hne
    cases a with
    | nil => simp at ha
    | cons x a =>
      cases b with
      | nil => simp at hb
      | cons y b =>
        simp only [List.getElem_cons_zero] at hne ⊢
        rw [kcmp, if_neg hne]
  | succ i ih =>
    intro a b ha hb ht hne
    cases a with
    | nil => simp at ha
    | cons x a =>
      cases b with
      | nil => simp at hb
      | cons y b =>
        simp only [List.take_succ_cons, List.cons.injEq] at ht
        simp only [List.getElem_cons_succ] at hne ⊢
        rw [kcmp, if_pos ht.1]
        exact ih a b (by simpa using ha) (by simpa using hb) ht.2 hne
theorem kcmp_end : ∀ (i : Nat) (a b : List Nat), i ≤ a.length → i ≤ b.length → (a.length ≤ i ∨ b.length ≤ i) → a.take i = b.take i → kcmp a b = (a.length : Int) - b.length := by
  intro i
  induction i with
  | zero =>
    intro a b _ _ h _
    cases a with
    | nil =>
      cases b with
      | nil => rfl
      | cons y b => rw [kcmp]; simp
    | cons x a =>
      cases b with
      | nil => rw [kcmp]; simp
      | cons y b => simp at h
  | succ i ih =>
    intro a b ha hb h ht
    cases a with
    | nil => simp at ha
    | cons x a =>
      cases b with
      | nil => simp at hb
      | cons y b =>
        simp only [List.take_succ_cons, List.cons.injEq] at ht
        simp only [List.length_cons] at ha hb h ⊢
        rw [kcmp, if_pos ht.1, ih a b (by omega) (by omega) (by omega) ht.2]
        omega
theorem sub_toInt {a b : Nat} (ha : a < 2 ^ 30) (hb : b < 2 ^ 30) : (nI a - nI b).toInt = (a : Int) - b := by
  rw [Int32.toInt_sub, nI_toInt (by omega), nI_toInt (by omega)]
  rw [Int.bmod_eq_of_le (by omega) (by omega)]
theorem i32_le0 {d : Int32} : d ≤ nI 0 ↔ d.toInt ≤ 0 := Int32.le_iff_toInt_le
theorem i32_0le {d : Int32} : nI 0 ≤ d ↔ 0 ≤ d.toInt := Int32.le_iff_toInt_le
theorem i32_lt0 {d : Int32} : d < nI 0 ↔ d.toInt < 0 := Int32.lt_iff_toInt_lt
theorem i32_0lt {d : Int32} : nI 0 < d ↔ 0 < d.toInt := Int32.lt_iff_toInt_lt
theorem i32_eq0 {d : Int32} : d = nI 0 ↔ d.toInt = 0 := by
  rw [← Int32.toInt_inj]
  rfl
theorem pw_or {R : Nat → Nat → Prop} : ∀ {l : List Nat}, l.Pairwise R → ∀ {a b : Nat}, a ∈ l → b ∈ l → a ≠ b → R a b ∨ R b a := by
  intro l
  induction l with
  | nil => intro _ a b h; cases h
  | cons x l ih =>
    intro h a b ha hb hab
    rw [List.pairwise_cons] at h
    rcases List.mem_cons.mp ha with ha' | ha'
    · subst ha'
      rcases List.mem_cons.mp hb with hb' | hb'
      · exact absurd hb'.symm hab
      · exact Or.inl (h.1 b hb')
    · rcases List.mem_cons.mp hb with hb' | hb'
      · subst hb'; exact Or.inr (h.1 a ha')
      · exact ih h.2 ha' hb' hab
section SG
variable {S : MS} {A : AS}
theorem key_le (hR : RS S A) (hA : AI A) {o : Nat} (ho : o < A.n) : (A.key o).length ≤ 64 := by
  have hi := (hA.2.2.1.1 o ho).2.2.2.2.2.2
  have : A.ins o = 0 ∨ A.ins o = 1 := by omega
  rcases this with h1 | h1
  · have h2 := hA.2.2.1.2.2.2.2.2.1 o ho h1
    by_cases e : A.kd (A.obj o) = 6
    · exact (h2.2.2.2.2.2 e).2.1
    · rw [(h2.2.2.2.2.1 e).1]; simp
  · rw [(hA.2.2.1.2.2.2.2.1 o ho h1).2.1]; simp
theorem pS_cmpKeys (hR : RS S A) (hA : AI A) {a b : Nat} (ha : a < A.n) (hb : b < A.n) (hka : A.key a ≠ []) (hkb : A.key b ≠ []) :
    ∃ d : Int32, m_rcompareKeys S (nI a) (nI b) = some (S, d) ∧ d.toInt = kcmp (A.key a) (A.key b) := by
  have hn := hA.1.1
  have hkn := hA.1.2.2.1
  obtain ⟨t1, t2, _, _, _, t6, t7, _⟩ := hR.2.2.1 a ha
  obtain ⟨u1, u2, _, _, _, u6, u7, _⟩ := hR.2.2.1 b hb
  have l1 := key_le hR hA ha
  have l2 := key_le hR hA hb
  have := lp_run (body := fun c : MS × Int32 × Int32 × Int32 => m_rcompareKeys_B2 c.1 c.2.1 c.2.2.1 c.2.2.2) (fun i c => c = (S, nI a, nI b, nI i) ∧ i ≤ (A.key a).length ∧ i ≤ (A.key b).length ∧ (A.key a).take i = (A.key b).take i)
    (fun e => (e = .inl (S, nI a, nI b) ∧ kcmp (A.key a) (A.key b) = ((A.key a).length : Int) - (A.key b).length) ∨ ∃ d : Int32, e = .inr (S, d) ∧ d.toInt = kcmp (A.key a) (A.key b)) 64 ?_ FU (S, nI a, nI b, nI 0) (by unfold FU; omega) ⟨rfl, by omega, by omega, rfl⟩
  · obtain ⟨e, h1, h2⟩ := this
    have h1' : m_rcompareKeys_L2 S (nI a) (nI b) (nI 0) = some e := h1
    unfold m_rcompareKeys m_rcompareKeys_J0 m_rcompareKeys_J79
    rcases h2 with ⟨rfl, h3⟩ | ⟨d, rfl, h3⟩
    · simp (disch := omega) only [gd_ok, cl_nI, nI_s, nI_add, nI_leI, nI_ltI, nI_eq, if_pos, if_neg, q0, q1, q2, q3, q4, q5, q6, q7, q8, q9, q10, MS.i_setI, MS.a_setI, MS.n_setI, MS.i_setA, MS.a_setA, MS.n_setA, MS.i_setN, MS.a_setN, MS.n_setN, ↓reduceIte, Nat.reduceEqDiff, b2_0, b2_1, b2_nn, n0_or, n1_or, n10, n01, dec1, dec2, ob_ok, oe_l, oe_r,h1', t2, u2]
      exact ⟨_, rfl, by rw [h3, sub_toInt (by omega) (by omega)]⟩
    · simp (disch := omega) only [gd_ok, cl_nI, nI_s, nI_add, nI_leI, nI_ltI, nI_eq, if_pos, if_neg, q0, q1, q2, q3, q4, q5, q6, q7, q8, q9, q10, MS.i_setI, MS.a_setI, MS.n_setI, MS.i_setA, MS.a_setA, MS.n_setA, MS.i_setN, MS.a_setN, MS.n_setN, ↓reduceIte, Nat.reduceEqDiff, b2_0, b2_1, b2_nn, n0_or, n1_or, n10, n01, dec1, dec2, ob_ok, oe_l, oe_r,h1']
      exact ⟨d, rfl, h3⟩
  · rintro i _ hi ⟨rfl, h1, h2, h3⟩
    unfold m_rcompareKeys_B2
    by_cases c1 : i < (A.key a).length
    · by_cases c2 : i < (A.key b).length
      · have e1 := t7 i c1
        have e2 := u7 i c2
        simp (disch := omega) only [gd_ok, cl_nI, nI_s, nI_add, nI_leI, nI_ltI, nI_eq, if_pos, if_neg, q0, q1, q2, q3, q4, q5, q6, q7, q8, q9, q10, MS.i_setI, MS.a_setI, MS.n_setI, MS.i_setA, MS.a_setA, MS.n_setA, MS.i_setN, MS.a_setN, MS.n_setN, ↓reduceIte, Nat.reduceEqDiff, b2_0, b2_1, b2_nn, n0_or, n1_or, n10, n01, dec1, dec2, ob_ok, oe_l, oe_r,t2, u2, t1 hka, u1 hkb, e1.2, e2.2, show (255 : Int32) = nI 255 from by decide, sb_and e1.1, sb_and e2.1]
        have := e1.1
        have := e2.1
        by_cases c3 : (A.key a)[i] = (A.key b)[i]
        · rw [if_pos c3]
          left
          refine ⟨_, rfl, by omega, rfl, by omega, by omega, ?_⟩
          rw [List.take_succ_eq_append_getElem c1, List.take_succ_eq_append_getElem c2, h3, c3]
        · rw [if_neg c3]
          right
          exact ⟨_, rfl, Or.inr ⟨_, rfl, by rw [kcmp_at i _ _ c1 c2 h3 c3, sub_toInt (by omega) (by omega)]⟩⟩
      · right
        simp (disch := omega) only [gd_ok, cl_nI, nI_s, nI_add, nI_leI, nI_ltI, nI_eq, if_pos, if_neg, q0, q1, q2, q3, q4, q5, q6, q7, q8, q9, q10, MS.i_setI, MS.a_setI, MS.n_setI, MS.i_setA, MS.a_setA, MS.n_setA, MS.i_setN, MS.a_setN, MS.n_setN, ↓reduceIte, Nat.reduceEqDiff, b2_0, b2_1, b2_nn, n0_or, n1_or, n10, n01, dec1, dec2, ob_ok, oe_l, oe_r,t2, u2]
        exact ⟨_, rfl, Or.inl ⟨rfl, kcmp_end i _ _ h1 h2 (by omega) h3⟩⟩
    · right
      simp (disch := omega) only [gd_ok, cl_nI, nI_s, nI_add, nI_leI, nI_ltI, nI_eq, if_pos, if_neg, q0, q1, q2, q3, q4, q5, q6, q7, q8, q9, q10, MS.i_setI, MS.a_setI, MS.n_setI, MS.i_setA, MS.a_setA, MS.n_setA, MS.i_setN, MS.a_setN, MS.n_setN, ↓reduceIte, Nat.reduceEqDiff, b2_0, b2_1, b2_nn, n0_or, n1_or, n10, n01, dec1, dec2, ob_ok, oe_l, oe_r,t2]
      exact ⟨_, rfl, Or.inl ⟨rfl, kcmp_end i _ _ h1 h2 (by omega) h3⟩⟩
/-- where a key goes: all from p on are greater, the one before isn't -/
theorem pS_keyPlace (hR : RS S A) (hA : AI A) {K : List Nat} {o : Nat} (ho : o < A.n) (hok : A.key o ≠ []) (hK : ∀ k, k ∈ K → k < A.n ∧ A.key k ≠ []) (hrow : rowN (S.a 70) K) (hlen : K.length ≤ A.n) {y z u : Int32} :
    ∃ p, p ≤ K.length ∧ m_rkeysOf_L69 S y z u (nI o) (nI K.length) = some (S, y, z, u, nI o, nI p) ∧ (∀ i (h : i < K.length), p ≤ i → 0 < kcmp (A.key K[i]) (A.key o)) ∧ (∀ (h : p - 1 < K.length), 0 < p → kcmp (A.key K[p - 1]) (A.key o) ≤ 0) := by
  have hn := hA.1.1
  have := lp_run (body := fun c : MS × Int32 × Int32 × Int32 × Int32 × Int32 => m_rkeysOf_B69 c.1 c.2.1 c.2.2.1 c.2.2.2.1 c.2.2.2.2.1 c.2.2.2.2.2) (fun i c => ∃ p, i + p = K.length ∧ c = (S, y, z, u, nI o, nI p) ∧ ∀ i (h : i < K.length), p ≤ i → 0 < kcmp (A.key K[i]) (A.key o))
    (fun e => ∃ p, p ≤ K.length ∧ e = (S, y, z, u, nI o, nI p) ∧ (∀ i (h : i < K.length), p ≤ i → 0 < kcmp (A.key K[i]) (A.key o)) ∧ (∀ (h : p - 1 < K.length), 0 < p → kcmp (A.key K[p - 1]) (A.key o) ≤ 0)) K.length ?_ FU (S, y, z, u, nI o, nI K.length) (by unfold FU; omega) ⟨K.length, by omega, rfl, fun i h h2 => by omega⟩
  · obtain ⟨e, h1, p, h2, rfl, h3, h4⟩ := this
    exact ⟨p, h2, h1, h3, h4⟩
  · rintro i _ hi ⟨p, hp, rfl, h3⟩
    unfold m_rkeysOf_B69
    cases p with
    | zero =>
      right
      simp (disch := omega) only [gd_ok, cl_nI, nI_s, nI_add, nI_leI, nI_ltI, nI_eq, if_pos, if_neg, q0, q1, q2, q3, q4, q5, q6, q7, q8, q9, q10, MS.i_setI, MS.a_setI, MS.n_setI, MS.i_setA, MS.a_setA, MS.n_setA, MS.i_setN, MS.a_setN, MS.n_setN, ↓reduceIte, Nat.reduceEqDiff, b2_0, b2_1, b2_nn, n0_or, n1_or, n10, n01, dec1, dec2, ob_ok, oe_l, oe_r]
      exact ⟨_, rfl, 0, by omega, rfl, h3, fun _ h => by omega⟩
    | succ p =>
      have hpl : p < K.length := by omega
      have hk := hK _ (List.getElem_mem hpl)
      obtain ⟨d, h4, h5⟩ := pS_cmpKeys hR hA hk.1 ho hk.2 hok
      simp (disch := omega) only [gd_ok, cl_nI, nI_s, nI_add, nI_leI, nI_ltI, nI_eq, if_pos, if_neg, q0, q1, q2, q3, q4, q5, q6, q7, q8, q9, q10, MS.i_setI, MS.a_setI, MS.n_setI, MS.i_setA, MS.a_setA, MS.n_setA, MS.i_setN, MS.a_setN, MS.n_setN, ↓reduceIte, Nat.reduceEqDiff, b2_0, b2_1, b2_nn, n0_or, n1_or, n10, n01, dec1, dec2, ob_ok, oe_l, oe_r,hrow p hpl, h4]
      simp only [i32_le0]
      by_cases c1 : d.toInt ≤ 0
      · rw [if_pos c1]
        right
        refine ⟨_, rfl, p + 1, by omega, rfl, h3, fun _ _ => ?_⟩
        simp only [Nat.add_sub_cancel]
        omega
      · rw [if_neg c1]
        left
        refine ⟨_, rfl, by omega, p, by omega, rfl, ?_⟩
        intro j hj hpj
        rcases Nat.lt_or_ge p j with h7 | h7
        · exact h3 j hj (by omega)
        · have : j = p := by omega
          subst this
          omega
theorem pS_keyShift {p M : Nat} {y z u v : Int32} (hM : M ≤ 3999) (hp : p ≤ M) :
    ∃ f : Nat → Int32, m_rkeysOf_L130 S y z u v (nI p) (nI M) = some (S.setA 70 f, y, z, u, v, nI p) ∧ ∀ i, f i = if p < i ∧ i ≤ M then S.a 70 (i - 1) else S.a 70 i := by
  have := lp_run (body := fun c : MS × Int32 × Int32 × Int32 × Int32 × Int32 × Int32 => m_rkeysOf_B130 c.1 c.2.1 c.2.2.1 c.2.2.2.1 c.2.2.2.2.1 c.2.2.2.2.2.1 c.2.2.2.2.2.2) (fun i c => ∃ (k : Nat) (f : Nat → Int32), i + k = M ∧ p ≤ k ∧ c = (S.setA 70 f, y, z, u, v, nI p, nI k) ∧ ∀ i, f i = if k < i ∧ i ≤ M then S.a 70 (i - 1) else S.a 70 i)
    (fun e => ∃ f : Nat → Int32, e = (S.setA 70 f, y, z, u, v, nI p) ∧ ∀ i, f i = if p < i ∧ i ≤ M then S.a 70 (i - 1) else S.a 70 i) M ?_ FU (S, y, z, u, v, nI p, nI M) (by unfold FU; omega) ⟨M, S.a 70, by omega, hp, by rw [MS.setA_self], fun i => by rw [if_neg (by omega)]⟩
  · obtain ⟨e, h1, f, rfl, h2⟩ := this
    exact ⟨f, h1, h2⟩
  · rintro i _ hi ⟨k, f, hk, hpk, rfl, h3⟩
    unfold m_rkeysOf_B130
    rcases Nat.lt_or_ge p k with h7 | h7
    · left
      obtain ⟨k', rfl⟩ : ∃ k', k = k' + 1 := ⟨k - 1, by omega⟩
      simp (disch := omega) only [gd_ok, cl_nI, nI_s, nI_add, nI_leI, nI_ltI, nI_eq, if_pos, if_neg, q0, q1, q2, q3, q4, q5, q6, q7, q8, q9, q10, MS.i_setI, MS.a_setI, MS.n_setI, MS.i_setA, MS.a_setA, MS.n_setA, MS.i_setN, MS.a_setN, MS.n_setN, ↓reduceIte, Nat.reduceEqDiff, b2_0, b2_1, b2_nn, n0_or, n1_or, n10, n01, dec1, dec2, ob_ok, oe_l, oe_r]
      refine ⟨_, rfl, by omega, k', upd f (k' + 1) (f k'), by omega, by omega, ?_, ?_⟩
      · simp only [MS.setA_setA, ← dec2, dec2, dec1]
      · intro j
        unfold upd
        by_cases e : j = k' + 1
        · subst e
          rw [if_pos rfl, if_pos (by omega), h3 k', if_neg (by omega)]
          rfl
        · rw [if_neg e, h3 j]
          have : (k' + 1 < j ∧ j ≤ M) ↔ (k' < j ∧ j ≤ M) := by omega
          simp only [this]
    · right
      have : k = p := by omega
      subst this
      simp (disch := omega) only [gd_ok, cl_nI, nI_s, nI_add, nI_leI, nI_ltI, nI_eq, if_pos, if_neg, q0, q1, q2, q3, q4, q5, q6, q7, q8, q9, q10, MS.i_setI, MS.a_setI, MS.n_setI, MS.i_setA, MS.a_setA, MS.n_setA, MS.i_setN, MS.a_setN, MS.n_setN, ↓reduceIte, Nat.reduceEqDiff, b2_0, b2_1, b2_nn, n0_or, n1_or, n10, n01, dec1, dec2, ob_ok, oe_l, oe_r]
      exact ⟨_, rfl, f, rfl, h3⟩
/-- the greatest that shows at a spot -/
def AS.top (A : AS) (r s : Nat) : Nat := (A.cd r s).headD 0
theorem top_cd {r s : Nat} (h : A.flB r s = true) : A.top r s ∈ A.cd r s := by
  rw [flB_iff] at h
  unfold AS.top
  cases hc : A.cd r s with
  | nil => exact absurd hc h
  | cons a l => simp
theorem top_max (hA : AI A) {r s o : Nat} (h : o ∈ A.cd r s) : A.id o ≤ A.id (A.top r s) := by
  have hd := cd_desc hA (r := r) (s := s)
  unfold AS.top
  cases hc : A.cd r s with
  | nil => rw [hc] at h; cases h
  | cons a l =>
    rw [hc] at h hd
    rw [List.pairwise_cons] at hd
    simp only [List.headD_cons]
    rcases List.mem_cons.mp h with rfl | h
    · exact Nat.le_refl _
    · have := hd.1 o h
      omega
/-- a list of ops with the greatest of each key, keys rising, is what the map shows -/
theorem keys_ext (hA : AI A) {r : Nat} {x : Option Nat} (hkd : A.kd x = 6) {K : List Nat} (h1 : K.Pairwise (fun a b => kcmp (A.key a) (A.key b) < 0))
    (h2 : ∀ k, k ∈ K → k < A.n ∧ A.visB r k = true ∧ A.obj k = x) (h3 : ∀ o, o < A.n → A.visB r o = true → A.obj o = x → ∃ k, k ∈ K ∧ A.key k = A.key o ∧ A.id o ≤ A.id k) :
    K = (A.fl r x).map (A.top r) := by
  have hL := hA.2.2.1.2.2.2.2.2.2.2.2.1 x
  have hLs := hL.2.2.1 hkd
  have hfl : ∀ s, s ∈ A.fl r x ↔ s ∈ A.L x ∧ A.flB r s = true := fun s => List.mem_filter
  -- the greatest at the spot of a key
  let u : List Nat → Nat := fun k => match A.ks x k with
    | some s => A.top r s
    | none => 0
  have hsp : ∀ o, o < A.n → A.visB r o = true → A.obj o = x → A.ks x (A.key o) = some (A.sp o) ∧ A.sp o ∈ A.fl r x ∧ o ∈ A.cd r (A.sp o) := by
    intro o g1 g2 g3
    have g4 : o ∈ A.cd r (A.sp o) := (cd_mem hA).mpr ⟨g1, rfl, g2⟩
    refine ⟨?_, ?_, g4⟩
    · rw [ks_some hA hkd, ← g3]
      exact ⟨sp_L hA g1, key_sp hA g1⟩
    · rw [hfl, flB_iff, ← g3]
      exact ⟨sp_L hA g1, List.ne_nil_of_mem g4⟩
  have hku : ∀ k, k ∈ K → u (A.key k) = k := by
    intro k hk
    obtain ⟨g1, g2, g3⟩ := h2 k hk
    obtain ⟨g4, g5, g6⟩ := hsp k g1 g2 g3
    simp only [u, g4]
    have g7 : A.top r (A.sp k) ∈ A.cd r (A.sp k) := top_cd ((hfl _).mp g5).2
    have g8 := (cd_mem hA).mp g7
    have g9 : A.obj (A.top r (A.sp k)) = x := by rw [← obj_sp hA g8.1, g8.2.1, obj_sp hA g1, g3]
    obtain ⟨k', e1, e2, e3⟩ := h3 _ g8.1 g8.2.2 g9
    have e4 : A.key k' = A.key k := by rw [e2, ← key_sp hA g8.1, g8.2.1, key_sp hA g1]
    have e5 : k' = k := by
      apply Classical.byContradiction
      intro hne
      have : ∀ a b, a ∈ K → b ∈ K → a ≠ b → A.key a ≠ A.key b := by
        intro a b ha hb hab
        rcases pw_or h1 ha hb hab with h | h
        · exact kcmp_irr h
        · exact (kcmp_irr h).symm
      exact this k' k e1 hk hne e4
    subst e5
    have e6 := top_max hA g6
    have e7 : A.id (A.top r (A.sp k')) = A.id k' := by omega
    exact inV_inj hA g8.1 g1 (vis_inV g8.2.2) (vis_inV g2) e7
  have hkeys : K.map A.key = (A.fl r x).map A.key := by
    apply asc_ext
    · rw [List.pairwise_map]; exact h1
    · rw [List.pairwise_map]; exact hLs.filter _
    · intro q
      rw [List.mem_map, List.mem_map]
      constructor
      · rintro ⟨k, hk, rfl⟩
        obtain ⟨g1, g2, g3⟩ := h2 k hk
        obtain ⟨g4, g5, g6⟩ := hsp k g1 g2 g3
        exact ⟨A.sp k, g5, key_sp hA g1⟩
      · rintro ⟨s, hs, rfl⟩
        have hs' := (hfl s).mp hs
        have g7 := (cd_mem hA).mp (top_cd hs'.2)
        have g8 := (hL.2.1 s).mp hs'.1
        have g9 : A.obj (A.top r s) = x := by rw [← obj_sp hA g7.1, g7.2.1]; exact g8.2.1
        obtain ⟨k', e1, e2, e3⟩ := h3 _ g7.1 g7.2.2 g9
        exact ⟨k', e1, by rw [e2, ← key_sp hA g7.1, g7.2.1]⟩
  have a1 : K = (K.map A.key).map u := by
    rw [List.map_map]
    conv => lhs; rw [← List.map_id K]
    apply List.map_congr_left
    intro k hk
    exact (hku k hk).symm
  rw [a1, hkeys, List.map_map]
  apply List.map_congr_left
  intro s hs
  have hs' := (hfl s).mp hs
  have : A.ks x (A.key s) = some s := (ks_some hA hkd).mpr ⟨hs'.1, rfl⟩
  simp only [Function.comp_apply, u, this]
theorem pS_keysOf (hR : RS S A) (hA : AI A) {r : Nat} (hr : r < 8) {x : Option Nat} (hx : A.oV r x) (hkd : A.kd x = 6) :
    ∃ f g : Nat → Int32, m_rkeysOf S (nI r) (nI (A.oi x)) = some (((S.setA 45 f).setA 70 g).setI 71 (nI (A.fl r x).length)) ∧ rowN g ((A.fl r x).map (A.top r)) ∧ ∀ o, o < A.n → f o = b2 (A.hidB r o) := by
  have hn := hA.1.1
  have hxl := oV_lt hA hx
  obtain ⟨f, h1, h2⟩ := pS_hide hR hA hr
  obtain ⟨od, o1, o2, o3, o4, o5⟩ := hR.2.2.2.2.1
  have hin : ∀ j (h : j < od.length), od[j] < A.n := fun j h => (o4 _).mp (List.getElem_mem h)
  have := lp_run (body := fun c : MS × Int32 × Int32 × Int32 => m_rkeysOf_B17 c.1 c.2.1 c.2.2.1 c.2.2.2)
    (fun i c => ∃ (j : Nat) (g : Nat → Int32) (K : List Nat), i + j = A.n ∧ c = (((S.setA 45 f).setA 70 g).setI 71 (nI K.length), nI r, nI (A.oi x), nI j - nI 1) ∧ rowN g K ∧ K.Pairwise (fun a b => kcmp (A.key a) (A.key b) < 0) ∧
      (∀ k, k ∈ K → k < A.n ∧ A.visB r k = true ∧ A.obj k = x) ∧ (∀ o, o ∈ od.drop j → A.visB r o = true → A.obj o = x → ∃ k, k ∈ K ∧ A.key k = A.key o ∧ A.id o ≤ A.id k) ∧ ∀ k, k ∈ K → k ∈ od.drop j)
    (fun e => ∃ (g : Nat → Int32), e = ((S.setA 45 f).setA 70 g).setI 71 (nI (A.fl r x).length) ∧ rowN g ((A.fl r x).map (A.top r))) A.n ?_ FU ((S.setA 45 f).setI 71 (nI 0), nI r, nI (A.oi x), nI A.n - nI 1) (by unfold FU; omega) ?_
  · obtain ⟨e, h3, g, rfl, h4⟩ := this
    refine ⟨f, g, ?_, h4, h2⟩
    have h3' : m_rkeysOf_L17 ((S.setA 45 f).setI 71 (nI 0)) (nI r) (nI (A.oi x)) (nI A.n - nI 1) = _ := h3
    unfold m_rkeysOf m_rkeysOf_J0
    rw [h1]
    simp only [ob_ok, q0, q1, MS.i_setA, hR.1.1, h3']
  · rintro i _ hi ⟨j, g, K, hij, rfl, hg, k1, k2, k3, k4⟩
    have hR' : RS (((S.setA 45 f).setA 70 g).setI 71 (nI K.length)) A := ((hR.setA rfl).setA rfl).setI rfl
    have hKn : K.Nodup := List.Pairwise.imp (S := fun a b => a ≠ b) (fun {a b} h e => kcmp_irr h (by rw [e])) k1
    unfold m_rkeysOf_B17 m_rkeysOf_J98 m_rkeysOf_J124 m_rkeysOf_J178
    cases j with
    | zero =>
      right
      simp only [q0, m1lt, if_true]
      have hKe := keys_ext hA hkd k1 k2 (fun o ho => k3 o (by rw [List.drop_zero]; exact (o4 o).mpr ho))
      refine ⟨_, rfl, g, ?_, ?_⟩
      · rw [hKe, List.length_map]
      · rw [← hKe]; exact hg
    | succ j =>
      left
      have hj : j < od.length := by omega
      have ho := hin j hj
      have hop := rop hR hA _ ho
      have htx := hR.2.2.1 _ ho
      have hid := oi_lt hA ho
      have hkl := key_le hR hA ho
      have hnd : od[j] ∉ od.drop (j + 1) := by
        intro hm
        rw [List.mem_drop_iff_getElem] at hm
        obtain ⟨k, hk, he⟩ := hm
        have := (List.getElem_inj o3).mp he
        omega
      have hKl2 : K.length + 1 ≤ A.n := by
        have : (od[j] :: K).length ≤ A.n := nodup_len A.n _ (List.nodup_cons.mpr ⟨fun h => hnd (k4 _ h), hKn⟩) (by
          intro y hy
          rcases List.mem_cons.mp hy with rfl | hy
          · exact ho
          · exact (k2 y hy).1)
        simp at this
        omega
      have hKl : K.length ≤ 3999 := by omega
      have hvis := pS_visible hR' hA hr ho (by simp only [MS.i_setI, MS.a_setI, MS.n_setI, MS.i_setA, MS.a_setA, MS.n_setA, MS.i_setN, MS.a_setN, MS.n_setN]; exact h2 _ ho)
      have hdr : od.drop j = od[j] :: od.drop (j + 1) := List.drop_eq_getElem_cons hj
      -- nothing to do
      have hskip : (A.visB r od[j] = true → A.obj od[j] = x → ∃ k, k ∈ K ∧ A.key k = A.key od[j] ∧ A.id od[j] ≤ A.id k) → ∃ (j' : Nat) (g' : Nat → Int32) (K' : List Nat), i + 1 + j' = A.n ∧ (((S.setA 45 f).setA 70 g).setI 71 (nI K.length), nI r, nI (A.oi x), nI j - nI 1) = (((S.setA 45 f).setA 70 g').setI 71 (nI K'.length), nI r, nI (A.oi x), nI j' - nI 1) ∧ rowN g' K' ∧ K'.Pairwise (fun a b => kcmp (A.key a) (A.key b) < 0) ∧
          (∀ k, k ∈ K' → k < A.n ∧ A.visB r k = true ∧ A.obj k = x) ∧ (∀ o, o ∈ od.drop j' → A.visB r o = true → A.obj o = x → ∃ k, k ∈ K' ∧ A.key k = A.key o ∧ A.id o ≤ A.id k) ∧ ∀ k, k ∈ K' → k ∈ od.drop j' := by
        intro hs
        refine ⟨j, g, K, by omega, rfl, hg, k1, k2, ?_, ?_⟩
        · intro o ho2
          rw [hdr] at ho2
          rcases List.mem_cons.mp ho2 with rfl | ho2
          · exact hs
          · exact k3 o ho2
        · intro k hk
          rw [hdr]
          exact List.mem_cons_of_mem _ (k4 k hk)
      simp (disch := omega) only [gd_ok, cl_nI, nI_s, nI_add, nI_leI, nI_ltI, nI_eq, if_pos, if_neg, q0, q1, q2, q3, q4, q5, q6, q7, q8, q9, q10, MS.i_setI, MS.a_setI, MS.n_setI, MS.i_setA, MS.a_setA, MS.n_setA, MS.i_setN, MS.a_setN, MS.n_setN, ↓reduceIte, Nat.reduceEqDiff, b2_0, b2_1, b2_nn, n0_or, n1_or, n10, n01, dec1, dec2, ob_ok, oe_l, oe_r,o2 j hj, hvis, hop.2.1, htx.2.1]
      by_cases c1 : A.visB r od[j] = false
      · rw [if_pos c1]
        exact ⟨_, rfl, by omega, hskip (by simp [c1])⟩
      · rw [if_neg c1]
        have c1' : A.visB r od[j] = true := by simpa using c1
        by_cases c2 : A.oi (A.obj od[j]) = A.oi x
        · rw [if_pos c2]
          rw [oi_inj hA (obj_inV hA ho (vis_inV c1')) hx] at c2
          have hkne : A.key od[j] ≠ [] := by
            intro e
            rw [key_nil hA ho, c2] at e
            exact e hkd
          have hkl0 : ¬ (A.key od[j]).length = 0 := by
            intro e
            exact hkne (List.length_eq_zero_iff.mp e)
          rw [if_neg hkl0]
          have hKk : ∀ k, k ∈ K → k < A.n ∧ A.key k ≠ [] := by
            intro k hk
            refine ⟨(k2 k hk).1, ?_⟩
            intro e
            rw [key_nil hA (k2 k hk).1, (k2 k hk).2.2] at e
            exact e hkd
          obtain ⟨p, p1, p2, p3, p4⟩ := pS_keyPlace hR' hA ho hkne hKk (K := K) hg (by omega) (y := nI r) (z := nI (A.oi x)) (u := nI j)
          obtain ⟨g', s1, s2⟩ := pS_keyShift (S := ((S.setA 45 f).setA 70 g).setI 71 (nI K.length)) (p := p) (M := K.length) (y := nI r) (z := nI (A.oi x)) (u := nI j) (v := nI od[j]) hKl p1
          -- the new one goes in
          have hnew : (∀ i (h : i < K.length), i < p → kcmp (A.key K[i]) (A.key od[j]) < 0) → ∃ (j' : Nat) (g'' : Nat → Int32) (K' : List Nat), i + 1 + j' = A.n ∧ (((((((S.setA 45 f).setA 70 g).setI 71 (nI K.length)).setA 70 g').setA 70 (upd g' p (nI od[j]))).setI 71 (nI (K.length + 1))), nI r, nI (A.oi x), nI j - nI 1) = (((S.setA 45 f).setA 70 g'').setI 71 (nI K'.length), nI r, nI (A.oi x), nI j' - nI 1) ∧ rowN g'' K' ∧ K'.Pairwise (fun a b => kcmp (A.key a) (A.key b) < 0) ∧
              (∀ k, k ∈ K' → k < A.n ∧ A.visB r k = true ∧ A.obj k = x) ∧ (∀ o, o ∈ od.drop j' → A.visB r o = true → A.obj o = x → ∃ k, k ∈ K' ∧ A.key k = A.key o ∧ A.id o ≤ A.id k) ∧ ∀ k, k ∈ K' → k ∈ od.drop j' := by
            intro hlt
            have hmem : ∀ k, k ∈ K.take p ++ od[j] :: K.drop p ↔ k = od[j] ∨ k ∈ K := by
              intro k
              rw [List.mem_append, List.mem_cons]
              conv => rhs; rw [← List.take_append_drop p K, List.mem_append]
              constructor
              · rintro (h | h | h)
                · exact Or.inr (Or.inl h)
                · exact Or.inl h
                · exact Or.inr (Or.inr h)
              · rintro (h | h | h)
                · exact Or.inr (Or.inl h)
                · exact Or.inl h
                · exact Or.inr (Or.inr h)
            refine ⟨j, upd g' p (nI od[j]), K.take p ++ od[j] :: K.drop p, by omega, ?_, ?_, ?_, ?_, ?_, ?_⟩
            · simp only [MS.setI_setA, MS.setI_setI, MS.setA_setA, List.length_append, List.length_cons, List.length_take, List.length_drop]
              rw [show min p K.length + (K.length - p + 1) = K.length + 1 by omega]
            · intro a ha
              have hal : a < K.length + 1 := by
                simp only [List.length_append, List.length_cons, List.length_take, List.length_drop] at ha
                omega
              unfold upd
              by_cases e1 : a = p
              · subst e1
                rw [if_pos rfl, List.getElem_append_right (by simp; omega)]
                simp [Nat.min_eq_left p1]
              · rw [if_neg e1, s2 a]
                rcases Nat.lt_or_ge a p with e2 | e2
                · rw [if_neg (by omega), List.getElem_append_left (by simp; omega), List.getElem_take]
                  exact hg a (by omega)
                · rw [if_pos (by omega), List.getElem_append_right (by simp; omega)]
                  have : ∀ (q : Nat) (hq : q < (od[j] :: K.drop p).length), q = a - p → (od[j] :: K.drop p)[q] = K[a - 1]'(by omega) := by
                    intro q hq e3
                    obtain ⟨w, rfl⟩ : ∃ w, q = w + 1 := ⟨q - 1, by omega⟩
                    simp only [List.getElem_cons_succ, List.getElem_drop]
                    congr 1
                    omega
                  rw [this _ _ (by simp; omega)]
                  exact hg (a - 1) (by omega)
            · rw [List.pairwise_append]
              refine ⟨k1.sublist (List.take_sublist _ _), ?_, ?_⟩
              · rw [List.pairwise_cons]
                refine ⟨?_, k1.sublist (List.drop_sublist _ _)⟩
                intro b hb
                rw [List.mem_drop_iff_getElem] at hb
                obtain ⟨w, hw, rfl⟩ := hb
                rw [← kcmp_pos]
                exact p3 _ (by omega) (by omega)
              · intro a ha b hb
                rw [List.mem_take_iff_getElem] at ha
                obtain ⟨w, hw, rfl⟩ := ha
                have h8 := hlt w (by omega) (by omega)
                rcases List.mem_cons.mp hb with rfl | hb
                · exact h8
                · rw [List.mem_drop_iff_getElem] at hb
                  obtain ⟨v, hv, rfl⟩ := hb
                  exact List.pairwise_iff_getElem.mp k1 w (p + v) (by omega) (by omega) (by omega)
            · intro k hk
              rcases (hmem k).mp hk with rfl | hk
              · exact ⟨ho, c1', c2⟩
              · exact k2 k hk
            · intro o ho2 hv hob
              rw [hdr] at ho2
              rcases List.mem_cons.mp ho2 with rfl | ho2
              · exact ⟨od[j], (hmem _).mpr (Or.inl rfl), rfl, Nat.le_refl _⟩
              · obtain ⟨k, e1, e2⟩ := k3 o ho2 hv hob
                exact ⟨k, (hmem k).mpr (Or.inr e1), e2⟩
            · intro k hk
              rw [hdr]
              rcases (hmem k).mp hk with rfl | hk
              · exact List.mem_cons_self
              · exact List.mem_cons_of_mem _ (k4 k hk)
          simp (disch := omega) only [gd_ok, cl_nI, nI_s, nI_add, nI_leI, nI_ltI, nI_eq, if_pos, if_neg, q0, q1, q2, q3, q4, q5, q6, q7, q8, q9, q10, MS.i_setI, MS.a_setI, MS.n_setI, MS.i_setA, MS.a_setA, MS.n_setA, MS.i_setN, MS.a_setN, MS.n_setN, ↓reduceIte, Nat.reduceEqDiff, b2_0, b2_1, b2_nn, n0_or, n1_or, n10, n01, dec1, dec2, ob_ok, oe_l, oe_r,p2, s1]
          cases p with
          | zero =>
            simp (disch := omega) only [gd_ok, cl_nI, nI_s, nI_add, nI_leI, nI_ltI, nI_eq, if_pos, if_neg, q0, q1, q2, q3, q4, q5, q6, q7, q8, q9, q10, MS.i_setI, MS.a_setI, MS.n_setI, MS.i_setA, MS.a_setA, MS.n_setA, MS.i_setN, MS.a_setN, MS.n_setN, ↓reduceIte, Nat.reduceEqDiff, b2_0, b2_1, b2_nn, n0_or, n1_or, n10, n01, dec1, dec2, ob_ok, oe_l, oe_r,s1]
            exact ⟨_, rfl, by omega, hnew (fun _ _ h => by omega)⟩
          | succ p =>
            have hpl : p < K.length := by omega
            have hk := hKk _ (List.getElem_mem hpl)
            obtain ⟨d, d1, d2⟩ := pS_cmpKeys hR' hA hk.1 ho hk.2 hkne
            simp (disch := omega) only [gd_ok, cl_nI, nI_s, nI_add, nI_leI, nI_ltI, nI_eq, if_pos, if_neg, q0, q1, q2, q3, q4, q5, q6, q7, q8, q9, q10, MS.i_setI, MS.a_setI, MS.n_setI, MS.i_setA, MS.a_setA, MS.n_setA, MS.i_setN, MS.a_setN, MS.n_setN, ↓reduceIte, Nat.reduceEqDiff, b2_0, b2_1, b2_nn, n0_or, n1_or, n10, n01, dec1, dec2, ob_ok, oe_l, oe_r,hg p hpl, d1, i32_eq0, s1]
            have p4' := p4 (by omega) (by omega)
            simp only [Nat.add_sub_cancel] at p4'
            by_cases c3 : d.toInt = 0
            · rw [if_pos c3]
              refine ⟨_, rfl, by omega, hskip (fun _ _ => ⟨K[p], List.getElem_mem hpl, kcmp_eq _ _ (by omega), ?_⟩)⟩
              have hm := k4 _ (List.getElem_mem hpl)
              rw [List.mem_drop_iff_getElem] at hm
              obtain ⟨w, hw, he⟩ := hm
              have := List.pairwise_iff_getElem.mp o5 j (j + 1 + w) hj (by omega) (by omega)
              rw [he] at this
              exact this
            · rw [if_neg c3]
              refine ⟨_, rfl, by omega, hnew ?_⟩
              intro a ha hap
              rcases Nat.lt_or_ge a p with h8 | h8
              · have h9 := List.pairwise_iff_getElem.mp k1 a p (by omega) (by omega) h8
                exact kcmp_trans _ _ _ h9 (by omega)
              · have : a = p := by omega
                subst this
                omega
        · rw [if_neg c2]
          exact ⟨_, rfl, by omega, hskip (fun _ e => absurd (by rw [e]) c2)⟩
  · refine ⟨A.n, S.a 70, [], by omega, ?_, ?_, List.Pairwise.nil, ?_, ?_, ?_⟩
    · rw [show (S.setA 45 f).setA 70 (S.a 70) = S.setA 45 f from MS.setA_self (S.setA 45 f) 70]; rfl
    · intro i h; simp at h
    · intro k h; cases h
    · intro o ho2
      rw [List.drop_of_length_le (by omega)] at ho2
      cases ho2
    · intro k h; cases h
end SG
