/-! THE REFERENCE: key, string; setKey, insertBehind. -/
section SQ
variable {S : MS} {A : AS}
variable {r : Nat} {x : Option Nat} {act : Nat} {num : Int64} {ins : Nat} {par : Option Nat} {s : Nat} {key pre : List Nat} {pl : Nat} {Lx Os : List Nat}
/-- the key of the new op is kept -/
theorem RS_key {k : List Nat} {f : Nat → Int32} (hA : AI A) (h : RS S (A.mk r x act num ins par s [] pre pl Lx Os)) (hk : ∀ i (h : i < k.length), k[i] < 256 ∧ f (A.kn + i) = sb k[i]) (hf : ∀ j, j < A.kn → f j = S.a 26 j) :
    RS (((((S.setA 26 f).setI 27 (nI (A.kn + k.length))).setA 14 (upd (S.a 14) A.n (nI A.kn))).setA 15 (upd (S.a 15) A.n (nI k.length)))) (A.mk r x act num ins par s k pre pl Lx Os) := by
  refine ⟨⟨h.1.1, h.1.2.1, ?_⟩, h.2.1, ?_, h.2.2.2.1, h.2.2.2.2.1, h.2.2.2.2.2.1, h.2.2.2.2.2.2.1, R_rp_setA (R_rp_setA (R_rp_setA (S := S) h.2.2.2.2.2.2.2 (by decide) (by decide)) (by decide) (by decide)) (by decide) (by decide)⟩
  · rfl
  · intro o ho
    have h1 := h.2.2.1 o ho
    rw [mk_key, mk_ba, mk_str, mk_kn, mk_act] at h1 ⊢
    simp only [MS.i_setI, MS.a_setI, MS.n_setI, MS.i_setA, MS.a_setA, MS.n_setA, MS.i_setN, MS.a_setN, MS.n_setN, Nat.reduceEqDiff, if_false, if_true]
    by_cases e : o = A.n
    · subst e
      simp only [upd_at, if_true, List.length_nil, Nat.add_zero] at h1 ⊢
      refine ⟨fun _ => by trivial, by trivial, fun h => absurd rfl h, h1.2.2.2.1, h1.2.2.2.2.1, Nat.le_refl _, hk, ?_⟩
      intro i hi
      simp at hi
    · simp only [upd_ne e, if_neg e, List.length_nil, Nat.add_zero] at h1 ⊢
      obtain ⟨a1, a2, a3, a4, a5, a6, a7, a8⟩ := h1
      refine ⟨a1, a2, a3, a4, a5, by omega, ?_, ?_⟩
      · intro i hi
        rw [hf _ (by omega)]
        exact a7 i hi
      · intro i hi
        rw [hf _ (by omega)]
        exact a8 i hi
/-- the last op gets a string -/
def AS.gs (A : AS) (st : List Nat) : AS :=
  (fun k => if k = 2 then A.kn + st.length else A.1 k, A.2.1, A.2.2.1, fun k o => if k = 1 ∧ o + 1 = A.n then st else A.2.2.2.1 k o, A.2.2.2.2)
theorem gs_str {st : List Nat} (o : Nat) : (A.gs st).str o = if o + 1 = A.n then st else A.str o := by
  show (if 1 = 1 ∧ o + 1 = A.n then st else A.str o) = _
  simp
theorem gs_kn {st : List Nat} : (A.gs st).kn = A.kn + st.length := rfl
theorem gs_AI {st : List Nat} (h : AI A) (hk : A.kn + st.length ≤ 24576) : AI (A.gs st) := by
  obtain ⟨⟨a, b, c, c'⟩, d⟩ := h
  refine ⟨⟨a, b, hk, ?_⟩, d⟩
  have hle : ∀ k, k ≤ A.n → (A.gs st).kbs k ≤ A.kbs k + (if k = A.n then st.length else 0) := by
    intro k
    induction k with
    | zero => intro _; exact Nat.zero_le _
    | succ k ih =>
      intro hkn
      have h1 := ih (by omega)
      rw [if_neg (by omega)] at h1
      rw [kbs_s, kbs_s, show (A.gs st).key k = A.key k from by show (if 0 = 1 ∧ k + 1 = A.n then st else A.key k) = _; simp, gs_str]
      by_cases e : k + 1 = A.n
      · rw [if_pos e, if_pos e]; omega
      · rw [if_neg e, if_neg e]; omega
  have := hle A.n (Nat.le_refl _)
  rw [if_pos rfl] at this
  show (A.gs st).kbs A.n ≤ A.kn + st.length
  omega
theorem RS_str {n : Nat} {st : List Nat} {f : Nat → Int32} (h : RS S A) (hn : A.n = n + 1) (hA4 : A.act n = 4) (hs : A.str n = []) (hkn : A.ba n + (A.key n).length = A.kn) (hk : ∀ i (h : i < st.length), st[i] < 256 ∧ f (A.kn + i) = sb st[i]) (hf : ∀ j, j < A.kn → f j = S.a 26 j) :
    RS (((((S.setA 26 f).setI 27 (nI (A.kn + st.length))).setA 16 (upd (S.a 16) n (nI A.kn))).setA 17 (upd (S.a 17) n (nI st.length)))) (A.gs st) := by
  refine ⟨⟨h.1.1, h.1.2.1, rfl⟩, h.2.1, ?_, h.2.2.2.1, h.2.2.2.2.1, h.2.2.2.2.2.1, h.2.2.2.2.2.2.1, R_rp_setA (R_rp_setA (R_rp_setA (S := S) h.2.2.2.2.2.2.2 (by decide) (by decide)) (by decide) (by decide)) (by decide) (by decide)⟩
  intro o ho
  obtain ⟨a1, a2, a3, a4, a5, a6, a7, a8⟩ := h.2.2.1 o ho
  rw [gs_str, gs_kn]
  show (A.key o ≠ [] → S.a 14 o = nI (A.ba o)) ∧ S.a 15 o = nI (A.key o).length ∧ _
  simp only [MS.i_setI, MS.a_setI, MS.n_setI, MS.i_setA, MS.a_setA, MS.n_setA, MS.i_setN, MS.a_setN, MS.n_setN, Nat.reduceEqDiff, if_false, if_true]
  show _ ∧ _ ∧ (_ → upd (S.a 16) n (nI A.kn) o = nI (A.ba o + (A.key o).length)) ∧ _ ∧ (A.act o ≠ 4 → _) ∧ A.ba o + (A.key o).length + _ ≤ _ ∧ (∀ i (h : i < (A.key o).length), (A.key o)[i] < 256 ∧ f (A.ba o + i) = sb (A.key o)[i]) ∧ _
  by_cases e : o = n
  · subst e
    simp only [upd_at, if_pos hn.symm]
    refine ⟨a1, a2, fun _ => by rw [hkn], by trivial, fun h => absurd hA4 h, by omega, ?_, ?_⟩
    · intro i hi
      rw [hf _ (by omega)]
      exact a7 i hi
    · intro i hi
      show _ ∧ f (A.ba o + (A.key o).length + i) = _
      rw [hkn]
      exact hk i hi
  · have hno : ¬ o + 1 = A.n := by omega
    simp only [upd_ne e, if_neg hno]
    refine ⟨a1, a2, a3, a4, a5, by omega, ?_, ?_⟩
    · intro i hi
      rw [hf _ (by omega)]
      exact a7 i hi
    · intro i hi
      show _ ∧ f (A.ba o + (A.key o).length + i) = _
      rw [hf _ (by omega)]
      exact a8 i hi
/-- the string of a value: none but for a STRING -/
def stv (act : Nat) (st : List Nat) : List Nat := if act = 4 then st else []
theorem gs_nil (h : A.str (A.n - 1) = []) (hn : 0 < A.n) : A.gs [] = A := by
  obtain ⟨a, b, c, d, e⟩ := A
  unfold AS.gs AS.kn
  simp only [List.length_nil, Nat.add_zero]
  congr 1
  · funext k
    by_cases e : k = 2
    · subst e; rfl
    · simp [e]
  · congr 2
    congr 1
    funext k o
    by_cases h1 : k = 1 ∧ o + 1 = AS.n (a, b, c, d, e)
    · rw [if_pos h1]
      obtain ⟨rfl, h2⟩ := h1
      have : o = AS.n (a, b, c, d, e) - 1 := by omega
      rw [this]
      exact h.symm
    · rw [if_neg h1]
theorem pS_value {n : Nat} {b p : Nat} {st : List Nat} (hnn : A.n ≤ 4000) (h : RS S A) (hn : A.n = n + 1) (hs : A.str n = []) (hkn : A.ba n + (A.key n).length = A.kn) (hact : A.act n ≤ 10)
    (hb : b = 1 ∨ b = 2 ∨ b = 3 ∨ b = 62) (hk : A.act n = 4 → byts S b p st ∧ p + st.length ≤ 8300 ∧ A.kn + st.length ≤ 24576) {q : Int32} (hq : A.act n = 4 → q = nI st.length) {p' : Int32} (hp' : A.act n = 4 → p' = nI p) :
    ∃ S', m_rvalue S (nI n) (nI (A.act n)) b p' q = some S' ∧ RS S' (A.gs (stv (A.act n) st)) ∧ (∀ j, j ≠ 27 → S'.i j = S.i j) ∧ (∀ k, k ≠ 16 → k ≠ 17 → k ≠ 26 → S'.a k = S.a k) ∧ S'.n 61 = S.n 61 := by
  unfold m_rvalue m_rvalue_J0
  unfold stv
  by_cases e : A.act n = 4
  · obtain ⟨k1, k2, k3⟩ := hk e
    obtain ⟨f, f1, f2, f3⟩ := pS_keep hb k1 k2 h.1.2.2 k3
    rw [hq e, hp' e]
    simp (disch := omega) only [gd_ok, cl_nI, nI_s, nI_add, nI_leI, nI_ltI, nI_eq, if_pos, if_neg, q0, q1, q2, q3, q4, q5, q6, q7, q8, q9, q10, MS.i_setI, MS.a_setI, MS.n_setI, MS.i_setA, MS.a_setA, MS.n_setA, MS.i_setN, MS.a_setN, MS.n_setN, ↓reduceIte, Nat.reduceEqDiff, b2_0, b2_1, b2_nn, n0_or, n1_or, n10, n01, dec1, dec2, ob_ok, oe_l, oe_r,f1, if_pos e]
    refine ⟨_, rfl, ?_, ?_, ?_, rfl⟩
    · exact RS_str h hn e hs hkn (fun i hi => ⟨(k1 i hi).1, f2 i hi⟩) f3
    · intro j hj
      simp only [MS.i_setI, MS.a_setI, MS.n_setI, MS.i_setA, MS.a_setA, MS.n_setA, MS.i_setN, MS.a_setN, MS.n_setN, if_neg hj]
    · intro k h1 h2 h3
      simp only [MS.i_setI, MS.a_setI, MS.n_setI, MS.i_setA, MS.a_setA, MS.n_setA, MS.i_setN, MS.a_setN, MS.n_setN, if_neg h1, if_neg h2, if_neg h3]
  · simp (disch := omega) only [gd_ok, cl_nI, nI_s, nI_add, nI_leI, nI_ltI, nI_eq, if_pos, if_neg, q0, q1, q2, q3, q4, q5, q6, q7, q8, q9, q10, MS.i_setI, MS.a_setI, MS.n_setI, MS.i_setA, MS.a_setA, MS.n_setA, MS.i_setN, MS.a_setN, MS.n_setN, ↓reduceIte, Nat.reduceEqDiff, b2_0, b2_1, b2_nn, n0_or, n1_or, n10, n01, dec1, dec2, ob_ok, oe_l, oe_r,if_neg e]
    refine ⟨_, rfl, ?_, fun _ _ => rfl, fun _ _ _ _ => rfl, rfl⟩
    rw [gs_nil (by rw [hn]; exact hs) (by omega)]
    exact h
/-- rows that a call which makes ops leaves as they are -/
def frA (S S' : MS) : Prop := (∀ j, j ≠ 23 → j ≠ 25 → j ≠ 27 → j ≠ 47 → S'.i j = S.i j) ∧ (∀ k, (k < 8 ∨ (28 < k ∧ k ≠ 45 ∧ k ≠ 46)) → S'.a k = S.a k) ∧ S'.n 61 = S.n 61
theorem frA.trans {S S' S'' : MS} (h : frA S S') (h2 : frA S' S'') : frA S S'' :=
  ⟨fun j a b c d => (h2.1 j a b c d).trans (h.1 j a b c d), fun k hk => (h2.2.1 k hk).trans (h.2.1 k hk), h2.2.2.trans h.2.2⟩
theorem byts_fr {S S' : MS} {b p : Nat} {k : List Nat} (h : byts S b p k) (he : S'.a b = S.a b) : byts S' b p k := by
  intro i hi
  rw [he]
  exact h i hi
theorem mkA_not {k : Nat} (h : k < 8 ∨ 28 < k) : k ∉ mkA := by
  unfold mkA
  simp
  omega
theorem kc_len (hA : AI A) {r : Nat} {x : Option Nat} {k : List Nat} : (A.kc r x k).length ≤ 8 := by
  unfold AS.kc
  split
  · simp
  · exact cd_len hA
theorem kc_mem (hA : AI A) {r : Nat} {x : Option Nat} {k : List Nat} {o : Nat} (h : o ∈ A.kc r x k) : o < A.n ∧ A.act o ≤ 10 := by
  unfold AS.kc at h
  split at h
  · cases h
  · have := (cd_mem hA).mp h
    exact ⟨this.1, (hA.2.2.1.1 o this.1).2.2.2.2.1⟩
theorem pS_setKey (hR : RS S A) (hA : AI A) {r : Nat} (hr : r < 8) {x : Option Nat} (hx : A.oV r x) (hkd : A.kd x = 6) {b p : Nat} {k : List Nat} (hb : b = 1 ∨ b = 2 ∨ b = 3 ∨ b = 62) (hk : byts S b p k) (hp : p + k.length ≤ 8300) (hk0 : k ≠ [])
    {act : Nat} (hact : act ≤ 10) {num : Int64} {s : Nat} {Lx Os : List Nat} (hn : A.n < 4000) {b' p1 : Nat} {st : List Nat} (hb' : b' = 1 ∨ b' = 2 ∨ b' = 3 ∨ b' = 62) (hst : act = 4 → byts S b' p1 st ∧ p1 + st.length ≤ 8300)
    (hkn : A.kn + k.length + (stv act st).length ≤ 24576) {q p' : Int32} (hq : act = 4 → q = nI st.length) (hp' : act = 4 → p' = nI p1) :
    ∃ S', m_rsetKey S (nI r) (nI (A.oi x)) b (nI p) (nI k.length) (nI act) num b' p' q = some (S', nI A.n) ∧ RS S' ((A.mk r x act num 0 none s k (A.kc r x k).reverse 0 Lx Os).gs (stv act st)) ∧ frA S S' := by
  have hxn : ∀ m, x = some m → m < A.n := by
    intro m hm
    subst hm
    exact hx.1
  obtain ⟨f, g, c1, c2, c3⟩ := pS_keyCand hR hA hr hx hkd hb hk hp hk0
  have hR1 : RS (((S.setA 45 f).setA 46 g).setI 47 (nI (A.kc r x k).length)) A := ((hR.setA rfl).setA rfl).setI rfl
  obtain ⟨S2, m1, m2, m3, m4, m5, m6⟩ := pS_make hR1 hA hr hxn hact hn (num := num) (par := none) (s := s) (Lx := Lx) (Os := Os)
  obtain ⟨t, pa, t1, t2, _⟩ := hR.2.2.2.1
  have hcl := kc_len hA (r := r) (x := x) (k := k)
  obtain ⟨f3, g3, v3, n1, n2⟩ := pS_follows (cf := false) (cs := A.kc r x k) m2 hn (t := t) (by rw [m3 25 (by decide)]; exact t1) (by rw [m6]; exact t1) t2 (by
    intro i hi
    rw [m4 46 (mkA_not (by omega))]
    exact c2 i hi) (by rw [m3 47 (by decide)]; rfl) (fun c hc => (kc_mem hA hc).1) hcl (fun c hc => (kc_mem hA hc).2)
  have hfil : (A.kc r x k).reverse.filter (fun c => !false || decide (A.act c = 5)) = (A.kc r x k).reverse := by
    rw [List.filter_eq_self]
    simp
  rw [hfil] at n2
  have hba : ∀ b, (b = 1 ∨ b = 2 ∨ b = 3 ∨ b = 62) → (((S2.setA 24 f3).setA 19 g3).setI 25 v3).a b = S.a b := by
    intro b hb
    simp only [MS.i_setI, MS.a_setI, MS.n_setI, MS.i_setA, MS.a_setA, MS.n_setA, MS.i_setN, MS.a_setN, MS.n_setN]
    rw [if_neg (by omega), if_neg (by omega), m4 b (mkA_not (by omega))]
    simp only [MS.i_setI, MS.a_setI, MS.n_setI, MS.i_setA, MS.a_setA, MS.n_setA, MS.i_setN, MS.a_setN, MS.n_setN]
    rw [if_neg (by omega), if_neg (by omega)]
  obtain ⟨f4, k1, k2, k3⟩ := pS_keep (S := ((S2.setA 24 f3).setA 19 g3).setI 25 v3) (kn := A.kn) hb (byts_fr hk (hba b hb)) hp (by
    show S2.i 27 = _
    rw [m3 27 (by decide)]
    exact hR.1.2.2) (by omega)
  have hR4 := RS_key hA n2 (k := k) (f := f4) (fun i hi => ⟨(hk i hi).1, k2 i hi⟩) k3
  have hn1 : (A.mk r x act num 0 none s k (A.kc r x k).reverse 0 Lx Os).n = A.n + 1 := rfl
  have ha1 : (A.mk r x act num 0 none s k (A.kc r x k).reverse 0 Lx Os).act A.n = act := by rw [mk_act, if_pos rfl]
  obtain ⟨S5, v1, v2, v4, v5, v6⟩ := pS_value (n := A.n) (b := b') (p := p1) (st := st) (by rw [hn1]; omega) hR4 hn1 (by rw [mk_str, if_pos rfl]) (by rw [mk_ba, mk_key, if_pos rfl, if_pos rfl]; rfl) (by rw [ha1]; exact hact) hb' (by
    rw [ha1]
    intro e
    have := hst e
    refine ⟨byts_fr this.1 ?_, this.2, ?_⟩
    · simp only [MS.i_setI, MS.a_setI, MS.n_setI, MS.i_setA, MS.a_setA, MS.n_setA, MS.i_setN, MS.a_setN, MS.n_setN]
      rw [if_neg (by omega), if_neg (by omega), if_neg (by omega)]
      exact hba b' hb'
    · rw [mk_kn]
      unfold stv at hkn
      rw [if_pos e] at hkn
      omega) (q := q) (by rw [ha1]; exact hq) (p' := p') (by rw [ha1]; exact hp')
  rw [ha1] at v1 v2
  refine ⟨S5, ?_, v2, ?_, ?_, ?_⟩
  · unfold m_rsetKey m_rsetKey_J0
    simp (disch := omega) only [gd_ok, cl_nI, nI_s, nI_add, nI_leI, nI_ltI, nI_eq, if_pos, if_neg, q0, q1, q2, q3, q4, q5, q6, q7, q8, q9, q10, MS.i_setI, MS.a_setI, MS.n_setI, MS.i_setA, MS.a_setA, MS.n_setA, MS.i_setN, MS.a_setN, MS.n_setN, ↓reduceIte, Nat.reduceEqDiff, b2_0, b2_1, b2_nn, n0_or, n1_or, n10, n01, dec1, dec2, ob_ok, oe_l, oe_r,c1, m1, show m_rfollows S2 (nI A.n) (nI 0) = _ from n1, k1]
    have v1' := v1
    simp only [MS.i_setI, MS.a_setI, MS.n_setI, MS.i_setA, MS.a_setA, MS.n_setA, MS.i_setN, MS.a_setN, MS.n_setN, Nat.reduceEqDiff, if_false] at v1'
    simp only [MS.i_setI, MS.a_setI, MS.n_setI, MS.i_setA, MS.a_setA, MS.n_setA, MS.i_setN, MS.a_setN, MS.n_setN, Nat.reduceEqDiff, if_false, v1', ob_ok]
  · intro j a1 a2 a3 a4
    rw [v4 j a3]
    simp only [MS.i_setI, MS.a_setI, MS.n_setI, MS.i_setA, MS.a_setA, MS.n_setA, MS.i_setN, MS.a_setN, MS.n_setN, if_neg a3, if_neg a2]
    rw [m3 j a1]
    simp only [MS.i_setI, MS.a_setI, MS.n_setI, MS.i_setA, MS.a_setA, MS.n_setA, MS.i_setN, MS.a_setN, MS.n_setN, if_neg a4]
  · intro j hj
    rw [v5 j (by omega) (by omega) (by omega)]
    simp only [MS.i_setI, MS.a_setI, MS.n_setI, MS.i_setA, MS.a_setA, MS.n_setA, MS.i_setN, MS.a_setN, MS.n_setN]
    rw [if_neg (by omega), if_neg (by omega), if_neg (by omega), if_neg (by omega), if_neg (by omega), m4 j (mkA_not (by omega))]
    simp only [MS.i_setI, MS.a_setI, MS.n_setI, MS.i_setA, MS.a_setA, MS.n_setA, MS.i_setN, MS.a_setN, MS.n_setN]
    rw [if_neg (by omega), if_neg (by omega)]
  · rw [v6]
    exact m5
theorem pS_insB (hR : RS S A) (hA : AI A) {r : Nat} (hr : r < 8) {x : Option Nat} (hx : ∀ m, x = some m → m < A.n)
    {act : Nat} (hact : act ≤ 10) {num : Int64} {par : Option Nat} {v s : Nat} {Lx Os : List Nat} (hn : A.n < 4000) {b' p1 : Nat} {st : List Nat} (hb' : b' = 1 ∨ b' = 2 ∨ b' = 3 ∨ b' = 62) (hst : act = 4 → byts S b' p1 st ∧ p1 + st.length ≤ 8300)
    (hkn : A.kn + (stv act st).length ≤ 24576) {q p' : Int32} (hq : act = 4 → q = nI st.length) (hp' : act = 4 → p' = nI p1) :
    ∃ S', m_rinsertBehind S (nI r) (nI (A.oi x)) (nI v) (nI act) num b' p' q = some (S', nI A.n) ∧ RS S' ((A.mk r x act num 1 par s [] [] v Lx Os).gs (stv act st)) ∧ frA S S' := by
  obtain ⟨S2, m1, m2, m3, m4, m5, m6⟩ := pS_make hR hA hr hx hact hn (num := num) (par := par) (s := s) (Lx := Lx) (Os := Os)
  have hR4 := RS_pl (v := v) (RS_ins (v := 1) m2)
  have hn1 : (A.mk r x act num 1 par s [] [] v Lx Os).n = A.n + 1 := rfl
  have ha1 : (A.mk r x act num 1 par s [] [] v Lx Os).act A.n = act := by rw [mk_act, if_pos rfl]
  obtain ⟨S5, v1, v2, v4, v5, v6⟩ := pS_value (n := A.n) (b := b') (p := p1) (st := st) (by rw [hn1]; omega) hR4 hn1 (by rw [mk_str, if_pos rfl]) (by rw [mk_ba, mk_key, if_pos rfl, if_pos rfl]; rfl) (by rw [ha1]; exact hact) hb' (by
    rw [ha1]
    intro e
    have := hst e
    refine ⟨byts_fr this.1 ?_, this.2, ?_⟩
    · simp only [MS.i_setI, MS.a_setI, MS.n_setI, MS.i_setA, MS.a_setA, MS.n_setA, MS.i_setN, MS.a_setN, MS.n_setN]
      rw [if_neg (by omega), if_neg (by omega), m4 b' (mkA_not (by omega))]
    · rw [mk_kn]
      unfold stv at hkn
      rw [if_pos e] at hkn
      simp
      omega) (q := q) (by rw [ha1]; exact hq) (p' := p') (by rw [ha1]; exact hp')
  rw [ha1] at v1 v2
  refine ⟨S5, ?_, v2, ?_, ?_, ?_⟩
  · unfold m_rinsertBehind m_rinsertBehind_J0
    simp (disch := omega) only [gd_ok, cl_nI, nI_s, nI_add, nI_leI, nI_ltI, nI_eq, if_pos, if_neg, q0, q1, q2, q3, q4, q5, q6, q7, q8, q9, q10, MS.i_setI, MS.a_setI, MS.n_setI, MS.i_setA, MS.a_setA, MS.n_setA, MS.i_setN, MS.a_setN, MS.n_setN, ↓reduceIte, Nat.reduceEqDiff, b2_0, b2_1, b2_nn, n0_or, n1_or, n10, n01, dec1, dec2, ob_ok, oe_l, oe_r,m1, nar_b1]
    have v1' := v1
    simp only [MS.i_setI, MS.a_setI, MS.n_setI, MS.i_setA, MS.a_setA, MS.n_setA, MS.i_setN, MS.a_setN, MS.n_setN, Nat.reduceEqDiff, if_false] at v1'
    have e1 : (1 : Int32) = nI 1 := by decide
    simp only [e1, v1', ob_ok]
  · intro j a1 a2 a3 a4
    rw [v4 j a3]
    exact m3 j a1
  · intro j hj
    rw [v5 j (by omega) (by omega) (by omega)]
    simp only [MS.i_setI, MS.a_setI, MS.n_setI, MS.i_setA, MS.a_setA, MS.n_setA, MS.i_setN, MS.a_setN, MS.n_setN]
    rw [if_neg (by omega), if_neg (by omega), m4 j (mkA_not (by omega))]
  · rw [v6]
    exact m5
end SQ
