/-! TEXT: the reference's pieces. -/
def tkI (t : Nat) : Int32 := if t = 0 then -1 else if t = 1 then -2 else if t = 2 then -3 else nI (t - 3)
def tkT (A : AS) (r t : Nat) : List Nat := if t = 0 then [125] else if t = 1 then [93] else if t = 2 then [44] else nmT A (t - 3) ++ A.val r (t - 3)
def tks : List Nat → List Nat
  | [] => []
  | c :: l => tks l ++ (if l.isEmpty = true then [] else [2]) ++ [c + 3]
/-- the reference's stack -/
def STK (S : MS) (k : List Nat) : Prop := S.i 73 = nI k.length ∧ ∀ i (h : i < k.length), S.a 72 i = tkI k[i]
/-- what the reference leaves while it writes a text -/
def XS (S S' : MS) : Prop := (∀ j, j = 4 ∨ j = 5 ∨ j = 6 ∨ j = 7 ∨ j = 42 ∨ j = 43 → S'.i j = S.i j) ∧ (∀ k, k = 1 ∨ k = 2 ∨ k = 3 → S'.a k = S.a k) ∧ ∀ i, i < 400000 → S'.a 40 i = S.a 40 i
section TXK
variable {S S' : MS} {N : Nat → Nat} {C C' : CS} {A : AS} {r rd : Nat} {w : List Nat} {k : List Nat}
theorem XS.refl : XS S S := ⟨fun _ _ => rfl, fun _ _ => rfl, fun _ _ => rfl⟩
theorem XS.trans {S'' : MS} (h : XS S S') (g : XS S' S'') : XS S S'' := ⟨fun j hj => (g.1 j hj).trans (h.1 j hj), fun j hj => (g.2.1 j hj).trans (h.2.1 j hj), fun i hi => (g.2.2 i hi).trans (h.2.2 i hi)⟩
theorem W4.X (h : W4 S S') : XS S S' := ⟨fun j hj => h.ii (by omega), fun j hj => h.aa (by omega), fun i hi => h.lo hi⟩
theorem W4.STK (h : W4 S S') (hk : STK S k) : STK S' k := ⟨by rw [h.ii (by decide)]; exact hk.1, fun i hi => by rw [h.aa (by decide)]; exact hk.2 i hi⟩
theorem XS_setI {j : Nat} {v : Int32} (h : j ≠ 4 ∧ j ≠ 5 ∧ j ≠ 6 ∧ j ≠ 7 ∧ j ≠ 42 ∧ j ≠ 43) : XS S (S.setI j v) := ⟨fun i hi => by rw [MS.i_setI, if_neg (by omega)], fun _ _ => rfl, fun _ _ => rfl⟩
theorem XS_setA {j : Nat} {f : Nat → Int32} (h : j ≠ 1 ∧ j ≠ 2 ∧ j ≠ 3 ∧ j ≠ 40) : XS S (S.setA j f) := ⟨fun _ _ => rfl, fun i hi => by rw [MS.a_setA, if_neg (by omega)], fun i _ => by rw [MS.a_setA, if_neg (by omega)]⟩
theorem csF_f {l : List (List Nat)} : csF false l = if l.isEmpty = true then [] else 44 :: csF true l := by
  cases l with
  | nil => rfl
  | cons a l => rfl
theorem tks_out {g : Nat → List Nat} (hg : ∀ c, tkT A r (c + 3) = g c) : ∀ {l : List Nat}, (tks l).reverse.flatMap (tkT A r) = csF true (l.map g) := by
  intro l
  induction l with
  | nil => rfl
  | cons c l ih =>
    rw [tks, List.reverse_append, List.reverse_append, List.reverse_singleton, List.flatMap_append, List.flatMap_append, ih]
    have h1 : [c + 3].flatMap (tkT A r) = g c := by rw [List.flatMap_cons, List.flatMap_nil, List.append_nil, hg]
    rw [h1, List.map_cons, csF_cons, csF_f]
    cases l with
    | nil => simp [csF]
    | cons d l =>
      simp only [List.isEmpty_cons, Bool.false_eq_true, if_false, List.map_cons]
      show g c ++ ([2].reverse.flatMap (tkT A r) ++ _) = _
      simp [tkT]
theorem tks_len : ∀ {l : List Nat}, (tks l).length ≤ 2 * l.length := by
  intro l
  induction l with
  | nil => exact Nat.le_refl _
  | cons c l ih =>
    rw [tks, List.length_append, List.length_append]
    cases l with
    | nil => simp [tks]
    | cons d l =>
      simp only [List.isEmpty_cons, Bool.false_eq_true, if_false, List.length_cons, List.length_nil] at *
      omega
theorem pT_push (hk : STK S k) (hl : k.length < 12010) (t : Nat) : ∃ S', m_rpush S (tkI t) = some S' ∧ STK S' (k ++ [t]) ∧ (∀ {A : AS}, RS S A → RS S' A) ∧ (∀ {w : List Nat}, WR S w → WR S' w) ∧ XS S S' ∧ (∀ j, j ≠ 73 → S'.i j = S.i j) ∧ (∀ j, j ≠ 72 → S'.a j = S.a j) := by
  obtain ⟨h1, h2⟩ := hk
  unfold m_rpush m_rpush_J0
  rw [h1, gd_ok hl (by omega), cl_nI (by omega), nI_s]
  refine ⟨_, rfl, ⟨?_, ?_⟩, fun hR => (hR.setA rfl).setI rfl, ?_, (XS_setA (by omega)).trans (XS_setI (by omega)), ?_, ?_⟩
  · rw [MS.i_setI, if_pos rfl, List.length_append, List.length_singleton]
  · intro i hi
    rw [List.length_append, List.length_singleton] at hi
    rw [MS.a_setI, MS.a_setA, if_pos rfl]
    unfold upd
    by_cases e : i < k.length
    · rw [if_neg (by omega), List.getElem_append_left e]
      exact h2 i e
    · have e2 : i = k.length := by omega
      subst e2
      rw [if_pos rfl, List.getElem_concat_length rfl]
  · rintro w ⟨g1, g2, g3⟩
    refine ⟨?_, g2, ?_⟩
    · rw [MS.i_setI, if_neg (by decide), MS.i_setA]; exact g1
    · intro i hi
      rw [MS.a_setI, MS.a_setA, if_neg (by decide)]
      exact g3 i hi
  · intro j hj
    rw [MS.i_setI, if_neg hj, MS.i_setA]
  · intro j hj
    rw [MS.a_setI, MS.a_setA, if_neg hj]
theorem pT_plain (hR : RS S A) (hA : AI A) (hr : r < 8) (hw : WR S w) (hl : w.length ≤ 900000000) {m : Nat} (hm : m < A.n) (ha : A.act m ≤ 5) : ∃ S', m_rplain S (nI r) (nI m) = some S' ∧ WR S' (w ++ plT A r m) ∧ W4 S S' := by
  have hn := hA.1.1
  have hop := hR.2.1 m hm
  have h11 := hop.2.2.2.1
  unfold m_rplain m_rplain_J0
  rw [gd_ok (by omega) (by omega), cl_nI (by omega), h11]
  unfold plT
  have hwd : ∀ n, n < 3 → A.act m = n → ∃ S', m_rplain_J44 S (nI m) = some S' ∧ WR S' (w ++ wrd n) ∧ W4 S S' := by
    intro n hn3 he
    obtain ⟨S', a1, a2, a3⟩ := pW_word hw (by omega) hn3
    refine ⟨S', ?_, a2, a3⟩
    unfold m_rplain_J44
    rw [gd_ok (by omega) (by omega), cl_nI (by omega), h11, he, gd_ok (by omega) (by omega)]
    rcases (show n = 0 ∨ n = 1 ∨ n = 2 by omega) with h | h | h
    · rw [h] at a1 ⊢; exact a1
    · rw [h] at a1 ⊢; exact a1
    · rw [h] at a1 ⊢; exact a1
  have hcase : A.act m = 0 ∨ A.act m = 1 ∨ A.act m = 2 ∨ A.act m = 3 ∨ A.act m = 4 ∨ A.act m = 5 := by omega
  rcases hcase with h | h | h | h | h | h
  · rw [h]
    exact hwd 0 (by omega) h
  · rw [h]
    exact hwd 1 (by omega) h
  · rw [h]
    exact hwd 2 (by omega) h
  · rw [h, if_neg (show ¬ nI 3 = 0 by decide), if_neg (show ¬ nI 3 = 1 by decide), if_neg (show ¬ nI 3 = 2 by decide), if_pos (show nI 3 = 3 by decide), if_pos rfl, gd_ok (by omega) (by omega), hop.2.2.2.2.2.2.2.2]
    obtain ⟨S', a1, a2, a3⟩ := pW_long hw (by omega) (A.num m)
    exact ⟨S', by rw [a1, ob_ok]; rfl, a2, a3⟩
  · rw [h, if_neg (show ¬ nI 4 = 0 by decide), if_neg (show ¬ nI 4 = 1 by decide), if_neg (show ¬ nI 4 = 2 by decide), if_neg (show ¬ nI 4 = 3 by decide), if_pos (show nI 4 = 4 by decide), if_neg (by omega), if_pos rfl]
    exact pW_string hR hA hw hm (by omega)
  · rw [h, if_neg (show ¬ nI 5 = 0 by decide), if_neg (show ¬ nI 5 = 1 by decide), if_neg (show ¬ nI 5 = 2 by decide), if_neg (show ¬ nI 5 = 3 by decide), if_neg (show ¬ nI 5 = 4 by decide), if_pos (show nI 5 = 5 by decide), if_neg (by omega), if_neg (by omega), if_pos rfl, pS_counter hR hA hr hm, ob_ok]
    simp only []
    obtain ⟨S', a1, a2, a3⟩ := pW_long hw (by omega) (A.ctr r m)
    exact ⟨S', by rw [a1, ob_ok]; rfl, a2, a3⟩
end TXK
