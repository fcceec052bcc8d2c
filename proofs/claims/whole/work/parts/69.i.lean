/-! THE CLASS: an op on a spot that is there; an op at a key. -/
section WO
variable {N : Nat → Nat} {C : CS} {A : AS} {r rd : Nat} {x : Option Nat} {act : Nat} {num : Int64} {ins : Nat} {par : Option Nat} {s : Nat} {key pre : List Nat} {pl : Nat} {Lx Os : List Nat}
theorem mkOK_on (hA : AI A) (hr : r < 8) (hlk : A.lk r = none) (hn : A.n < 4000) (hs : s < A.n) (hss : A.sp s = s) (hsx : A.obj s = x) (hx : A.oV r x) (hkn : A.kn + (A.key s).length ≤ 24576) (hact : act ≤ 10) (hsv : A.kd x ≠ 6 → A.inV r s = true) :
    mkOK A r x act num 0 none s (A.key s) ((A.cd r s).reverse.filter (fun c => !decide (act = 10) || decide (A.act c = 5))) (if A.kd x = 6 then 0 else A.id s) (A.L x) (insO A.id (8 * (A.tp r + 1) + r) A.n (A.O s)) := by
  have hsn : ¬ s = A.n := by omega
  have hO := hA.2.2.1.2.2.2.2.2.2.2.2.2 s
  have hLx := hA.2.2.1.2.2.2.2.2.2.2.2.1 x
  have hLn : ∀ t, t ∈ A.L x → t ≠ A.n := fun t ht e => by have := (L_mem hA ht).1; omega
  have hnO : A.n ∉ A.O s := fun h => by have := ((hO.2.1 _).mp h).1; omega
  have hsL : s ∈ A.L x := (hLx.2.1 s).mpr ⟨hs, hsx, hss⟩
  refine ⟨hr, hlk, hn, hkn, hact, hx, by simp, Or.inr ⟨hs, hsx, hss⟩, Or.inl rfl, fun h => by omega, ?_, ?_, ⟨insO_nodup hO.1 hnO, fun o => insO_mem, insO_sorted hO.2.2 hnO⟩, hLx.1, ?_, ?_, ?_⟩
  · intro _
    refine ⟨rfl, ?_, ?_⟩
    · intro hk
      exact ⟨(key_nil hA hs).mpr (by rw [hsx]; exact hk), hs, (L_ins hA hk hsL).2.2.2, hsv hk⟩
    · intro hk
      have hi : A.ins s = 0 := by
        have := (hA.2.2.1.1 s hs).2.2.2.2.2.2
        rcases Nat.lt_or_ge (A.ins s) 1 with h5 | h5
        · omega
        · have h6 := hA.2.2.1.2.2.2.2.1 s hs (by omega)
          rw [hsx] at h6
          exact absurd hk h6.2.2.2.1
      have h1 := (hA.2.2.1.2.2.2.2.2.1 s hs hi).2.2.2.2.2 (by rw [hsx]; exact hk)
      exact ⟨h1.1, h1.2.1, fun _ => ⟨rfl, hi⟩⟩
  · rw [if_neg hsn]
  · intro t
    constructor
    · exact Or.inr
    · rintro (⟨_, h⟩ | h)
      · exact absurd h hsn
      · exact h
  · intro hk
    refine List.Pairwise.imp_of_mem ?_ (hLx.2.2.1 hk)
    intro a b ha hb hab
    rw [if_neg (hLn a ha), if_neg (hLn b hb)]
    exact hab
  · intro hk
    refine Jp_congr (hLx.2.2.2 hk) ?_
    intro o ho
    have := hLn o ho
    refine ⟨by simp [this], by simp [this], ?_⟩
    intro h
    simpa [this] using h
theorem mkOK_key (hA : AI A) (hr : r < 8) (hlk : A.lk r = none) (hn : A.n < 4000) (hx : A.oV r x) (hkd : A.kd x = 6) (hk1 : 1 ≤ key.length) (hk2 : key.length ≤ 64) (hks : A.ks x key = none) (hkn : A.kn + key.length ≤ 24576) (hact : act ≤ 10) :
    mkOK A r x act num 0 none A.n key [] 0 ((A.L x).takeWhile (fun t => decide (kcmp (A.key t) key < 0)) ++ A.n :: (A.L x).dropWhile (fun t => decide (kcmp (A.key t) key < 0))) [A.n] := by
  have hLx := hA.2.2.1.2.2.2.2.2.2.2.2.1 x
  have hLn : ∀ t, t ∈ A.L x → t ≠ A.n := fun t ht e => by have := (L_mem hA ht).1; omega
  have hLL := List.takeWhile_append_dropWhile (p := fun t => decide (kcmp (A.key t) key < 0)) (l := A.L x)
  have hsort := hLx.2.2.1 hkd
  rw [ks_none] at hks
  refine ⟨hr, hlk, hn, hkn, hact, hx, by simp [hkd], Or.inl rfl, Or.inl rfl, fun h => by omega, ?_, by simp, ?_, ?_, ?_, ?_, fun h => absurd hkd h⟩
  · intro _
    exact ⟨rfl, fun h => absurd hkd h, fun _ => ⟨hk1, hk2, fun h => by omega⟩⟩
  · rw [O_new hA]
    simp
  · have h1 := hLx.1
    rw [← hLL, List.nodup_append] at h1
    rw [List.nodup_append]
    refine ⟨h1.1, ?_, ?_⟩
    · rw [List.nodup_cons]
      exact ⟨fun h => hLn A.n (dk_mem h) rfl, h1.2.1⟩
    · intro a ha b hb e
      subst e
      rcases List.mem_cons.mp hb with h2 | h2
      · subst h2
        exact hLn _ (tk_mem ha) rfl
      · exact h1.2.2 a ha a h2 rfl
  · intro t
    have : t ∈ A.L x ↔ t ∈ (A.L x).takeWhile (fun t => decide (kcmp (A.key t) key < 0)) ∨ t ∈ (A.L x).dropWhile (fun t => decide (kcmp (A.key t) key < 0)) := by
      rw [← List.mem_append, hLL]
    rw [this, List.mem_append, List.mem_cons]
    constructor
    · rintro (h | h | h)
      · exact Or.inr (Or.inl h)
      · exact Or.inl ⟨h, rfl⟩
      · exact Or.inr (Or.inr h)
    · rintro (⟨h, _⟩ | h | h)
      · exact Or.inr (Or.inl h)
      · exact Or.inl h
      · exact Or.inr (Or.inr h)
  · intro _
    have h1 := hsort
    rw [← hLL, List.pairwise_append] at h1
    have hdrop : ∀ y, y ∈ (A.L x).dropWhile (fun t => decide (kcmp (A.key t) key < 0)) → kcmp key (A.key y) < 0 := by
      intro y hy
      cases hd : (A.L x).dropWhile (fun t => decide (kcmp (A.key t) key < 0)) with
      | nil => rw [hd] at hy; cases hy
      | cons z l' =>
        have hz := dropWhile_head hd
        simp only [decide_eq_false_iff_not] at hz
        have hzL : z ∈ A.L x := dk_mem (by rw [hd]; simp)
        have hz2 : kcmp key (A.key z) < 0 := by
          rw [← kcmp_pos]
          have : kcmp (A.key z) key ≠ 0 := fun h => hks z hzL (kcmp_eq _ _ h)
          omega
        rw [hd] at hy
        rcases List.mem_cons.mp hy with rfl | hy
        · exact hz2
        · have h3 := h1.2.1
          rw [hd, List.pairwise_cons] at h3
          exact kcmp_trans _ _ _ hz2 (h3.1 y hy)
    rw [List.pairwise_append]
    refine ⟨?_, ?_, ?_⟩
    · refine List.Pairwise.imp_of_mem ?_ h1.1
      intro a b ha hb hab
      rw [if_neg (hLn a (tk_mem ha)), if_neg (hLn b (tk_mem hb))]
      exact hab
    · rw [List.pairwise_cons]
      refine ⟨?_, ?_⟩
      · intro b hb
        rw [if_pos rfl, if_neg (hLn b (dk_mem hb))]
        exact hdrop b hb
      · refine List.Pairwise.imp_of_mem ?_ h1.2.1
        intro a b ha hb hab
        rw [if_neg (hLn a (dk_mem ha)), if_neg (hLn b (dk_mem hb))]
        exact hab
    · intro a ha b hb
      have h4 := takeWhile_all ha
      simp only [decide_eq_true_eq] at h4
      rw [if_neg (hLn a (tk_mem ha))]
      rcases List.mem_cons.mp hb with rfl | hb
      · rw [if_pos rfl]; exact h4
      · rw [if_neg (hLn b (dk_mem hb))]
        exact h1.2.2 a ha b hb
theorem frC_vs {g : Nat → Int32} {h : Nat → Option Nat} {sz v : Int32} : frC C (C.vs g h sz v) := by
  refine ⟨?_, fun f j => by rw [vs_r], ?_, fun f j => by rw [vs_r], ?_, fun f j => by rw [vs_r], fun j p _ => by rw [vs_a], fun j => by rw [vs_z], ?_, fun f j => by rw [vs_l], fun f j => by rw [vs_r], ?_⟩
  · intro f j; rw [vs_i, if_neg (by omega), if_neg (by omega), if_neg (by omega)]
  · intro f j; rw [vs_i, if_neg (by omega), if_neg (by omega), if_neg (by omega)]
  · intro f j _; rw [vs_i, if_neg (by omega), if_neg (by omega), if_neg (by omega)]
  · intro f j; rw [vs_i, if_neg (by omega), if_neg (by omega), if_neg (by omega)]
  · intro f j; rw [vs_i, if_neg (by omega), if_neg (by omega), if_neg (by omega)]
/-- what the view left, through make -/
theorem mkC_view : (mkC C N A r x act num).i 10 3 0 = C.i 10 3 0 ∧ (∀ p, (mkC C N A r x act num).q 15 1 p = C.q 15 1 p) ∧ (∀ p, (mkC C N A r x act num).a 12 8 p = C.a 12 8 p) ∧ (∀ f j, (mkC C N A r x act num).r 11 f j = C.r 11 f j) ∧ (∀ f j, (mkC C N A r x act num).r 10 f j = C.r 10 f j) := by
  unfold mkC
  refine ⟨?_, ?_, ?_, ?_, ?_⟩
  · simp only [CS.i_setI, CS.l_setI, CS.r_setI, CS.a_setI, CS.q_setI, CS.z_setI, CS.i_setL, CS.l_setL, CS.r_setL, CS.a_setL, CS.q_setL, CS.z_setL, CS.i_setR, CS.l_setR, CS.r_setR, CS.a_setR, CS.q_setR, CS.z_setR, CS.i_setA, CS.l_setA, CS.r_setA, CS.a_setA, CS.q_setA, CS.z_setA, CS.i_setQ, CS.l_setQ, CS.r_setQ, CS.a_setQ, CS.q_setQ, CS.z_setQ, CS.i_setF, CS.l_setF, CS.r_setF, CS.a_setF, CS.q_setF, CS.z_setF, CS.i_new, CS.l_new, CS.r_new, CS.a_new, CS.q_new, CS.z_new, Nat.reduceEqDiff, false_and, if_false]
  · intro p; simp only [CS.i_setI, CS.l_setI, CS.r_setI, CS.a_setI, CS.q_setI, CS.z_setI, CS.i_setL, CS.l_setL, CS.r_setL, CS.a_setL, CS.q_setL, CS.z_setL, CS.i_setR, CS.l_setR, CS.r_setR, CS.a_setR, CS.q_setR, CS.z_setR, CS.i_setA, CS.l_setA, CS.r_setA, CS.a_setA, CS.q_setA, CS.z_setA, CS.i_setQ, CS.l_setQ, CS.r_setQ, CS.a_setQ, CS.q_setQ, CS.z_setQ, CS.i_setF, CS.l_setF, CS.r_setF, CS.a_setF, CS.q_setF, CS.z_setF, CS.i_new, CS.l_new, CS.r_new, CS.a_new, CS.q_new, CS.z_new, Nat.reduceEqDiff, false_and, true_and, and_false, if_false]
  · intro p; simp only [CS.i_setI, CS.l_setI, CS.r_setI, CS.a_setI, CS.q_setI, CS.z_setI, CS.i_setL, CS.l_setL, CS.r_setL, CS.a_setL, CS.q_setL, CS.z_setL, CS.i_setR, CS.l_setR, CS.r_setR, CS.a_setR, CS.q_setR, CS.z_setR, CS.i_setA, CS.l_setA, CS.r_setA, CS.a_setA, CS.q_setA, CS.z_setA, CS.i_setQ, CS.l_setQ, CS.r_setQ, CS.a_setQ, CS.q_setQ, CS.z_setQ, CS.i_setF, CS.l_setF, CS.r_setF, CS.a_setF, CS.q_setF, CS.z_setF, CS.i_new, CS.l_new, CS.r_new, CS.a_new, CS.q_new, CS.z_new, Nat.reduceEqDiff, false_and, if_false]
  · intro f j; simp only [CS.i_setI, CS.l_setI, CS.r_setI, CS.a_setI, CS.q_setI, CS.z_setI, CS.i_setL, CS.l_setL, CS.r_setL, CS.a_setL, CS.q_setL, CS.z_setL, CS.i_setR, CS.l_setR, CS.r_setR, CS.a_setR, CS.q_setR, CS.z_setR, CS.i_setA, CS.l_setA, CS.r_setA, CS.a_setA, CS.q_setA, CS.z_setA, CS.i_setQ, CS.l_setQ, CS.r_setQ, CS.a_setQ, CS.q_setQ, CS.z_setQ, CS.i_setF, CS.l_setF, CS.r_setF, CS.a_setF, CS.q_setF, CS.z_setF, CS.i_new, CS.l_new, CS.r_new, CS.a_new, CS.q_new, CS.z_new, Nat.reduceEqDiff, false_and, if_false]
  · intro f j; simp only [CS.i_setI, CS.l_setI, CS.r_setI, CS.a_setI, CS.q_setI, CS.z_setI, CS.i_setL, CS.l_setL, CS.r_setL, CS.a_setL, CS.q_setL, CS.z_setL, CS.i_setR, CS.l_setR, CS.r_setR, CS.a_setR, CS.q_setR, CS.z_setR, CS.i_setA, CS.l_setA, CS.r_setA, CS.a_setA, CS.q_setA, CS.z_setA, CS.i_setQ, CS.l_setQ, CS.r_setQ, CS.a_setQ, CS.q_setQ, CS.z_setQ, CS.i_setF, CS.l_setF, CS.r_setF, CS.a_setF, CS.q_setF, CS.z_setF, CS.i_new, CS.l_new, CS.r_new, CS.a_new, CS.q_new, CS.z_new, Nat.reduceEqDiff, false_and, if_false]
/-- PRED of the new op is written: rising, then the field -/
theorem cV_preds {M : Nat → Nat} {D : CS} (hA : AI A) (U : RCu M D A (A.mk r x act num ins par s key [] pl Lx Os)) {cs : List Nat} (hcs : ∀ c, c ∈ cs → c < A.n) (hc8 : cs.length ≤ 8) (hsz : D.i 10 3 0 = nI cs.length) (hf : ∀ k (hk : k < cs.length), D.q 15 1 k = some (cs[k] + 1)) :
    ∃ M' D' v c z, m_cVw_rising M 0 D = some ((M', D', v), c, z) ∧ c ≤ 1 ∧ z ≤ 8 ∧ RCu M' (D'.setR 3 7 (A.n + 1) v) A (A.mk r x act num ins par s key cs.reverse pl Lx Os) ∧ frC D D' ∧ (∀ f j, D'.r 3 f j = D.r 3 f j) ∧ (∀ p, D'.a 12 8 p = D.a 12 8 p) ∧ (∀ k f j, D'.i k f j = D.i k f j ∨ k = 15) ∧ (∀ p, D'.q 15 1 p = D.q 15 1 p) ∧ (∀ f j, D'.r 7 f j = D.r 7 f j) := by
  obtain ⟨u0, u1, u2, u3, u4, u5, u6, u7, u8, u9, u10, u11, u12, u13, u14, u15, u16, u17, u18⟩ := U.nn
  obtain ⟨s1, s2, s3, s4, s5, s6, s7, s8, s9, s10, s11, s12, s13, s14, s15, s16, s17, s18, s19, s20, s21⟩ := U.st
  have hz : D.z 15 1 = 8 := U.2.2.2.1.2.1
  obtain ⟨r1, r2⟩ := cV_rising (N := M) (C := D) (cs := cs) U.2.1 u10 (by omega) (fun c hc => by rw [u3]; have := hcs c hc; omega) s14 hz hc8 hsz hf
  by_cases he : cs = []
  · refine ⟨M, D, none, 0, 0, r1 he, by omega, by omega, ?_, frC.refl, fun _ _ => rfl, fun _ => rfl, fun _ _ _ => Or.inl rfl, fun _ => rfl, fun _ _ => rfl⟩
    subst he
    exact U.noPre
  · obtain ⟨g, g1, g2, g3⟩ := r2 he
    have hl : cs.reverse.length = cs.length := List.length_reverse
    have hi : ∀ k f j, k ≠ 15 → ((D.new 15 (M 15) cs.length).setG 15 (M 15) g).i k f j = D.i k f j := fun k f j e => if_neg (fun h => e h.1)
    have hr : ∀ k f j, k ≠ 15 → ((D.new 15 (M 15) cs.length).setG 15 (M 15) g).r k f j = D.r k f j := fun k f j e => if_neg (fun h => e h.1)
    have hll : ∀ k f j, k ≠ 15 → ((D.new 15 (M 15) cs.length).setG 15 (M 15) g).l k f j = D.l k f j := fun k f j e => if_neg (fun h => e h.1)
    have ha : ∀ k f j, k ≠ 15 → ((D.new 15 (M 15) cs.length).setG 15 (M 15) g).a k f j = D.a k f j := fun k f j e => if_neg (fun h => e h.1)
    have hzz : ∀ k j, k ≠ 15 → ((D.new 15 (M 15) cs.length).setG 15 (M 15) g).z k j = D.z k j := fun k j e => if_neg (fun h => e h.1)
    refine ⟨_, _, _, _, _, g1, by omega, hc8, ?_, ?_, ?_, ?_, ?_, ?_, ?_⟩
    · have := U.somePre (g := g) (l := cs.reverse) (by simpa using he) (fun c hc => hcs c (List.mem_reverse.mp hc)) g2 (fun k hk => g3 k (by rw [hl] at hk; exact hk))
      rw [hl] at this
      exact this
    · skip
      exact ⟨fun f j => hi 11 f j (by decide), fun f j => hr 11 f j (by decide), fun f j => hi 1 f j (by decide), fun f j => hr 1 f j (by decide), fun f j _ => hi 5 f j (by decide), fun f j => hr 5 f j (by decide), fun f j _ => ha 13 f j (by decide), fun j => hzz 13 j (by decide), fun f j => hi 9 f j (by decide), fun f j => hll 9 f j (by decide), fun f j => hr 9 f j (by decide), fun f j => hi 6 f j (by decide)⟩
    · exact fun f j => hr 3 f j (by decide)
    · exact fun p => ha 12 8 p (by decide)
    · intro k f j
      by_cases e : k = 15
      · exact Or.inr e
      · exact Or.inl (if_neg (fun h => e h.1))
    · intro p
      have h1 : ¬ (15 = 15 ∧ 1 = M 15) := by omega
      have e1 : ((D.new 15 (M 15) cs.length).setG 15 (M 15) g).q 15 1 p = (D.new 15 (M 15) cs.length).q 15 1 p := if_neg h1
      rw [e1, CS.q_new, if_neg h1]
    · exact fun f j => hr 7 f j (by decide)
end WO
