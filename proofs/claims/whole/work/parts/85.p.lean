/-! THE CALL text. -/
section TXP
variable {S S' : MS} {N : Nat → Nat} {C C' : CS} {A : AS} {r rd : Nat} {w : List Nat} {k : List Nat} {bi bf bs bo : List Nat} {ji jf js a : Nat}
theorem pil_ini (hA : AI A) {y : Option Nat} {z : Nat} (hz : z < 3) : PIL A r y ([z] ++ tks ((A.fl r y).map (A.top r))) (addV (fun _ => false) (A.L y)) (fun e => decide (e = ox y)) := by
  have hch : ∀ d, d ∈ (A.fl r y).map (A.top r) → ∃ s, s ∈ A.L y ∧ d < A.n ∧ A.inV r d = true ∧ A.act d ≤ 8 ∧ A.sp d = s ∧ ox y < d + 1 := by
    intro d hd
    obtain ⟨s, hs1, hs2⟩ := List.mem_map.mp hd
    unfold AS.fl at hs1
    rw [List.mem_filter] at hs1
    have := ch_ok hA hs1.1 hs1.2
    rw [hs2] at this
    exact ⟨s, hs1.1, this.1, this.2.2.1, this.2.2.2.1, this.2.2.2.2.1, this.2.2.2.2.2⟩
  refine ⟨?_, ?_, ?_, ?_⟩
  · intro t ht h3t
    rw [List.mem_append] at ht
    rcases ht with ht | ht
    · rw [List.mem_singleton.mp ht] at h3t
      omega
    · rcases tks_mem ht with e | ⟨d, hd, e⟩
      · omega
      · obtain ⟨s, s1, s3, s4, s5, s6, s7⟩ := hch d hd
        subst e
        simp only [Nat.add_sub_cancel]
        rw [show d + 3 - 2 = d + 1 by omega]
        refine ⟨s3, s4, s5, decide_eq_false (by omega), ?_, by omega⟩
        unfold addV
        rw [s6, decide_eq_true s1, Bool.or_true]
  · intro s hs hv
    unfold addV at hv
    simp only [Bool.false_or, decide_eq_true_eq] at hv ⊢
    rw [(L_mem hA hv).2.1]
  · intro e he
    simp only [decide_eq_true_eq] at he
    exact Or.inl (ox_inj he)
  · rw [List.filter_append, tks_items]
    have hz2 : [z].filter isI = [] := by
      rw [List.filter_cons_of_neg (by unfold isI; simp; omega), List.filter_nil]
    rw [hz2, List.nil_append]
    have hndch : (((A.fl r y).map (A.top r)).map (· + 3)).Nodup := by
      rw [List.map_map]
      have hfn := fl_nodup hA (r := r) (x := y)
      refine List.Pairwise.map (R := fun a b => ((fun x => x + 3) ∘ A.top r) a ≠ ((fun x => x + 3) ∘ A.top r) b) _ ?_ (List.Pairwise.imp_of_mem (S := fun a b => ((fun x => x + 3) ∘ A.top r) a ≠ ((fun x => x + 3) ∘ A.top r) b) ?_ hfn)
      · exact fun a b h => h
      · intro a b ha hb hab e
        unfold AS.fl at ha hb
        rw [List.mem_filter] at ha hb
        have ea := (ch_ok hA ha.1 ha.2).2.2.2.2.1
        have eb := (ch_ok hA hb.1 hb.2).2.2.2.2.1
        have e : A.top r a + 3 = A.top r b + 3 := e
        have e2 : A.top r a = A.top r b := by omega
        rw [e2, eb] at ea
        exact hab ea.symm
    exact List.pairwise_reverse.mpr (hndch.imp (fun h => Ne.symm h))
theorem cnt_le (f : Nat → Bool) : ∀ n, cntTo f n ≤ n := by
  intro n
  induction n with
  | zero => exact Nat.le_refl _
  | succ n ih => simp only [cntTo]; split <;> omega
theorem rT_loop {S0 : MS} (hA : AI A) (hr : r < 8) {y : Option Nat} {T : List Nat} {x4 : Int32} (hT : RI S0 A r y T 0 (S, nI r, x4) x4) : ∃ W, m_rtext_L54 S (nI r) x4 = some (W, x4) ∧ RO S0 A T W := by
  have hnn := hA.1.1
  have := lp_run (body := fun v : MS × Int32 × Int32 => m_rtext_B54 v.1 v.2.1 v.2.2) (fun i v => RI S0 A r y T i v x4) (fun e => ∃ W, e = (W, x4) ∧ RO S0 A T W) (4 * A.n + 1) (fun i v _ h => rT_step hA hr h) FU (S, nI r, x4) (by unfold FU; omega) hT
  obtain ⟨e, h1, W, rfl, h2⟩ := this
  refine ⟨W, ?_, h2⟩
  unfold m_rtext_L54
  exact h1
/-- the reference writes the text of an object behind what it gives out -/
theorem rT_object (hR : RS S A) (hA : AI A) (hr : r < 8) {y : Option Nat} (hy : A.oV r y) : ∃ S2 W, m_rbegin ((S.setI 41 400000).setI 73 0) (nI r) (nI (A.oi y)) (nI (A.kd y)) = some S2 ∧ m_rtext_L54 S2 (nI r) (S.i 41) = some (W, S.i 41) ∧ RO S A (vb A r (A.val r) y) W := by
  have hnn := hA.1.1
  have h68 := kd_le8 hy
  have hLl := L_len hA (x := y)
  have hfll : (A.fl r y).length ≤ (A.L y).length := List.length_filter_le _ _
  have hT1 : TS ((S.setI 41 400000).setI 73 0) A [] [] := by
    refine ⟨(hR.setI rfl).setI rfl, ⟨?_, by simp, fun i hi => absurd hi (Nat.not_lt_zero _)⟩, ⟨?_, fun i hi => absurd hi (Nat.not_lt_zero _)⟩⟩
    · rw [MS.i_setI, if_neg (by decide), MS.i_setI, if_pos rfl]; rfl
    · rw [MS.i_setI, if_pos rfl]; rfl
  have hX1 : XS S ((S.setI 41 400000).setI 73 0) := (XS_setI (by omega)).trans (XS_setI (by omega))
  generalize (S.setI 41 400000).setI 73 0 = S1 at hT1 hX1
  have hun0 : unS A (fun _ => false) ≤ A.n := cnt_le _ _
  have hgo : ∀ (S2 : MS) (z b : Nat), z < 3 → TS S2 A [b] ([z] ++ tks ((A.fl r y).map (A.top r))) → XS S1 S2 → vb A r (A.val r) y = [b] ++ (csF true (itT A r (A.val r) (A.L y)) ++ tkT A r z) → ∃ W, m_rtext_L54 S2 (nI r) (S.i 41) = some (W, S.i 41) ∧ RO S A (vb A r (A.val r) y) W := by
    intro S2 z b hz hT2 hX2 hvb
    refine rT_loop hA hr ⟨S2, [b], _, _, _, rfl, hT2, hX1.trans hX2, ?_, pil_ini hA hz, ?_, ?_, by simp⟩
    · rw [hvb, List.reverse_append, List.flatMap_append, tks_out (g := fun c => nmT A c ++ A.val r c)]
      · rw [List.reverse_singleton, List.flatMap_cons, List.flatMap_nil, List.append_nil]
        show [b] ++ (csF true (itT A r (A.val r) (A.L y)) ++ tkT A r z) = [b] ++ (csF true (itT A r (A.val r) (A.L y)) ++ tkT A r z)
        rfl
      · intro d
        unfold tkT
        rw [if_neg (by omega), if_neg (by omega), if_neg (by omega)]
        rfl
    · have hu := unS_add (A := A) (fun _ => false) (l := A.L y) (hA.2.2.1.2.2.2.2.2.2.2.2.1 y).1 (fun t ht => ⟨(L_mem hA ht).1, rfl⟩)
      have htl := tks_len (l := (A.fl r y).map (A.top r))
      rw [List.length_map] at htl
      rw [List.length_append, List.length_singleton]
      omega
    · have hu := unS_add (A := A) (fun _ => false) (l := A.L y) (hA.2.2.1.2.2.2.2.2.2.2.2.1 y).1 (fun t ht => ⟨(L_mem hA ht).1, rfl⟩)
      have htl := tks_len (l := (A.fl r y).map (A.top r))
      rw [List.length_map] at htl
      rw [List.filter_append, tks_items]
      have hz2 : [z].filter isI = [] := by
        rw [List.filter_cons_of_neg (by unfold isI; simp; omega), List.filter_nil]
      rw [hz2, List.nil_append]
      simp only [List.length_append, List.length_singleton, List.length_reverse, List.length_map]
      omega
  rcases (show A.kd y = 6 ∨ A.kd y = 7 ∨ A.kd y = 8 by omega) with h | h | h
  · obtain ⟨S2, b1, b2', b3⟩ := pT_map hT1 hA hr hy h (by simp) (by simp; omega)
    obtain ⟨W, w1, w2⟩ := hgo S2 0 123 (by omega) b2' b3 (by unfold vb; rw [if_pos h]; rfl)
    exact ⟨S2, W, by rw [h]; exact b1, w1, w2⟩
  · obtain ⟨S2, b1, b2', b3⟩ := pT_list hT1 hA hr hy h (by simp) (by simp; omega)
    obtain ⟨W, w1, w2⟩ := hgo S2 1 91 (by omega) b2' b3 (by unfold vb; rw [if_neg (by omega), if_pos h]; rfl)
    exact ⟨S2, W, by rw [h]; exact b1, w1, w2⟩
  · obtain ⟨S2, b1, b2', b3⟩ := pT_text hT1 hA hr hy h (by simp)
    have hel := elT_len (r := r) hR hA (y := y) (R := A.L y) (fun _ h => h)
    have hRI : RI S A r y (vb A r (A.val r) y) 0 (S2, nI r, S.i 41) (S.i 41) := by
      refine ⟨S2, _, [], fun _ => false, fun _ => false, rfl, b2', hX1.trans b3, ?_, ⟨fun t ht => absurd ht (List.not_mem_nil), fun s _ h => (by cases h), fun e h => (by cases h), List.nodup_nil⟩, ?_, ?_, by simp; omega⟩
      · unfold vb
        rw [if_neg (by omega), if_neg (by omega), if_pos h]
        simp
      · simp; omega
      · simp; omega
    obtain ⟨W, w1, w2⟩ := rT_loop hA hr hRI
    exact ⟨S2, W, by rw [h]; exact b1, w1, w2⟩
/-- what lies behind is copied to the front -/
theorem rT_copy {T : List Nat} (hl : T.length ≤ 16384) (hb : ∀ i (h : i < T.length), T[i] < 256 ∧ S.a 40 (400000 + i) = sb T[i]) : ∃ g, m_rtext_L239 S (nI T.length) 0 = some (S.setA 40 g, nI T.length) ∧ ∀ i (h : i < T.length), g i = sb T[i] := by
  have := lp_run (body := fun v : MS × Int32 × Int32 => m_rtext_B239 v.1 v.2.1 v.2.2) (fun i v => ∃ g, v = (S.setA 40 g, nI T.length, nI i) ∧ (∀ q (h : q < T.length), q < i → g q = sb T[q]) ∧ ∀ q, 400000 ≤ q → g q = S.a 40 q) (fun e => ∃ g, e = (S.setA 40 g, nI T.length) ∧ ∀ q (h : q < T.length), g q = sb T[q]) T.length ?_ FU (S, nI T.length, 0) (by unfold FU; omega) ⟨S.a 40, by rw [MS.setA_self]; rfl, fun q h hq => by omega, fun _ _ => rfl⟩
  · obtain ⟨e, h1, g, rfl, h2⟩ := this
    refine ⟨g, ?_, h2⟩
    unfold m_rtext_L239
    exact h1
  · rintro i _ hi ⟨g, rfl, hg, hg2⟩
    by_cases hin : i < T.length
    · left
      refine ⟨(S.setA 40 (upd g i (sb T[i])), nI T.length, nI (i + 1)), ?_, hin, _, rfl, ?_, ?_⟩
      · show m_rtext_B239 (S.setA 40 g) (nI T.length) (nI i) = _
        unfold m_rtext_B239
        rw [if_neg (nle hin (by omega)), show (400000 : Int32) + nI i = nI (400000 + i) from nI_add 400000 i, gd_ok (by omega) (by omega), gd_ok (by omega) (by omega), cl_nI (by omega), cl_nI (by omega), MS.a_setA, if_pos rfl, hg2 _ (by omega), (hb i hin).2, bytes_nar, MS.setA_setA, nI_s]
      · intro q hq hqi
        unfold upd
        by_cases e : q = i
        · subst e
          rw [if_pos rfl]
        · rw [if_neg e]
          exact hg q hq (by omega)
      · intro q hq
        unfold upd
        rw [if_neg (by omega)]
        exact hg2 q hq
    · right
      refine ⟨(S.setA 40 g, nI T.length), ?_, g, rfl, fun q hq => hg q hq (by omega)⟩
      show m_rtext_B239 (S.setA 40 g) (nI T.length) (nI i) = _
      unfold m_rtext_B239
      rw [show i = T.length by omega, if_pos (Int32.le_refl _)]
theorem XS.RIO {W : MS} (hX : XS S W) (h : RIO S C bi bf bs bo ji jf js a) : RIO (W.setI 41 (S.i 41)) C bi bf bs bo ji jf js a := by
  obtain ⟨a1, ⟨b1, b2', b3, b4, b5⟩, ⟨c1, c2, c3, c4, c5⟩, ⟨d1, d2, d3, d4, d5⟩, ⟨e1, e2, e3, e4⟩, ⟨f1, f2, f3⟩, g1, sv, g2, g3⟩ := h
  have hi : ∀ j, j = 4 ∨ j = 5 ∨ j = 6 ∨ j = 7 ∨ j = 42 ∨ j = 43 → (W.setI 41 (S.i 41)).i j = S.i j := fun j hj => by rw [MS.i_setI, if_neg (by omega)]; exact hX.1 j hj
  have ha : ∀ k, k = 1 ∨ k = 2 ∨ k = 3 → (W.setI 41 (S.i 41)).a k = S.a k := fun k hk => by rw [MS.a_setI]; exact hX.2.1 k hk
  refine ⟨a1, ⟨b1, b2', by rw [hi 4 (by omega)]; exact b3, byts_fr b4 (ha 1 (by omega)), b5⟩, ⟨c1, c2, by rw [hi 5 (by omega)]; exact c3, byts_fr c4 (ha 2 (by omega)), c5⟩, ⟨d1, d2, by rw [hi 6 (by omega)]; exact d3, byts_fr d4 (ha 3 (by omega)), d5⟩, ⟨e1, e2, by rw [MS.i_setI, if_pos rfl]; exact e3, ?_⟩, ⟨by rw [hi 7 (by omega)]; exact f1, f2, f3⟩, by rw [hi 42 (by omega)]; exact g1, sv, by rw [hi 43 (by omega)]; exact g2, g3⟩
  intro i hi2
  have h1 := e1.2.2.2
  rw [MS.a_setI, hX.2.2 _ (by omega)]
  exact e4 i hi2
/-- new bytes go out -/
theorem RIO.out {T : List Nat} {f g : Nat → Int32} {s : MS} {sv : Bool} {D : CS} (h : RIO S C bi bf bs bo ji jf js a) (hS : ∀ j, j = 4 ∨ j = 5 ∨ j = 6 ∨ j = 7 ∨ j = 42 → s.i j = S.i j) (hSa : ∀ k, k = 1 ∨ k = 2 ∨ k = 3 → s.a k = S.a k) (h41 : s.i 41 = nI T.length) (hb : byts s 40 0 T) (h43 : s.i 43 = b2 sv)
    (hr : D.r = C.r) (hz : D.z = C.z) (hi : ∀ f j, j ≠ 3 → D.i 5 f j = C.i 5 f j) (ha : ∀ j, j ≠ 3 → D.a 13 j = C.a 13 j) (h11 : ∀ f, f ≠ 7 → D.i 11 f 0 = C.i 11 f 0) (hl : D.i 5 1 3 = nI T.length) (hf : RB D 3 0 T) (hs : D.i 11 7 0 = b2 sv) (hlz : T.length ≤ C.z 13 3) : RIO s D bi bf bs T ji jf js a := by
  obtain ⟨⟨a1, a2, a3, a4, a5, a6, a7⟩, ⟨b1, b2', b3, b4, b5⟩, ⟨c1, c2, c3, c4, c5⟩, ⟨d1, d2, d3, d4, d5⟩, ⟨e1, e2, e3, e4⟩, ⟨f1, f2, f3⟩, g1, sv0, g2, g3⟩ := h
  have hRW : ∀ {j l : Nat}, j ≠ 3 → RW C j l → RW D j l := fun hj h => ⟨h.1, by rw [hr]; exact h.2.1, by rw [hi _ _ hj]; exact h.2.2.1, by rw [hz]; exact h.2.2.2.1, by rw [hz]; exact h.2.2.2.2⟩
  have hRB : ∀ {j p : Nat} {k : List Nat}, j ≠ 3 → RB C j p k → RB D j p k := fun hj h i hi2 => by rw [ha _ hj]; exact h i hi2
  refine ⟨⟨by rw [hr]; exact a1, by rw [hr]; exact a2, by rw [hr]; exact a3, a4, a5, a6, a7⟩, ⟨hRW (by omega) b1, hRB (by omega) b2', by rw [hS 4 (by omega)]; exact b3, byts_fr b4 (hSa 1 (by omega)), b5⟩, ⟨hRW (by omega) c1, hRB (by omega) c2, by rw [hS 5 (by omega)]; exact c3, byts_fr c4 (hSa 2 (by omega)), c5⟩, ⟨hRW (by omega) d1, hRB (by omega) d2, by rw [hS 6 (by omega)]; exact d3, byts_fr d4 (hSa 3 (by omega)), d5⟩, ⟨⟨e1.1, by rw [hr]; exact e1.2.1, hl, by rw [hz]; exact hlz, by rw [hz]; exact e1.2.2.2.2⟩, hf, h41, hb⟩, ⟨by rw [hS 7 (by omega)]; exact f1, by rw [h11 _ (by decide)]; exact f2, f3⟩, by rw [hS 42 (by omega), h11 _ (by decide)]; exact g1, sv, h43, hs⟩
end TXP
