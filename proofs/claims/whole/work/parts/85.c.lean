/-! TEXT: words, names, strings. -/
section TXC
variable {S S' : MS} {N : Nat → Nat} {C C' : CS} {A : AS} {r rd : Nat} {w : List Nat}
theorem wrd_ch : ∀ n, n < 3 → (sLn n = (wrd n).length ∧ sLn (6 + n) = (wrd n).length) ∧ ∀ i, i < (wrd n).length → sCh n i = nI ((wrd n).getD i 0) ∧ sCh (6 + n) i = nI ((wrd n).getD i 0) := by decide
theorem cW_word (G : RC N C A rd) (hw : WB C w) {n : Nat} (hn : n < 3) : ∃ C', m_cWr_writeWord N 0 C (6 + n) = some C' ∧ WB C' (w ++ wrd n) ∧ R2 C C' := by
  obtain ⟨u0, u1, u2, u3, u4, u5, u6, u7, u8, u9, u10, u11, u12, u13, u14, u15, u16, u17, u18⟩ := G.nn
  obtain ⟨⟨_, hl⟩, hc⟩ := wrd_ch n hn
  have hl5 : (wrd n).length ≤ 5 := by unfold wrd; split <;> (try split) <;> simp
  have := lp_run (body := fun v : CS × Nat × Int32 => m_cWr_writeWord_B2 N 0 v.1 v.2.1 v.2.2) (fun i v => ∃ W, v = (W, 6 + n, nI i) ∧ WB W (w ++ (wrd n).take i) ∧ R2 C W) (fun e => WB e (w ++ wrd n) ∧ R2 C e) (wrd n).length ?_ FU (C, 6 + n, nI 0) (by unfold FU; omega) ⟨C, rfl, by simpa using hw, R2.refl⟩
  · obtain ⟨e, h1, h2, h3⟩ := this
    refine ⟨e, ?_, h2, h3⟩
    unfold m_cWr_writeWord m_cWr_writeWord_J0
    rw [show m_cWr_writeWord_L2 N 0 C (6 + n) 0 = some e by unfold m_cWr_writeWord_L2; exact h1, ob_ok]
  · rintro i _ hi ⟨W, rfl, w1, w2⟩
    have GW := w2.RC G
    have hgS : ∀ {τ : Type} (y : Option τ), gS (6 + n) y = y := fun y => if_pos (by omega)
    by_cases hin : i < (wrd n).length
    · left
      have hb := wrd_b n i hin
      obtain ⟨W2, a1, a2, a3, a4⟩ := GW.TB.put w1 (nI (wrd n)[i])
      have hg : (wrd n).getD i 0 = (wrd n)[i] := by rw [List.getD_eq_getElem?_getD, List.getElem?_eq_getElem hin]; rfl
      refine ⟨(W2, 6 + n, nI (i + 1)), ?_, hin, W2, rfl, ?_, w2.trans a3⟩
      · show m_cWr_writeWord_B2 N 0 W (6 + n) (nI i) = _
        unfold m_cWr_writeWord_B2
        rw [hgS, hl, if_neg (nle hin (by omega)), gl_ok (by omega), gd_ok hin (by omega), GW.TB.2.2.2.1, gn_s (by omega), cl_nI (by omega), (hc i hin).2, hg, a1, ob_ok, nI_s]
      · rw [List.take_succ_eq_append_getElem hin, ← List.append_assoc]
        rw [byt_nI (by omega)] at a2
        exact a2
    · right
      refine ⟨W, ?_, ?_, w2⟩
      · show m_cWr_writeWord_B2 N 0 W (6 + n) (nI i) = _
        unfold m_cWr_writeWord_B2
        rw [hgS, hl, show i = (wrd n).length by omega, if_pos (Int32.le_refl _)]
      · rw [List.take_of_length_le (by omega)] at w1
        exact w1
theorem pW_word (hw : WR S w) (hlw : w.length + 5 ≤ 1000000000) {n : Nat} (hn : n < 3) : ∃ S', m_rplain_J78 S n = some S' ∧ WR S' (w ++ wrd n) ∧ W4 S S' := by
  obtain ⟨⟨hl, _⟩, hc⟩ := wrd_ch n hn
  have hl5 : (wrd n).length ≤ 5 := by unfold wrd; split <;> (try split) <;> simp
  have := lp_run (body := fun v : MS × Nat × Int32 => m_rplain_B82 v.1 v.2.1 v.2.2) (fun i v => ∃ W, v = (W, n, nI i) ∧ WR W (w ++ (wrd n).take i) ∧ W4 S W) (fun e => WR e (w ++ wrd n) ∧ W4 S e) (wrd n).length ?_ FU (S, n, nI 0) (by unfold FU; omega) ⟨S, rfl, by simpa using hw, W4.refl⟩
  · obtain ⟨e, h1, h2, h3⟩ := this
    refine ⟨e, ?_, h2, h3⟩
    unfold m_rplain_J78 m_rplain_J190
    rw [show m_rplain_L82 S n 0 = some e by unfold m_rplain_L82; exact h1, ob_ok]
  · rintro i _ hi ⟨W, rfl, w1, w2⟩
    have hgS : ∀ {τ : Type} (y : Option τ), gS n y = y := fun y => if_pos (by omega)
    by_cases hin : i < (wrd n).length
    · left
      have hb := wrd_b n i hin
      have hg : (wrd n).getD i 0 = (wrd n)[i] := by rw [List.getD_eq_getElem?_getD, List.getElem?_eq_getElem hin]; rfl
      obtain ⟨W2, a1, a2, a3⟩ := pW_put w1 (by rw [List.length_append, List.length_take]; omega) (nI (wrd n)[i])
      refine ⟨(W2, n, nI (i + 1)), ?_, hin, W2, rfl, ?_, w2.trans a3⟩
      · show m_rplain_B82 W n (nI i) = _
        unfold m_rplain_B82
        rw [hgS, hl, if_neg (nle hin (by omega)), gd_ok hin (by omega), cl_nI (by omega), (hc i hin).1, hg, a1, ob_ok, nI_s]
      · rw [List.take_succ_eq_append_getElem hin, ← List.append_assoc]
        rw [byt_nI (by omega)] at a2
        exact a2
    · right
      refine ⟨W, ?_, ?_, w2⟩
      · show m_rplain_B82 W n (nI i) = _
        unfold m_rplain_B82
        rw [hgS, hl, show i = (wrd n).length by omega, if_pos (Int32.le_refl _)]
      · rw [List.take_of_length_le (by omega)] at w1
        exact w1
/-- the reference's letters: from where they are kept -/
theorem pW_kept (hR : RS S A) (hA : AI A) (hw : WR S w) {p : Nat} {k : List Nat} (hk : ∀ i (h : i < k.length), k[i] < 256 ∧ S.a 26 (p + i) = sb k[i]) (hp : p + k.length ≤ A.kn) (hl : w.length + 4 * k.length ≤ 999999990) {α ε : Type} {body : α → Option (α ⊕ ε)} (f : MS → Int32 → α) (g : MS → ε)
    (hs : ∀ W i, W4 S W → (hi : i < k.length) → body (f W (nI i)) = ob (m_rescaped W (nI k[i])) (fun o => some (.inl (f o (nI (i + 1)))))) (he : ∀ W, W4 S W → body (f W (nI k.length)) = some (.inr (g W))) :
    ∃ S', lp body FU (f S (nI 0)) = some (g S') ∧ WR S' (w ++ escs k) ∧ W4 S S' := by
  have hkn := hA.1.2.2.1
  have := lp_run (body := body) (fun i v => ∃ W, v = f W (nI i) ∧ WR W (w ++ escs (k.take i)) ∧ W4 S W) (fun e => ∃ W, e = g W ∧ WR W (w ++ escs k) ∧ W4 S W) k.length ?_ FU (f S (nI 0)) (by unfold FU; omega) ⟨S, rfl, by simpa [escs] using hw, W4.refl⟩
  · obtain ⟨e, h1, W, rfl, h2, h3⟩ := this
    exact ⟨W, h1, h2, h3⟩
  · rintro i _ hi ⟨W, rfl, w1, w2⟩
    by_cases hin : i < k.length
    · left
      have h4 := escs_len (k.take i)
      rw [List.length_take] at h4
      obtain ⟨W2, a1, a2, a3⟩ := pW_letter w1 (by rw [List.length_append]; omega) (hk i hin).1
      refine ⟨f W2 (nI (i + 1)), by rw [hs W i w2 hin, a1, ob_ok], hin, W2, rfl, ?_, w2.trans a3⟩
      rw [List.take_succ_eq_append_getElem hin, escs_snoc, ← List.append_assoc]
      exact a2
    · right
      have e : i = k.length := by omega
      refine ⟨g W, by rw [e]; exact he W w2, W, rfl, ?_, w2⟩
      rw [List.take_of_length_le (by omega)] at w1
      exact w1
/-- facts of an op's texts in a state in which text is written -/
theorem tx_at (hR : RS S A) (h4 : W4 S S') {m : Nat} (hm : m < A.n) : (A.key m ≠ [] → S'.a 14 m = nI (A.ba m)) ∧ S'.a 15 m = nI (A.key m).length ∧ (A.str m ≠ [] → S'.a 16 m = nI (A.ba m + (A.key m).length)) ∧ S'.a 17 m = nI (A.str m).length := by
  have h := (h4.RS hR).2.2.1 m hm
  exact ⟨h.1, h.2.1, h.2.2.1, h.2.2.2.1⟩
theorem pW_name (hR : RS S A) (hA : AI A) (hw : WR S w) {m : Nat} (hm : m < A.n) (hk0 : A.key m ≠ []) (hk64 : (A.key m).length ≤ 64) (hl : w.length ≤ 999000000) : ∃ S', m_rname S (nI m) = some S' ∧ WR S' (w ++ (34 :: escs (A.key m) ++ [34, 58])) ∧ W4 S S' := by
  have hn := hA.1.1
  have hkn := hA.1.2.2.1
  have htx := hR.2.2.1 m hm
  obtain ⟨S1, a1, a2, a3⟩ := pW_put hw (by omega) 34
  have hR1 := a3.RS hR
  have htx1 := hR1.2.2.1 m hm
  obtain ⟨S2, b1, b2', b3⟩ := pW_kept hR1 hA a2 (p := A.ba m) (k := A.key m) (htx1.2.2.2.2.2.2.1) (by have := htx1.2.2.2.2.2.1; omega) (by simp; omega) (body := fun v : MS × Int32 × Int32 => m_rname_B8 v.1 v.2.1 v.2.2) (fun W x => (W, nI m, x)) (fun W => W)
    (by
      intro W i hW hi
      have ht := tx_at hR1 hW hm
      have hb := (htx1.2.2.2.2.2.2.1 i hi)
      show m_rname_B8 W (nI m) (nI i) = _
      unfold m_rname_B8
      rw [gd_ok (by omega) (by omega), cl_nI (show m < 2 ^ 31 by omega), ht.2.1, if_neg (nle hi (by omega)), gd_ok (by omega) (by omega), ht.1 hk0, nI_add, gd_ok (by have := htx1.2.2.2.2.2.1; omega) (by omega), cl_nI (by have := htx1.2.2.2.2.2.1; omega), hW.aa (by decide), hb.2, show (255 : Int32) = nI 255 from q255, sb_and hb.1, nI_s])
    (by
      intro W hW
      have ht := tx_at hR1 hW hm
      show m_rname_B8 W (nI m) (nI (A.key m).length) = _
      unfold m_rname_B8
      rw [gd_ok (by omega) (by omega), cl_nI (show m < 2 ^ 31 by omega), ht.2.1, if_pos (Int32.le_refl _)])
  have hel := escs_len (A.key m)
  obtain ⟨S3, d1, d2, d3⟩ := pW_put b2' (by simp; omega) 34
  obtain ⟨S4, f1, f2, f3⟩ := pW_put d2 (by simp; omega) 58
  refine ⟨S4, ?_, ?_, ((a3.trans b3).trans d3).trans f3⟩
  · unfold m_rname m_rname_J0
    rw [a1, ob_ok, show m_rname_L8 S1 (nI m) 0 = some S2 by unfold m_rname_L8; exact b1, ob_ok, d1, ob_ok, f1, ob_ok]
  · rw [show byt 34 = 34 from byt_nI (x := 34) (by omega), show byt 58 = 58 from byt_nI (x := 58) (by omega)] at f2
    simpa using f2
theorem pW_string (hR : RS S A) (hA : AI A) (hw : WR S w) {m : Nat} (hm : m < A.n) (hl : w.length ≤ 999000000) : ∃ S', m_rplain_J136 S (nI m) = some S' ∧ WR S' (w ++ (34 :: escs (A.str m) ++ [34])) ∧ W4 S S' := by
  have hn := hA.1.1
  have hkn := hA.1.2.2.1
  obtain ⟨S1, a1, a2, a3⟩ := pW_put hw (by omega) 34
  have hR1 := a3.RS hR
  have htx1 := hR1.2.2.1 m hm
  have hle := htx1.2.2.2.2.2.1
  obtain ⟨S2, b1, b2', b3⟩ := pW_kept hR1 hA a2 (p := A.ba m + (A.key m).length) (k := A.str m) (htx1.2.2.2.2.2.2.2) hle (by simp; omega) (body := fun v : MS × Int32 × Int32 => m_rplain_B145 v.1 v.2.1 v.2.2) (fun W x => (W, nI m, x)) (fun W => W)
    (by
      intro W i hW hi
      have ht := tx_at hR1 hW hm
      have hb := (htx1.2.2.2.2.2.2.2 i hi)
      have hne : A.str m ≠ [] := by intro e; rw [e] at hi; cases hi
      show m_rplain_B145 W (nI m) (nI i) = _
      unfold m_rplain_B145
      rw [gd_ok (by omega) (by omega), cl_nI (show m < 2 ^ 31 by omega), ht.2.2.2, if_neg (nle hi (by omega)), gd_ok (by omega) (by omega), ht.2.2.1 hne, nI_add, gd_ok (by omega) (by omega), cl_nI (by omega), hW.aa (by decide), hb.2, show (255 : Int32) = nI 255 from q255, sb_and hb.1, nI_s])
    (by
      intro W hW
      have ht := tx_at hR1 hW hm
      show m_rplain_B145 W (nI m) (nI (A.str m).length) = _
      unfold m_rplain_B145
      rw [gd_ok (by omega) (by omega), cl_nI (show m < 2 ^ 31 by omega), ht.2.2.2, if_pos (Int32.le_refl _)])
  have hel := escs_len (A.str m)
  obtain ⟨S3, d1, d2, d3⟩ := pW_put b2' (by simp; omega) 34
  refine ⟨S3, ?_, ?_, (a3.trans b3).trans d3⟩
  · unfold m_rplain_J136 m_rplain_J190
    rw [a1, ob_ok, show m_rplain_L145 S1 (nI m) 0 = some S2 by unfold m_rplain_L145; exact b1, ob_ok, d1, ob_ok]
  · rw [show byt 34 = 34 from byt_nI (x := 34) (by omega)] at d2
    simpa using d2
end TXC
