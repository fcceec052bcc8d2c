/-! TEXT: letters, words. -/
def hxd (d : Nat) : Nat := if d < 10 then 48 + d else 87 + d
def esc (b : Nat) : List Nat := if b = 34 ∨ b = 92 then [92, b] else if b = 10 then [92, 110] else if b < 32 ∨ 126 < b then [92, 120, hxd (b / 16), hxd (b % 16)] else [b]
def escs (l : List Nat) : List Nat := l.flatMap esc
theorem esc_len (b : Nat) : (esc b).length ≤ 4 := by
  unfold esc
  split
  · simp
  · split
    · simp
    · split <;> simp
theorem escs_len : ∀ l : List Nat, (escs l).length ≤ 4 * l.length := by
  intro l
  induction l with
  | nil => exact Nat.le_refl _
  | cons b l ih =>
    have : escs (b :: l) = esc b ++ escs l := rfl
    rw [this, List.length_append, List.length_cons]
    have := esc_len b
    omega
theorem escs_snoc {l : List Nat} {b : Nat} : escs (l ++ [b]) = escs l ++ esc b := by
  unfold escs
  rw [List.flatMap_append]
  simp
def TB (N : Nat → Nat) (C : CS) : Prop := N 2 = 1 ∧ N 5 = 7 ∧ N 13 = 7 ∧ C.r 2 1 0 = some 2 ∧ C.r 5 0 2 = some 2 ∧ C.z 13 2 = 16384
set_option maxRecDepth 10000 in
theorem shr4 : ∀ b, b < 256 → nI b >>> ((4 : Int32) &&& 31) = nI (b / 16) := by decide
set_option maxRecDepth 10000 in
theorem and15 : ∀ b, b < 256 → nI b &&& (15 : Int32) = nI (b % 16) := by decide
section TXB
variable {S S' : MS} {N : Nat → Nat} {C C' : CS} {A : AS} {r rd : Nat} {w : List Nat}
theorem R2.TB (h : R2 C C') (hb : TB N C) : TB N C' := by
  obtain ⟨u, f, rfl⟩ := h
  exact hb
theorem TB.put (h : TB N C) (hw : WB C w) (b : Int32) : ∃ C', m_cRw_write N 2 C b = some C' ∧ WB C' (w ++ [byt b]) ∧ R2 C C' ∧ TB N C' := by
  obtain ⟨C', h1, h2, h3⟩ := cW_put h.2.1 h.2.2.1 h.2.2.2.2.1 h.2.2.2.2.2 hw b
  exact ⟨C', h1, h2, h3, h3.TB h⟩
theorem cW_hex {d : Nat} (hd : d < 16) : m_cWr_hexSign N C (nI d) = some (C, nI (hxd d)) := by
  unfold m_cWr_hexSign m_cWr_hexSign_J0 m_cWr_hexSign_J20 hxd
  by_cases c : d < 10
  · rw [if_neg (show ¬ (10 : Int32) ≤ nI d from fun h => by have := (nI_leI (a := 10) (by omega) (by omega)).mp h; omega), if_pos c, show (48 : Int32) = nI 48 from by decide, nI_add]
  · rw [if_pos (show (10 : Int32) ≤ nI d from (nI_leI (a := 10) (by omega) (by omega)).mpr (by omega)), if_neg c, show (97 : Int32) = nI 97 from by decide, nI_add, show (10 : Int32) = nI 10 from q10, sub_nI (by omega)]
    congr 3
    omega
theorem hxd_lt {d : Nat} (hd : d < 16) : hxd d < 256 := by unfold hxd; split <;> omega
theorem cW_letter (h : TB N C) (hw : WB C w) {b : Nat} (hb : b < 256) : ∃ C', m_cWr_writeLetter N 0 C (nI b) = some C' ∧ WB C' (w ++ esc b) ∧ R2 C C' ∧ TB N C' := by
  have n2 := h.1
  have n5 := h.2.1
  have r21 := h.2.2.2.1
  have e34 : (nI b = 34) ↔ b = 34 := nI_eq (b := 34) (by omega) (by omega)
  have e92 : (nI b = 92) ↔ b = 92 := nI_eq (b := 92) (by omega) (by omega)
  have e10 : (nI b = 10) ↔ b = 10 := nI_eq (b := 10) (by omega) (by omega)
  have l32 : (nI b < 32) ↔ b < 32 := nI_ltI (b := 32) (by omega) (by omega)
  have l126 : (nI b ≤ 126) ↔ b ≤ 126 := nI_leI (b := 126) (by omega) (by omega)
  have own : ∀ {v : Nat}, v < 256 → ((b = 10 ∧ v = 110) ∨ (b ≠ 10 ∧ v = b)) → ∃ C', m_cWr_writeLetter_J54 N 0 C (nI b) 0 = some C' ∧ WB C' (w ++ [92, v]) ∧ R2 C C' ∧ TB N C' := by
    intro v hv hc
    obtain ⟨C1, a1, a2, a3, a4⟩ := h.put hw 92
    obtain ⟨C2, b1, b2', b3, b4⟩ := a4.put a2 (nI v)
    refine ⟨C2, ?_, ?_, a3.trans b3, b4⟩
    · unfold m_cWr_writeLetter_J54 m_cWr_writeLetter_J63 m_cWr_writeLetter_J122 m_cWr_writeLetter_J125
      rw [gl_ok (by omega), r21, gn_s (by omega), a1, ob_ok, if_pos rfl, gl_ok (by omega), a4.2.2.2.1, gn_s (by omega), gn_s (by omega)]
      rcases hc with ⟨h1, h2⟩ | ⟨h1, h2⟩
      · rw [if_pos (e10.mpr h1)]
        rw [h2] at b1
        rw [show m_cRw_write N 2 C1 110 = _ from b1, ob_ok]
      · rw [if_neg (fun e => h1 (e10.mp e))]
        rw [h2] at b1
        rw [b1, ob_ok]
    · rw [byt_nI hv, show byt 92 = 92 from byt_nI (x := 92) (by omega), List.append_assoc] at b2'
      exact b2'
  unfold m_cWr_writeLetter m_cWr_writeLetter_J0 m_cWr_writeLetter_J18 esc
  by_cases c1 : b = 34
  · rw [if_pos (e34.mpr c1), if_pos (Or.inl c1)]
    exact own hb (Or.inr ⟨by omega, rfl⟩)
  rw [if_neg (fun e => c1 (e34.mp e))]
  by_cases c2 : b = 92
  · rw [if_pos (e92.mpr c2), if_pos (Or.inr c2)]
    exact own hb (Or.inr ⟨by omega, rfl⟩)
  rw [if_neg (fun e => c2 (e92.mp e)), if_neg (show ¬ (b = 34 ∨ b = 92) by omega)]
  by_cases c3 : b = 10
  · rw [if_pos (e10.mpr c3), if_pos c3]
    exact own (v := 110) (by omega) (Or.inl ⟨c3, rfl⟩)
  rw [if_neg (fun e => c3 (e10.mp e)), if_neg c3]
  unfold m_cWr_writeLetter_J23 m_cWr_writeLetter_J40 m_cWr_writeLetter_J44 m_cWr_writeLetter_J45
  rw [if_pos rfl]
  have hex : (b < 32 ∨ 126 < b) → ∃ C', m_cWr_writeLetter_J54 N 0 C (nI b) 1 = some C' ∧ WB C' (w ++ [92, 120, hxd (b / 16), hxd (b % 16)]) ∧ R2 C C' ∧ TB N C' := by
    intro hc
    obtain ⟨C1, a1, a2, a3, a4⟩ := h.put hw 92
    obtain ⟨C2, b1, b2', b3, b4⟩ := a4.put a2 120
    obtain ⟨C3, d1, d2, d3, d4⟩ := b4.put b2' (nI (hxd (b / 16)))
    obtain ⟨C4, f1, f2, f3, f4⟩ := d4.put d2 (nI (hxd (b % 16)))
    refine ⟨C4, ?_, ?_, ((a3.trans b3).trans d3).trans f3, f4⟩
    · unfold m_cWr_writeLetter_J54 m_cWr_writeLetter_J63 m_cWr_writeLetter_J125
      rw [gl_ok (by omega), r21, gn_s (by omega), a1, ob_ok, if_neg (show ¬ (1 : Int32) = 0 by decide), gl_ok (by omega), a4.2.2.2.1, gn_s (by omega), b1, ob_ok, shr4 b hb, cW_hex (by omega), ob_ok]
      simp only []
      rw [b4.2.2.2.1, gn_s (by omega), d1, ob_ok, and15 b hb, cW_hex (by omega), ob_ok]
      simp only []
      rw [d4.2.2.2.1, gn_s (by omega), f1, ob_ok]
    · rw [show byt 92 = 92 from byt_nI (x := 92) (by omega), show byt 120 = 120 from byt_nI (x := 120) (by omega), byt_nI (hxd_lt (by omega)), byt_nI (hxd_lt (by omega))] at f2
      simpa using f2
  by_cases c4 : b < 32
  · rw [if_pos (l32.mpr c4), if_pos (Or.inl c4), if_pos rfl, if_neg (show ¬ (1 : Int32) = 0 by decide)]
    exact hex (Or.inl c4)
  rw [if_neg (fun e => c4 (l32.mp e))]
  by_cases c5 : b ≤ 126
  · rw [if_pos (l126.mpr c5), if_neg (show ¬ (b < 32 ∨ 126 < b) by omega), if_pos rfl, if_pos rfl]
    obtain ⟨C1, a1, a2, a3, a4⟩ := h.put hw (nI b)
    refine ⟨C1, ?_, ?_, a3, a4⟩
    · unfold m_cWr_writeLetter_J63 m_cWr_writeLetter_J122 m_cWr_writeLetter_J125
      rw [if_pos rfl, gl_ok (by omega), if_neg (fun e => c3 (e10.mp e)), r21, gn_s (by omega), a1, ob_ok]
    · rw [byt_nI hb] at a2
      exact a2
  · rw [if_neg (fun e => c5 (l126.mp e)), if_pos (Or.inr (by omega)), if_pos rfl, if_neg (show ¬ (1 : Int32) = 0 by decide)]
    exact hex (Or.inr (by omega))
theorem pW_hex {d : Nat} (hd : d < 16) : m_rhexDigit S (nI d) = some (S, nI (hxd d)) := by
  unfold m_rhexDigit m_rhexDigit_J0 m_rhexDigit_J20 hxd
  by_cases c : d < 10
  · rw [if_neg (show ¬ (10 : Int32) ≤ nI d from fun h => by have := (nI_leI (a := 10) (by omega) (by omega)).mp h; omega), if_pos c, show (48 : Int32) = nI 48 from by decide, nI_add]
  · rw [if_pos (show (10 : Int32) ≤ nI d from (nI_leI (a := 10) (by omega) (by omega)).mpr (by omega)), if_neg c, show (97 : Int32) = nI 97 from by decide, nI_add, show (10 : Int32) = nI 10 from q10, sub_nI (by omega)]
    congr 3
    omega
theorem pW_letter (hw : WR S w) (hl : w.length + 4 ≤ 1000000000) {b : Nat} (hb : b < 256) : ∃ S', m_rescaped S (nI b) = some S' ∧ WR S' (w ++ esc b) ∧ W4 S S' := by
  have e34 : (nI b = 34) ↔ b = 34 := nI_eq (b := 34) (by omega) (by omega)
  have e92 : (nI b = 92) ↔ b = 92 := nI_eq (b := 92) (by omega) (by omega)
  have e10 : (nI b = 10) ↔ b = 10 := nI_eq (b := 10) (by omega) (by omega)
  have l32 : (nI b < 32) ↔ b < 32 := nI_ltI (b := 32) (by omega) (by omega)
  have l126 : (nI b ≤ 126) ↔ b ≤ 126 := nI_leI (b := 126) (by omega) (by omega)
  have b92 : byt 92 = 92 := byt_nI (x := 92) (by omega)
  have b120 : byt 120 = 120 := byt_nI (x := 120) (by omega)
  have own : ∀ {v : Nat}, v < 256 → ((b = 10 ∧ v = 110) ∨ (b ≠ 10 ∧ v = b)) → ∃ S', m_rescaped_J18 S (nI b) = some S' ∧ WR S' (w ++ [92, v]) ∧ W4 S S' := by
    intro v hv hc
    obtain ⟨S1, a1, a2, a3⟩ := pW_put hw (by omega) 92
    obtain ⟨S2, b1, b2', b3⟩ := pW_put a2 (by simp; omega) (nI v)
    refine ⟨S2, ?_, ?_, a3.trans b3⟩
    · unfold m_rescaped_J18 m_rescaped_J37 m_rescaped_J96
      rw [a1, ob_ok]
      rcases hc with ⟨h1, h2⟩ | ⟨h1, h2⟩
      · rw [if_pos (e10.mpr h1)]
        rw [h2] at b1
        rw [show m_rwrite S1 110 = _ from b1, ob_ok]
      · rw [if_neg (fun e => h1 (e10.mp e))]
        rw [h2] at b1
        rw [b1, ob_ok]
    · rw [byt_nI hv, b92, List.append_assoc] at b2'
      exact b2'
  have hex : ∃ S', m_rescaped_J55 S (nI b) = some S' ∧ WR S' (w ++ [92, 120, hxd (b / 16), hxd (b % 16)]) ∧ W4 S S' := by
    obtain ⟨S1, a1, a2, a3⟩ := pW_put hw (by omega) 92
    obtain ⟨S2, b1, b2', b3⟩ := pW_put a2 (by simp; omega) 120
    obtain ⟨S3, d1, d2, d3⟩ := pW_put b2' (by simp; omega) (nI (hxd (b / 16)))
    obtain ⟨S4, f1, f2, f3⟩ := pW_put d2 (by simp; omega) (nI (hxd (b % 16)))
    refine ⟨S4, ?_, ?_, ((a3.trans b3).trans d3).trans f3⟩
    · unfold m_rescaped_J55 m_rescaped_J96
      rw [a1, ob_ok, b1, ob_ok, shr4 b hb, pW_hex (by omega), ob_ok]
      simp only []
      rw [d1, ob_ok, and15 b hb, pW_hex (by omega), ob_ok]
      simp only []
      rw [f1, ob_ok]
    · rw [b92, b120, byt_nI (hxd_lt (by omega)), byt_nI (hxd_lt (by omega))] at f2
      simpa using f2
  unfold m_rescaped m_rescaped_J0 esc
  by_cases c1 : b = 34
  · rw [if_pos (e34.mpr c1), if_pos (Or.inl c1)]
    exact own hb (Or.inr ⟨by omega, rfl⟩)
  rw [if_neg (fun e => c1 (e34.mp e))]
  by_cases c2 : b = 92
  · rw [if_pos (e92.mpr c2), if_pos (Or.inr c2)]
    exact own hb (Or.inr ⟨by omega, rfl⟩)
  rw [if_neg (fun e => c2 (e92.mp e)), if_neg (show ¬ (b = 34 ∨ b = 92) by omega)]
  by_cases c3 : b = 10
  · rw [if_pos (e10.mpr c3), if_pos c3]
    exact own (v := 110) (by omega) (Or.inl ⟨c3, rfl⟩)
  rw [if_neg (fun e => c3 (e10.mp e)), if_neg c3]
  by_cases c4 : b < 32
  · rw [if_pos (l32.mpr c4), if_pos (Or.inl c4)]
    exact hex
  rw [if_neg (fun e => c4 (l32.mp e))]
  by_cases c5 : b ≤ 126
  · rw [if_pos (l126.mpr c5), if_neg (show ¬ (b < 32 ∨ 126 < b) by omega)]
    obtain ⟨S1, a1, a2, a3⟩ := pW_put hw (by omega) (nI b)
    refine ⟨S1, ?_, ?_, a3⟩
    · unfold m_rescaped_J96
      rw [a1, ob_ok]
    · rw [byt_nI hb] at a2
      exact a2
  · rw [if_neg (fun e => c5 (l126.mp e)), if_pos (Or.inr (by omega))]
    exact hex
theorem RC.TB (G : RC N C A rd) : TB N C := ⟨G.nn.2.2.1, G.nn.2.2.2.2.2.1, G.nn.2.2.2.2.2.2.2.2.2.2.2.2.2.1, G.st.2.2.2.2.2.2.2.2.2.2.2.2.2.2.2.2.2.1, G.sz.2.2.2.2.2.2.2.2.2.2.2.2.2.2.1 2 (by omega), G.sz.2.2.2.2.2.2.2.1⟩
theorem R2.kept (h : R2 C C') {p : Nat} {k : List Nat} (hb : RB C 0 p k) : RB C' 0 p k := by
  obtain ⟨u, f, rfl⟩ := h
  exact hb
/-- letters that are kept -/
theorem cW_letters (G : RC N C A rd) (hA : AI A) (hw : WB C w) {p : Nat} {k : List Nat} (hk : RB C 0 p k) (hp : p + k.length ≤ A.kn) : ∃ C', m_cWr_writeLetters N 0 C (nI p) (nI k.length) = some C' ∧ WB C' (w ++ escs k) ∧ R2 C C' := by
  obtain ⟨u0, u1, u2, u3, u4, u5, u6, u7, u8, u9, u10, u11, u12, u13, u14, u15, u16, u17, u18⟩ := G.nn
  have hkn := hA.1.2.2.1
  have := lp_run (body := fun v : CS × Int32 × Int32 × Int32 => m_cWr_writeLetters_B2 N 0 v.1 v.2.1 v.2.2.1 v.2.2.2) (fun i v => ∃ W, v = (W, nI p, nI k.length, nI i) ∧ WB W (w ++ escs (k.take i)) ∧ R2 C W) (fun e => WB e (w ++ escs k) ∧ R2 C e) k.length ?_ FU (C, nI p, nI k.length, nI 0) (by unfold FU; omega) ⟨C, rfl, by simpa [escs] using hw, R2.refl⟩
  · obtain ⟨e, h1, h2, h3⟩ := this
    refine ⟨e, ?_, h2, h3⟩
    unfold m_cWr_writeLetters m_cWr_writeLetters_J0
    rw [show m_cWr_writeLetters_L2 N 0 C (nI p) (nI k.length) 0 = some e by unfold m_cWr_writeLetters_L2; exact h1, ob_ok]
  · rintro i _ hi ⟨W, rfl, w1, w2⟩
    have GW := w2.RC G
    have hst := GW.st
    by_cases hin : i < k.length
    · left
      have hkW := w2.kept hk
      have hat := cR_atB u5 u13 (GW.kept hA) hkW (by omega) hin
      obtain ⟨W2, a1, a2, a3, a4⟩ := cW_letter GW.TB w1 (hk i hin).1
      refine ⟨(W2, nI p, nI k.length, nI (i + 1)), ?_, hin, W2, rfl, ?_, w2.trans a3⟩
      · show m_cWr_writeLetters_B2 N 0 W (nI p) (nI k.length) (nI i) = _
        unfold m_cWr_writeLetters_B2
        rw [if_neg (nle hin (by omega)), gl_ok (by omega), hst.2.2.2.2.2.2.2.2.2.2.2.2.2.2.2.2.1, gn_s (by omega), hst.2.2.2.2.2.2.2.2.2.2.2.1, gn_s (by omega), hst.2.2.2.2.2.2.2.2.2.1, gn_s (by omega), nI_add, hat, ob_ok]
        simp only []
        rw [a1, ob_ok, nI_s]
      · rw [List.take_succ_eq_append_getElem hin, escs_snoc, ← List.append_assoc]
        exact a2
    · right
      refine ⟨W, ?_, ?_, w2⟩
      · show m_cWr_writeLetters_B2 N 0 W (nI p) (nI k.length) (nI i) = _
        unfold m_cWr_writeLetters_B2
        rw [show i = k.length by omega, if_pos (Int32.le_refl _)]
      · rw [List.take_of_length_le (by omega)] at w1
        exact w1
/-- words -/
def wrd (n : Nat) : List Nat := if n = 0 then [110, 117, 108, 108] else if n = 1 then [102, 97, 108, 115, 101] else [116, 114, 117, 101]
theorem wrd_b (n : Nat) : ∀ i (h : i < (wrd n).length), (wrd n)[i] < 128 := by
  have key : ∀ l : List Nat, l.all (fun b => decide (b < 128)) = true → ∀ i (h : i < l.length), l[i] < 128 := by
    intro l h i hi
    have := List.all_eq_true.mp h _ (List.getElem_mem hi)
    simpa using this
  unfold wrd
  split
  · exact key _ (by decide)
  · split
    · exact key _ (by decide)
    · exact key _ (by decide)
end TXB
