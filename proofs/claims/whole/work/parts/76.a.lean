/-! ROWS BEING WRITTEN; THE CALLS feed, end. -/
def byt (b : Int32) : Nat := b.toInt8.toBitVec.toNat
theorem byt_lt (b : Int32) : byt b < 256 := b.toInt8.toBitVec.isLt
theorem sb_byt (b : Int32) : sb (byt b) = b.toInt8.toInt32 := by
  obtain ⟨y, hy, h⟩ := sb_of b.toInt8
  unfold sb byt
  congr 1
  apply Int8.toBitVec_inj.mp
  apply BitVec.eq_of_toNat_eq
  have h := b.toInt8.toBitVec.isLt
  show (((nI b.toInt8.toBitVec.toNat).toBitVec).signExtend 8).toNat = _
  rw [BitVec.signExtend_eq_setWidth_of_le _ (by decide), BitVec.toNat_setWidth]
  show (BitVec.ofNat 32 b.toInt8.toBitVec.toNat).toNat % 2 ^ 8 = _
  rw [BitVec.toNat_ofNat]
  omega
theorem byt_nI {x : Nat} (h : x < 256) : byt (nI x) = x := by
  have h1 := sb_byt (nI x)
  exact (sb_inj (byt_lt _) h).mp h1
/-- row j of C holds l, nothing else has changed -/
def Rw (C : CS) (j : Nat) (l : List Nat) (C' : CS) : Prop := ∃ f, C' = C.row j f (nI l.length) ∧ ∀ i (h : i < l.length), l[i] < 256 ∧ f i = sb l[i]
section ROWS
variable {S S' : MS} {N : Nat → Nat} {C C' : CS} {A : AS} {r rd : Nat} {bi bf bs bo : List Nat} {ji jf js a : Nat}
theorem row_row {j : Nat} {f g : Nat → Int32} {v w : Int32} : (C.row j f v).row j g w = C.row j g w := by
  apply CS_ext <;> intros <;> try rfl
  · rw [row_i, row_i, row_i]
    split <;> rfl
  · rw [row_a, row_a, row_a]
    split <;> rfl
theorem Rw.refl {j : Nat} {l : List Nat} (h : RW C j l.length) (hb : RB C j 0 l) : Rw C j l C := by
  refine ⟨C.a 13 j, ?_, ?_⟩
  · rw [← h.2.2.1, row_self]
  · intro i hi
    have := hb i hi
    rw [Nat.zero_add] at this
    exact this
theorem Rw.rw {j : Nat} {l : List Nat} (h : Rw C j l C') (hj : j < 7) (h0 : C.r 5 0 j = some j) (hl : l.length ≤ C.z 13 j) (hz : C.z 13 j ≤ 224582) : RW C' j l.length ∧ RB C' j 0 l := by
  obtain ⟨f, rfl, hf⟩ := h
  refine ⟨⟨hj, by rw [row_r]; exact h0, by rw [row_i, if_pos ⟨rfl, rfl, rfl⟩], by rw [row_z]; exact hl, by rw [row_z]; exact hz⟩, ?_⟩
  intro i hi
  rw [row_a, if_pos ⟨rfl, rfl⟩, Nat.zero_add]
  exact hf i hi
theorem Rw.put {j : Nat} {l : List Nat} (h : Rw C j l C') (h5 : N 5 = 7) (h13 : N 13 = 7) (hj : j < 7) (h0 : C.r 5 0 j = some j) (hl : l.length < C.z 13 j) (hz : C.z 13 j ≤ 224582) (b : Int32) : ∃ C'', m_cRw_write N j C' b = some C'' ∧ Rw C j (l ++ [byt b]) C'' := by
  have hrw := (h.rw hj h0 (by omega) hz).1
  obtain ⟨f, rfl, hf⟩ := h
  refine ⟨_, cR_write h5 h13 hrw hl, upd f l.length b.toInt8.toInt32, by rw [List.length_append]; rfl, ?_⟩
  intro i hi
  rw [List.length_append, List.length_singleton] at hi
  unfold upd
  by_cases e : i < l.length
  · rw [List.getElem_append_left e, if_neg (by omega)]
    exact hf i e
  · have e2 : i = l.length := by omega
    subst e2
    rw [if_pos rfl, List.getElem_concat_length, sb_byt]
    · exact ⟨byt_lt _, rfl⟩
    · rfl
def by4 (x : Int32) : List Nat := [byt (ushr32 x 24), byt (ushr32 x 16), byt (ushr32 x 8), byt x]
theorem Rw.putI {j : Nat} {l : List Nat} (h : Rw C j l C') (h5 : N 5 = 7) (h13 : N 13 = 7) (hj : j < 7) (h0 : C.r 5 0 j = some j) (hl : l.length + 4 ≤ C.z 13 j) (hz : C.z 13 j ≤ 224582) (x : Int32) : ∃ C'', m_cRw_writeInt N j C' x = some C'' ∧ Rw C j (l ++ by4 x) C'' := by
  obtain ⟨C1, w1, h1⟩ := h.put h5 h13 hj h0 (by omega) hz (ushr32 x 24)
  obtain ⟨C2, w2, h2⟩ := h1.put h5 h13 hj h0 (by simp; omega) hz (ushr32 x 16)
  obtain ⟨C3, w3, h3⟩ := h2.put h5 h13 hj h0 (by simp; omega) hz (ushr32 x 8)
  obtain ⟨C4, w4, h4⟩ := h3.put h5 h13 hj h0 (by simp; omega) hz x
  refine ⟨C4, ?_, ?_⟩
  · unfold m_cRw_writeInt m_cRw_writeInt_J0
    rw [gl_ok (by omega), w1]
    simp only [ob_ok]
    rw [w2]
    simp only [ob_ok]
    rw [w3]
    simp only [ob_ok]
    rw [w4]
    simp only [ob_ok]
  · simpa [by4] using h4
theorem RC_row {j : Nat} {f : Nat → Int32} {v : Int32} (hj : 3 ≤ j) (hj7 : j < 7) (G : RC N C A rd) : RC N (C.row j f v) A rd := by
  have : j = 3 ∨ j = 4 ∨ j = 5 ∨ j = 6 := by omega
  rcases this with rfl | rfl | rfl | rfl <;> exact G
theorem Rw.RC {j : Nat} {l : List Nat} (h : Rw C j l C') (hj : 3 ≤ j) (hj7 : j < 7) (G : RC N C A rd) : RC N C' A rd := by
  obtain ⟨f, rfl, _⟩ := h
  exact RC_row hj hj7 G
theorem Rw.oth {j j2 : Nat} {l l2 : List Nat} (h : Rw C j l C') (hj : j2 ≠ j) (h2 : RW C j2 l2.length) (h3 : RB C j2 0 l2) : RW C' j2 l2.length ∧ RB C' j2 0 l2 := by
  obtain ⟨f, rfl, _⟩ := h
  refine ⟨⟨h2.1, h2.2.1, by rw [row_i, if_neg (by omega)]; exact h2.2.2.1, h2.2.2.2⟩, ?_⟩
  intro i hi
  rw [row_a, if_neg (by omega)]
  exact h3 i hi
theorem Rw.rr {j : Nat} {l : List Nat} (h : Rw C j l C') : C'.r = C.r := by
  obtain ⟨f, rfl, _⟩ := h
  rfl
theorem Rw.i11 {j : Nat} {l : List Nat} (h : Rw C j l C') (f1 j1 : Nat) : C'.i 11 f1 j1 = C.i 11 f1 j1 := by
  obtain ⟨f, rfl, _⟩ := h
  rfl
/-- the input grows -/
theorem RIO_in {l : List Nat} {g : Nat → Int32} (hio : RIO S C bi bf bs bo ji jf js a) (h : Rw C ji l C') (hl : l.length ≤ 8192) (hz : C.z 13 ji = 8192) (hg : ∀ i (h : i < l.length), g i = sb l[i]) : RIO ((S.setA 1 g).setI 4 (nI l.length)) C' l bf bs bo ji jf js a := by
  obtain ⟨⟨a1, a2, a3, a4, a5, a6, a7, a8, a9⟩, ⟨b1, b2', b3, b4, b5⟩, ⟨c1, c2, c3, c4, c5⟩, ⟨d1, d2, d3, d4, d5⟩, ⟨g1, g2, g3, g4⟩, ⟨f1, f2, f3⟩, k1, k2⟩ := hio
  obtain ⟨w1, w2⟩ := h.rw b1.1 b1.2.1 (by omega) (by omega)
  obtain ⟨x1, x2⟩ := h.oth (Ne.symm a7) c1 c2
  obtain ⟨y1, y2⟩ := h.oth (Ne.symm a9) d1 d2
  obtain ⟨v1, v2⟩ := h.oth (by omega) g1 g2
  have hby : ∀ {b : Nat} {l2 : List Nat}, b ≠ 1 → byts S b 0 l2 → byts ((S.setA 1 g).setI 4 (nI l.length)) b 0 l2 := by
    intro b l2 hb h
    exact byts_fr h (by rw [MS.a_setI, MS.a_setA, if_neg hb])
  have e11 := h.i11
  refine ⟨⟨by rw [h.rr]; exact a1, by rw [h.rr]; exact a2, by rw [h.rr]; exact a3, a4, a5, a6, a7, a8, a9⟩, ⟨w1, w2, ?_, ?_, hl⟩, ⟨x1, x2, c3, hby (by decide) c4, c5⟩, ⟨y1, y2, d3, hby (by decide) d4, d5⟩, ⟨v1, v2, g3, hby (by decide) g4⟩, ⟨f1, by rw [e11]; exact f2, f3⟩, by rw [e11]; exact k1, ?_⟩
  · rw [MS.i_setI, if_pos rfl]
  · intro i hi
    rw [MS.a_setI, MS.a_setA, if_pos rfl, Nat.zero_add]
    obtain ⟨f, _, hf⟩ := h
    exact ⟨(hf i hi).1, hg i hi⟩
  · obtain ⟨sv, h1, h2⟩ := k2
    exact ⟨sv, h1, by rw [e11]; exact h2⟩
end ROWS
