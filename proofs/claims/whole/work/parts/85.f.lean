/-! TEXT: what is to be written. -/
def nmT (A : AS) (m : Nat) : List Nat := if A.kd (A.obj m) = 6 then 34 :: escs (A.key m) ++ [34, 58] else []
def csF : Bool → List (List Nat) → List Nat
  | _, [] => []
  | b, a :: l => (if b then [] else [44]) ++ a ++ csF false l
def elS (A : AS) (c : Nat) : List Nat := if A.act c = 4 then escs (A.str c) else []
def elT (A : AS) (r : Nat) (R : List Nat) : List Nat := ((R.filter (A.flB r)).map (A.top r)).flatMap (elS A)
def plT (A : AS) (r m : Nat) : List Nat := if A.act m = 3 then numT (A.num m) else if A.act m = 4 then 34 :: escs (A.str m) ++ [34] else if A.act m = 5 then numT (A.ctr r m) else wrd (A.act m)
def itT (A : AS) (r : Nat) (g : Nat → List Nat) (R : List Nat) : List (List Nat) := ((R.filter (A.flB r)).map (A.top r)).map (fun c => nmT A c ++ g c)
def vb (A : AS) (r : Nat) (g : Nat → List Nat) (y : Option Nat) : List Nat :=
  if A.kd y = 6 then 123 :: csF true (itT A r g (A.L y)) ++ [125] else if A.kd y = 7 then 91 :: csF true (itT A r g (A.L y)) ++ [93] else if A.kd y = 8 then 34 :: elT A r (A.L y) ++ [34] else match y with
    | some m => plT A r m
    | none => []
def VT (A : AS) (r : Nat) : Nat → Nat → List Nat
  | 0, _ => []
  | f + 1, m => vb A r (VT A r f) (some m)
def AS.val (A : AS) (r m : Nat) : List Nat := VT A r A.n m
section TXF
variable {S S' : MS} {N : Nat → Nat} {C C' : CS} {A : AS} {r rd : Nat} {w : List Nat}
/-- what lies in an object -/
theorem ch_ok (hA : AI A) {y : Option Nat} {s : Nat} (hs : s ∈ A.L y) (hf : A.flB r s = true) : A.top r s < A.n ∧ A.obj (A.top r s) = y ∧ A.inV r (A.top r s) = true ∧ A.act (A.top r s) ≤ 8 ∧ A.sp (A.top r s) = s ∧ ox y < ox (some (A.top r s)) := by
  obtain ⟨t1, t2, t3, t4, t5⟩ := top_ok hA hf
  have hL := L_mem hA hs
  have hob : A.obj (A.top r s) = y := by rw [← obj_sp hA t2, t3]; exact hL.2.1
  refine ⟨t2, hob, t4, t5, t3, ?_⟩
  cases y with
  | none => simp [ox]
  | some m =>
    have := (hA.2.2.1.2.2.2.1 _ m t2 hob).1
    simp [ox]
    omega
theorem itT_congr (hA : AI A) {y : Option Nat} {g g' : Nat → List Nat} {R : List Nat} (hR : ∀ s, s ∈ R → s ∈ A.L y) (h : ∀ c, c < A.n → ox y < ox (some c) → g c = g' c) : itT A r g R = itT A r g' R := by
  unfold itT
  refine List.map_congr_left ?_
  intro c hc
  obtain ⟨s, h1, h2⟩ := List.mem_map.mp hc
  rw [List.mem_filter] at h1
  have := ch_ok hA (hR s h1.1) h1.2
  rw [← h2, h _ this.1 this.2.2.2.2.2]
theorem vb_congr (hA : AI A) {y : Option Nat} {g g' : Nat → List Nat} (h : ∀ c, c < A.n → ox y < ox (some c) → g c = g' c) : vb A r g y = vb A r g' y := by
  unfold vb
  rw [itT_congr hA (y := y) (R := A.L y) (fun _ h => h) h]
theorem VT_ind (hA : AI A) : ∀ {f g m : Nat}, m < A.n → A.n - m ≤ f → A.n - m ≤ g → VT A r f m = VT A r g m := by
  intro f
  induction f with
  | zero => intro g m h1 h2 _; omega
  | succ f ih =>
    intro g m h1 h2 h3
    obtain ⟨g', rfl⟩ : ∃ g', g = g' + 1 := ⟨g - 1, by omega⟩
    rw [VT, VT]
    refine vb_congr hA ?_
    intro c hc hlt
    have hlt : m + 1 < c + 1 := hlt
    exact ih hc (by omega) (by omega)
theorem val_eq (hA : AI A) {m : Nat} (hm : m < A.n) : A.val r m = vb A r (A.val r) (some m) := by
  show VT A r A.n m = _
  obtain ⟨k, hk⟩ : ∃ k, A.n = k + 1 := ⟨A.n - 1, by omega⟩
  rw [show VT A r A.n m = VT A r (k + 1) m by rw [hk], VT]
  refine vb_congr hA ?_
  intro c hc hlt
  have hlt : m + 1 < c + 1 := hlt
  exact VT_ind hA hc (by omega) (by omega)
/-- the last byte is an opening bracket -/
def lastB (w : List Nat) : Bool := match w.getLast? with
  | some b => decide (b = 123) || decide (b = 91)
  | none => false
theorem lastB_snoc {b : Nat} : lastB (w ++ [b]) = (decide (b = 123) || decide (b = 91)) := by
  unfold lastB
  rw [List.getLast?_concat]
theorem dgs_last {a : Nat} : ∀ k, ∃ l d, dgs a k = l ++ [48 + d] ∧ d < 10 := by
  intro k
  induction k with
  | zero => exact ⟨[], a % 10, rfl, Nat.mod_lt _ (by omega)⟩
  | succ k ih =>
    obtain ⟨l, d, h1, h2⟩ := ih
    exact ⟨(48 + a / 10 ^ (k + 1) % 10) :: l, d, by rw [dgs, h1]; rfl, h2⟩
theorem numT_last (n : Int64) : ∃ l d, numT n = l ++ [48 + d] ∧ d < 10 := by
  obtain ⟨l, d, h1, h2⟩ := dgs_last (a := n.toInt.natAbs) (dK n.toInt.natAbs)
  unfold numT
  exact ⟨_ ++ l, d, by rw [h1, List.append_assoc], h2⟩
theorem plT_last {m : Nat} (hm : A.act m ≤ 5) : ∃ l b, plT A r m = l ++ [b] ∧ b ≠ 123 ∧ b ≠ 91 := by
  unfold plT
  split
  · obtain ⟨l, d, h1, h2⟩ := numT_last (A.num m)
    exact ⟨l, _, h1, by omega, by omega⟩
  · split
    · exact ⟨34 :: escs (A.str m), 34, rfl, by omega, by omega⟩
    · split
      · obtain ⟨l, d, h1, h2⟩ := numT_last (A.ctr r m)
        exact ⟨l, _, h1, by omega, by omega⟩
      · have : A.act m = 0 ∨ A.act m = 1 ∨ A.act m = 2 := by omega
        rcases this with h | h | h
        · rw [h]; exact ⟨[110, 117, 108], 108, rfl, by omega, by omega⟩
        · rw [h]; exact ⟨[102, 97, 108, 115], 101, rfl, by omega, by omega⟩
        · rw [h]; exact ⟨[116, 114, 117], 101, rfl, by omega, by omega⟩
/-- how long a plain value may get -/
theorem numT_len (n : Int64) : (numT n).length ≤ 20 := by
  have := (dK_spec (abs_lt n)).1
  unfold numT
  rw [List.length_append, dgs_len]
  split <;> simp <;> omega
theorem plT_len (hA : AI A) {m : Nat} (hs : (A.str m).length ≤ 24576) : (plT A r m).length ≤ 98310 := by
  unfold plT
  have h1 := numT_len (A.num m)
  have h2 := numT_len (A.ctr r m)
  have h3 := escs_len (A.str m)
  split
  · omega
  · split
    · simp; omega
    · split
      · omega
      · unfold wrd; split <;> (try split) <;> simp
/-- the class's frames -/
def frX (C C' : CS) : Prop := C'.r = C.r ∧ (∀ f j, C'.i 11 f j = C.i 11 f j) ∧ (∀ f j, j ≠ 2 → C'.i 5 f j = C.i 5 f j) ∧ (∀ j p, j ≠ 2 → C'.a 13 j p = C.a 13 j p) ∧ C'.z = C.z
theorem frX.refl : frX C C := ⟨rfl, fun _ _ => rfl, fun _ _ _ => rfl, fun _ _ _ => rfl, rfl⟩
theorem frX.trans {C'' : CS} (h : frX C C') (g : frX C' C'') : frX C C'' := ⟨g.1.trans h.1, fun f j => (g.2.1 f j).trans (h.2.1 f j), fun f j e => (g.2.2.1 f j e).trans (h.2.2.1 f j e), fun j p e => (g.2.2.2.1 j p e).trans (h.2.2.2.1 j p e), g.2.2.2.2.trans h.2.2.2.2⟩
theorem R2.X (h : R2 C C') : frX C C' := by
  obtain ⟨u, f, rfl⟩ := h
  refine ⟨rfl, fun _ _ => rfl, fun f j e => ?_, fun j p e => ?_, rfl⟩
  · rw [r2_i, if_neg (fun h => e h.2)]
  · rw [r2_a, if_neg (fun h => e h.2)]
theorem VR.X {K : Nat} (h : VR A C rd K C') : frX C C' ∧ (∀ w, WB C w → WB C' w) := by
  obtain ⟨g, h', sz, rd', rfl, _⟩ := h
  exact ⟨⟨rfl, fun _ _ => rfl, fun _ _ _ => rfl, fun _ _ _ => rfl, rfl⟩, fun w hw => hw⟩
theorem RIO.frX {bi bf bs bo : List Nat} {ji jf js a : Nat} (h : RIO S C bi bf bs bo ji jf js a) (hX : frX C C') : RIO S C' bi bf bs bo ji jf js a := by
  obtain ⟨⟨a1, a2, a3, a4, a5, a6, a7⟩, ⟨b1, b2', b3, b4, b5⟩, ⟨c1, c2, c3, c4, c5⟩, ⟨d1, d2, d3, d4, d5⟩, ⟨e1, e2, e3, e4⟩, ⟨f1, f2, f3⟩, g1, sv, g2, g3⟩ := h
  obtain ⟨x1, x2, x3, x4, x5⟩ := hX
  have hRW : ∀ {j l : Nat}, j ≠ 2 → RW C j l → RW C' j l := fun hj hr => ⟨hr.1, by rw [x1]; exact hr.2.1, by rw [x3 _ _ hj]; exact hr.2.2.1, by rw [x5]; exact hr.2.2.2.1, by rw [x5]; exact hr.2.2.2.2⟩
  have hRB : ∀ {j p : Nat} {k : List Nat}, j ≠ 2 → RB C j p k → RB C' j p k := fun hj hr i hi => by rw [x4 _ _ hj]; exact hr i hi
  exact ⟨⟨by rw [x1]; exact a1, by rw [x1]; exact a2, by rw [x1]; exact a3, a4, a5, a6, a7⟩, ⟨hRW (by omega) b1, hRB (by omega) b2', b3, b4, b5⟩, ⟨hRW (by omega) c1, hRB (by omega) c2, c3, c4, c5⟩, ⟨hRW (by omega) d1, hRB (by omega) d2, d3, d4, d5⟩, ⟨hRW (by omega) e1, hRB (by omega) e2, e3, e4⟩, ⟨f1, by rw [x2]; exact f2, f3⟩, by rw [x2]; exact g1, sv, g2, by rw [x2]; exact g3⟩
theorem cW_plain (G : RC N C A rd) (hA : AI A) (hv : VC C A r) (hw : WB C w) {m : Nat} (hm : m < A.n) (ha : A.act m ≤ 5) : ∃ C', m_cWr_writePlain N 0 C (m + 1) = some C' ∧ WB C' (w ++ plT A r m) ∧ R2 C C' := by
  obtain ⟨u0, u1, u2, u3, u4, u5, u6, u7, u8, u9, u10, u11, u12, u13, u14, u15, u16, u17, u18⟩ := G.nn
  have hop := G.op m hm
  have hkp := G.kp.2 m hm
  have h3 := hop.2.2.1
  have hsp := hA.2.2.1
  unfold m_cWr_writePlain m_cWr_writePlain_J0 m_cWr_writePlain_J159
  rw [gl_ok (by omega), h3]
  have hnum : A.act m = 3 ∨ A.act m = 5 → ∃ C', m_cWr_writePlain_J147 N 0 C (some (m + 1)) = some C' ∧ WB C' (w ++ (if A.act m = 5 then numT (A.ctr r m) else numT (A.num m))) ∧ R2 C C' := by
    intro hc
    have hno := cV_numberOf G hA hv hm (by
      have := hsp.2.2.2.2.2.1 m hm
      by_cases e : A.ins m = 0
      · exact (this e).2.2.1
      · have e1 : A.ins m = 1 := by have := (hsp.1 m hm).2.2.2.2.2.2; omega
        rw [(hsp.2.2.2.2.1 m hm e1).1, (hsp.2.2.2.2.1 m hm e1).1]) (by
      have := hsp.2.2.2.2.2.1 m hm
      by_cases e : A.ins m = 0
      · exact (this e).2.1
      · have e1 : A.ins m = 1 := by have := (hsp.1 m hm).2.2.2.2.2.2; omega
        rw [(hsp.2.2.2.2.1 m hm e1).1]; exact hm)
    obtain ⟨C', c1, c2, c3⟩ := cW_long G hw (if A.act m = 5 then A.ctr r m else A.num m)
    refine ⟨C', ?_, ?_, c3⟩
    · unfold m_cWr_writePlain_J147 m_cWr_writePlain_J159
      rw [gl_ok (by omega), gn_s (by omega), G.st.2.2.2.2.2.2.2.2.2.2.2.2.2.2.2.2.1, gn_s (by omega), hno, ob_ok]
      simp only []
      rw [c1, ob_ok]
    · by_cases e : A.act m = 5
      · rw [if_pos e] at c2 ⊢; exact c2
      · rw [if_neg e] at c2 ⊢; exact c2
  unfold plT
  have hcase : A.act m = 0 ∨ A.act m = 1 ∨ A.act m = 2 ∨ A.act m = 3 ∨ A.act m = 4 ∨ A.act m = 5 := by omega
  rcases hcase with h | h | h | h | h | h
  · rw [h, if_pos (show nI 0 = 0 by decide), gl_ok (by omega)]
    obtain ⟨C', c1, c2, c3⟩ := cW_word G hw (n := 0) (by omega)
    exact ⟨C', by rw [show m_cWr_writeWord N 0 C 6 = _ from c1, ob_ok], c2, c3⟩
  · rw [h, if_neg (show ¬ nI 1 = 0 by decide), if_pos (show nI 1 = 1 by decide), gl_ok (by omega)]
    obtain ⟨C', c1, c2, c3⟩ := cW_word G hw (n := 1) (by omega)
    exact ⟨C', by rw [show m_cWr_writeWord N 0 C 7 = _ from c1, ob_ok], c2, c3⟩
  · rw [h, if_neg (show ¬ nI 2 = 0 by decide), if_neg (show ¬ nI 2 = 1 by decide), if_pos (show nI 2 = 2 by decide), gl_ok (by omega)]
    obtain ⟨C', c1, c2, c3⟩ := cW_word G hw (n := 2) (by omega)
    exact ⟨C', by rw [show m_cWr_writeWord N 0 C 8 = _ from c1, ob_ok], c2, c3⟩
  · have := hnum (Or.inl h)
    rw [h, if_neg (show ¬ 3 = 5 by omega)] at this
    rw [h, if_neg (show ¬ nI 3 = 0 by decide), if_neg (show ¬ nI 3 = 1 by decide), if_neg (show ¬ nI 3 = 2 by decide), if_pos (show nI 3 = 3 by decide), if_pos rfl]
    exact this
  · rw [h, if_neg (show ¬ nI 4 = 0 by decide), if_neg (show ¬ nI 4 = 1 by decide), if_neg (show ¬ nI 4 = 2 by decide), if_neg (show ¬ nI 4 = 3 by decide), if_pos (show nI 4 = 4 by decide), if_neg (by omega), if_pos rfl, gl_ok (by omega), G.TB.2.2.2.1, gn_s (by omega)]
    obtain ⟨C1, a1, a2, a3, a4⟩ := G.TB.put hw 34
    have G1 := a3.RC G
    obtain ⟨C2, b1, b2', b3⟩ := cW_letters G1 hA a2 (p := A.ba m + (A.key m).length) (k := A.str m) (a3.kept (fun i hi => hkp.2.2.1 i hi)) hkp.1
    have G2 := b3.RC G1
    obtain ⟨C3, d1, d2, d3, d4⟩ := G2.TB.put b2' 34
    refine ⟨C3, ?_, ?_, (a3.trans b3).trans d3⟩
    · rw [a1, ob_ok, a3.i3, a3.i3, a3.i3, hop.2.2.2.2.2.2.2.1, hop.2.2.2.2.2.2.2.2.1, hop.2.2.2.2.2.2.2.2.2.1, nI_add, b1, ob_ok, G2.TB.2.2.2.1, gn_s (by omega), d1, ob_ok]
    · rw [show byt 34 = 34 from byt_nI (x := 34) (by omega)] at d2
      simpa using d2
  · have := hnum (Or.inr h)
    rw [if_pos h] at this
    rw [h, if_neg (show ¬ nI 5 = 0 by decide), if_neg (show ¬ nI 5 = 1 by decide), if_neg (show ¬ nI 5 = 2 by decide), if_neg (show ¬ nI 5 = 3 by decide), if_neg (show ¬ nI 5 = 4 by decide), if_pos (show nI 5 = 5 by decide), if_neg (by omega), if_neg (by omega), if_pos rfl]
    exact this
end TXF
