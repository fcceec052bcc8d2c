/-! TEXT: the class's pieces. -/
section TXG
variable {S S' : MS} {N : Nat → Nat} {C C' : CS} {A : AS} {r rd : Nat} {w : List Nat}
theorem elT_snoc {R : List Nat} {s : Nat} : elT A r (R ++ [s]) = elT A r R ++ (if A.flB r s = true then elS A (A.top r s) else []) := by
  unfold elT
  rw [List.filter_append]
  by_cases e : A.flB r s = true
  · rw [if_pos e, List.filter_cons_of_pos e, List.filter_nil, List.map_append, List.flatMap_append]
    simp
  · rw [if_neg e, List.filter_cons_of_neg e, List.filter_nil]
    simp
theorem chn_head {nx : Nat → Option Nat} {h : Option Nat} : ∀ {l : List Nat}, chn nx h l → h = l.head? := by
  intro l hc
  cases l with
  | nil => exact hc
  | cons a l => exact hc.1
/-- the chain of an object's spots: behind l1 comes l2 -/
theorem chain_at (G : RC N C A rd) {y : Option Nat} (hy : ∀ m, y = some m → m < A.n) : C.r 3 13 (ox y) = ((A.L y).map A.sj).head? := chn_head (G.ln.2.2 y hy)
theorem chain_next (G : RC N C A rd) {y : Option Nat} (hy : ∀ m, y = some m → m < A.n) {l1 l2 : List Nat} {s : Nat} (hL : A.L y = l1 ++ s :: l2) : C.r 7 2 (A.sj s) = (l2.map A.sj).head? := by
  have hch := G.ln.2.2 y hy
  rw [hL, show (l1 ++ s :: l2).map A.sj = (l1.map A.sj ++ [A.sj s]) ++ l2.map A.sj by simp] at hch
  obtain ⟨h2, q1, q2⟩ := chn_app hch
  have := q2 (A.sj s) (l1.map A.sj) rfl
  rw [← this]
  exact chn_head q1
theorem cW_elements (G : RC N C A rd) (hA : AI A) (hv : VC C A r) (hw : WB C w) {y : Option Nat} (hy : ∀ m, y = some m → m < A.n) (hk : A.kd y ≠ 6) (hrd : rd + 4000 < 2 ^ 30) :
    ∃ C', m_cWr_writeElements N 0 C (ox y) = some C' ∧ WB C' (w ++ elT A r (A.L y)) ∧ RC N C' A (rd + (A.L y).length) ∧ VC C' A r ∧ frX C C' := by
  obtain ⟨u0, u1, u2, u3, u4, u5, u6, u7, u8, u9, u10, u11, u12, u13, u14, u15, u16, u17, u18⟩ := G.nn
  have hox := ox_lt hy
  have hLl := L_len hA (x := y)
  have hnn := hA.1.1
  have := lp_run (body := fun v : CS × Option Nat => m_cWr_writeElements_B5 N 0 v.1 v.2) (fun i v => ∃ W l1 l2, v = (W, (l2.map A.sj).head?) ∧ A.L y = l1 ++ l2 ∧ l1.length = i ∧ WB W (w ++ elT A r l1) ∧ RC N W A (rd + i) ∧ VC W A r ∧ frX C W) (fun e => WB e (w ++ elT A r (A.L y)) ∧ RC N e A (rd + (A.L y).length) ∧ VC e A r ∧ frX C e) (A.L y).length ?_ FU (C, C.r 3 13 (ox y)) (by unfold FU; omega) ⟨C, [], A.L y, by rw [chain_at G hy], rfl, rfl, by simpa [elT] using hw, G, hv, frX.refl⟩
  · obtain ⟨e, h1, h2⟩ := this
    refine ⟨e, ?_, h2⟩
    unfold m_cWr_writeElements m_cWr_writeElements_J0
    rw [gl_ok (by omega), show m_cWr_writeElements_L5 N 0 C (C.r 3 13 (ox y)) = some e by unfold m_cWr_writeElements_L5; exact h1, ob_ok]
  · rintro i _ hi ⟨W, l1, l2, rfl, hL, hl1, w1, w2, w3, w4⟩
    show (∃ a', m_cWr_writeElements_B5 N 0 W (l2.map A.sj).head? = _ ∧ _) ∨ (∃ e, m_cWr_writeElements_B5 N 0 W (l2.map A.sj).head? = _ ∧ _)
    unfold m_cWr_writeElements_B5
    cases l2 with
    | nil =>
      right
      rw [List.append_nil] at hL
      refine ⟨W, rfl, ?_, ?_, w3, w4⟩
      · rw [hL]; exact w1
      · rw [hL, hl1]; exact w2
    | cons s l2 =>
      left
      have hsL : s ∈ A.L y := by rw [hL]; simp
      have hsA := L_mem hA hsL
      have hln := w2.ln.1 s hsA.1 hsA.2.2
      have hlen : l1.length + (l2.length + 1) = (A.L y).length := by rw [hL, List.length_append, List.length_cons]
      obtain ⟨C2, c1, c2, G2⟩ := cV_top w2 hA w3 hsA.1 hsA.2.2 (by omega)
      have hv2 := c2.toVC w3
      have hX := VR.X c2
      have hw2 := hX.2 _ w1
      have hnext : ∀ {W' : CS}, W'.r = W.r → W'.r 7 2 (A.sj s) = (l2.map A.sj).head? := fun h => by rw [h]; exact chain_next w2 hy hL
      have hJ : ∀ {W' : CS}, W'.r = W.r → m_cWr_writeElements_J42 N 0 W' (some (A.sj s)) = some (.inl (W', (l2.map A.sj).head?)) := by
        intro W' h
        unfold m_cWr_writeElements_J42
        rw [gn_s (by omega), hnext h]
      rw [show ((s :: l2).map A.sj).head? = some (A.sj s) from rfl, onSome, gl_ok (by omega), gl_ok (by omega), w2.st.2.2.2.2.2.2.2.2.2.2.2.2.2.2.2.2.1, gn_s (by omega), c1, ob_ok]
      simp only []
      have hsnoc := elT_snoc (A := A) (r := r) (R := l1) (s := s)
      cases hf : A.flB r s with
      | false =>
        rw [hf, if_neg (by decide), List.append_nil] at hsnoc
        refine ⟨(C2, (l2.map A.sj).head?), ?_, by omega, C2, l1 ++ [s], l2, rfl, by rw [hL]; simp, by rw [List.length_append, hl1]; rfl, by rw [hsnoc]; exact hw2, G2, hv2, w4.trans hX.1⟩
        rw [if_neg (by decide), on_none, hJ c2.rr]
      | true =>
        obtain ⟨t1, t2, t3, t4, t5, t6⟩ := ch_ok hA hsL hf
        rw [hf, if_pos rfl] at hsnoc
        have hop := G2.op _ t1
        have hkey : A.key (A.top r s) = [] := (key_nil hA t1).mpr (by rw [t2]; exact hk)
        by_cases h4 : A.act (A.top r s) = 4
        · have hkp := G2.kp.2 _ t1
          rw [hkey] at hkp
          obtain ⟨C3, d1, d2, d3⟩ := cW_letters G2 hA hw2 (p := A.ba (A.top r s)) (k := A.str (A.top r s)) (fun j hj => hkp.2.2.1 j hj) hkp.1
          refine ⟨(C3, (l2.map A.sj).head?), ?_, by omega, C3, l1 ++ [s], l2, rfl, by rw [hL]; simp, by rw [List.length_append, hl1]; rfl, ?_, d3.RC G2, d3.VC hv2, (w4.trans hX.1).trans d3.X⟩
          · rw [if_pos rfl, onSome, gl_ok (by omega), hop.2.2.1, h4, if_pos (show nI 4 = 4 by decide), hop.2.2.2.2.2.2.2.1, hop.2.2.2.2.2.2.2.2.2.1, d1, ob_ok, hJ (d3.rr.trans c2.rr)]
          · rw [hsnoc, show elS A (A.top r s) = escs (A.str (A.top r s)) from if_pos h4, ← List.append_assoc]
            exact d2
        · refine ⟨(C2, (l2.map A.sj).head?), ?_, by omega, C2, l1 ++ [s], l2, rfl, by rw [hL]; simp, by rw [List.length_append, hl1]; rfl, ?_, G2, hv2, w4.trans hX.1⟩
          · rw [if_pos rfl, onSome, gl_ok (by omega), hop.2.2.1, if_neg (show ¬ nI (A.act (A.top r s)) = 4 from fun e => h4 ((nI_eq (b := 4) (by omega) (by omega)).mp e)), hJ c2.rr]
          · rw [hsnoc, show elS A (A.top r s) = [] from if_neg h4, List.append_nil]
            exact hw2
/-- a TEXT as a whole -/
theorem cW_textual (G : RC N C A rd) (hA : AI A) (hv : VC C A r) (hw : WB C w) {m : Nat} (hm : m < A.n) (h8 : A.act m = 8) (hrd : rd + 4000 < 2 ^ 30) :
    ∃ C', m_cWr_writePlain N 0 C (m + 1) = some C' ∧ WB C' (w ++ (34 :: elT A r (A.L (some m)) ++ [34])) ∧ RC N C' A (rd + (A.L (some m)).length) ∧ VC C' A r ∧ frX C C' := by
  obtain ⟨u0, u1, u2, u3, u4, u5, u6, u7, u8, u9, u10, u11, u12, u13, u14, u15, u16, u17, u18⟩ := G.nn
  have hop := G.op m hm
  unfold m_cWr_writePlain m_cWr_writePlain_J0 m_cWr_writePlain_J159
  rw [gl_ok (by omega), hop.2.2.1, h8, if_neg (show ¬ nI 8 = 0 by decide), if_neg (show ¬ nI 8 = 1 by decide), if_neg (show ¬ nI 8 = 2 by decide), if_neg (show ¬ nI 8 = 3 by decide), if_neg (show ¬ nI 8 = 4 by decide), if_neg (show ¬ nI 8 = 5 by decide), if_neg (show ¬ nI 8 = 6 by decide), if_neg (show ¬ nI 8 = 7 by decide), if_pos (show nI 8 = 8 by decide), gl_ok (by omega), G.TB.2.2.2.1, gn_s (by omega)]
  obtain ⟨C1, a1, a2, a3, a4⟩ := G.TB.put hw 34
  have G1 := a3.RC G
  obtain ⟨C2, b1, b2', b3, b4, b5⟩ := cW_elements G1 hA (a3.VC hv) a2 (y := some m) (fun q h => by rw [← Option.some.inj h]; exact hm) (by show A.act m ≠ 6; omega) hrd
  obtain ⟨C3, d1, d2, d3, d4⟩ := b3.TB.put b2' 34
  refine ⟨C3, ?_, ?_, d3.RC b3, d3.VC b4, (a3.X.trans b5).trans d3.X⟩
  · rw [a1, ob_ok, show m_cWr_writeElements N 0 C1 (m + 1) = _ from b1, ob_ok, b3.TB.2.2.2.1, gn_s (by omega), d1, ob_ok]
  · rw [show byt 34 = 34 from byt_nI (x := 34) (by omega)] at d2
    simpa using d2
theorem cW_before (G : RC N C A rd) (hA : AI A) (hw : WB C w) (hne : w ≠ []) (hl : w.length ≤ 16384) {m : Nat} (hm : m < A.n) : ∃ C', m_cWr_writeBefore N 0 C (m + 1) = some C' ∧ WB C' (w ++ (if lastB w = true then [] else [44]) ++ nmT A m) ∧ R2 C C' := by
  obtain ⟨u0, u1, u2, u3, u4, u5, u6, u7, u8, u9, u10, u11, u12, u13, u14, u15, u16, u17, u18⟩ := G.nn
  have hop := G.op m hm
  have hkp := G.kp.2 m hm
  have hpos : 0 < w.length := List.length_pos_iff.mpr hne
  -- what is written behind the comma
  have hJ : ∀ {W : CS} {v : List Nat}, R2 C W → WB W v → ∃ W', m_cWr_writeBefore_J38 N 0 W (some (m + 1)) = some W' ∧ WB W' (v ++ nmT A m) ∧ R2 C W' := by
    intro W v hR hW
    have GW := hR.RC G
    have hopW := GW.op m hm
    have hobl : ∀ q, A.obj m = some q → q < A.n := fun q hq => by have := (hA.2.2.1.2.2.2.1 m q hm hq).1; omega
    have hox := ox_lt hobl
    have hkd := kd_ox GW hobl
    have hkl : A.kd (A.obj m) ≤ 8 := by
      cases ho : A.obj m with
      | none => simp [AS.kd]
      | some q => exact (hA.2.2.1.2.2.2.1 m q hm ho).2.2.1
    unfold m_cWr_writeBefore_J38 m_cWr_writeBefore_J89 nmT
    rw [gn_s (by omega), hopW.2.1, gn_s (by omega), hkd]
    by_cases c : A.kd (A.obj m) = 6
    · rw [if_pos (show nI (A.kd (A.obj m)) = 6 by rw [c]; rfl), if_pos c, gl_ok (by omega), GW.TB.2.2.2.1, gn_s (by omega)]
      obtain ⟨C1, a1, a2, a3, a4⟩ := GW.TB.put hW 34
      have G1 := a3.RC GW
      have hkp1 := G1.kp.2 m hm
      obtain ⟨C2, b1, b2', b3⟩ := cW_letters G1 hA a2 (p := A.ba m) (k := A.key m) (fun j hj => hkp1.2.1 j hj) (by omega)
      have G2 := b3.RC G1
      obtain ⟨C3, d1, d2, d3, d4⟩ := G2.TB.put b2' 34
      obtain ⟨C4, f1, f2, f3, f4⟩ := d4.put d2 58
      refine ⟨C4, ?_, ?_, (((hR.trans a3).trans b3).trans d3).trans f3⟩
      · have hop1 := G1.op m hm
        rw [a1, ob_ok, hop1.2.2.2.2.2.2.2.1, hop1.2.2.2.2.2.2.2.2.1, b1, ob_ok, G2.TB.2.2.2.1, gn_s (by omega), d1, ob_ok, d4.2.2.2.1, gn_s (by omega), f1, ob_ok]
      · rw [show byt 34 = 34 from byt_nI (x := 34) (by omega), show byt 58 = 58 from byt_nI (x := 58) (by omega)] at f2
        simpa using f2
    · rw [if_neg (show ¬ nI (A.kd (A.obj m)) = 6 from fun e => c ((nI_eq (b := 6) (by omega) (by omega)).mp e)), if_neg c, List.append_nil]
      exact ⟨W, rfl, hW, hR⟩
  have hlast : w.getLast? = some (w[w.length - 1]'(by omega)) := by
    rw [List.getLast?_eq_getElem?, List.getElem?_eq_getElem (by omega)]
  have hRW2 : RW C 2 w.length := ⟨by omega, G.TB.2.2.2.2.1, by rw [hw.1, Nat.min_eq_left hl], by rw [G.TB.2.2.2.2.2]; exact hl, by rw [G.TB.2.2.2.2.2]; omega⟩
  have hb := hw.2.2 (w.length - 1) (by omega)
  have hat : m_cRw_at N 2 C (nI (w.length - 1)) = some (C, nI (w[w.length - 1]'(by omega))) := by
    rw [cR_at u5 u13 hRW2 (by omega), hb.2 (by omega), sb_and hb.1]
  unfold m_cWr_writeBefore m_cWr_writeBefore_J0
  rw [gl_ok (by omega), G.TB.2.2.2.1, gn_s (by omega), hw.1, Nat.min_eq_left hl, show nI w.length - 1 = nI (w.length - 1) from sub_nI (k := 1) (by omega), hat, ob_ok]
  simp only []
  unfold lastB
  rw [hlast]
  simp only []
  generalize hbb : w[w.length - 1]'(by omega) = b at hb
  have e123 : (nI b = 123) ↔ b = 123 := nI_eq (b := 123) (by omega) (by omega)
  have e91 : (nI b = 91) ↔ b = 91 := nI_eq (b := 91) (by omega) (by omega)
  by_cases c1 : b = 123
  · rw [if_pos (e123.mpr c1), if_pos (by simp [c1]), List.append_nil]
    exact hJ R2.refl hw
  · rw [if_neg (fun e => c1 (e123.mp e))]
    by_cases c2 : b = 91
    · rw [if_pos (e91.mpr c2), if_pos (by simp [c2]), List.append_nil]
      exact hJ R2.refl hw
    · rw [if_neg (fun e => c2 (e91.mp e)), if_neg (by simp [c1, c2]), G.TB.2.2.2.1, gn_s (by omega)]
      obtain ⟨C1, a1, a2, a3, a4⟩ := G.TB.put hw 44
      rw [show byt 44 = 44 from byt_nI (x := 44) (by omega)] at a2
      obtain ⟨C2, b1, b2', b3⟩ := hJ a3 a2
      exact ⟨C2, by rw [a1, ob_ok, b1], b2', b3⟩
theorem cW_enter (G : RC N C A rd) (hw : WB C w) {y : Option Nat} (hy : ∀ m, y = some m → m < A.n) (hk : A.kd y = 6 ∨ A.kd y = 7) : ∃ C', m_cWr_enter N 0 C (ox y) = some (C', ((A.L y).map A.sj).head?) ∧ WB C' (w ++ [if A.kd y = 6 then 123 else 91]) ∧ R2 C C' := by
  obtain ⟨u0, u1, u2, u3, u4, u5, u6, u7, u8, u9, u10, u11, u12, u13, u14, u15, u16, u17, u18⟩ := G.nn
  have hox := ox_lt hy
  have hkd := kd_ox G hy
  unfold m_cWr_enter m_cWr_enter_J0 m_cWr_enter_J20
  rw [gl_ok (by omega), gl_ok (by omega), hkd, G.TB.2.2.2.1, gn_s (by omega), gn_s (by omega)]
  rcases hk with h | h
  · obtain ⟨C1, a1, a2, a3, a4⟩ := G.TB.put hw 123
    rw [h, if_pos (show nI 6 = 6 by decide), if_pos rfl]
    refine ⟨C1, ?_, by rw [show byt 123 = 123 from byt_nI (x := 123) (by omega)] at a2; exact a2, a3⟩
    rw [a1, ob_ok, gn_s (by omega), a3.rr, chain_at G hy]
  · obtain ⟨C1, a1, a2, a3, a4⟩ := G.TB.put hw 91
    rw [h, if_neg (show ¬ nI 7 = 6 by decide), if_neg (by omega)]
    refine ⟨C1, ?_, by rw [show byt 91 = 91 from byt_nI (x := 91) (by omega)] at a2; exact a2, a3⟩
    rw [a1, ob_ok, gn_s (by omega), a3.rr, chain_at G hy]
end TXG
