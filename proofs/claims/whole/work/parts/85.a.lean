/-! TEXT: what is written, letter by letter. -/
def CS.r2 (C : CS) (u : Nat → Int32) (f : Nat → Int32) : CS := (fun k f1 j => if k = 5 ∧ j = 2 then u f1 else C.i k f1 j, C.l, C.r, fun k j p => if k = 13 ∧ j = 2 then f p else C.a k j p, C.q, C.z)
/-- only the row that is written has changed -/
def R2 (C C' : CS) : Prop := ∃ u f, C' = C.r2 u f
/-- the row holds w, as far as there is room -/
def WB (C : CS) (w : List Nat) : Prop := C.i 5 1 2 = nI (min w.length 16384) ∧ C.i 5 2 2 = nI (if 16384 < w.length then 1 else 0) ∧ ∀ i (h : i < w.length), w[i] < 256 ∧ (i < 16384 → C.a 13 2 i = sb w[i])
section TXA
variable {S S' : MS} {N : Nat → Nat} {C C' : CS} {A : AS} {r rd : Nat} {w : List Nat}
theorem r2_i {u f : Nat → Int32} (k f1 j : Nat) : (C.r2 u f).i k f1 j = if k = 5 ∧ j = 2 then u f1 else C.i k f1 j := rfl
theorem r2_a {u f : Nat → Int32} (k j p : Nat) : (C.r2 u f).a k j p = if k = 13 ∧ j = 2 then f p else C.a k j p := rfl
theorem R2.refl : R2 C C := by
  refine ⟨fun f => C.i 5 f 2, C.a 13 2, ?_⟩
  apply CS_ext <;> intros <;> try rfl
  · rw [r2_i]
    split
    · rename_i h; rw [h.1, h.2]
    · rfl
  · rw [r2_a]
    split
    · rename_i h; rw [h.1, h.2]
    · rfl
theorem R2.trans {C'' : CS} (h : R2 C C') (g : R2 C' C'') : R2 C C'' := by
  obtain ⟨u, f, rfl⟩ := h
  obtain ⟨u', f', rfl⟩ := g
  refine ⟨u', f', ?_⟩
  apply CS_ext <;> intros <;> try rfl
  · rw [r2_i, r2_i, r2_i]
    split <;> rfl
  · rw [r2_a, r2_a, r2_a]
    split <;> rfl
theorem R2.RC (h : R2 C C') (G : RC N C A rd) : RC N C' A rd := by
  obtain ⟨u, f, rfl⟩ := h
  exact G
theorem R2.VC (h : R2 C C') (hv : VC C A r) : VC C' A r := by
  obtain ⟨u, f, rfl⟩ := h
  exact hv
theorem R2.rr (h : R2 C C') : C'.r = C.r := by
  obtain ⟨u, f, rfl⟩ := h
  rfl
theorem R2.i3 (h : R2 C C') (f j : Nat) : C'.i 3 f j = C.i 3 f j := by
  obtain ⟨u, f, rfl⟩ := h
  rfl
theorem cW_put (h5 : N 5 = 7) (h13 : N 13 = 7) (h50 : C.r 5 0 2 = some 2) (hz : C.z 13 2 = 16384) (hw : WB C w) (b : Int32) : ∃ C', m_cRw_write N 2 C b = some C' ∧ WB C' (w ++ [byt b]) ∧ R2 C C' := by
  obtain ⟨h1, h2, h3⟩ := hw
  unfold m_cRw_write m_cRw_write_J0 m_cRw_write_J41
  rw [gl_ok (by omega), h50, gn_s (by omega), hz, h1]
  by_cases c : 16384 ≤ w.length
  · rw [if_pos ((nI_leI (by omega) (by omega)).mpr (by omega))]
    refine ⟨_, rfl, ⟨?_, ?_, ?_⟩, ⟨fun f => if f = 2 then nI 1 else C.i 5 f 2, C.a 13 2, ?_⟩⟩
    · rw [CS.i_setI, if_neg (by omega), h1, List.length_append, List.length_singleton]
      congr 1
      omega
    · rw [CS.i_setI, if_pos ⟨rfl, rfl, rfl⟩, List.length_append, List.length_singleton, if_pos (by omega)]
      rfl
    · intro i hi
      rw [List.length_append, List.length_singleton] at hi
      by_cases e : i < w.length
      · rw [List.getElem_append_left e]
        exact h3 i e
      · have e2 : i = w.length := by omega
        subst e2
        rw [List.getElem_concat_length rfl]
        exact ⟨byt_lt _, fun h => by omega⟩
    · apply CS_ext <;> intros <;> try rfl
      · rename_i k f j
        rw [CS.i_setI, r2_i]
        by_cases e : k = 5 ∧ j = 2
        · rw [if_pos e]
          by_cases e2 : f = 2
          · rw [if_pos ⟨e.1, e2, e.2⟩, if_pos e2]; rfl
          · rw [if_neg (fun h => e2 h.2.1), if_neg e2, e.1, e.2]
        · rw [if_neg (fun h => e ⟨h.1, h.2.2⟩), if_neg e]
      · rename_i k j p
        rw [CS.a_setI, r2_a]
        split
        · rename_i h; rw [h.1, h.2]
        · rfl
  · rw [if_neg (fun h => c (by have := (nI_leI (by omega) (by omega)).mp h; omega)), gd_ok (by omega) (by omega), cl_nI (by omega), show min w.length 16384 = w.length by omega]
    refine ⟨_, rfl, ⟨?_, ?_, ?_⟩, ⟨fun f => if f = 1 then nI (w.length + 1) else C.i 5 f 2, fun p => if p = w.length then vp_nar .byte b.toInt8.toInt32 else C.a 13 2 p, ?_⟩⟩
    · rw [CS.i_setI, if_pos ⟨rfl, rfl, rfl⟩, List.length_append, List.length_singleton, nI_s]
      congr 1
      omega
    · rw [CS.i_setI, if_neg (by omega), CS.i_setA, h2, List.length_append, List.length_singleton, if_neg (by omega), if_neg (by omega)]
    · intro i hi
      rw [List.length_append, List.length_singleton] at hi
      rw [CS.a_setI, CS.a_setA]
      by_cases e : i < w.length
      · rw [List.getElem_append_left e, if_neg (by omega)]
        exact h3 i e
      · have e2 : i = w.length := by omega
        subst e2
        rw [List.getElem_concat_length rfl, if_pos ⟨rfl, rfl, rfl⟩, vp_nar_byte, sb_byt]
        refine ⟨byt_lt _, fun _ => ?_⟩
        simp
    · apply CS_ext <;> intros <;> try rfl
      · rename_i k f j
        rw [CS.i_setI, CS.i_setA, r2_i]
        by_cases e : k = 5 ∧ j = 2
        · rw [if_pos e]
          by_cases e2 : f = 1
          · rw [if_pos ⟨e.1, e2, e.2⟩, if_pos e2, nI_s]
          · rw [if_neg (fun h => e2 h.2.1), if_neg e2, e.1, e.2]
        · rw [if_neg (fun h => e ⟨h.1, h.2.2⟩), if_neg e]
      · rename_i k j p
        rw [CS.a_setI, CS.a_setA, r2_a]
        by_cases e : k = 13 ∧ j = 2
        · rw [if_pos e]
          by_cases e2 : p = w.length
          · rw [if_pos ⟨e.1, e.2, e2⟩, if_pos e2]
          · rw [if_neg (fun h => e2 h.2.2), if_neg e2, e.1, e.2]
        · rw [if_neg (fun h => e ⟨h.1, h.2.1⟩), if_neg e]
/-- the reference's side: what stands behind 400000 -/
def WR (S : MS) (w : List Nat) : Prop := S.i 41 = nI (400000 + w.length) ∧ w.length ≤ 1000000000 ∧ ∀ i (h : i < w.length), w[i] < 256 ∧ (i < 400000 → S.a 40 (400000 + i) = sb w[i])
/-- only what is written there has changed -/
def W4 (S S' : MS) : Prop := ∃ v g, S' = (S.setA 40 g).setI 41 v ∧ ∀ i, i < 400000 → g i = S.a 40 i
theorem W4.refl : W4 S S := ⟨S.i 41, S.a 40, by rw [MS.setA_self, MS.setI_self], fun _ _ => rfl⟩
theorem W4.trans {S'' : MS} (h : W4 S S') (g : W4 S' S'') : W4 S S'' := by
  obtain ⟨v, g1, rfl, h1⟩ := h
  obtain ⟨v', g2, rfl, h2⟩ := g
  refine ⟨v', g2, ?_, fun i hi => ?_⟩
  · rw [MS.setI_setA, MS.setA_setA, MS.setI_setI]
  · rw [h2 i hi, MS.a_setI, MS.a_setA, if_pos rfl]
    exact h1 i hi
theorem W4.RS (h : W4 S S') (hR : RS S A) : RS S' A := by
  obtain ⟨v, g, rfl, _⟩ := h
  exact (hR.setA rfl).setI rfl
theorem W4.ii (h : W4 S S') {k : Nat} (hk : k ≠ 41) : S'.i k = S.i k := by
  obtain ⟨v, g, rfl, _⟩ := h
  rw [MS.i_setI, if_neg hk, MS.i_setA]
theorem W4.aa (h : W4 S S') {k : Nat} (hk : k ≠ 40) : S'.a k = S.a k := by
  obtain ⟨v, g, rfl, _⟩ := h
  rw [MS.a_setI, MS.a_setA, if_neg hk]
theorem W4.lo (h : W4 S S') {i : Nat} (hi : i < 400000) : S'.a 40 i = S.a 40 i := by
  obtain ⟨v, g, rfl, h1⟩ := h
  rw [MS.a_setI, MS.a_setA, if_pos rfl]
  exact h1 i hi
theorem pW_put (hw : WR S w) (hl : w.length < 1000000000) (b : Int32) : ∃ S', m_rwrite S b = some S' ∧ WR S' (w ++ [byt b]) ∧ W4 S S' := by
  obtain ⟨h1, h2, h3⟩ := hw
  unfold m_rwrite m_rwrite_J0 m_rwrite_J23
  rw [h1]
  by_cases c : 400000 ≤ w.length
  · rw [if_pos (show (800000 : Int32) ≤ nI (400000 + w.length) from (nI_leI (a := 800000) (by omega) (by omega)).mpr (by omega)), nI_s]
    refine ⟨_, rfl, ⟨?_, ?_, ?_⟩, ⟨_, S.a 40, by rw [MS.setA_self], fun _ _ => rfl⟩⟩
    · rw [MS.i_setI, if_pos rfl, List.length_append, List.length_singleton, Nat.add_assoc]
    · rw [List.length_append, List.length_singleton]; omega
    · intro i hi
      rw [List.length_append, List.length_singleton] at hi
      rw [MS.a_setI]
      by_cases e : i < w.length
      · rw [List.getElem_append_left e]
        exact h3 i e
      · have e2 : i = w.length := by omega
        subst e2
        rw [List.getElem_concat_length rfl]
        exact ⟨byt_lt _, fun h => by omega⟩
  · rw [if_neg (show ¬ (800000 : Int32) ≤ nI (400000 + w.length) from fun h => by have := (nI_leI (a := 800000) (by omega) (by omega)).mp h; omega), gd_ok (by omega) (by omega), cl_nI (by omega)]
    have e41 : (S.setA 40 (upd (S.a 40) (400000 + w.length) (vp_nar .byte b.toInt8.toInt32))).i 41 = nI (400000 + w.length) := h1
    rw [e41, nI_s]
    refine ⟨_, rfl, ⟨?_, ?_, ?_⟩, ⟨_, _, rfl, ?_⟩⟩
    · rw [MS.i_setI, if_pos rfl, List.length_append, List.length_singleton, Nat.add_assoc]
    · rw [List.length_append, List.length_singleton]; omega
    · intro i hi
      rw [List.length_append, List.length_singleton] at hi
      rw [MS.a_setI, MS.a_setA, if_pos rfl]
      unfold upd
      by_cases e : i < w.length
      · rw [List.getElem_append_left e, if_neg (by omega)]
        exact h3 i e
      · have e2 : i = w.length := by omega
        subst e2
        rw [List.getElem_concat_length rfl, if_pos rfl, vp_nar_byte, sb_byt]
        refine ⟨byt_lt _, fun _ => ?_⟩
        simp
    · intro i hi
      unfold upd
      rw [if_neg (by omega)]
end TXA
