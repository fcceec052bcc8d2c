/-! SAVED: the class emits bytes. -/
def CS.em (C : CS) (v u f : Nat → Int32) : CS := (fun k f1 j => if k = 6 ∧ j = 0 then v f1 else if k = 5 ∧ j = 3 then u f1 else C.i k f1 j, C.l, C.r, fun k j p => if k = 13 ∧ j = 3 then f p else C.a k j p, C.q, C.z)
/-- only the saver and what goes out have changed -/
def X3 (C C' : CS) : Prop := ∃ v u f, C' = C.em v u f
/-- emitting a byte, however it is done, keeps P, which speaks of the bytes that were emitted -/
def EMI (N : Nat → Nat) (P : CS → List Nat → Prop) : Prop := ∀ C w b, P C w → b < 256 → ∃ C', m_cSv_emit N 0 C (nI b) = some C' ∧ P C' (w ++ [b]) ∧ X3 C C'
section SVB
variable {S S' : MS} {N : Nat → Nat} {C C' : CS} {A : AS} {r rd : Nat} {w : List Nat} {P : CS → List Nat → Prop}
theorem em_i {v u f : Nat → Int32} (k f1 j : Nat) : (C.em v u f).i k f1 j = if k = 6 ∧ j = 0 then v f1 else if k = 5 ∧ j = 3 then u f1 else C.i k f1 j := rfl
theorem em_a {v u f : Nat → Int32} (k j p : Nat) : (C.em v u f).a k j p = if k = 13 ∧ j = 3 then f p else C.a k j p := rfl
theorem X3.refl : X3 C C := by
  refine ⟨fun f => C.i 6 f 0, fun f => C.i 5 f 3, C.a 13 3, ?_⟩
  apply CS_ext <;> intros <;> try rfl
  · rw [em_i]
    split
    · rename_i h; rw [h.1, h.2]
    · split
      · rename_i h; rw [h.1, h.2]
      · rfl
  · rw [em_a]
    split
    · rename_i h; rw [h.1, h.2]
    · rfl
theorem X3.trans {C'' : CS} (h : X3 C C') (g : X3 C' C'') : X3 C C'' := by
  obtain ⟨v, u, f, rfl⟩ := h
  obtain ⟨v', u', f', rfl⟩ := g
  refine ⟨v', u', f', ?_⟩
  apply CS_ext <;> intros <;> try rfl
  · rw [em_i, em_i, em_i]
    split
    · rfl
    · split <;> rfl
  · rw [em_a, em_a, em_a]
    split <;> rfl
theorem X3.RC (h : X3 C C') (G : RC N C A rd) : RC N C' A rd := by
  obtain ⟨v, u, f, rfl⟩ := h
  exact G
theorem X3.VC (h : X3 C C') (hv : VC C A r) : VC C' A r := by
  obtain ⟨v, u, f, rfl⟩ := h
  exact hv
theorem X3.rr (h : X3 C C') : C'.r = C.r := by
  obtain ⟨v, u, f, rfl⟩ := h
  rfl
theorem X3.zz (h : X3 C C') : C'.z = C.z := by
  obtain ⟨v, u, f, rfl⟩ := h
  rfl
theorem X3.ii (h : X3 C C') {k f j : Nat} (hk : ¬ (k = 6 ∧ j = 0)) (hk2 : ¬ (k = 5 ∧ j = 3)) : C'.i k f j = C.i k f j := by
  obtain ⟨v, u, f, rfl⟩ := h
  rw [em_i, if_neg hk, if_neg hk2]
theorem X3.aa (h : X3 C C') {k j p : Nat} (hk : ¬ (k = 13 ∧ j = 3)) : C'.a k j p = C.a k j p := by
  obtain ⟨v, u, f, rfl⟩ := h
  rw [em_a, if_neg hk]
theorem X3_setI6 {f : Nat} {x : Int32} : X3 C (C.setI 6 f 0 x) := by
  refine ⟨fun f1 => if f1 = f then x else C.i 6 f1 0, fun f => C.i 5 f 3, C.a 13 3, ?_⟩
  apply CS_ext <;> intros <;> try rfl
  · rename_i k f1 j
    rw [CS.i_setI, em_i]
    by_cases e : k = 6 ∧ j = 0
    · rw [if_pos e]
      by_cases e2 : f1 = f
      · rw [if_pos ⟨e.1, e2, e.2⟩, if_pos e2]
      · rw [if_neg (fun h => e2 h.2.1), if_neg e2, e.1, e.2]
    · rw [if_neg (fun h => e ⟨h.1, h.2.2⟩), if_neg e]
      split
      · rename_i h; rw [h.1, h.2]
      · rfl
  · rw [CS.a_setI, em_a]
    split
    · rename_i h; rw [h.1, h.2]
    · rfl
theorem X3_setI5 {f : Nat} {x : Int32} : X3 C (C.setI 5 f 3 x) := by
  refine ⟨fun f1 => C.i 6 f1 0, fun f1 => if f1 = f then x else C.i 5 f1 3, C.a 13 3, ?_⟩
  apply CS_ext <;> intros <;> try rfl
  · rename_i k f1 j
    rw [CS.i_setI, em_i]
    by_cases e0 : k = 6 ∧ j = 0
    · rw [if_neg (fun h => by omega), if_pos e0, e0.1, e0.2]
    · rw [if_neg e0]
      by_cases e : k = 5 ∧ j = 3
      · rw [if_pos e]
        by_cases e2 : f1 = f
        · rw [if_pos ⟨e.1, e2, e.2⟩, if_pos e2]
        · rw [if_neg (fun h => e2 h.2.1), if_neg e2, e.1, e.2]
      · rw [if_neg (fun h => e ⟨h.1, h.2.2⟩), if_neg e]
  · rw [CS.a_setI, em_a]
    split
    · rename_i h; rw [h.1, h.2]
    · rfl
theorem X3_setA {p : Nat} {x : Int32} : X3 C (C.setA 13 3 p x) := by
  refine ⟨fun f1 => C.i 6 f1 0, fun f1 => C.i 5 f1 3, fun q => if q = p then x else C.a 13 3 q, ?_⟩
  apply CS_ext <;> intros <;> try rfl
  · rename_i k f1 j
    rw [CS.i_setA, em_i]
    split
    · rename_i h; rw [h.1, h.2]
    · split
      · rename_i h; rw [h.1, h.2]
      · rfl
  · rename_i k j q
    rw [CS.a_setA, em_a]
    by_cases e : k = 13 ∧ j = 3
    · rw [if_pos e]
      by_cases e2 : q = p
      · rw [if_pos ⟨e.1, e.2, e2⟩, if_pos e2]
      · rw [if_neg (fun h => e2 h.2.2), if_neg e2, e.1, e.2]
    · rw [if_neg (fun h => e ⟨h.1, h.2.1⟩), if_neg e]
theorem e_num (hE : EMI N P) (h6 : N 6 = 1) (hp : P C w) (x : Int64) : ∃ C', m_cSv_emitNumber N 0 C x = some C' ∧ P C' (w ++ grp (uN x)) ∧ X3 C C' := by
  have := lp_run (body := fun v : CS × Int64 × Int32 => m_cSv_emitNumber_B5 N 0 v.1 v.2.1 v.2.2) (fun i v => ∃ W y w', v = (W, y, nI i) ∧ i ≤ 9 ∧ P W w' ∧ w' ++ gN (9 - i) (uN y) = w ++ grp (uN x) ∧ X3 C W ∧ uN y < 2 ^ (64 - 7 * i)) (fun e => ∃ W y w', e = (W, y) ∧ P W w' ∧ w' ++ [uN y] = w ++ grp (uN x) ∧ X3 C W ∧ uN y < 128) 9 ?_ FU (C, x, nI 0) (by unfold FU; omega) ⟨C, x, w, rfl, by omega, hp, rfl, X3.refl, uN_lt x⟩
  · obtain ⟨e, h1, W, y, w', rfl, h2, h3, h4, h5⟩ := this
    obtain ⟨C', k1, k2, k3⟩ := hE W w' (uN y) h2 (by omega)
    refine ⟨C', ?_, by rw [← h3]; exact k2, h4.trans k3⟩
    unfold m_cSv_emitNumber m_cSv_emitNumber_J0 m_cSv_emitNumber_L5
    rw [show lp (fun a : CS × Int64 × Int32 => m_cSv_emitNumber_B5 N 0 a.1 a.2.1 a.2.2) FU (C, x, 0) = _ from h1, ob_ok]
    unfold m_cSv_emitNumber_J46
    rw [gl_ok (by omega)]
    simp only []
    rw [uN_32 (by omega), k1, ob_ok]
  · rintro i _ hi ⟨W, y, w', rfl, hi9, h1, h2, h3, h4⟩
    by_cases hy : uN y < 128
    · right
      have hg : gN (9 - i) (uN y) = [uN y] := by
        cases h9 : 9 - i with
        | zero => rfl
        | succ k => rw [gN, if_pos hy]
      rw [hg] at h2
      refine ⟨(W, y), ?_, W, y, w', rfl, h1, h2, h3, hy⟩
      show m_cSv_emitNumber_B5 N 0 W y (nI i) = _
      unfold m_cSv_emitNumber_B5
      by_cases e : 9 ≤ i
      · rw [if_pos (show (9 : Int32) ≤ nI i from (nI_leI (a := 9) (by omega) (by omega)).mpr e)]
      · rw [if_neg (show ¬ (9 : Int32) ≤ nI i from fun h => e ((nI_leI (a := 9) (by omega) (by omega)).mp h)), if_pos ((uN_cmp0 y).mpr hy)]
    · left
      have hi8 : i ≤ 8 := by
        rcases Nat.lt_or_ge i 9 with h | h
        · omega
        · rw [show i = 9 by omega] at h4
          omega
      obtain ⟨C', k1, k2, k3⟩ := hE W w' (uN y % 128 + 128) h1 (by omega)
      refine ⟨(C', ushr64 y 7, nI (i + 1)), ?_, by omega, C', ushr64 y 7, w' ++ [uN y % 128 + 128], rfl, by omega, k2, ?_, h3.trans k3, ?_⟩
      · show m_cSv_emitNumber_B5 N 0 W y (nI i) = _
        unfold m_cSv_emitNumber_B5
        rw [if_neg (show ¬ (9 : Int32) ≤ nI i from fun h => by have := (nI_leI (a := 9) (by omega) (by omega)).mp h; omega), if_neg (fun h => hy ((uN_cmp0 y).mp h)), gl_ok (by omega), uN_low, k1, ob_ok, nI_s]
      · rw [← h2, show 9 - i = (9 - (i + 1)) + 1 by omega, gN, if_neg hy, uN_shr, List.append_assoc]
        rfl
      · rw [uN_shr]
        have hp2 : 2 ^ (64 - 7 * i) = 128 * 2 ^ (64 - 7 * (i + 1)) := by
          rw [show 64 - 7 * i = 7 + (64 - 7 * (i + 1)) by omega, Nat.pow_add]
        rw [hp2] at h4
        exact Nat.div_lt_of_lt_mul h4
theorem e_n (hE : EMI N P) (h6 : N 6 = 1) (hp : P C w) {n : Nat} (hn : n < 2 ^ 31) : ∃ C', m_cSv_emitNumber N 0 C (nI n).toInt64 = some C' ∧ P C' (w ++ grp n) ∧ X3 C C' := by
  have := e_num hE h6 hp (nI n).toInt64
  rw [uN_of hn] at this
  exact this
theorem e_bytes (hE : EMI N P) (G : RC N C A rd) (hA : AI A) (hp : P C w) {p : Nat} {k : List Nat} (hk : RB C 0 p k) (hl : p + k.length ≤ A.kn) : ∃ C', m_cSv_emitBytes N 0 C (nI p) (nI k.length) = some C' ∧ P C' (w ++ k) ∧ X3 C C' := by
  obtain ⟨u0, u1, u2, u3, u4, u5, u6, u7, u8, u9, u10, u11, u12, u13, u14, u15, u16, u17, u18⟩ := G.nn
  have hkn := hA.1.2.2.1
  have := lp_run (body := fun v : CS × Int32 × Int32 × Int32 => m_cSv_emitBytes_B2 N 0 v.1 v.2.1 v.2.2.1 v.2.2.2) (fun i v => ∃ W, v = (W, nI p, nI k.length, nI i) ∧ P W (w ++ k.take i) ∧ X3 C W) (fun e => P e (w ++ k) ∧ X3 C e) k.length ?_ FU (C, nI p, nI k.length, nI 0) (by unfold FU; omega) ⟨C, rfl, by simpa using hp, X3.refl⟩
  · obtain ⟨e, h1, h2, h3⟩ := this
    refine ⟨e, ?_, h2, h3⟩
    unfold m_cSv_emitBytes m_cSv_emitBytes_J0 m_cSv_emitBytes_L2
    rw [show lp (fun a : CS × Int32 × Int32 × Int32 => m_cSv_emitBytes_B2 N 0 a.1 a.2.1 a.2.2.1 a.2.2.2) FU (C, nI p, nI k.length, 0) = _ from h1, ob_ok]
  · rintro i _ hi ⟨W, rfl, h1, h2⟩
    have GW := h2.RC G
    by_cases hin : i < k.length
    · left
      have hat := cR_at u5 u13 (GW.kept hA) (show p + i < A.kn by omega)
      have hb := hk i hin
      obtain ⟨C', k1, k2, k3⟩ := hE W (w ++ k.take i) k[i] h1 hb.1
      refine ⟨(C', nI p, nI k.length, nI (i + 1)), ?_, hin, C', rfl, ?_, h2.trans k3⟩
      · show m_cSv_emitBytes_B2 N 0 W (nI p) (nI k.length) (nI i) = _
        unfold m_cSv_emitBytes_B2
        rw [if_neg (nle hin (by omega)), gl_ok (by omega), GW.st.2.2.2.2.2.2.2.2.2.2.2.2.2.2.2.2.2.2.1, gn_s (by omega), GW.st.2.2.2.2.2.2.2.2.2.1, gn_s (by omega), nI_add, hat, ob_ok]
        simp only []
        rw [h2.aa (by omega), hb.2, sb_and hb.1, k1, ob_ok, nI_s]
      · rw [List.take_succ_eq_append_getElem hin, ← List.append_assoc]
        exact k2
    · right
      refine ⟨W, ?_, ?_, h2⟩
      · show m_cSv_emitBytes_B2 N 0 W (nI p) (nI k.length) (nI i) = _
        unfold m_cSv_emitBytes_B2
        rw [show i = k.length by omega, if_pos (Int32.le_refl _)]
      · rw [List.take_of_length_le (by omega)] at h1
        exact h1
end SVB
