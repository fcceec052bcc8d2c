/-! TEXT: the class, whole. -/
section TXJ
variable {S S' : MS} {N : Nat → Nat} {C C' : CS} {A : AS} {r rd : Nat} {w : List Nat}
theorem R2_clear : R2 C ((C.setI 5 1 2 (nI 0)).setI 5 2 2 (nI 0)) := by
  refine ⟨fun f => if f = 2 then nI 0 else if f = 1 then nI 0 else C.i 5 f 2, C.a 13 2, ?_⟩
  apply CS_ext <;> intros <;> try rfl
  · rename_i k f j
    rw [CS.i_setI, CS.i_setI, r2_i]
    by_cases e : k = 5 ∧ j = 2
    · rw [if_pos e]
      by_cases e2 : f = 2
      · rw [if_pos ⟨e.1, e2, e.2⟩, if_pos e2]
      · rw [if_neg (fun h => e2 h.2.1), if_neg e2]
        by_cases e3 : f = 1
        · rw [if_pos ⟨e.1, e3, e.2⟩, if_pos e3]
        · rw [if_neg (fun h => e3 h.2.1), if_neg e3, e.1, e.2]
    · rw [if_neg (fun h => e ⟨h.1, h.2.2⟩), if_neg (fun h => e ⟨h.1, h.2.2⟩), if_neg e]
  · rename_i k j p
    rw [CS.a_setI, CS.a_setI, r2_a]
    split
    · rename_i h; rw [h.1, h.2]
    · rfl
theorem cT_object (G : RC N C A rd) (hA : AI A) (hv : VC C A r) {y : Option Nat} (hy : A.oV r y) (hrd : rd + 10000 < 2 ^ 30) : ∃ C', m_cWr_writeObject N 0 C (ox y) = some (C', some 2) ∧ TO N C A r rd (vb A r (A.val r) y) C' := by
  obtain ⟨u0, u1, u2, u3, u4, u5, u6, u7, u8, u9, u10, u11, u12, u13, u14, u15, u16, u17, u18⟩ := G.nn
  have hnn := hA.1.1
  have hyl := oV_ltn hy
  have hox := ox_lt hyl
  have h68 := kd_le8 hy
  have hLl := L_len hA (x := y)
  obtain ⟨C1, hC1⟩ : ∃ C1, C1 = (C.setI 5 1 2 (nI 0)).setI 5 2 2 (nI 0) := ⟨_, rfl⟩
  have h2 : R2 C C1 := by rw [hC1]; exact R2_clear
  have hw1 : WB C1 [] := by
    refine ⟨?_, ?_, fun i h => absurd h (Nat.not_lt_zero _)⟩
    · rw [hC1, CS.i_setI, if_neg (by omega), CS.i_setI, if_pos ⟨rfl, rfl, rfl⟩]; rfl
    · rw [hC1, CS.i_setI, if_pos ⟨rfl, rfl, rfl⟩]; rfl
  have G1 := h2.RC G
  have hv1 := h2.VC hv
  have hkd := kd_ox G1 hyl
  have hcl : m_cRw_clear N 2 C = some C1 := by
    unfold m_cRw_clear m_cRw_clear_J0
    rw [gl_ok (by omega), hC1]
    rfl
  unfold m_cWr_writeObject m_cWr_writeObject_J0
  rw [gl_ok (by omega), G.TB.2.2.2.1, gn_s (by omega), hcl, ob_ok, gl_ok (by omega), hkd]
  by_cases h8 : A.kd y = 8
  · rw [if_pos (show nI (A.kd y) = 8 by rw [h8]; rfl)]
    cases y with
    | none => simp [AS.kd] at h8
    | some m =>
      have hm : m < A.n := hyl m rfl
      obtain ⟨C2, a1, a2, a3, a4, a5⟩ := cW_textual G1 hA hv1 hw1 hm h8 (by omega)
      refine ⟨C2, ?_, _, _, a2, Or.inl ?_, a3, a4, h2.X.trans a5, by omega, by omega⟩
      · rw [show m_cWr_writePlain N 0 C1 (ox (some m)) = _ from a1, ob_ok, a3.TB.2.2.2.1]
      · unfold vb
        rw [if_neg (by omega), if_neg (by omega), if_pos h8]
        rfl
  · rw [if_neg (show ¬ nI (A.kd y) = 8 from fun e => h8 ((nI_eq (b := 8) (by omega) (by omega)).mp e))]
    have hk67 : A.kd y = 6 ∨ A.kd y = 7 := by omega
    obtain ⟨C2, a1, a2, a3⟩ := cW_enter G1 hw1 hyl hk67
    have hnd : ndOK A r y := by
      intro m hm
      rw [hm] at hy
      exact ⟨hy.1, hy.2.1, hy.2.2.2⟩
    have hTI : TI N C A r rd y (vb A r (A.val r) y) 0 (C2, some (ox y), some (ox y), ((A.L y).map A.sj).head?, 1, nI 0) := by
      refine Or.inl ⟨C2, y, A.L y, [], [if A.kd y = 6 then 123 else 91], fun _ => false, fun e => decide (e = ox y), rd, rfl, ⟨rfl, ⟨[], rfl⟩, hnd, hk67⟩, ?_, by simp, a2, a3.RC G1, a3.VC hv1, h2.X.trans a3.X, ⟨fun _ _ _ _ => rfl, (fun s _ h => Bool.noConfusion h), ?_⟩, ?_, ?_, ?_, Nat.le_refl _⟩
      · rw [show [if A.kd y = 6 then 123 else 91] = ([] : List Nat) ++ [if A.kd y = 6 then 123 else 91] from rfl, lastB_snoc]
        have : (decide ((if A.kd y = 6 then 123 else 91) = 123) || decide ((if A.kd y = 6 then 123 else 91) = 91)) = true := by split <;> rfl
        rw [this]
        unfold vb
        show _ = _ ++ (csF true (itT A r (A.val r) (A.L y)) ++ [clB A y] ++ [])
        unfold clB
        rcases hk67 with h | h
        · rw [if_pos h, if_pos h, if_pos h]
          simp
        · rw [if_neg (by omega), if_pos h, if_neg (by omega), if_neg (by omega)]
          simp
      · intro e he
        left
        have : ox e = ox y := by simpa using he
        cases e with
        | none =>
          cases y with
          | none => rfl
          | some m => simp [ox] at this
        | some q =>
          cases y with
          | none => simp [ox] at this
          | some m => simp [ox] at this; rw [this]
      · intro f hf
        rw [List.mem_singleton.mp hf]
        simp
      · have : unS A (fun _ => false) = A.n := cntTo_all A.n
        rw [this]
        simp
      · have : unS A (fun _ => false) = A.n := cntTo_all A.n
        rw [this]
        omega
    have := lp_run (body := fun v : CS × Option Nat × Option Nat × Option Nat × Int32 × Int32 => m_cWr_writeObject_B40 N 0 v.1 v.2.1 v.2.2.1 v.2.2.2.1 v.2.2.2.2.1 v.2.2.2.2.2) (fun i v => TI N C A r rd y (vb A r (A.val r) y) i v) (fun e => TO N C A r rd (vb A r (A.val r) y) e) (2 * A.n + 2) (fun i v _ hT => cT_step hA hrd hT) FU (C2, some (ox y), some (ox y), ((A.L y).map A.sj).head?, 1, nI 0) (by unfold FU; omega) hTI
    obtain ⟨e, h1, h3⟩ := this
    refine ⟨e, ?_, h3⟩
    rw [a1, ob_ok]
    simp only []
    rw [show m_cWr_writeObject_L40 N 0 C2 (some (ox y)) (some (ox y)) ((A.L y).map A.sj).head? 1 0 = some e by unfold m_cWr_writeObject_L40; exact h1, ob_ok]
    unfold m_cWr_writeObject_J248
    obtain ⟨w', rd1, _, _, q3, _⟩ := h3
    rw [gl_ok (by omega), q3.TB.2.2.2.1]
end TXJ
