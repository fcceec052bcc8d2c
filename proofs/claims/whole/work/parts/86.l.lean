/-! SAVED: the class writes; how long it is. -/
/-- the saver writes; what goes out holds w, as far as there is room -/
def PW (C : CS) (w : List Nat) : Prop := C.i 6 3 0 = 0 ∧ C.r 6 1 0 = some 3 ∧ C.r 5 0 3 = some 3 ∧ C.z 13 3 = 224582 ∧ C.i 5 1 3 = nI (min w.length 224582) ∧ ∀ i (h : i < w.length), w[i] < 256 ∧ (i < 224582 → C.a 13 3 i = sb w[i])
/-- the check number's bytes -/
def sv4 (l : List Nat) : List Nat := l ++ by4 (crcV l)
/-- SAVED of some first changes of each actor -/
def AS.svd (A : AS) (t : Nat → Nat) : List Nat := grp (sumTo t 8) ++ (A.chs t).flatMap A.chB
section SVL
variable {S S' : MS} {N : Nat → Nat} {C C' : CS} {A : AS} {r rd : Nat} {w : List Nat}
theorem PW_put (h5 : N 5 = 7) (h13 : N 13 = 7) (hp : PW C w) (b : Int32) : ∃ C', m_cRw_write N 3 C b = some C' ∧ PW C' (w ++ [byt b]) ∧ X3 C C' := by
  obtain ⟨p1, p2, p3, p4, p5, p6⟩ := hp
  have hrow : isRow N C 3 3 (min w.length 224582) := ⟨by omega, p3, by omega, p5, by omega, by omega⟩
  by_cases c : w.length < 224582
  · have hmin : min w.length 224582 = w.length := by omega
    rw [hmin] at hrow
    refine ⟨_, pc_write hrow (by omega), ⟨?_, ?_, ?_, ?_, ?_, ?_⟩, X3_setA.trans X3_setI5⟩
    · rw [CS.i_setI, if_neg (by omega), CS.i_setA]; exact p1
    · exact p2
    · exact p3
    · exact p4
    · rw [CS.i_setI, if_pos ⟨rfl, rfl, rfl⟩, List.length_append, List.length_singleton, Nat.min_eq_left (by omega)]
    · intro i hi
      rw [List.length_append, List.length_singleton] at hi
      rw [CS.a_setI, CS.a_setA]
      by_cases e : i < w.length
      · rw [List.getElem_append_left e, if_neg (by omega)]
        exact p6 i e
      · have e2 : i = w.length := by omega
        subst e2
        rw [List.getElem_concat_length rfl, if_pos ⟨rfl, rfl, rfl⟩, vp_nar_byte, sb_byt]
        refine ⟨byt_lt _, fun _ => ?_⟩
        simp
  · have hmin : min w.length 224582 = 224582 := by omega
    rw [hmin] at hrow
    refine ⟨_, pc_spilt hrow (by omega), ⟨?_, ?_, ?_, ?_, ?_, ?_⟩, X3_setI5⟩
    · rw [CS.i_setI, if_neg (by omega)]; exact p1
    · exact p2
    · exact p3
    · exact p4
    · rw [CS.i_setI, if_neg (by omega), p5, List.length_append, List.length_singleton]
      congr 1
      omega
    · intro i hi
      rw [List.length_append, List.length_singleton] at hi
      rw [CS.a_setI]
      by_cases e : i < w.length
      · rw [List.getElem_append_left e]
        exact p6 i e
      · have e2 : i = w.length := by omega
        subst e2
        rw [List.getElem_concat_length rfl]
        exact ⟨byt_lt _, fun h => absurd h c⟩
theorem PW_E (h5 : N 5 = 7) (h13 : N 13 = 7) (h6 : N 6 = 1) : EMI N PW := by
  intro C w b hp hb
  obtain ⟨C', k1, k2, k3⟩ := PW_put h5 h13 hp (nI b)
  rw [byt_nI hb] at k2
  refine ⟨C', ?_, k2, k3⟩
  unfold m_cSv_emit m_cSv_emit_J0
  rw [gl_ok (by omega), hp.1, if_pos rfl, hp.2.1, gn_s (by omega), k1, ob_ok]
theorem PW_int (h5 : N 5 = 7) (h13 : N 13 = 7) (hp : PW C w) (x : Int32) : ∃ C', m_cRw_writeInt N 3 C x = some C' ∧ PW C' (w ++ by4 x) ∧ X3 C C' := by
  obtain ⟨C1, a1, a2, a3⟩ := PW_put h5 h13 hp (ushr32 x 24)
  obtain ⟨C2, b1, b2', b3⟩ := PW_put h5 h13 a2 (ushr32 x 16)
  obtain ⟨C3, c1, c2, c3⟩ := PW_put h5 h13 b2' (ushr32 x 8)
  obtain ⟨C4, d1, d2, d3⟩ := PW_put h5 h13 c2 x
  refine ⟨C4, ?_, by simpa [by4] using d2, ((a3.trans b3).trans c3).trans d3⟩
  unfold m_cRw_writeInt m_cRw_writeInt_J0
  rw [gl_ok (by omega), a1, ob_ok, b1, ob_ok, c1, ob_ok, d1, ob_ok]
/-- the changes of one actor -/
theorem s_actor (G : RC N C A rd) (hA : AI A) (hr : r < 8) {a : Nat} (ha : a < 8) (hp : PW C w) : ∃ C', m_cSv_writeSaved_L31 N 0 C (some r) (nI a) 0 = some (C', some r, nI a) ∧ PW C' (w ++ ((List.range (A.hv r a)).map (fun k => A.ch a (k + 1))).flatMap A.chB) ∧ X3 C C' := by
  obtain ⟨u0, u1, u2, u3, u4, u5, u6, u7, u8, u9, u10, u11, u12, u13, u14, u15, u16, u17, u18⟩ := G.nn
  have hm := hA.1.2.1
  have hE := PW_E u5 u13 u6
  have hle : A.hv r a ≤ A.hv a a := hA.2.1.2.2.2.2.2.1.1 r a
  rw [← ch_filter hA hle, ← flatMap_filter]
  have := lp_run (body := fun u : CS × Option Nat × Int32 × Int32 => m_cSv_writeSaved_B31 N 0 u.1 u.2.1 u.2.2.1 u.2.2.2) (fun i u => ∃ W, u = (W, some r, nI a, nI i) ∧ PW W (w ++ (List.range i).flatMap (fun c => if (decide (A.ca c = a) && decide (A.cu c ≤ A.hv r a)) = true then A.chB c else [])) ∧ X3 C W) (fun e => ∃ W, e = (W, some r, nI a) ∧ PW W (w ++ (List.range A.m).flatMap (fun c => if (decide (A.ca c = a) && decide (A.cu c ≤ A.hv r a)) = true then A.chB c else [])) ∧ X3 C W) A.m ?_ FU (C, some r, nI a, nI 0) (by unfold FU; omega) ⟨C, rfl, by simpa using hp, X3.refl⟩
  · obtain ⟨e, h1, W, rfl, h2, h3⟩ := this
    refine ⟨W, ?_, h2, h3⟩
    unfold m_cSv_writeSaved_L31
    exact h1
  · rintro i _ hi ⟨W, rfl, h1, h2⟩
    have GW := h2.RC G
    by_cases hin : i < A.m
    · left
      have hcg := GW.cg.2.2.2 i hin
      have hca := (hA.2.1.1 i hin).1
      have hB : m_cSv_writeSaved_B31 N 0 W (some r) (nI a) (nI i) = (if nI (A.ca i) = nI a then ob (m_cRp_holds N r W i) (fun o_16 => (if o_16.2 = 0 then m_cSv_writeSaved_J77 N 0 o_16.1 (some r) (nI a) (nI i) else ob (m_cSv_emitChange N 0 o_16.1 i) (fun o_19 => m_cSv_writeSaved_J77 N 0 o_19 (some r) (nI a) (nI i)))) else m_cSv_writeSaved_J77 N 0 W (some r) (nI a) (nI i)) := by
        unfold m_cSv_writeSaved_B31
        rw [gl_ok (by omega), GW.st.2.2.2.2.2.2.2.2.2.2.2.2.2.2.2.2.2.2.1, gn_s (by omega), GW.cg.1, if_neg (nle hin (by omega)), GW.st.2.2.2.2.2.2.2.2.2.2.1, gn_s (by omega), GW.sz.2.2.1, gd_ok (by omega) (by omega), cl_nI (by omega), hcg.1, gn_s (by omega), hcg.2.1, gn_s (by omega)]
      by_cases e1 : A.ca i = a
      · rw [if_pos (by rw [e1]), cR_holds GW hA hr hin, ob_ok] at hB
        simp only [] at hB
        by_cases e2 : A.cu i ≤ A.hv r a
        · have hh : A.hasB r i = true := by
            unfold AS.hasB
            simp only [Bool.and_eq_true, decide_eq_true_eq]
            exact ⟨hin, by rw [e1]; exact e2⟩
          rw [hh, if_neg (show ¬ b2 true = 0 by decide)] at hB
          obtain ⟨C1, k1, k2, k3⟩ := e_chg hE GW hA hin h1
          refine ⟨(C1, some r, nI a, nI (i + 1)), ?_, hin, C1, rfl, ?_, h2.trans k3⟩
          · show m_cSv_writeSaved_B31 N 0 W (some r) (nI a) (nI i) = _
            rw [hB, k1, ob_ok]
            unfold m_cSv_writeSaved_J77
            rw [nI_s]
          · rw [range_s, if_pos (by simp [e1, e2]), ← List.append_assoc]
            exact k2
        · have hh : A.hasB r i = false := by
            unfold AS.hasB
            rw [e1, decide_eq_false e2, Bool.and_false]
          rw [hh, if_pos (show b2 false = 0 by decide)] at hB
          refine ⟨(W, some r, nI a, nI (i + 1)), ?_, hin, W, rfl, ?_, h2⟩
          · show m_cSv_writeSaved_B31 N 0 W (some r) (nI a) (nI i) = _
            rw [hB]
            unfold m_cSv_writeSaved_J77
            rw [nI_s]
          · rw [range_s, if_neg (by simp [e2]), List.append_nil]
            exact h1
      · rw [if_neg (fun h => e1 ((nI_eq (by omega) (by omega)).mp h))] at hB
        refine ⟨(W, some r, nI a, nI (i + 1)), ?_, hin, W, rfl, ?_, h2⟩
        · show m_cSv_writeSaved_B31 N 0 W (some r) (nI a) (nI i) = _
          rw [hB]
          unfold m_cSv_writeSaved_J77
          rw [nI_s]
        · rw [range_s, if_neg (by simp [e1]), List.append_nil]
          exact h1
    · right
      have e : i = A.m := by omega
      subst e
      refine ⟨(W, some r, nI a), ?_, W, rfl, h1, h2⟩
      show m_cSv_writeSaved_B31 N 0 W (some r) (nI a) (nI A.m) = _
      unfold m_cSv_writeSaved_B31
      rw [gl_ok (by omega), GW.st.2.2.2.2.2.2.2.2.2.2.2.2.2.2.2.2.2.2.1, gn_s (by omega), GW.cg.1, if_pos (Int32.le_refl _)]
theorem chs_B {t : Nat → Nat} : (A.chs t).flatMap A.chB = (List.range 8).flatMap (fun a => ((List.range (t a)).map (fun k => A.ch a (k + 1))).flatMap A.chB) := by
  unfold AS.chs
  rw [List.flatMap_assoc]
theorem s_all (G : RC N C A rd) (hA : AI A) (hr : r < 8) (hp : PW C w) : ∃ C', m_cSv_writeSaved_L23 N 0 C (some r) 0 = some C' ∧ PW C' (w ++ (A.chs (A.hv r)).flatMap A.chB) ∧ X3 C C' := by
  rw [chs_B]
  have := lp_run (body := fun u : CS × Option Nat × Int32 => m_cSv_writeSaved_B23 N 0 u.1 u.2.1 u.2.2) (fun i u => ∃ W, u = (W, some r, nI i) ∧ PW W (w ++ (List.range i).flatMap (fun a => ((List.range (A.hv r a)).map (fun k => A.ch a (k + 1))).flatMap A.chB)) ∧ X3 C W) (fun e => PW e (w ++ (List.range 8).flatMap (fun a => ((List.range (A.hv r a)).map (fun k => A.ch a (k + 1))).flatMap A.chB)) ∧ X3 C e) 8 ?_ FU (C, some r, nI 0) (by unfold FU; omega) ⟨C, rfl, by simpa using hp, X3.refl⟩
  · obtain ⟨e, h1, h2, h3⟩ := this
    refine ⟨e, ?_, h2, h3⟩
    unfold m_cSv_writeSaved_L23
    exact h1
  · rintro i _ hi ⟨W, rfl, h1, h2⟩
    by_cases hin : i < 8
    · left
      obtain ⟨C1, k1, k2, k3⟩ := s_actor (h2.RC G) hA hr hin h1
      refine ⟨(C1, some r, nI (i + 1)), ?_, hin, C1, rfl, ?_, h2.trans k3⟩
      · show m_cSv_writeSaved_B23 N 0 W (some r) (nI i) = _
        unfold m_cSv_writeSaved_B23
        rw [if_neg (show ¬ (8 : Int32) ≤ nI i from fun h => by have := (nI_leI (a := 8) (by omega) (by omega)).mp h; omega), k1, ob_ok]
        simp only []
        rw [nI_s]
      · rw [range_s, ← List.append_assoc]
        exact k2
    · right
      refine ⟨W, ?_, by rw [show i = 8 by omega] at h1; exact h1, h2⟩
      show m_cSv_writeSaved_B23 N 0 W (some r) (nI i) = _
      unfold m_cSv_writeSaved_B23
      rw [show i = 8 by omega, if_pos (show (8 : Int32) ≤ nI 8 by decide)]
/-! how long it is -/
theorem sum_mem {f : Nat → Nat} : ∀ {l : List Nat}, (l.map f).sum = (l.map f).sum := rfl
/-- different ops' bytes fit into what is kept -/
theorem kb_le {f : Nat → Nat} {n : Nat} : ∀ {l : List Nat}, l.Nodup → (∀ o, o ∈ l → o < n) → (l.map f).sum ≤ sumN f n := by
  induction n with
  | zero =>
    intro l _ h
    cases l with
    | nil => simp [sumN]
    | cons a l => have := h a (by simp); omega
  | succ n ih =>
    intro l hn h
    by_cases e : n ∈ l
    · have h2 := ih (l := l.erase n) (hn.erase n) (fun o ho => by
        have h1 := h o (List.mem_of_mem_erase ho)
        have h3 : o ≠ n := fun e3 => by rw [e3] at ho; exact (List.Nodup.not_mem_erase hn) ho
        omega)
      have hp := (List.perm_cons_erase e).map f
      have hs := hp.sum_nat
      rw [List.map_cons, List.sum_cons] at hs
      rw [sumN]
      omega
    · have h2 := ih hn (fun o ho => by
        have h1 := h o ho
        have h3 : o ≠ n := fun e3 => e (e3 ▸ ho)
        omega)
      rw [sumN]
      omega
end SVL
