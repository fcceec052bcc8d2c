/-! LOADED: the class compares the changes of one actor. -/
def CS.em4 (C : CS) (v u f g : Nat → Int32) : CS := (fun k f1 j => if k = 6 ∧ j = 0 then v f1 else if k = 5 ∧ j = 3 then u f1 else C.i k f1 j, C.l, C.r, fun k j p => if k = 13 ∧ j = 3 then f p else if k = 12 ∧ j = 9 then g p else C.a k j p, C.q, C.z)
/-- only the saver, what it has taken and what goes out have changed -/
def X4 (C C' : CS) : Prop := ∃ v u f g, C' = C.em4 v u f g
/-- the bytes of an actor's first k changes -/
def AS.blk (A : AS) (a k : Nat) : List Nat := ((List.range k).map (fun j => A.ch a (j + 1))).flatMap A.chB
section LDB
variable {S S' : MS} {N : Nat → Nat} {C C' : CS} {A : AS} {r rd : Nat} {w bo : List Nat}
theorem em4_i {v u f g : Nat → Int32} (k f1 j : Nat) : (C.em4 v u f g).i k f1 j = if k = 6 ∧ j = 0 then v f1 else if k = 5 ∧ j = 3 then u f1 else C.i k f1 j := rfl
theorem em4_a {v u f g : Nat → Int32} (k j p : Nat) : (C.em4 v u f g).a k j p = if k = 13 ∧ j = 3 then f p else if k = 12 ∧ j = 9 then g p else C.a k j p := rfl
theorem X3.to4 (h : X3 C C') : X4 C C' := by
  obtain ⟨v, u, f, rfl⟩ := h
  refine ⟨v, u, f, C.a 12 9, ?_⟩
  apply CS_ext <;> intros <;> try rfl
  · rw [em_a, em4_a]
    split
    · rfl
    · split
      · rename_i h; rw [h.1, h.2]
      · rfl
theorem X4.refl : X4 C C := X3.refl.to4
theorem X4.trans {C'' : CS} (h : X4 C C') (g : X4 C' C'') : X4 C C'' := by
  obtain ⟨v, u, f, g1, rfl⟩ := h
  obtain ⟨v', u', f', g2, rfl⟩ := g
  refine ⟨v', u', f', g2, ?_⟩
  apply CS_ext <;> intros <;> try rfl
  · rw [em4_i, em4_i, em4_i]
    split
    · rfl
    · split <;> rfl
  · rw [em4_a, em4_a, em4_a]
    split
    · rfl
    · split <;> rfl
theorem X4_set9 {p : Nat} {x : Int32} : X4 C (C.setA 12 9 p x) := by
  refine ⟨fun f1 => C.i 6 f1 0, fun f1 => C.i 5 f1 3, C.a 13 3, fun q => if q = p then x else C.a 12 9 q, ?_⟩
  apply CS_ext <;> intros <;> try rfl
  · rename_i k f1 j
    rw [CS.i_setA, em4_i]
    split
    · rename_i h; rw [h.1, h.2]
    · split
      · rename_i h; rw [h.1, h.2]
      · rfl
  · rename_i k j q
    rw [CS.a_setA, em4_a]
    by_cases e0 : k = 13 ∧ j = 3
    · rw [if_pos e0, if_neg (by omega), e0.1, e0.2]
    · rw [if_neg e0]
      by_cases e : k = 12 ∧ j = 9
      · rw [if_pos e]
        by_cases e2 : q = p
        · rw [if_pos ⟨e.1, e.2, e2⟩, if_pos e2]
        · rw [if_neg (fun h => e2 h.2.2), if_neg e2, e.1, e.2]
      · rw [if_neg (fun h => e ⟨h.1, h.2.1⟩), if_neg e]
theorem X4.ii (h : X4 C C') {k f j : Nat} (hk : ¬ (k = 6 ∧ j = 0)) (hk2 : ¬ (k = 5 ∧ j = 3)) : C'.i k f j = C.i k f j := by
  obtain ⟨v, u, f, g, rfl⟩ := h
  rw [em4_i, if_neg hk, if_neg hk2]
theorem X4.aa (h : X4 C C') {k j p : Nat} (hk : ¬ (k = 13 ∧ j = 3)) (hk2 : ¬ (k = 12 ∧ j = 9)) : C'.a k j p = C.a k j p := by
  obtain ⟨v, u, f, g, rfl⟩ := h
  rw [em4_a, if_neg hk, if_neg hk2]
theorem X4.rr (h : X4 C C') : C'.r = C.r := by
  obtain ⟨v, u, f, g, rfl⟩ := h
  rfl
theorem X4.zz (h : X4 C C') : C'.z = C.z := by
  obtain ⟨v, u, f, g, rfl⟩ := h
  rfl
theorem X4.RC (h : X4 C C') (G : RC N C A rd) : RC N C' A rd := by
  obtain ⟨v, u, f, g, rfl⟩ := h
  obtain ⟨⟨g1, g2, g3, g4, g5, g6, g7, g8, g9, g10, g11, g12⟩, h4⟩ := G
  refine ⟨⟨g1, g2, g3, g4, g5, g6, g7, g8, ⟨g9.1, g9.2.1, g9.2.2.1, fun c hc => ?_⟩, fun r hr => ?_, g11, g12⟩, h4⟩
  · obtain ⟨k1, k2, k3, k4, k5, k6, k7, k8, k9, k10⟩ := g9.2.2.2 c hc
    exact ⟨k1, k2, k3, k4, k5, k6, k7, k8, fun a ha => by rw [em4_a, if_neg (by omega), if_neg (by omega)]; exact k9 a ha, k10⟩
  · obtain ⟨k1, k2⟩ := g10 r hr
    exact ⟨fun a ha => by rw [em4_a, if_neg (by omega), if_neg (by omega)]; exact k1 a ha, k2⟩
theorem X4.VC (h : X4 C C') (hv : VC C A r) : VC C' A r := by
  intro a ha
  rw [h.aa (by omega) (by omega)]
  exact hv a ha
theorem PC_set9 {p : Nat} {x : Int32} (hp : PC bo C w) : PC bo (C.setA 12 9 p x) w := by
  obtain ⟨p1, p2, p3, p4, p5⟩ := hp
  exact ⟨p1, p2, p3, fun i hi => by rw [CS.a_setA, if_neg (by omega)]; exact p4 i hi, p5⟩
theorem blk_s {a k : Nat} : A.blk a (k + 1) = A.blk a k ++ A.chB (A.ch a (k + 1)) := by
  unfold AS.blk
  rw [List.range_succ, List.map_append, List.flatMap_append, List.map_cons, List.map_nil, List.flatMap_cons, List.flatMap_nil, List.append_nil]
theorem blk_len (hA : AI A) (hK : LOK A) {a k : Nat} (hk : k ≤ A.hv a a) : (A.blk a k).length ≤ 224576 := by
  obtain ⟨n1, n2⟩ := ch_nodup hA hk
  exact chB_sum hA hK n1 n2
theorem nI_m1 {L k : Nat} (h : k < L) : nI (L - k) + (-1) = nI (L - (k + 1)) := by
  have e : L - k = (L - (k + 1)) + 1 := by omega
  have h2 : nI (L - (k + 1) + 1) - 1 = nI (L - (k + 1)) := nI_pred _
  rw [← e, Int32.sub_eq_add_neg] at h2
  exact h2
theorem r_actor (G : RC N C A rd) (hA : AI A) (hK : LOK A) {a L : Nat} (ha : a < 8) (hp : PC bo C w) (hl : w.length ≤ 500000000) (hL : L < 40000) (h9 : C.a 12 9 a = 0) :
    ∃ C' k, m_cSv_isRight_L43 N 0 C (nI L) (nI a) 0 = some (C', nI (L - k), nI a) ∧ PC bo C' (w ++ A.blk a k) ∧ X4 C C' ∧ k ≤ L ∧ k ≤ A.hv a a ∧ C'.a 12 9 a = nI k ∧ (∀ b, b ≠ a → C'.a 12 9 b = C.a 12 9 b) ∧
      (∀ j, j < k → atI bo (w ++ A.blk a j).length = nI a) ∧ ((w ++ A.blk a k) <+: bo → k = L ∨ k = A.hv a a ∨ atI bo (w ++ A.blk a k).length ≠ nI a) := by
  obtain ⟨u0, u1, u2, u3, u4, u5, u6, u7, u8, u9, u10, u11, u12, u13, u14, u15, u16, u17, u18⟩ := G.nn
  have hm := hA.1.2.1
  have hE := PC_E (bo := bo) u5 u13 u6
  have hcn : ∀ i, i ≤ A.m → cntTo (fun d => decide (A.ca d = a)) i ≤ A.hv a a := by
    intro i hi
    rw [hA.2.2.2.2.2.2 a]
    exact cntTo_le' hi
  have := lp_run (body := fun u : CS × Int32 × Int32 × Int32 => m_cSv_isRight_B43 N 0 u.1 u.2.1 u.2.2.1 u.2.2.2) (fun i u => ∃ W k, u = (W, nI (L - k), nI a, nI i) ∧ PC bo W (w ++ A.blk a k) ∧ X4 C W ∧ k ≤ L ∧ k ≤ cntTo (fun d => decide (A.ca d = a)) i ∧ W.a 12 9 a = nI k ∧ (∀ b, b ≠ a → W.a 12 9 b = C.a 12 9 b) ∧ (∀ j, j < k → atI bo (w ++ A.blk a j).length = nI a) ∧ (k < cntTo (fun d => decide (A.ca d = a)) i → atI bo (w ++ A.blk a k).length ≠ nI a))
    (fun e => ∃ W k, e = (W, nI (L - k), nI a) ∧ PC bo W (w ++ A.blk a k) ∧ X4 C W ∧ k ≤ L ∧ k ≤ A.hv a a ∧ W.a 12 9 a = nI k ∧ (∀ b, b ≠ a → W.a 12 9 b = C.a 12 9 b) ∧ (∀ j, j < k → atI bo (w ++ A.blk a j).length = nI a) ∧ ((w ++ A.blk a k) <+: bo → k = L ∨ k = A.hv a a ∨ atI bo (w ++ A.blk a k).length ≠ nI a)) A.m ?_ FU (C, nI L, nI a, nI 0) (by unfold FU; omega) ⟨C, 0, rfl, by simpa [AS.blk] using hp, X4.refl, by omega, by omega, h9, fun _ _ => rfl, fun j hj => by omega, fun h => by simp [cntTo] at h⟩
  · obtain ⟨e, h1, W, k, rfl, h2⟩ := this
    refine ⟨W, k, ?_, h2⟩
    unfold m_cSv_isRight_L43
    exact h1
  · rintro i _ hi ⟨W, k, rfl, h1, h2, h3, h4, h5, h6, h7, h8⟩
    have GW := h2.RC G
    have hkv := Nat.le_trans h4 (hcn i hi)
    have hbl := blk_len hA hK hkv
    obtain ⟨q1, q2⟩ := h1.2.2.2.2 (by rw [List.length_append]; omega)
    have hpre : m_cSv_isRight_B43 N 0 W (nI (L - k)) (nI a) (nI i) = (if nI A.m ≤ nI i then some (.inr (W, nI (L - k), nI a)) else (if W.i 6 4 0 = 0 then (if nI (L - k) ≤ 0 then some (.inr (W, nI (L - k), nI a)) else gn (W.r 8 3 0) (N 16) (fun j_7 => gd (nI i) (W.z 16 j_7) (gn (W.q 16 j_7 (nI i).toNatClampNeg) (N 0) (fun j_11 => (if W.i 0 0 j_11 = nI a then gn (W.r 6 1 0) (N 5) (fun j_15 => ob (m_cRw_at N j_15 W (W.i 6 5 0)) (fun o_18 => (if o_18.2 = nI a then ob (m_cSv_emitChange N 0 o_18.1 j_11) (fun o_21 => gn (o_21.r 6 2 0) (N 12) (fun j_23 => gd (nI a) (o_21.z 12 j_23) (gd (nI a) (o_21.z 12 j_23) (m_cSv_isRight_J119 N 0 (o_21.setA 12 j_23 (nI a).toNatClampNeg ((o_21.a 12 j_23 (nI a).toNatClampNeg) + 1)) (nI (L - k) + (-1)) (nI a) (nI i))))) else m_cSv_isRight_J119 N 0 o_18.1 (nI (L - k)) (nI a) (nI i)))) else m_cSv_isRight_J119 N 0 W (nI (L - k)) (nI a) (nI i)))))) else some (.inr (W, nI (L - k), nI a)))) := by
      unfold m_cSv_isRight_B43
      rw [gl_ok (by omega), GW.st.2.2.2.2.2.2.2.2.2.2.2.2.2.2.2.2.2.2.1, gn_s (by omega), GW.cg.1]
    by_cases hin : i < A.m
    · rw [if_neg (nle hin (by omega))] at hpre
      by_cases hpf : (w ++ A.blk a k) <+: bo
      · rw [decide_eq_true hpf] at q2
        rw [q2, if_pos (show b2 (!true) = 0 by decide)] at hpre
        by_cases hkL : k = L
        · right
          refine ⟨(W, nI (L - k), nI a), ?_, W, k, rfl, h1, h2, h3, hkv, h5, h6, h7, fun _ => Or.inl hkL⟩
          show m_cSv_isRight_B43 N 0 W (nI (L - k)) (nI a) (nI i) = _
          rw [hpre, if_pos (show nI (L - k) ≤ 0 from (nI_leI (b := 0) (by omega) (by omega)).mpr (by omega))]
        · left
          have hcg := GW.cg.2.2.2 i hin
          have hca := (hA.2.1.1 i hin).1
          rw [if_neg (fun h => by have := (nI_leI (b := 0) (by omega) (by omega)).mp h; omega), GW.st.2.2.2.2.2.2.2.2.2.2.1, gn_s (by omega), GW.sz.2.2.1, gd_ok (by omega) (by omega), cl_nI (by omega), hcg.1, gn_s (by omega), hcg.2.1, h1.2.1, gn_s (by omega), q1, cR_atI u5 u13 h1.2.2.1 h1.2.2.2.1 (by rw [List.length_append]; omega), ob_ok] at hpre
          simp only [] at hpre
          have hcs : cntTo (fun d => decide (A.ca d = a)) (i + 1) = cntTo (fun d => decide (A.ca d = a)) i + (if decide (A.ca i = a) = true then 1 else 0) := rfl
          by_cases e1 : A.ca i = a
          · rw [if_pos (by rw [e1])] at hpre
            rw [decide_eq_true e1, if_pos rfl] at hcs
            by_cases e2 : atI bo (w ++ A.blk a k).length = nI a
            · have hkc : k = cntTo (fun d => decide (A.ca d = a)) i := by
                rcases Nat.lt_or_ge k (cntTo (fun d => decide (A.ca d = a)) i) with h | h
                · exact absurd e2 (h8 h)
                · omega
              have hcu : A.cu i = k + 1 := by
                have := hA.2.2.2.2.2.1 i hin
                rw [e1] at this
                rw [this, hcs, ← hkc]
              have hich : A.ch a (k + 1) = i := by rw [← hcu, ← e1]; exact ch_cu hA hin
              obtain ⟨D, k1, k2, k3⟩ := e_chg hE GW hA hin h1
              have hD9 : D.a 12 9 = W.a 12 9 := by funext p; exact k3.aa (by omega)
              have GD := k3.RC GW
              have hD62 : D.r 6 2 0 = some 9 := GD.st.2.2.2.2.2.2.2.2.2.2.2.2.2.2.2.2.2.2.2.2
              have hDz : D.z 12 9 = 8 := GD.sz.2.2.2.2.2.2.2.2.2.2.2.2.2.1 9 (by omega)
              refine ⟨(D.setA 12 9 a (nI (k + 1)), nI (L - (k + 1)), nI a, nI (i + 1)), ?_, hin, D.setA 12 9 a (nI (k + 1)), k + 1, rfl, ?_, (h2.trans k3.to4).trans X4_set9, by omega, by omega, ?_, ?_, ?_, fun h => by omega⟩
              · show m_cSv_isRight_B43 N 0 W (nI (L - k)) (nI a) (nI i) = _
                rw [hpre, if_pos e2, k1, ob_ok, hD62, gn_s (by omega), hDz, gd_ok (by omega) (by omega), gd_ok (by omega) (by omega), cl_nI (by omega), hD9, h5]
                unfold m_cSv_isRight_J119
                rw [nI_s, nI_s, nI_m1 (by omega)]
              · rw [blk_s, hich, ← List.append_assoc]
                exact PC_set9 k2
              · rw [CS.a_setA, if_pos ⟨rfl, rfl, rfl⟩]
              · intro b hb
                rw [CS.a_setA, if_neg (by omega), hD9]
                exact h6 b hb
              · intro j hj
                by_cases ej : j = k
                · rw [ej]; exact e2
                · exact h7 j (by omega)
            · refine ⟨(W, nI (L - k), nI a, nI (i + 1)), ?_, hin, W, k, rfl, h1, h2, h3, by omega, h5, h6, h7, fun _ => e2⟩
              show m_cSv_isRight_B43 N 0 W (nI (L - k)) (nI a) (nI i) = _
              rw [hpre, if_neg e2]
              unfold m_cSv_isRight_J119
              rw [nI_s]
          · rw [if_neg (fun h => e1 ((nI_eq (by omega) (by omega)).mp h))] at hpre
            rw [decide_eq_false e1, if_neg (by decide), Nat.add_zero] at hcs
            refine ⟨(W, nI (L - k), nI a, nI (i + 1)), ?_, hin, W, k, rfl, h1, h2, h3, by omega, h5, h6, h7, fun h => h8 (by omega)⟩
            show m_cSv_isRight_B43 N 0 W (nI (L - k)) (nI a) (nI i) = _
            rw [hpre]
            unfold m_cSv_isRight_J119
            rw [nI_s]
      · right
        rw [decide_eq_false hpf] at q2
        rw [q2, if_neg (show ¬ b2 (!false) = 0 by decide)] at hpre
        exact ⟨(W, nI (L - k), nI a), hpre, W, k, rfl, h1, h2, h3, hkv, h5, h6, h7, fun h => absurd h hpf⟩
    · right
      have e : i = A.m := by omega
      subst e
      refine ⟨(W, nI (L - k), nI a), ?_, W, k, rfl, h1, h2, h3, hkv, h5, h6, h7, fun _ => ?_⟩
      · show m_cSv_isRight_B43 N 0 W (nI (L - k)) (nI a) (nI A.m) = _
        rw [hpre, if_pos (Int32.le_refl _)]
      · by_cases e2 : k = A.hv a a
        · exact Or.inr (Or.inl e2)
        · exact Or.inr (Or.inr (h8 (by rw [← hA.2.2.2.2.2.2 a]; omega)))
end LDB
