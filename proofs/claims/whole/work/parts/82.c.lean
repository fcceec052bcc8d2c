/-! READY FOR A CHANGE; EXPECTED. -/
section GAD
variable {S S' : MS} {N : Nat → Nat} {C C' : CS} {A : AS} {r c rd : Nat}
theorem rdy_all (hA : AI A) (hc : c < A.m) {dl : List Nat} (hd : ∀ d, d ∈ dl ↔ A.dp c d = true) (hu : A.cu c = A.hv r (A.ca c) + 1) : A.rdyB r c = (firstTo (fun k => !A.hasB r (dl.getD k 0)) dl.length).isNone := by
  cases hf : firstTo (fun k => !A.hasB r (dl.getD k 0)) dl.length with
  | none =>
    have h := firstTo_none hf
    show _ = true
    rw [rdyB_iff hA]
    refine ⟨hc, hu, fun d hdp => ?_⟩
    obtain ⟨k, hk, e⟩ := List.mem_iff_getElem.mp ((hd d).mpr hdp)
    have := h k hk
    rw [List.getD_eq_getElem?_getD, List.getElem?_eq_getElem hk, Option.getD_some, e] at this
    exact hasB_iff.mp (by simpa using this)
  | some k =>
    obtain ⟨h1, h2, _⟩ := firstTo_some hf
    rw [List.getD_eq_getElem?_getD, List.getElem?_eq_getElem h1, Option.getD_some] at h2
    show _ = false
    cases hb : A.rdyB r c with
    | false => rfl
    | true =>
      have := ((rdyB_iff hA).mp hb).2.2 _ ((hd _).mp (List.getElem_mem h1))
      rw [hasB_iff.mpr this] at h2
      cases h2
theorem rdy_ncu (hu : A.cu c ≠ A.hv r (A.ca c) + 1) : A.rdyB r c = false := by
  unfold AS.rdyB
  rw [decide_eq_false hu]
  simp
theorem hv_le' (hA : AI A) (q x : Nat) : A.hv q x ≤ A.m := by
  have h1 := hA.2.1.2.2.2.2.2.1.1 q x
  have h2 := hA.2.2.2.2.2.2 x
  have h3 := cntTo_le (fun d => decide (A.ca d = x)) A.m
  omega
theorem cu_le' (hA : AI A) (hc : c < A.m) : A.cu c ≤ A.m := by
  have := (hA.2.1.1 c hc).2.2.1
  have := hv_le' hA (A.ca c) (A.ca c)
  omega
theorem pS_ready (hR : RS S A) (hA : AI A) (hr : r < 8) (hc : c < A.m) (hn : ¬ A.has r c) : m_rready S (nI r) (nI c) = some (S, b2 (A.rdyB r c)) := by
  have hm := hA.1.2.1
  have hcl := cu_le' hA hc
  have hk := hA.2.1.1 c hc
  have hcg := hR.2.2.2.2.2.1 c hc
  obtain ⟨t, da, dl, t1, t2, t3⟩ := hR.2.2.2.2.2.2.1
  obtain ⟨d1, d2, d3, d4, d5, d6⟩ := t3 c hc
  have hnl : A.hv r (A.ca c) < A.cu c := by
    rcases Nat.lt_or_ge (A.hv r (A.ca c)) (A.cu c) with h | h
    · exact h
    · exact absurd ⟨hc, h⟩ hn
  have hdl : (dl c).length ≤ 10000 := by omega
  have hdm : ∀ k (h : k < (dl c).length), (dl c)[k] < A.m := fun k h => by
    have := (hA.2.1.2.2.2.2.2.2.1 c _ hc ((d5 _).mp (List.getElem_mem h))).1
    omega
  have hl : m_rready_L42 S (nI r) (nI c) 0 = some (match firstTo (fun k => !A.hasB r ((dl c).getD k 0)) (dl c).length with | some _ => .inr (S, 0) | none => .inl S) := by
    refine lp_first (body := fun y : MS × Int32 × Int32 × Int32 => m_rready_B42 y.1 y.2.1 y.2.2.1 y.2.2.2) (fun k => (S, nI r, nI c, nI k)) (fun k => !A.hasB r ((dl c).getD k 0)) (dl c).length (.inl S) (fun _ => .inr (S, 0)) (by omega) ?_ ?_ ?_
    · intro k hk hp
      have h1 := hdm k hk
      show m_rready_B42 S (nI r) (nI c) (nI k) = _
      unfold m_rready_B42
      rw [List.getD_eq_getElem?_getD, List.getElem?_eq_getElem hk, Option.getD_some] at hp
      rw [gd_ok (by omega) (by omega), cl_nI (show c < 2 ^ 31 by omega), d2, if_neg (nle hk (by omega)), gd_ok hr (by omega), gd_ok (by omega) (by omega), d1, nI_add, gd_ok (by omega) (by omega), cl_nI (show da c + k < 2 ^ 31 by omega), d6 k hk, gd_ok (by omega) (by omega), cl_nI (show r < 2 ^ 31 by omega), cl_nI (by omega), ((hR.2.2.2.2.2.2.2 r hr).2 _ (by omega)).1]
      have hp : A.hasB r (dl c)[k] = true := by simpa using hp
      rw [hp, if_neg (show ¬ b2 true = 0 by decide), nI_s]
    · intro k hk hp
      have h1 := hdm k hk
      show m_rready_B42 S (nI r) (nI c) (nI k) = _
      unfold m_rready_B42
      rw [List.getD_eq_getElem?_getD, List.getElem?_eq_getElem hk, Option.getD_some] at hp
      rw [gd_ok (by omega) (by omega), cl_nI (show c < 2 ^ 31 by omega), d2, if_neg (nle hk (by omega)), gd_ok hr (by omega), gd_ok (by omega) (by omega), d1, nI_add, gd_ok (by omega) (by omega), cl_nI (show da c + k < 2 ^ 31 by omega), d6 k hk, gd_ok (by omega) (by omega), cl_nI (show r < 2 ^ 31 by omega), cl_nI (by omega), ((hR.2.2.2.2.2.2.2 r hr).2 _ (by omega)).1]
      have hp : A.hasB r (dl c)[k] = false := by simpa using hp
      rw [hp, if_pos (show b2 false = 0 by decide)]
    · show m_rready_B42 S (nI r) (nI c) (nI (dl c).length) = _
      unfold m_rready_B42
      rw [gd_ok (by omega) (by omega), cl_nI (show c < 2 ^ 31 by omega), d2, if_pos (Int32.le_refl _)]
  have h40 : A.cu c = A.hv r (A.ca c) + 1 → m_rready_J40 S (nI r) (nI c) = some (S, b2 (A.rdyB r c)) := by
    intro hu
    unfold m_rready_J40
    rw [hl, rdy_all hA hc d5 hu]
    cases firstTo (fun k => !A.hasB r ((dl c).getD k 0)) (dl c).length <;> rfl
  unfold m_rready m_rready_J0
  rw [gd_ok (by omega) (by omega), cl_nI (show c < 2 ^ 31 by omega), hcg.2, hcg.1]
  by_cases e1 : A.cu c ≤ 1
  · rw [if_pos (show nI (A.cu c) ≤ 1 from (nI_leI (b := 1) (by omega) (by omega)).mpr e1)]
    exact h40 (by omega)
  · rw [if_neg (show ¬ nI (A.cu c) ≤ 1 from fun h => e1 ((nI_leI (b := 1) (by omega) (by omega)).mp h)), gd_ok hr (by omega), gd_ok (by omega) (by omega), gd_ok (by omega) (by omega)]
    rw [show nI (A.cu c) - 1 = nI (A.cu c - 1) from sub_nI (k := 1) (by omega), pS_find hR hA hk.1, ob_ok]
    obtain ⟨p, p1, p2, p3⟩ := hA.2.1.2.2.1 (A.ca c) (A.cu c - 1) (by omega) (by omega)
    cases hf : A.fc (A.ca c) (nI (A.cu c - 1)) with
    | none =>
      have := firstTo_none hf p p1
      rw [p2, p3] at this
      simp at this
    | some q =>
      obtain ⟨f1, f2, f3⟩ := fc_lt hf
      have hcq := cu_le' hA f1
      rw [nI_eq (by omega) (by omega)] at f3
      show gd (nI q) 1000 (if S.a (101 + (nI r).toNatClampNeg) (nI q).toNatClampNeg = 0 then some (S, 0) else m_rready_J40 S (nI r) (nI c)) = _
      rw [gd_ok (by omega) (by omega), cl_nI (show r < 2 ^ 31 by omega), cl_nI (show q < 2 ^ 31 by omega), ((hR.2.2.2.2.2.2.2 r hr).2 q (by omega)).1]
      cases hb : A.hasB r q with
      | true =>
        rw [if_neg (show ¬ b2 true = 0 by decide)]
        have := (hasB_iff.mp hb).2
        rw [f2, f3] at this
        exact h40 (by omega)
      | false =>
        rw [if_pos (show b2 false = 0 by decide), rdy_ncu]
        · rfl
        · intro hu
          have : A.has r q := ⟨f1, by rw [f2, f3]; omega⟩
          rw [hasB_iff.mpr this] at hb
          cases hb
theorem cR_isReadyFor (G : RC N C A rd) (hA : AI A) (hr : r < 8) (hc : c < A.m) : m_cRp_isReadyFor N r C c = some (C, b2 (A.rdyB r c)) := by
  obtain ⟨u0, u1, u2, u3, u4, u5, u6, u7, u8, u9, u10, u11, u12, u13, u14, u15, u16, u17, u18⟩ := G.nn
  have hm := hA.1.2.1
  have hcl := cu_le' hA hc
  have hvl := hv_le' hA r (A.ca c)
  have hk := hA.2.1.1 c hc
  have hsz := G.sz.2.2.2.2.2.2.2.2.2.2.2.2.1 r hr
  have hz := G.sz.2.2.2.2.2.2.2.2.2.2.2.2.2.1 r (by omega)
  obtain ⟨b1, b2', b3, b4, b5, b6, b7, b8, b9, dl, d1, d2, d3, d4, d5⟩ := G.cg.2.2.2 c hc
  have hv := (G.rp r hr).1 (A.ca c) hk.1
  have hdm : ∀ k (h : k < dl.length), dl[k] < A.m := fun k h => by
    have := (hA.2.1.2.2.2.2.2.2.1 c _ hc ((d3 _).mp (List.getElem_mem h))).1
    omega
  have hl : m_cRp_isReadyFor_L22 N r C (some c) 0 = some (match firstTo (fun k => !A.hasB r (dl.getD k 0)) dl.length with | some _ => .inr (C, 0) | none => .inl C) := by
    refine lp_first (body := fun y : CS × Option Nat × Int32 => m_cRp_isReadyFor_B22 N r y.1 y.2.1 y.2.2) (fun k => (C, some c, nI k)) (fun k => !A.hasB r (dl.getD k 0)) dl.length (.inl C) (fun _ => .inr (C, 0)) (by omega) ?_ ?_ ?_
    · intro k hk hp
      have h1 := hdm k hk
      show m_cRp_isReadyFor_B22 N r C (some c) (nI k) = _
      unfold m_cRp_isReadyFor_B22
      rw [List.getD_eq_getElem?_getD, List.getElem?_eq_getElem hk, Option.getD_some] at hp
      have hp : A.hasB r dl[k] = true := by simpa using hp
      rw [gn_s (by omega), b7, gn_s (by omega), d1, if_neg (nle hk (by omega)), gd_ok hk (by omega), cl_nI (by omega), d5 k hk, gn_s (by omega), gl_ok (by omega), cR_holds G hA hr h1, ob_ok, hp, if_neg (show ¬ b2 true = 0 by decide), nI_s]
    · intro k hk hp
      have h1 := hdm k hk
      show m_cRp_isReadyFor_B22 N r C (some c) (nI k) = _
      unfold m_cRp_isReadyFor_B22
      rw [List.getD_eq_getElem?_getD, List.getElem?_eq_getElem hk, Option.getD_some] at hp
      have hp : A.hasB r dl[k] = false := by simpa using hp
      rw [gn_s (by omega), b7, gn_s (by omega), d1, if_neg (nle hk (by omega)), gd_ok hk (by omega), cl_nI (by omega), d5 k hk, gn_s (by omega), gl_ok (by omega), cR_holds G hA hr h1, ob_ok, hp, if_pos (show b2 false = 0 by decide)]
    · show m_cRp_isReadyFor_B22 N r C (some c) (nI dl.length) = _
      unfold m_cRp_isReadyFor_B22
      rw [gn_s (by omega), b7, gn_s (by omega), d1, if_pos (Int32.le_refl _)]
  unfold m_cRp_isReadyFor m_cRp_isReadyFor_J0
  rw [gl_ok (by omega), gl_ok (by omega), hsz.2.1, gn_s (by omega), b2', hz, gd_ok hk.1 (by omega), cl_nI (by omega), b3, hv, nI_s]
  by_cases e : A.cu c = A.hv r (A.ca c) + 1
  · rw [if_pos (by rw [e]), hl, rdy_all hA hc d3 e]
    cases firstTo (fun k => !A.hasB r (dl.getD k 0)) dl.length <;> rfl
  · rw [if_neg (fun h => e ((nI_eq (by omega) (by omega)).mp h)), rdy_ncu e]
    rfl
/-- a change is expected, if it isn't had -/
def AS.exp (A : AS) (r c : Nat) : AS := if A.hasB r c = false ∧ A.wt r c = false then A.ex r c else A
theorem exp_AI (hA : AI A) (hc : c < A.m) : AI (A.exp r c) := by
  unfold AS.exp
  split
  · rename_i h
    refine ex_AI hA hc (fun hh => ?_)
    rw [hasB_iff.mpr hh] at h
    cases h.1
  · exact hA
theorem exp_on : (A.exp r c).on = A.on := by unfold AS.exp; split <;> rfl
theorem exp_n : (A.exp r c).n = A.n := by unfold AS.exp; split <;> rfl
theorem exp_m : (A.exp r c).m = A.m := by unfold AS.exp; split <;> rfl
theorem frC_rep {f j : Nat} {v : Int32} {k j2 p : Nat} {w : Int32} (hk : k ≠ 13) : frC C ((C.setA k j2 p w).setI 4 f j v) :=
  ⟨fun _ _ => rfl, fun _ _ => rfl, fun _ _ => rfl, fun _ _ => rfl, fun _ _ _ => rfl, fun _ _ => rfl, fun j1 p1 _ => by rw [CS.a_setI, CS.a_setA, if_neg (fun e => hk e.1.symm)], fun _ => rfl, fun _ _ => rfl, fun _ _ => rfl, fun _ _ => rfl, fun _ _ => rfl⟩
theorem cR_expect (G : RC N C A rd) (hA : AI A) (hr : r < 8) (hc : c < A.m) : ∃ C', m_cRp_expect N r C c = some C' ∧ RC N C' (A.exp r c) rd ∧ frC C C' := by
  obtain ⟨u0, u1, u2, u3, u4, u5, u6, u7, u8, u9, u10, u11, u12, u13, u14, u15, u16, u17, u18⟩ := G.nn
  have hm := hA.1.2.1
  have hsz := G.sz.2.2.2.2.2.2.2.2.2.2.2.2.1 r hr
  have hcg := G.cg.2.2.2 c hc
  have hw := (G.rp r hr).2.1 c (by omega)
  have hnw := (G.rp r hr).2.2.2.2.2.1
  unfold m_cRp_expect m_cRp_expect_J0 m_cRp_expect_J40
  rw [gl_ok (by omega), gl_ok (by omega), cR_holds G hA hr hc, ob_ok]
  cases hb : A.hasB r c with
  | true =>
    rw [if_neg (show ¬ b2 true = 0 by decide)]
    refine ⟨C, rfl, ?_, frC.refl⟩
    unfold AS.exp
    rw [hb, if_neg (by simp)]
    exact G
  | false =>
    rw [if_pos (show b2 false = 0 by decide)]
    simp only []
    rw [hsz.2.2.1, gn_s (by omega), hcg.2.2.2.1, hsz.2.2.2.2.1, gd_ok (by omega) (by omega), cl_nI (by omega), hw]
    cases hwt : A.wt r c with
    | true =>
      rw [if_neg (show ¬ b2 true = 0 by decide)]
      refine ⟨C, rfl, ?_, frC.refl⟩
      unfold AS.exp
      rw [hwt, if_neg (by simp)]
      exact G
    | false =>
      rw [if_pos (show b2 false = 0 by decide), gd_ok (by omega) (by omega), hnw, nI_s]
      refine ⟨_, rfl, ?_, frC_rep (by decide)⟩
      unfold AS.exp
      rw [if_pos ⟨hb, hwt⟩]
      exact RC_ex G hr hc hwt
/-- the reference marks it -/
theorem RS_exp (hR : RS S A) (hA : AI A) (hr : r < 8) (hc : c < A.m) : RS (if S.a (101 + r) c = 0 then S.setA (109 + r) (upd (S.a (109 + r)) c 1) else S) (A.exp r c) := by
  have hm := hA.1.2.1
  have h := (hR.2.2.2.2.2.2.2 r hr).2 c (by omega)
  rw [h.1]
  unfold AS.exp
  cases hb : A.hasB r c with
  | true =>
    rw [if_neg (show ¬ b2 true = 0 by decide), if_neg (by simp)]
    exact hR
  | false =>
    rw [if_pos (show b2 false = 0 by decide)]
    cases hwt : A.wt r c with
    | false =>
      rw [if_pos ⟨rfl, rfl⟩]
      exact RS_ex hR hr
    | true =>
      rw [if_neg (by simp)]
      have h1 : upd (S.a (109 + r)) c 1 = S.a (109 + r) := by
        funext d
        unfold upd
        by_cases e : d = c
        · rw [if_pos e, e, h.2.1, hwt]; rfl
        · rw [if_neg e]
      rw [h1, MS.setA_self]
      exact hR
end GAD
