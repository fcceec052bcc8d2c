/-! THE CLASS: a change is gained; the heads are copied. -/
section CGA
variable {N : Nat → Nat} {C C' : CS} {A : AS} {r rd : Nat}
theorem setG_q {k j k1 j1 p1 : Nat} {g : Nat → Option Nat} : (C.setG k j g).q k1 j1 p1 = if k1 = k ∧ j1 = j then g p1 else C.q k1 j1 p1 := rfl
theorem setG_self {k j : Nat} : C.setG k j (C.q k j) = C := by
  apply CS_ext <;> intros <;> try rfl
  rename_i k1 j1 p1
  rw [setG_q]
  split
  · rename_i h; rw [h.1, h.2]
  · rfl
/-- the heads that are left when those of l have gone -/
def hdO (h : Nat → Option Nat) (f : Nat → Nat) (l : List Nat) (a : Nat) : Option Nat := if l.any (fun d => decide (f d = a) && decide (h a = some d)) = true then none else h a
theorem hdO_nil {h : Nat → Option Nat} {f : Nat → Nat} : hdO h f [] = h := by funext a; rfl
theorem hdO_snoc {h : Nat → Option Nat} {f : Nat → Nat} {l : List Nat} {d : Nat} : hdO h f (l ++ [d]) = if hdO h f l (f d) = some d then updO (hdO h f l) (f d) none else hdO h f l := by
  funext a
  by_cases e : hdO h f l (f d) = some d
  · rw [if_pos e]
    unfold updO
    have hh : h (f d) = some d := by
      unfold hdO at e
      split at e
      · cases e
      · exact e
    by_cases e2 : a = f d
    · rw [if_pos e2]
      unfold hdO
      rw [if_pos]
      rw [List.any_append]
      simp [e2, hh]
    · rw [if_neg e2]
      unfold hdO
      rw [List.any_append]
      simp [Ne.symm e2]
  · rw [if_neg e]
    unfold hdO at *
    rw [List.any_append]
    by_cases e2 : a = f d
    · subst e2
      by_cases e3 : h (f d) = some d
      · split at e
        · rename_i e4
          rw [e4]
          simp
        · exact absurd e3 e
      · simp [e3]
    · simp [Ne.symm e2]
theorem cR_gain {c y jd : Nat} {dl : List Nat} {f : Nat → Nat} (n4 : r < N 4) (n0 : c < N 0) (r41 : C.r 4 1 r = some r) (n12 : r < N 12) (z12 : C.z 12 r = 8) (hy : y < 8) (i00 : C.i 0 0 c = nI y) (r05 : C.r 0 5 c = some jd) (njd : jd < N 16) (hjd : jd ≠ 1 + r) (zd : C.z 16 jd = dl.length) (hd8 : dl.length ≤ 8) (qd : ∀ k (h : k < dl.length), C.q 16 jd k = some dl[k]) (hd : ∀ d, d ∈ dl → d < N 0 ∧ C.i 0 0 d = nI (f d) ∧ f d < 8)
    (r43 : C.r 4 3 r = some (1 + r)) (n16 : 1 + r < N 16) (z16 : C.z 16 (1 + r) = 8) (hq : ∀ a d, a < 8 → C.q 16 (1 + r) a = some d → d < N 0) :
    m_cRp_gain N r C c = some (((C.setA 12 r y (C.i 0 1 c)).setI 4 5 r (C.i 4 5 r + 1)).setG 16 (1 + r) (updO (hdO (C.q 16 (1 + r)) f dl) y (some c))) := by
  obtain ⟨D, hD⟩ : ∃ D, D = (C.setA 12 r y (C.i 0 1 c)).setI 4 5 r (C.i 4 5 r + 1) := ⟨_, rfl⟩
  have dr : D.r = C.r := by rw [hD]; rfl
  have dz : D.z = C.z := by rw [hD]; rfl
  have dq : D.q = C.q := by rw [hD]; rfl
  have di : ∀ f j, D.i 0 f j = C.i 0 f j := fun f j => by rw [hD]; rfl
  have hl : m_cRp_gain_L25 N r D (some c) (nI 0) = some (D.setG 16 (1 + r) (hdO (C.q 16 (1 + r)) f dl), some c) := by
    have := lp_run (body := fun w : CS × Option Nat × Int32 => m_cRp_gain_B25 N r w.1 w.2.1 w.2.2) (fun i w => w = (D.setG 16 (1 + r) (hdO (C.q 16 (1 + r)) f (dl.take i)), some c, nI i)) (fun e => e = (D.setG 16 (1 + r) (hdO (C.q 16 (1 + r)) f dl), some c)) dl.length ?_ FU (D, some c, nI 0) (by unfold FU; omega) (by rw [List.take_zero, hdO_nil, ← dq, setG_self])
    · obtain ⟨e, h1, rfl⟩ := this
      unfold m_cRp_gain_L25
      exact h1
    · rintro i _ hi rfl
      obtain ⟨g, hg⟩ : ∃ g, g = hdO (C.q 16 (1 + r)) f (dl.take i) := ⟨_, rfl⟩
      have hqd : ∀ k (h : k < dl.length), (D.setG 16 (1 + r) g).q 16 jd k = some dl[k] := by
        intro k hk
        rw [setG_q, if_neg (by omega), dq]
        exact qd k hk
      have hzd : (D.setG 16 (1 + r) g).z 16 jd = dl.length := by
        show D.z 16 jd = _
        rw [dz]; exact zd
      have hz16 : (D.setG 16 (1 + r) g).z 16 (1 + r) = 8 := by
        show D.z 16 (1 + r) = _
        rw [dz]; exact z16
      have hr05 : (D.setG 16 (1 + r) g).r 0 5 c = some jd := by
        show D.r 0 5 c = _
        rw [dr]; exact r05
      have hr43 : (D.setG 16 (1 + r) g).r 4 3 r = some (1 + r) := by
        show D.r 4 3 r = _
        rw [dr]; exact r43
      by_cases hin : i < dl.length
      · left
        obtain ⟨d1, d2, d3⟩ := hd _ (List.getElem_mem hin)
        refine ⟨_, ?_, hin, rfl⟩
        show m_cRp_gain_B25 N r (D.setG 16 (1 + r) (hdO (C.q 16 (1 + r)) f (dl.take i))) (some c) (nI i) = _
        rw [List.take_succ_eq_append_getElem hin, hdO_snoc, ← hg]
        unfold m_cRp_gain_B25 m_cRp_gain_J64
        rw [gn_s n0, hr05, gn_s njd, hzd, if_neg (nle hin (by omega)), gd_ok hin (by omega), gl_ok n4, cl_nI (by omega), hqd i hin, gn_s d1, hr43, gn_s n16, hz16]
        rw [show (D.setG 16 (1 + r) g).i 0 0 dl[i] = nI (f dl[i]) from by show D.i 0 0 _ = _; rw [di]; exact d2]
        rw [gd_ok d3 (by omega), cl_nI (by omega), setG_q, if_pos ⟨rfl, rfl⟩]
        have hv : ∀ (k : Option ((CS × Option Nat × Int32) ⊕ (CS × Option Nat))), gv (g (f dl[i])) (N 0) k = k := by
          intro k
          cases hgx : g (f dl[i]) with
          | none => rfl
          | some x =>
            refine gv_ok ?_
            have : C.q 16 (1 + r) (f dl[i]) = some x := by
              rw [hg] at hgx
              unfold hdO at hgx
              split at hgx
              · cases hgx
              · exact hgx
            exact hq _ x d3 this
        rw [hv, gv_ok d1]
        by_cases e : g (f dl[i]) = some dl[i]
        · rw [if_pos e, if_pos e, gd_ok d3 (by omega), setG_setQ, nI_s]
        · rw [if_neg e, if_neg e, nI_s]
      · right
        refine ⟨_, ?_, rfl⟩
        show m_cRp_gain_B25 N r (D.setG 16 (1 + r) (hdO (C.q 16 (1 + r)) f (dl.take i))) (some c) (nI i) = _
        rw [← hg]
        unfold m_cRp_gain_B25
        rw [gn_s n0, hr05, gn_s njd, hzd, if_pos ((nI_leI (by omega) (by omega)).mpr (by omega)), hg, List.take_of_length_le (by omega)]
  obtain ⟨g, hg⟩ : ∃ g, g = hdO (C.q 16 (1 + r)) f dl := ⟨_, rfl⟩
  rw [← hg] at hl ⊢
  unfold m_cRp_gain m_cRp_gain_J0
  rw [gl_ok n4, gl_ok n0, r41, gn_s n12, i00, z12, gd_ok hy (by omega), cl_nI (by omega)]
  rw [show m_cRp_gain_L25 N r ((C.setA 12 r y (C.i 0 1 c)).setI 4 5 r ((C.i 4 5 r) + 1)) (some c) 0 = some (D.setG 16 (1 + r) g, some c) by rw [← hD]; exact hl]
  simp only [ob_ok]
  rw [gn_s n0, show (D.setG 16 (1 + r) g).r 4 3 r = some (1 + r) by show D.r 4 3 r = _; rw [dr]; exact r43, gn_s n16, show (D.setG 16 (1 + r) g).i 0 0 c = nI y by show D.i 0 0 c = _; rw [di]; exact i00, show (D.setG 16 (1 + r) g).z 16 (1 + r) = 8 by show D.z 16 (1 + r) = _; rw [dz]; exact z16, gd_ok hy (by omega), cl_nI (by omega), setG_setQ, hD]
/-- the heads in the order of their actors -/
def hdL (h : Nat → Option Nat) : Nat → List Nat
  | 0 => []
  | i + 1 => hdL h i ++ (match h i with | none => [] | some d => [d])
theorem hdL_len {h : Nat → Option Nat} : ∀ {i : Nat}, (hdL h i).length = cntTo (fun a => (h a).isSome) i := by
  intro i
  induction i with
  | zero => rfl
  | succ i ih =>
    rw [hdL, List.length_append, ih, cntTo_s]
    congr 1
    cases h i <;> rfl
theorem hdL_mem {h : Nat → Option Nat} {d : Nat} : ∀ {i : Nat}, d ∈ hdL h i ↔ ∃ a, a < i ∧ h a = some d := by
  intro i
  induction i with
  | zero => simp [hdL]
  | succ i ih =>
    rw [hdL, List.mem_append, ih]
    constructor
    · rintro (⟨a, h1, h2⟩ | h1)
      · exact ⟨a, by omega, h2⟩
      · refine ⟨i, by omega, ?_⟩
        cases e : h i with
        | none => rw [e] at h1; cases h1
        | some x =>
          rw [e] at h1
          rw [List.mem_singleton.mp h1]
    · rintro ⟨a, h1, h2⟩
      by_cases e : a = i
      · right
        rw [← e, h2]
        exact List.mem_singleton.mpr rfl
      · exact Or.inl ⟨a, by omega, h2⟩
theorem hdL_pw {h : Nat → Option Nat} {f : Nat → Nat} (hf : ∀ a d, h a = some d → f d = a) : ∀ {i : Nat}, (hdL h i).Pairwise (fun a b => f a < f b) := by
  intro i
  induction i with
  | zero => exact List.Pairwise.nil
  | succ i ih =>
    rw [hdL]
    rw [List.pairwise_append]
    refine ⟨ih, ?_, ?_⟩
    · cases h i with
      | none => exact List.Pairwise.nil
      | some d => exact List.pairwise_singleton _ _
    · intro x hx y hy
      obtain ⟨a, h1, h2⟩ := hdL_mem.mp hx
      cases e : h i with
      | none => rw [e] at hy; cases hy
      | some d =>
        rw [e] at hy
        rw [List.mem_singleton.mp hy, hf i d e, hf a x h2]
        exact h1
theorem cR_headsRaw (n4 : r < N 4) (r43 : C.r 4 3 r = some (1 + r)) (n16 : 1 + r < N 16) (z16 : C.z 16 (1 + r) = 8) : m_cRp_headsNow N r C = some (C, nI (hdL (C.q 16 (1 + r)) 8).length) := by
  rw [hdL_len]
  have := lp_run (body := fun w : CS × Int32 × Int32 => m_cRp_headsNow_B4 N r w.1 w.2.1 w.2.2) (fun i w => w = (C, nI (cntTo (fun a => (C.q 16 (1 + r) a).isSome) i), nI i)) (fun e => e = (C, nI (cntTo (fun a => (C.q 16 (1 + r) a).isSome) 8))) 8 ?_ FU (C, nI 0, nI 0) (by unfold FU; omega) rfl
  · obtain ⟨e, h1, rfl⟩ := this
    unfold m_cRp_headsNow m_cRp_headsNow_J0
    rw [show m_cRp_headsNow_L4 N r C 0 0 = some (C, nI (cntTo (fun a => (C.q 16 (1 + r) a).isSome) 8)) by unfold m_cRp_headsNow_L4; exact h1]
    rfl
  · rintro i _ hi rfl
    unfold m_cRp_headsNow_B4 m_cRp_headsNow_J22
    by_cases hin : i < 8
    · left
      refine ⟨_, ?_, hin, rfl⟩
      simp only []
      rw [if_neg (show ¬ (8 : Int32) ≤ nI i from nle (n := 8) hin (by omega)), gl_ok n4, r43, gn_s n16, z16, gd_ok hin (by omega), cl_nI (by omega), nI_s, nI_s, cntTo_s]
      cases C.q 16 (1 + r) i with
      | none => rfl
      | some d => rfl
    · right
      refine ⟨_, ?_, rfl⟩
      rw [show i = 8 by omega]
      rfl
theorem cR_copyHeads (hw : WF N C) (n4 : r < N 4) (r43 : C.r 4 3 r = some (1 + r)) (n16 : 1 + r < N 16) (z16 : C.z 16 (1 + r) = 8) (hq : ∀ a d, a < 8 → C.q 16 (1 + r) a = some d → d < N 0) :
    ∃ g, m_cRp_copyHeads N r C = some ((Nup N 16, (C.new 16 (N 16) (hdL (C.q 16 (1 + r)) 8).length).setG 16 (N 16) g, some (N 16)), 1, (hdL (C.q 16 (1 + r)) 8).length) ∧ (∀ k (h : k < (hdL (C.q 16 (1 + r)) 8).length), g k = some (hdL (C.q 16 (1 + r)) 8)[k]) ∧ ∀ k, (hdL (C.q 16 (1 + r)) 8).length ≤ k → g k = none := by
  have hlen8 : ∀ i, i ≤ 8 → (hdL (C.q 16 (1 + r)) i).length ≤ i := fun i _ => by rw [hdL_len]; exact cntTo_le _ _
  have h8 := hlen8 8 (by omega)
  obtain ⟨n, hn⟩ : ∃ n, n = (hdL (C.q 16 (1 + r)) 8).length := ⟨_, rfl⟩
  have hmono : ∀ i, i ≤ 8 → (hdL (C.q 16 (1 + r)) i).length ≤ n := by
    intro i hi
    rw [hn, hdL_len, hdL_len]
    exact cntTo_le' hi
  obtain ⟨D, hD⟩ : ∃ D, D = C.new 16 (N 16) n := ⟨_, rfl⟩
  have dr : ∀ f j, D.r 4 f j = C.r 4 f j := fun f j => by rw [hD, CS.r_new, if_neg (by omega)]
  have dz : ∀ j, j ≠ N 16 → D.z 16 j = C.z 16 j := fun j h => by rw [hD, CS.z_new, if_neg (by omega)]
  have dzn : D.z 16 (N 16) = n := by rw [hD, CS.z_new, if_pos ⟨rfl, rfl⟩]
  have dq : ∀ p, D.q 16 (1 + r) p = C.q 16 (1 + r) p := fun p => by rw [hD, CS.q_new, if_neg (by omega)]
  have dqn : D.q 16 (N 16) = fun _ => none := by funext p; rw [hD, CS.q_new, if_pos ⟨rfl, rfl⟩]
  have m4 : r < Nup N 16 4 := by rw [nup_i, if_neg (by decide)]; exact n4
  have m0 : Nup N 16 0 = N 0 := by rw [nup_i, if_neg (by decide)]
  have m16 : Nup N 16 16 = N 16 + 1 := by rw [nup_i, if_pos rfl]
  have := lpA_run0 (body := fun w : (Nat → Nat) × CS × Option Nat × Int32 × Int32 => m_cRp_copyHeads_B12 w.1 r w.2.1 w.2.2.1 w.2.2.2.1 w.2.2.2.2) (fun i w => ∃ g, w = (Nup N 16, D.setG 16 (N 16) g, some (N 16), nI (hdL (C.q 16 (1 + r)) i).length, nI i) ∧ (∀ k (h : k < (hdL (C.q 16 (1 + r)) i).length), g k = some (hdL (C.q 16 (1 + r)) i)[k]) ∧ ∀ k, (hdL (C.q 16 (1 + r)) i).length ≤ k → g k = none) (fun e => ∃ g, e = (Nup N 16, D.setG 16 (N 16) g, some (N 16)) ∧ (∀ k (h : k < (hdL (C.q 16 (1 + r)) 8).length), g k = some (hdL (C.q 16 (1 + r)) 8)[k]) ∧ ∀ k, (hdL (C.q 16 (1 + r)) 8).length ≤ k → g k = none) 8 ?_ FU (Nup N 16, D, some (N 16), nI 0, nI 0) (by unfold FU; omega) ⟨fun _ => none, by rw [← dqn, setG_self]; rfl, fun k h => absurd h (Nat.not_lt_zero _), fun _ _ => rfl⟩
  · obtain ⟨e, h1, g, rfl, h2, h3⟩ := this
    refine ⟨g, ?_, h2, h3⟩
    rw [← hn]
    have hl : m_cRp_copyHeads_L12 (Nup N 16) r D (some (N 16)) (nI 0) (nI 0) = some ((Nup N 16, D.setG 16 (N 16) g, some (N 16)), 0, 0) := by
      unfold m_cRp_copyHeads_L12
      exact h1
    unfold m_cRp_copyHeads m_cRp_copyHeads_J0
    rw [gl_ok n4, cR_headsRaw n4 r43 n16 z16, ob_ok, ← hn]
    unfold gA
    simp only []
    rw [if_neg (nI_pos (by omega)), cl_nI (by omega), if_pos (by omega)]
    unfold nw
    rw [gW_ok (WF_wfN hw), ← hD]
    simp only []
    rw [show m_cRp_copyHeads_L12 (Nup N 16) r D (some (N 16)) 0 0 = _ from hl, ov_ok]
    simp only [al_ok]
    simp only [Nat.zero_add]
  · rintro i _ hi ⟨g, rfl, hg1, hg2⟩
    have e43 : (D.setG 16 (N 16) g).r 4 3 r = some (1 + r) := by
      show D.r 4 3 r = _
      rw [dr]; exact r43
    have ez : (D.setG 16 (N 16) g).z 16 (1 + r) = 8 := by
      show D.z 16 (1 + r) = _
      rw [dz _ (by omega)]; exact z16
    have ezn : (D.setG 16 (N 16) g).z 16 (N 16) = n := dzn
    have eq : (D.setG 16 (N 16) g).q 16 (1 + r) i = C.q 16 (1 + r) i := by
      rw [setG_q, if_neg (by omega)]
      exact dq i
    by_cases hin : i < 8
    · left
      cases hc : C.q 16 (1 + r) i with
      | none =>
        have hL : hdL (C.q 16 (1 + r)) (i + 1) = hdL (C.q 16 (1 + r)) i := by
          rw [hdL, hc, List.append_nil]
        refine ⟨(Nup N 16, D.setG 16 (N 16) g, some (N 16), nI (hdL (C.q 16 (1 + r)) i).length, nI (i + 1)), ?_, hin, g, by rw [hL], by rw [hL]; exact ⟨hg1, hg2⟩⟩
        show m_cRp_copyHeads_B12 (Nup N 16) r (D.setG 16 (N 16) g) (some (N 16)) (nI (hdL (C.q 16 (1 + r)) i).length) (nI i) = _
        unfold m_cRp_copyHeads_B12 m_cRp_copyHeads_J39
        rw [if_neg (show ¬ (8 : Int32) ≤ nI i from nle (n := 8) hin (by omega)), gl_ok m4, e43, gn_s (by omega), ez, gd_ok hin (by omega), cl_nI (by omega), eq, hc, on_none, nI_s]
      | some d =>
        have hL : hdL (C.q 16 (1 + r)) (i + 1) = hdL (C.q 16 (1 + r)) i ++ [d] := by
          rw [hdL, hc]
        have hd0 := hq i d hin hc
        have hln := hmono (i + 1) (by omega)
        rw [hL, List.length_append, List.length_singleton] at hln
        refine ⟨(Nup N 16, D.setG 16 (N 16) (updO g (hdL (C.q 16 (1 + r)) i).length (some d)), some (N 16), nI ((hdL (C.q 16 (1 + r)) i).length + 1), nI (i + 1)), ?_, hin, _, by rw [hL, List.length_append]; rfl, ?_, ?_⟩
        · show m_cRp_copyHeads_B12 (Nup N 16) r (D.setG 16 (N 16) g) (some (N 16)) (nI (hdL (C.q 16 (1 + r)) i).length) (nI i) = _
          unfold m_cRp_copyHeads_B12 m_cRp_copyHeads_J39
          rw [if_neg (show ¬ (8 : Int32) ≤ nI i from nle (n := 8) hin (by omega)), gl_ok m4, e43, gn_s (by omega), ez, gd_ok hin (by omega), cl_nI (by omega), eq, hc, onSome, gd_ok hin (by omega), gn_s (by omega), ezn, gd_ok (by omega) (by omega), gl_ok (by omega), cl_nI (by omega), setG_setQ, nI_s, nI_s]
        · intro k hk
          unfold updO
          simp only [hL] at hk ⊢
          rw [List.length_append, List.length_singleton] at hk
          by_cases e : k < (hdL (C.q 16 (1 + r)) i).length
          · rw [if_neg (by omega), List.getElem_append_left e]
            exact hg1 k e
          · have e2 : k = (hdL (C.q 16 (1 + r)) i).length := by omega
            subst e2
            rw [if_pos rfl, List.getElem_concat_length]
            rfl
        · intro k hk
          rw [hL, List.length_append, List.length_singleton] at hk
          unfold updO
          rw [if_neg (by omega)]
          exact hg2 k (by omega)
    · right
      have hi8 : i = 8 := by omega
      subst hi8
      refine ⟨(Nup N 16, D.setG 16 (N 16) g, some (N 16)), ?_, g, rfl, hg1, hg2⟩
      rfl
end CGA
