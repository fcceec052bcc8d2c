/-! COMMIT: the class, close. -/
section CCL
variable {N : Nat → Nat} {C C' : CS} {A : AS} {r rd : Nat}
theorem WF_setG (h : WF N C) {k j : Nat} {g : Nat → Option Nat} (hg : ∀ p y, g p = some y → y < N (cET k)) : WF N (C.setG k j g) := by
  refine ⟨h.1, ?_⟩
  intro k1 j1 p1 y h1 h2 h3 h4
  rw [setG_q] at h4
  split at h4
  · rename_i e
    obtain ⟨rfl, rfl⟩ := e
    exact hg p1 y h4
  · exact h.2 k1 j1 p1 y h1 h2 h3 h4
/-- the state behind close -/
def CLS (C F : CS) (A : AS) (r : Nat) (g : Nat → Option Nat) : Prop :=
  (∀ k f j, k ≠ 0 → k ≠ 12 → k ≠ 16 → ¬ (k = 8 ∧ f = 4 ∧ j = 0) → ¬ (k = 4 ∧ (f = 5 ∨ f = 9) ∧ j = r) → F.i k f j = C.i k f j) ∧
  (∀ f j, j ≠ A.m → F.i 0 f j = C.i 0 f j) ∧
  (F.i 0 0 A.m = nI r) ∧
  (F.i 0 1 A.m = nI (A.hv r r + 1)) ∧
  (F.i 0 2 A.m = nI A.m) ∧
  (F.i 0 3 A.m = nI (A.tp r - A.on r + 1)) ∧
  (F.i 0 4 A.m = nI (A.on r)) ∧
  (F.i 8 4 0 = nI (A.m + 1)) ∧
  (F.i 4 5 r = nI (A.nch r + 1)) ∧
  (F.i 4 9 r = nI 0) ∧
  (∀ k f j, k ≠ 0 → k ≠ 12 → k ≠ 16 → F.l k f j = C.l k f j) ∧
  (∀ k f j, k ≠ 0 → k ≠ 12 → k ≠ 16 → F.r k f j = C.r k f j) ∧
  (∀ f j, j ≠ A.m → F.r 0 f j = C.r 0 f j) ∧
  (F.r 0 5 A.m = some (9 + A.m)) ∧
  (F.r 0 6 A.m = some (10 + A.m)) ∧
  (∀ k j p, k ≠ 0 → k ≠ 16 → ¬ (k = 12 ∧ (j = 10 + A.m ∨ (j = r ∧ p = r))) → F.a k j p = C.a k j p) ∧
  (F.a 12 r r = nI (A.hv r r + 1)) ∧
  (∀ p, F.a 12 (10 + A.m) p = if p = r then nI (A.hv r r + 1) else C.a 12 r p) ∧
  (∀ k j p, k ≠ 0 → k ≠ 12 → ¬ (k = 16 ∧ (j = 9 + A.m ∨ j = 1 + r ∨ (j = 0 ∧ p = A.m))) → F.q k j p = C.q k j p) ∧
  (F.q 16 0 A.m = some A.m) ∧
  (∀ p, F.q 16 (9 + A.m) p = g p) ∧
  (∀ p, F.q 16 (1 + r) p = updO (hdO (C.q 16 (1 + r)) A.ca (hdL (C.q 16 (1 + r)) 8)) r (some A.m) p) ∧
  (∀ k j, ¬ (k = 0 ∧ j = A.m) → ¬ (k = 16 ∧ j = 9 + A.m) → ¬ (k = 12 ∧ j = 10 + A.m) → F.z k j = C.z k j) ∧
  (F.z 16 (9 + A.m) = (hdL (C.q 16 (1 + r)) 8).length) ∧
  (F.z 12 (10 + A.m) = 8)
theorem CLS.iO {C F : CS} {A : AS} {r : Nat} {g : Nat → Option Nat} (h : CLS C F A r g) : ∀ k f j, k ≠ 0 → k ≠ 12 → k ≠ 16 → ¬ (k = 8 ∧ f = 4 ∧ j = 0) → ¬ (k = 4 ∧ (f = 5 ∨ f = 9) ∧ j = r) → F.i k f j = C.i k f j := h.1
theorem CLS.i0 {C F : CS} {A : AS} {r : Nat} {g : Nat → Option Nat} (h : CLS C F A r g) : ∀ f j, j ≠ A.m → F.i 0 f j = C.i 0 f j := h.2.1
theorem CLS.i00 {C F : CS} {A : AS} {r : Nat} {g : Nat → Option Nat} (h : CLS C F A r g) : F.i 0 0 A.m = nI r := h.2.2.1
theorem CLS.i01 {C F : CS} {A : AS} {r : Nat} {g : Nat → Option Nat} (h : CLS C F A r g) : F.i 0 1 A.m = nI (A.hv r r + 1) := h.2.2.2.1
theorem CLS.i02 {C F : CS} {A : AS} {r : Nat} {g : Nat → Option Nat} (h : CLS C F A r g) : F.i 0 2 A.m = nI A.m := h.2.2.2.2.1
theorem CLS.i03 {C F : CS} {A : AS} {r : Nat} {g : Nat → Option Nat} (h : CLS C F A r g) : F.i 0 3 A.m = nI (A.tp r - A.on r + 1) := h.2.2.2.2.2.1
theorem CLS.i04 {C F : CS} {A : AS} {r : Nat} {g : Nat → Option Nat} (h : CLS C F A r g) : F.i 0 4 A.m = nI (A.on r) := h.2.2.2.2.2.2.1
theorem CLS.i84 {C F : CS} {A : AS} {r : Nat} {g : Nat → Option Nat} (h : CLS C F A r g) : F.i 8 4 0 = nI (A.m + 1) := h.2.2.2.2.2.2.2.1
theorem CLS.i45 {C F : CS} {A : AS} {r : Nat} {g : Nat → Option Nat} (h : CLS C F A r g) : F.i 4 5 r = nI (A.nch r + 1) := h.2.2.2.2.2.2.2.2.1
theorem CLS.i49 {C F : CS} {A : AS} {r : Nat} {g : Nat → Option Nat} (h : CLS C F A r g) : F.i 4 9 r = nI 0 := h.2.2.2.2.2.2.2.2.2.1
theorem CLS.lO {C F : CS} {A : AS} {r : Nat} {g : Nat → Option Nat} (h : CLS C F A r g) : ∀ k f j, k ≠ 0 → k ≠ 12 → k ≠ 16 → F.l k f j = C.l k f j := h.2.2.2.2.2.2.2.2.2.2.1
theorem CLS.rO {C F : CS} {A : AS} {r : Nat} {g : Nat → Option Nat} (h : CLS C F A r g) : ∀ k f j, k ≠ 0 → k ≠ 12 → k ≠ 16 → F.r k f j = C.r k f j := h.2.2.2.2.2.2.2.2.2.2.2.1
theorem CLS.r0 {C F : CS} {A : AS} {r : Nat} {g : Nat → Option Nat} (h : CLS C F A r g) : ∀ f j, j ≠ A.m → F.r 0 f j = C.r 0 f j := h.2.2.2.2.2.2.2.2.2.2.2.2.1
theorem CLS.r05 {C F : CS} {A : AS} {r : Nat} {g : Nat → Option Nat} (h : CLS C F A r g) : F.r 0 5 A.m = some (9 + A.m) := h.2.2.2.2.2.2.2.2.2.2.2.2.2.1
theorem CLS.r06 {C F : CS} {A : AS} {r : Nat} {g : Nat → Option Nat} (h : CLS C F A r g) : F.r 0 6 A.m = some (10 + A.m) := h.2.2.2.2.2.2.2.2.2.2.2.2.2.2.1
theorem CLS.aO {C F : CS} {A : AS} {r : Nat} {g : Nat → Option Nat} (h : CLS C F A r g) : ∀ k j p, k ≠ 0 → k ≠ 16 → ¬ (k = 12 ∧ (j = 10 + A.m ∨ (j = r ∧ p = r))) → F.a k j p = C.a k j p := h.2.2.2.2.2.2.2.2.2.2.2.2.2.2.2.1
theorem CLS.ar {C F : CS} {A : AS} {r : Nat} {g : Nat → Option Nat} (h : CLS C F A r g) : F.a 12 r r = nI (A.hv r r + 1) := h.2.2.2.2.2.2.2.2.2.2.2.2.2.2.2.2.1
theorem CLS.an {C F : CS} {A : AS} {r : Nat} {g : Nat → Option Nat} (h : CLS C F A r g) : ∀ p, F.a 12 (10 + A.m) p = if p = r then nI (A.hv r r + 1) else C.a 12 r p := h.2.2.2.2.2.2.2.2.2.2.2.2.2.2.2.2.2.1
theorem CLS.qO {C F : CS} {A : AS} {r : Nat} {g : Nat → Option Nat} (h : CLS C F A r g) : ∀ k j p, k ≠ 0 → k ≠ 12 → ¬ (k = 16 ∧ (j = 9 + A.m ∨ j = 1 + r ∨ (j = 0 ∧ p = A.m))) → F.q k j p = C.q k j p := h.2.2.2.2.2.2.2.2.2.2.2.2.2.2.2.2.2.2.1
theorem CLS.qm {C F : CS} {A : AS} {r : Nat} {g : Nat → Option Nat} (h : CLS C F A r g) : F.q 16 0 A.m = some A.m := h.2.2.2.2.2.2.2.2.2.2.2.2.2.2.2.2.2.2.2.1
theorem CLS.qd {C F : CS} {A : AS} {r : Nat} {g : Nat → Option Nat} (h : CLS C F A r g) : ∀ p, F.q 16 (9 + A.m) p = g p := h.2.2.2.2.2.2.2.2.2.2.2.2.2.2.2.2.2.2.2.2.1
theorem CLS.qh {C F : CS} {A : AS} {r : Nat} {g : Nat → Option Nat} (h : CLS C F A r g) : ∀ p, F.q 16 (1 + r) p = updO (hdO (C.q 16 (1 + r)) A.ca (hdL (C.q 16 (1 + r)) 8)) r (some A.m) p := h.2.2.2.2.2.2.2.2.2.2.2.2.2.2.2.2.2.2.2.2.2.1
theorem CLS.zO {C F : CS} {A : AS} {r : Nat} {g : Nat → Option Nat} (h : CLS C F A r g) : ∀ k j, ¬ (k = 0 ∧ j = A.m) → ¬ (k = 16 ∧ j = 9 + A.m) → ¬ (k = 12 ∧ j = 10 + A.m) → F.z k j = C.z k j := h.2.2.2.2.2.2.2.2.2.2.2.2.2.2.2.2.2.2.2.2.2.2.1
theorem CLS.zd {C F : CS} {A : AS} {r : Nat} {g : Nat → Option Nat} (h : CLS C F A r g) : F.z 16 (9 + A.m) = (hdL (C.q 16 (1 + r)) 8).length := h.2.2.2.2.2.2.2.2.2.2.2.2.2.2.2.2.2.2.2.2.2.2.2.1
theorem CLS.zc {C F : CS} {A : AS} {r : Nat} {g : Nat → Option Nat} (h : CLS C F A r g) : F.z 12 (10 + A.m) = 8 := h.2.2.2.2.2.2.2.2.2.2.2.2.2.2.2.2.2.2.2.2.2.2.2.2
theorem cS_close (G : RC N C A rd) (hA : AI A) (hr : r < 8) (hm1 : A.m < 1000) : ∃ F g, m_cSt_close N 0 C r = some ((Nup (Nup (Nup N 0) 16) 12, F, nI (A.hv r r + 1)), 3, 15 + (hdL (C.q 16 (1 + r)) 8).length) ∧ CLS C F A r g ∧ WF (Nup (Nup (Nup N 0) 16) 12) F ∧ (∀ k (h : k < (hdL (C.q 16 (1 + r)) 8).length), g k = some (hdL (C.q 16 (1 + r)) 8)[k]) := by
  obtain ⟨u0, u1, u2, u3, u4, u5, u6, u7, u8, u9, u10, u11, u12, u13, u14, u15, u16, u17, u18⟩ := G.nn
  obtain ⟨s1, s2, s3, s4, s5, s6, s7, s8, s9, s10, s11, s12, s13, s14, s15, s16, s17, s18, s19, s20, s21⟩ := G.st
  have hT := hA.2.2.2.1.1 r
  have hnn := hA.1.1
  have hrp := G.rp r hr
  have hsz := G.sz.2.2.2.2.2.2.2.2.2.2.2.2.1 r hr
  have hz12 := G.sz.2.2.2.2.2.2.2.2.2.2.2.2.2.1 r (by omega)
  have hz16 := G.sz.2.2.1
  have hcg := G.cg
  have hwf : WF N C := G.1.2.1
  have hcn := hA.2.2.2.2.2.2 r
  have hcnt := cntTo_le (fun d => decide (A.ca d = r)) A.m
  have hnch : A.nch r ≤ A.m := cntTo_le _ _
  have hq : ∀ a d, a < 8 → C.q 16 (1 + r) a = some d → d < A.m := fun a d ha h => ((hrp.2.2.1 a d ha).mp h).1.1.1
  obtain ⟨dl, hdl⟩ : ∃ dl, dl = hdL (C.q 16 (1 + r)) 8 := ⟨_, rfl⟩
  have hdlm : ∀ d, d ∈ dl → d < A.m := by
    intro d hd
    rw [hdl] at hd
    obtain ⟨a, h1, h2⟩ := hdL_mem.mp hd
    exact hq a d h1 h2
  have hdl8 : dl.length ≤ 8 := by rw [hdl, hdL_len]; exact cntTo_le _ _
  -- the change
  obtain ⟨C1, hC1⟩ : ∃ C1, C1 = C.new 0 A.m 0 := ⟨_, rfl⟩
  have w1 : WF (Nup N 0) C1 := by rw [hC1, ← u0]; exact WF_new hwf
  have i1 : ∀ k f j, k ≠ 0 → C1.i k f j = C.i k f j := fun k f j h => by rw [hC1, CS.i_new, if_neg (fun e => h e.1)]
  have i1' : ∀ f j, j ≠ A.m → C1.i 0 f j = C.i 0 f j := fun f j h => by rw [hC1, CS.i_new, if_neg (fun e => h e.2)]
  have l1 : ∀ k f j, k ≠ 0 → C1.l k f j = C.l k f j := fun k f j h => by rw [hC1, CS.l_new, if_neg (fun e => h e.1)]
  have r1 : ∀ k f j, k ≠ 0 → C1.r k f j = C.r k f j := fun k f j h => by rw [hC1, CS.r_new, if_neg (fun e => h e.1)]
  have r1' : ∀ f j, j ≠ A.m → C1.r 0 f j = C.r 0 f j := fun f j h => by rw [hC1, CS.r_new, if_neg (fun e => h e.2)]
  have a1 : ∀ k j p, k ≠ 0 → C1.a k j p = C.a k j p := fun k f j h => by rw [hC1, CS.a_new, if_neg (fun e => h e.1)]
  have q1 : ∀ k j p, k ≠ 0 → C1.q k j p = C.q k j p := fun k f j h => by rw [hC1, CS.q_new, if_neg (fun e => h e.1)]
  have z1 : ∀ k j, ¬ (k = 0 ∧ j = A.m) → C1.z k j = C.z k j := fun k j h => by rw [hC1, CS.z_new, if_neg h]
  have nA : ∀ k, k ≠ 0 → Nup N 0 k = N k := fun k h => if_neg h
  have nA0 : Nup N 0 0 = A.m + 1 := by rw [nup_i, if_pos rfl, u0]
  have hq1 : C1.q 16 (1 + r) = C.q 16 (1 + r) := funext (fun p => q1 16 (1 + r) p (by omega))
  -- its DEPS
  obtain ⟨g, hcp, hg1, hg2⟩ := cR_copyHeads (N := Nup N 0) (C := C1) (r := r) w1 (by rw [nA 4 (by omega)]; omega) (by rw [r1 4 3 r (by omega)]; exact hsz.2.2.2.1) (by rw [nA 16 (by omega)]; omega) (by rw [z1 16 (1 + r) (by omega)]; exact hsz.2.2.2.2.2.1) (fun a d ha h => by rw [hq1] at h; rw [nA0]; have := hq a d ha h; omega)
  rw [hq1, ← hdl, nA 16 (by omega), u16] at hcp
  rw [hq1, ← hdl] at hg2
  simp only [hq1, ← hdl] at hg1
  obtain ⟨M, hM⟩ : ∃ M, M = Nup (Nup N 0) 16 := ⟨_, rfl⟩
  have mk : ∀ k, k ≠ 0 → k ≠ 16 → M k = N k := fun k h h2 => by rw [hM, nup_i, if_neg h2, nA k h]
  have m0 : M 0 = A.m + 1 := by rw [hM, nup_i, if_neg (by decide), nA0]
  have m16 : M 16 = 10 + A.m := by rw [hM, nup_i, if_pos rfl, nA 16 (by omega), u16]; omega
  have hgm : ∀ p y, g p = some y → y < A.m := by
    intro p y h
    by_cases e : p < dl.length
    · rw [hg1 p e] at h
      rw [← Option.some.inj h]
      exact hdlm _ (List.getElem_mem e)
    · rw [hg2 p (by omega)] at h
      cases h
  obtain ⟨C2, hC2⟩ : ∃ C2, C2 = (C1.new 16 (9 + A.m) dl.length).setG 16 (9 + A.m) g := ⟨_, rfl⟩
  have w2 : WF M C2 := by
    rw [hC2]
    refine WF_setG ?_ ?_
    · have := WF_new (N := Nup N 0) (C := C1) w1 (k := 16) (n := dl.length)
      rw [nA 16 (by omega), u16] at this
      rw [hM]
      exact this
    · intro p y h
      show y < M 0
      rw [m0]
      have := hgm p y h
      omega
  rw [← hM, ← hC2] at hcp
  have i2 : ∀ k f j, k ≠ 16 → C2.i k f j = C1.i k f j := fun k f j h => by rw [hC2]; exact if_neg (fun e => h e.1)
  have l2 : ∀ k f j, k ≠ 16 → C2.l k f j = C1.l k f j := fun k f j h => by rw [hC2]; exact if_neg (fun e => h e.1)
  have r2 : ∀ k f j, k ≠ 16 → C2.r k f j = C1.r k f j := fun k f j h => by rw [hC2]; exact if_neg (fun e => h e.1)
  have a2 : ∀ k j p, k ≠ 16 → C2.a k j p = C1.a k j p := fun k f j h => by rw [hC2]; exact if_neg (fun e => h e.1)
  have q2 : ∀ k j p, ¬ (k = 16 ∧ j = 9 + A.m) → C2.q k j p = C1.q k j p := fun k j p h => by rw [hC2, setG_q, if_neg h, CS.q_new, if_neg h]
  have q2n : ∀ p, C2.q 16 (9 + A.m) p = g p := fun p => by rw [hC2, setG_q, if_pos ⟨rfl, rfl⟩]
  have z2 : ∀ k j, ¬ (k = 16 ∧ j = 9 + A.m) → C2.z k j = C1.z k j := fun k j h => by rw [hC2]; exact if_neg h
  have z2n : C2.z 16 (9 + A.m) = dl.length := by rw [hC2]; exact if_pos ⟨rfl, rfl⟩
  -- its fields
  obtain ⟨C3, hC3⟩ : ∃ C3, C3 = (((((C2.setI 0 0 A.m (nI r)).setI 0 1 A.m (nI (A.hv r r + 1))).setI 0 2 A.m (nI A.m)).setI 0 3 A.m (nI (A.tp r - A.on r + 1))).setI 0 4 A.m (nI (A.on r))).setR 0 5 A.m (some (9 + A.m)) := ⟨_, rfl⟩
  have w3 : WF M C3 := by
    rw [hC3]
    refine WF_setR (C := ((((C2.setI 0 0 A.m (nI r)).setI 0 1 A.m (nI (A.hv r r + 1))).setI 0 2 A.m (nI A.m)).setI 0 3 A.m (nI (A.tp r - A.on r + 1))).setI 0 4 A.m (nI (A.on r))) w2 ?_
    intro t y e1 e2
    have ht : t = 16 := by have := Option.some.inj e1; omega
    rw [← Option.some.inj e2, ht, m16]
    omega
  have hinit : m_cCh_init M A.m C2 r (nI A.m) (9 + A.m) = some C3 := by
    unfold m_cCh_init m_cCh_init_J0
    rw [gl_ok (by rw [mk 4 (by omega) (by omega)]; omega), gl_ok (by omega), r2 4 1 r (by omega), r1 4 1 r (by omega), hsz.2.1, gn_s (by rw [mk 12 (by omega) (by omega)]; omega), i2 4 0 r (by omega), i1 4 0 r (by omega), hsz.1, z2 12 r (by omega), z1 12 r (by omega), hz12, gd_ok hr (by omega), cl_nI (by omega), a2 12 r r (by omega), a1 12 r r (by omega), hrp.1 r hr, nI_s, i2 4 8 r (by omega), i1 4 8 r (by omega), hrp.2.2.2.2.2.2.2.1, i2 4 9 r (by omega), i1 4 9 r (by omega), hrp.2.2.2.2.2.2.2.2, sub_nI hT.1, nI_s, hC3]
  have i3 : ∀ k f j, ¬ (k = 0 ∧ j = A.m) → C3.i k f j = C2.i k f j := by
    intro k f j h
    rw [hC3, CS.i_setR, CS.i_setI, if_neg (fun e => h ⟨e.1, e.2.2⟩), CS.i_setI, if_neg (fun e => h ⟨e.1, e.2.2⟩), CS.i_setI, if_neg (fun e => h ⟨e.1, e.2.2⟩), CS.i_setI, if_neg (fun e => h ⟨e.1, e.2.2⟩), CS.i_setI, if_neg (fun e => h ⟨e.1, e.2.2⟩)]
  have i30 : C3.i 0 0 A.m = nI r := by rw [hC3, CS.i_setR, CS.i_setI, if_neg (by omega), CS.i_setI, if_neg (by omega), CS.i_setI, if_neg (by omega), CS.i_setI, if_neg (by omega), CS.i_setI, if_pos ⟨rfl, rfl, rfl⟩]
  have i31 : C3.i 0 1 A.m = nI (A.hv r r + 1) := by rw [hC3, CS.i_setR, CS.i_setI, if_neg (by omega), CS.i_setI, if_neg (by omega), CS.i_setI, if_neg (by omega), CS.i_setI, if_pos ⟨rfl, rfl, rfl⟩]
  have i32 : C3.i 0 2 A.m = nI A.m := by rw [hC3, CS.i_setR, CS.i_setI, if_neg (by omega), CS.i_setI, if_neg (by omega), CS.i_setI, if_pos ⟨rfl, rfl, rfl⟩]
  have i33 : C3.i 0 3 A.m = nI (A.tp r - A.on r + 1) := by rw [hC3, CS.i_setR, CS.i_setI, if_neg (by omega), CS.i_setI, if_pos ⟨rfl, rfl, rfl⟩]
  have i34 : C3.i 0 4 A.m = nI (A.on r) := by rw [hC3, CS.i_setR, CS.i_setI, if_pos ⟨rfl, rfl, rfl⟩]
  have l3 : C3.l = C2.l := by rw [hC3]; rfl
  have r3 : ∀ k f j, ¬ (k = 0 ∧ f = 5 ∧ j = A.m) → C3.r k f j = C2.r k f j := fun k f j h => by rw [hC3, CS.r_setR, if_neg h]; rfl
  have r35 : C3.r 0 5 A.m = some (9 + A.m) := by rw [hC3, CS.r_setR, if_pos ⟨rfl, rfl, rfl⟩]
  have a3 : C3.a = C2.a := by rw [hC3]; rfl
  have q3 : C3.q = C2.q := by rw [hC3]; rfl
  have z3 : C3.z = C2.z := by rw [hC3]; rfl
  -- it stands in the store
  obtain ⟨C4, hC4⟩ : ∃ C4, C4 = (C3.setQ 16 0 A.m (some A.m)).setI 8 4 0 (nI (A.m + 1)) := ⟨_, rfl⟩
  have w4 : WF M C4 := by
    rw [hC4]
    refine WF_setQ (C := C3) w3 ?_
    intro y h
    show y < M 0
    rw [← Option.some.inj h, m0]
    omega
  have i4 : ∀ k f j, ¬ (k = 8 ∧ f = 4 ∧ j = 0) → C4.i k f j = C3.i k f j := fun k f j h => by rw [hC4, CS.i_setI, if_neg h, CS.i_setQ]
  have i48 : C4.i 8 4 0 = nI (A.m + 1) := by rw [hC4, CS.i_setI, if_pos ⟨rfl, rfl, rfl⟩]
  have l4 : C4.l = C3.l := by rw [hC4]; rfl
  have r4 : C4.r = C3.r := by rw [hC4]; rfl
  have a4 : C4.a = C3.a := by rw [hC4]; rfl
  have q4 : ∀ k j p, ¬ (k = 16 ∧ j = 0 ∧ p = A.m) → C4.q k j p = C3.q k j p := fun k j p h => by rw [hC4, CS.q_setI, CS.q_setQ, if_neg h]
  have q4m : C4.q 16 0 A.m = some A.m := by rw [hC4, CS.q_setI, CS.q_setQ, if_pos ⟨rfl, rfl, rfl⟩]
  have z4 : C4.z = C3.z := by rw [hC4]; rfl
  have hq4 : C4.q 16 (1 + r) = C.q 16 (1 + r) := funext (fun p => by rw [q4 _ _ _ (by omega), q3, q2 _ _ _ (by omega), q1 _ _ _ (by omega)])
  -- it is gained
  have hga := cR_gain (N := M) (C := C4) (r := r) (c := A.m) (y := r) (jd := 9 + A.m) (dl := dl) (f := A.ca) (by rw [mk 4 (by omega) (by omega)]; omega) (by omega) (by rw [r4, r3 _ _ _ (by omega), r2 _ _ _ (by omega), r1 _ _ _ (by omega)]; exact hsz.2.1) (by rw [mk 12 (by omega) (by omega)]; omega) (by rw [z4, z3, z2 _ _ (by omega), z1 _ _ (by omega)]; exact hz12) hr (by rw [i4 _ _ _ (by omega)]; exact i30) (by rw [r4]; exact r35) (by omega) (by omega) (by rw [z4, z3]; exact z2n) hdl8 (fun k hk => by rw [q4 _ _ _ (by omega), q3, q2n]; exact hg1 k hk)
    (fun d hd => by
      have hdm := hdlm d hd
      refine ⟨by omega, ?_, (hA.2.1.1 d hdm).1⟩
      rw [i4 _ _ _ (by omega), i3 _ _ _ (by omega), i2 _ _ _ (by omega), i1' _ _ (by omega)]
      exact (hcg.2.2.2 d hdm).2.1) (by rw [r4, r3 _ _ _ (by omega), r2 _ _ _ (by omega), r1 _ _ _ (by omega)]; exact hsz.2.2.2.1) (by omega) (by rw [z4, z3, z2 _ _ (by omega), z1 _ _ (by omega)]; exact hsz.2.2.2.2.2.1) (fun a d ha h => by rw [hq4] at h; have := hq a d ha h; omega)
  rw [hq4] at hga
  obtain ⟨h', hh'⟩ : ∃ h', h' = updO (hdO (C.q 16 (1 + r)) A.ca dl) r (some A.m) := ⟨_, rfl⟩
  rw [← hh', i4 0 1 A.m (by omega), i31, i4 4 5 r (by omega), i3 4 5 r (by omega), i2 4 5 r (by omega), i1 4 5 r (by omega), hrp.2.2.2.2.1, nI_s] at hga
  have hh'm : ∀ p y, h' p = some y → p < 8 → y < A.m + 1 := by
    intro p y h hp
    rw [hh'] at h
    unfold updO at h
    split at h
    · rw [← Option.some.inj h]; omega
    · unfold hdO at h
      split at h
      · cases h
      · have := hq p y hp h; omega
  have hh'm2 : ∀ p y, h' p = some y → y < M 0 := by
    intro p y h
    rw [hh'] at h
    unfold updO at h
    split at h
    · rw [← Option.some.inj h]; omega
    · unfold hdO at h
      split at h
      · cases h
      · have := hwf.2 16 (1 + r) p y (by omega) (by omega) (by omega) h
        rw [show cET 16 = 0 from rfl, u0] at this
        omega
  obtain ⟨C6, hC6⟩ : ∃ C6, C6 = (((C4.setA 12 r r (nI (A.hv r r + 1))).setI 4 5 r (nI (A.nch r + 1))).setG 16 (1 + r) h').setI 4 9 r (nI 0) := ⟨_, rfl⟩
  have w6 : WF M C6 := by
    rw [hC6]
    exact WF_setG (C := (C4.setA 12 r r (nI (A.hv r r + 1))).setI 4 5 r (nI (A.nch r + 1))) (k := 16) (j := 1 + r) w4 hh'm2
  have i6 : ∀ k f j, ¬ (k = 4 ∧ (f = 5 ∨ f = 9) ∧ j = r) → C6.i k f j = C4.i k f j := by
    intro k f j h
    rw [hC6, CS.i_setI, if_neg (fun e => h ⟨e.1, Or.inr e.2.1, e.2.2⟩)]
    show ((C4.setA 12 r r (nI (A.hv r r + 1))).setI 4 5 r (nI (A.nch r + 1))).i k f j = _
    rw [CS.i_setI, if_neg (fun e => h ⟨e.1, Or.inl e.2.1, e.2.2⟩), CS.i_setA]
  have i645 : C6.i 4 5 r = nI (A.nch r + 1) := by
    rw [hC6, CS.i_setI, if_neg (by omega)]
    show ((C4.setA 12 r r (nI (A.hv r r + 1))).setI 4 5 r (nI (A.nch r + 1))).i 4 5 r = _
    rw [CS.i_setI, if_pos ⟨rfl, rfl, rfl⟩]
  have i649 : C6.i 4 9 r = nI 0 := by rw [hC6, CS.i_setI, if_pos ⟨rfl, rfl, rfl⟩]
  have l6 : C6.l = C4.l := by rw [hC6]; rfl
  have r6 : C6.r = C4.r := by rw [hC6]; rfl
  have a6 : ∀ k j p, C6.a k j p = if k = 12 ∧ j = r ∧ p = r then nI (A.hv r r + 1) else C4.a k j p := fun k j p => by rw [hC6]; rfl
  have q6 : ∀ k j p, C6.q k j p = if k = 16 ∧ j = 1 + r then h' p else C4.q k j p := fun k j p => by rw [hC6]; rfl
  have z6 : C6.z = C4.z := by rw [hC6]; rfl
  have hz6 : C6.z 12 r = 8 := by rw [z6, z4, z3, z2 _ _ (by omega), z1 _ _ (by omega)]; exact hz12
  -- its clock
  obtain ⟨F, hF⟩ : ∃ F, F = ((C6.new 12 (10 + A.m) 8).setF 12 (10 + A.m) (C6.a 12 r)).setR 0 6 A.m (some (10 + A.m)) := ⟨_, rfl⟩
  have m12 : M 12 = 10 + A.m := by rw [mk 12 (by omega) (by omega), u12]
  have wF : WF (Nup M 12) F := by
    rw [hF]
    have w7 := WF_new (N := M) (C := C6) w6 (k := 12) (n := 8)
    rw [m12] at w7
    refine WF_setR (C := (C6.new 12 (10 + A.m) 8).setF 12 (10 + A.m) (C6.a 12 r)) w7 ?_
    intro t y e1 e2
    have ht : t = 12 := by have := Option.some.inj e1; omega
    rw [← Option.some.inj e2, ht, nup_i, if_pos rfl, m12]
    omega
  have iF : ∀ k f j, k ≠ 12 → F.i k f j = C6.i k f j := fun k f j h => by rw [hF, CS.i_setR, CS.i_setF, CS.i_new, if_neg (fun e => h e.1)]
  have lF : ∀ k f j, k ≠ 12 → F.l k f j = C6.l k f j := fun k f j h => by rw [hF, CS.l_setR, CS.l_setF, CS.l_new, if_neg (fun e => h e.1)]
  have rF : ∀ k f j, k ≠ 12 → ¬ (k = 0 ∧ f = 6 ∧ j = A.m) → F.r k f j = C6.r k f j := fun k f j h h2 => by rw [hF, CS.r_setR, if_neg h2, CS.r_setF, CS.r_new, if_neg (fun e => h e.1)]
  have aF : ∀ k j p, ¬ (k = 12 ∧ j = 10 + A.m) → F.a k j p = C6.a k j p := fun k j p h => by rw [hF, CS.a_setR, CS.a_setF, if_neg h, CS.a_new, if_neg h]
  have aFn : ∀ p, F.a 12 (10 + A.m) p = C6.a 12 r p := fun p => by rw [hF, CS.a_setR, CS.a_setF, if_pos ⟨rfl, rfl⟩]
  have qF : ∀ k j p, k ≠ 12 → F.q k j p = C6.q k j p := fun k f j h => by rw [hF, CS.q_setR, CS.q_setF, CS.q_new, if_neg (fun e => h e.1)]
  have zF : ∀ k j, ¬ (k = 12 ∧ j = 10 + A.m) → F.z k j = C6.z k j := fun k j h => by rw [hF, CS.z_setR, CS.z_setF, CS.z_new, if_neg h]
  have zFn : F.z 12 (10 + A.m) = 8 := by rw [hF, CS.z_setR, CS.z_setF, CS.z_new, if_pos ⟨rfl, rfl⟩]
  refine ⟨F, g, ?_, ?_, ?_, ?_⟩
  · unfold m_cSt_close m_cSt_close_J0
    unfold nw
    rw [gW_ok (WF_wfN hwf), u0, ← hC1]
    simp only []
    rw [gl_ok (by rw [nA 8 (by omega)]; omega), gl_ok (by rw [nA 4 (by omega)]; omega), hcp, oq_ok]
    rw [gn_s (by omega), i1 8 4 0 (by omega), hcg.1, hinit]
    simp only [ob_ok]
    rw [show C3.r 8 3 0 = some 0 by rw [r3 _ _ _ (by omega), r2 _ _ _ (by omega), r1 _ _ _ (by omega)]; exact s11, gn_s (by omega), show C3.i 8 4 0 = nI A.m by rw [i3 _ _ _ (by omega), i2 _ _ _ (by omega), i1 _ _ _ (by omega)]; exact hcg.1, show C3.z 16 0 = 1000 by rw [z3, z2 _ _ (by omega), z1 _ _ (by omega)]; exact hz16, gd_ok hm1 (by omega), cl_nI (by omega), nI_s, ← hC4, hga]
    simp only [ob_ok]
    rw [show (((C4.setA 12 r r (nI (A.hv r r + 1))).setI 4 5 r (nI (A.nch r + 1))).setG 16 (1 + r) h').r 4 1 r = some r from by show C4.r 4 1 r = _; rw [r4, r3 _ _ _ (by omega), r2 _ _ _ (by omega), r1 _ _ _ (by omega)]; exact hsz.2.1, gn_s (by rw [m12]; omega)]
    rw [show (((C4.setA 12 r r (nI (A.hv r r + 1))).setI 4 5 r (nI (A.nch r + 1))).setG 16 (1 + r) h').setI 4 9 r 0 = C6 from hC6.symm, hz6]
    unfold nwF
    rw [gW_ok (WF_wfN w6), m12]
    simp only [al_ok]
    rw [show ((C6.new 12 (10 + A.m) 8).setF 12 (10 + A.m) (C6.a 12 r)).i 0 1 A.m = nI (A.hv r r + 1) by rw [CS.i_setF, CS.i_new, if_neg (by omega), i6 _ _ _ (by omega), i4 _ _ _ (by omega)]; exact i31, ← hF, hM, hdl]
    simp only [Nat.zero_add, Nat.add_zero]
    congr 3
    omega
  · refine ⟨?_, ?_, ?_, ?_, ?_, ?_, ?_, ?_, ?_, ?_, ?_, ?_, ?_, ?_, ?_, ?_, ?_, ?_, ?_, ?_, ?_, ?_, ?_, ?_, ?_⟩
    · intro k f j e1 e2 e3 e4 e5
      rw [iF _ _ _ e2, i6 _ _ _ e5, i4 _ _ _ e4, i3 _ _ _ (fun e => e1 e.1), i2 _ _ _ e3, i1 _ _ _ e1]
    · intro f j e1
      rw [iF _ _ _ (by omega), i6 _ _ _ (by omega), i4 _ _ _ (by omega), i3 _ _ _ (fun e => e1 e.2), i2 _ _ _ (by omega), i1' _ _ e1]
    · rw [iF _ _ _ (by omega), i6 _ _ _ (by omega), i4 _ _ _ (by omega)]; exact i30
    · rw [iF _ _ _ (by omega), i6 _ _ _ (by omega), i4 _ _ _ (by omega)]; exact i31
    · rw [iF _ _ _ (by omega), i6 _ _ _ (by omega), i4 _ _ _ (by omega)]; exact i32
    · rw [iF _ _ _ (by omega), i6 _ _ _ (by omega), i4 _ _ _ (by omega)]; exact i33
    · rw [iF _ _ _ (by omega), i6 _ _ _ (by omega), i4 _ _ _ (by omega)]; exact i34
    · rw [iF _ _ _ (by omega), i6 _ _ _ (by omega)]; exact i48
    · rw [iF _ _ _ (by omega)]; exact i645
    · rw [iF _ _ _ (by omega)]; exact i649
    · intro k f j e1 e2 e3
      rw [lF _ _ _ e2, l6, l4, l3, l2 _ _ _ e3, l1 _ _ _ e1]
    · intro k f j e1 e2 e3
      rw [rF _ _ _ e2 (fun e => e1 e.1), r6, r4, r3 _ _ _ (fun e => e1 e.1), r2 _ _ _ e3, r1 _ _ _ e1]
    · intro f j e1
      rw [rF _ _ _ (by omega) (fun e => e1 e.2.2), r6, r4, r3 _ _ _ (fun e => e1 e.2.2), r2 _ _ _ (by omega), r1' _ _ e1]
    · rw [rF _ _ _ (by omega) (by omega), r6, r4]; exact r35
    · rw [hF, CS.r_setR, if_pos ⟨rfl, rfl, rfl⟩]
    · intro k j p e1 e2 e3
      rw [aF _ _ _ (fun e => e3 ⟨e.1, Or.inl e.2⟩), a6, if_neg (fun e => e3 ⟨e.1, Or.inr e.2⟩), a4, a3, a2 _ _ _ e2, a1 _ _ _ e1]
    · rw [aF _ _ _ (by omega), a6, if_pos ⟨rfl, rfl, rfl⟩]
    · intro p
      rw [aFn, a6]
      by_cases e : p = r
      · rw [if_pos ⟨rfl, rfl, e⟩, if_pos e]
      · rw [if_neg (fun h => e h.2.2), if_neg e, a4, a3, a2 _ _ _ (by omega), a1 _ _ _ (by omega)]
    · intro k j p e1 e2 e3
      rw [qF _ _ _ e2, q6, if_neg (fun e => e3 ⟨e.1, Or.inr (Or.inl e.2)⟩), q4 _ _ _ (fun e => e3 ⟨e.1, Or.inr (Or.inr e.2)⟩), q3, q2 _ _ _ (fun e => e3 ⟨e.1, Or.inl e.2⟩), q1 _ _ _ e1]
    · rw [qF _ _ _ (by omega), q6, if_neg (by omega)]; exact q4m
    · intro p
      rw [qF _ _ _ (by omega), q6, if_neg (by omega), q4 _ _ _ (by omega), q3, q2n]
    · intro p
      rw [qF _ _ _ (by omega), q6, if_pos ⟨rfl, rfl⟩, hh', hdl]
    · intro k j e1 e2 e3
      rw [zF _ _ e3, z6, z4, z3, z2 _ _ e2, z1 _ _ e1]
    · rw [zF _ _ (by omega), z6, z4, z3, z2n, hdl]
    · exact zFn
  · rw [← hM]; exact wF
  · rw [← hdl] at *
    exact hg1
end CCL
