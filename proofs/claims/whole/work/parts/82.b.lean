/-! A CHANGE IS EXPECTED, GAINED: both states. -/
section GAC
variable {S S' : MS} {N : Nat → Nat} {C C' : CS} {A : AS} {r c rd : Nat}
theorem RS_ex (hR : RS S A) (hr : r < 8) : RS (S.setA (109 + r) (upd (S.a (109 + r)) c 1)) (A.ex r c) := by
  have h7 : RS7 (S.setA (109 + r) (upd (S.a (109 + r)) c 1)) A := hR.r7 (fun k _ => rfl) rfl (fun k hk => by rw [MS.a_setA, if_neg (by omega)])
  refine ⟨h7.1, h7.2.1, h7.2.2.1, h7.2.2.2.1, h7.2.2.2.2.1, h7.2.2.2.2.2.1, h7.2.2.2.2.2.2, ?_⟩
  intro q hq
  have h := hR.2.2.2.2.2.2.2 q hq
  refine ⟨by rw [MS.a_setA, if_neg (by omega)]; exact h.1, ?_⟩
  intro d hd
  have hh := h.2 d hd
  refine ⟨by rw [MS.a_setA, if_neg (by omega)]; exact hh.1, ?_, ?_⟩
  · rw [MS.a_setA, ex_wt]
    by_cases e : q = r
    · rw [if_pos (by omega)]
      unfold upd
      by_cases e2 : d = c
      · rw [if_pos e2, if_pos ⟨e, e2⟩]; rfl
      · rw [if_neg e2, if_neg (fun h => e2 h.2), ← e]; exact hh.2.1
    · rw [if_neg (by omega), if_neg (fun h => e h.1)]; exact hh.2.1
  · rw [MS.a_setA, if_neg (by omega)]; exact hh.2.2
theorem RS_ga (hR : RS S A) (hA : AI A) (hr : r < 8) (h : A.rdy r c) : RS ((S.setA (109 + r) (upd (S.a (109 + r)) c 0)).setA (101 + r) (upd ((S.setA (109 + r) (upd (S.a (109 + r)) c 0)).a (101 + r)) c 1)) (A.ga r c) := by
  have h7 : RS7 ((S.setA (109 + r) (upd (S.a (109 + r)) c 0)).setA (101 + r) (upd ((S.setA (109 + r) (upd (S.a (109 + r)) c 0)).a (101 + r)) c 1)) A := hR.r7 (fun k _ => rfl) rfl (fun k hk => by rw [MS.a_setA, if_neg (by omega), MS.a_setA, if_neg (by omega)])
  refine ⟨h7.1, h7.2.1, h7.2.2.1, h7.2.2.2.1, h7.2.2.2.2.1, h7.2.2.2.2.2.1, h7.2.2.2.2.2.2, ?_⟩
  intro q hq
  have h1 := hR.2.2.2.2.2.2.2 q hq
  refine ⟨by rw [MS.a_setA, if_neg (by omega), MS.a_setA, if_neg (by omega)]; exact h1.1, ?_⟩
  intro d hd
  have hh := h1.2 d hd
  refine ⟨?_, ?_, ?_⟩
  · rw [MS.a_setA, ga_hasB hA h]
    by_cases e : q = r
    · rw [if_pos (by omega), MS.a_setA, if_neg (show ¬ 101 + r = 109 + r by omega), decide_eq_true e]
      unfold upd
      by_cases e2 : d = c
      · rw [if_pos e2, decide_eq_true e2]; simp [b2]
      · rw [if_neg e2, decide_eq_false e2, ← e]; simp only [Bool.and_false, Bool.or_false]; exact hh.1
    · rw [if_neg (by omega), MS.a_setA, if_neg (by omega), decide_eq_false e]; simp only [Bool.false_and, Bool.or_false]; exact hh.1
  · rw [MS.a_setA, if_neg (show ¬ 109 + q = 101 + r by omega), MS.a_setA, ga_wt]
    by_cases e : q = r
    · rw [if_pos (by omega)]
      unfold upd
      by_cases e2 : d = c
      · rw [if_pos e2, if_pos ⟨e, e2⟩]; rfl
      · rw [if_neg e2, if_neg (fun h => e2 h.2), ← e]; exact hh.2.1
    · rw [if_neg (by omega), if_neg (fun h => e h.1)]; exact hh.2.1
  · rw [MS.a_setA, if_neg (show ¬ 117 + q = 101 + r by omega), MS.a_setA, if_neg (by omega)]; exact hh.2.2
/-- only replicas have changed: heads h', has, waits, numbers -/
theorem RC_rep {F : CS} {A' : AS} (G : RC N C A rd) (hw : WF N F)
    (e1 : A'.1 = A.1) (e2 : A'.2.1 = A.2.1) (e3 : A'.2.2.1 = A.2.2.1) (e4 : A'.2.2.2.1 = A.2.2.2.1) (e5 : A'.num = A.num) (e6 : A'.ca = A.ca) (e7 : A'.cu = A.cu) (e8 : A'.cf = A.cf) (e9 : A'.cz = A.cz) (e10 : A'.cl = A.cl) (e11 : A'.dp = A.dp) (e12 : A'.L = A.L) (e13 : A'.O = A.O)
    (hi : ∀ k f j, ¬ (k = 4 ∧ 5 ≤ f) → F.i k f j = C.i k f j) (hl : F.l = C.l) (hr : F.r = C.r) (ha : ∀ k j p, ¬ (k = 12 ∧ j < 8) → k ≠ 14 → F.a k j p = C.a k j p) (hq : ∀ k j p, ¬ (k = 16 ∧ 1 ≤ j ∧ j ≤ 8) → F.q k j p = C.q k j p) (hz : F.z = C.z) (hrp : RC_rp F A') : RC N F A' rd := by
  obtain ⟨a0, a1, a2, a3, a4, a5, a6, a7, a8, a9, a10, a11⟩ := A
  obtain ⟨b0, b1, b2, b3, b4, b5, b6, b7, b8, b9, b10, b11⟩ := A'
  obtain rfl : b0 = a0 := e1
  obtain rfl : b1 = a1 := e2
  obtain rfl : b2 = a2 := e3
  obtain rfl : b3 = a3 := e4
  obtain rfl : b4 = a4 := e5
  obtain rfl : b8 = a8 := e11
  obtain rfl : b10 = a10 := e12
  obtain rfl : b11 = a11 := e13
  obtain ⟨⟨g1, g2, g3, g4, g5, g6, g7, g8, g9, g10, g11, g12⟩, h1, h2, h3⟩ := G
  have q15 : ∀ j p, F.q 15 j p = C.q 15 j p := fun j p => hq 15 j p (by omega)
  have i3 : ∀ f j, F.i 3 f j = C.i 3 f j := fun f j => hi 3 f j (by omega)
  refine ⟨⟨g1, hw, ?_, ?_, ?_, ?_, ⟨?_, ?_⟩, ⟨?_, ?_⟩, ⟨?_, ?_, ?_, ?_⟩, hrp, ?_, ?_⟩, ?_, ?_, ?_⟩
  · unfold RC_st at *; rw [hr]; exact g3
  · obtain ⟨z1, z2, z3, z4, z5, z6, z7, z8, z9, z10, z11, z12, z13, z14, z15, z16⟩ := g4
    unfold RC_sz
    rw [hz, hr]
    refine ⟨z1, z2, z3, z4, z5, z6, z7, z8, z9, z10, z11, z12, ?_, z14, z15, ?_⟩
    · intro q hq8
      have := z13 q hq8
      rw [hi 4 0 q (by omega), hq 17 0 q (by omega)]
      exact this
    · intro j hj
      rw [hq 18 0 j (by omega)]
      exact z16 j hj
  · unfold RC_rt at *
    rw [i3, i3, i3, i3, i3, hr]
    exact g5
  · intro o ho
    have this : (match b3 2 o with
      | [] => C.r 3 7 (o + 1) = none
      | l => ∃ j, 2 ≤ j ∧ j < N 15 ∧ C.r 3 7 (o + 1) = some j ∧ C.z 15 j = l.length ∧ ∀ k (h : k < l.length), C.q 15 j k = some (l[k] + 1)) := g6 o ho
    show (match b3 2 o with
      | [] => F.r 3 7 (o + 1) = none
      | l => ∃ j, 2 ≤ j ∧ j < N 15 ∧ F.r 3 7 (o + 1) = some j ∧ F.z 15 j = l.length ∧ ∀ k (h : k < l.length), F.q 15 j k = some (l[k] + 1))
    rw [hr, hz]
    cases hp : b3 2 o with
    | nil => rw [hp] at this; exact this
    | cons x l =>
      rw [hp] at this
      obtain ⟨j, b1, b2, b3, b4, b5⟩ := this
      exact ⟨j, b1, b2, b3, b4, fun k hk => by rw [q15]; exact b5 k hk⟩
  · intro o ho hgn
    rw [q15]
    exact g7.1 o ho hgn
  · intro i j hj
    rw [q15] at hj
    exact g7.2 i j hj
  · rw [hi 5 1 0 (by omega)]
    exact g8.1
  · intro o ho
    have := g8.2 o ho
    refine ⟨this.1, fun i hi2 => ?_, fun i hi2 => ?_, this.2.2.2⟩
    · rw [ha 13 0 _ (by omega) (by omega)]
      exact this.2.1 i hi2
    · rw [ha 13 0 _ (by omega) (by omega)]
      exact this.2.2.1 i hi2
  · rw [hi 8 4 0 (by omega)]; exact g9.1
  · rw [hi 8 5 0 (by omega)]; exact g9.2.1
  · intro d hd hmd
    rw [hq 16 0 d (by omega)]
    exact g9.2.2.1 d hd hmd
  · intro d hd
    obtain ⟨b1, b2', b3, b4, b5, b6, b7, b8, b9, dl, d1, d2, d3, d4, d5⟩ := g9.2.2.2 d hd
    rw [e6, e7, e8, e9, e10]
    rw [hq 16 0 d (by omega), hi 0 0 d (by omega), hi 0 1 d (by omega), hi 0 2 d (by omega), hi 0 3 d (by omega), hi 0 4 d (by omega), hr, hz]
    refine ⟨b1, b2', b3, b4, b5, b6, b7, b8, ?_, dl, d1, d2, d3, d4, ?_⟩
    · intro x hx
      rw [ha 12 (10 + d) x (by omega) (by omega)]
      exact b9 x hx
    · intro k hk
      rw [hq 16 (9 + d) k (by omega)]
      exact d5 k hk
  · intro o ho
    rw [i3, i3, i3, i3, i3, i3, i3, hr, hl]
    exact g11 o ho
  · unfold RC_ln at *
    rw [hr]
    exact g12
  · rw [hi 10 4 0 (by omega)]; exact h1
  · intro j hj
    rw [i3]
    exact h2 j hj
  · intro p y hy
    rw [q15] at hy
    exact h3 p y hy
theorem RC_ex (G : RC N C A rd) (hr : r < 8) (hc : c < A.m) (hw : A.wt r c = false) : RC N ((C.setA 14 r c 1).setI 4 6 r (nI (A.nwt r + 1))) (A.ex r c) rd := by
  refine RC_rep G G.1.2.1 rfl rfl rfl rfl rfl rfl rfl rfl rfl rfl rfl rfl rfl ?_ rfl rfl ?_ (fun _ _ _ _ => rfl) rfl ?_
  · intro k f j h
    rw [CS.i_setI, if_neg (by omega), CS.i_setA]
  · intro k j p h1 h2
    rw [CS.a_setI, CS.a_setA, if_neg (by omega)]
  · intro q hq
    obtain ⟨b1, b2', b3, b4, b5, b6, b7, b8, b9⟩ := G.rp q hq
    refine ⟨?_, ?_, b3, b4, ?_, ?_, ?_, ?_, ?_⟩
    · intro x hx
      rw [CS.a_setI, CS.a_setA, if_neg (by omega)]
      exact b1 x hx
    · intro d hd
      rw [CS.a_setI, CS.a_setA, ex_wt]
      by_cases e : q = r ∧ d = c
      · rw [if_pos ⟨rfl, e.1, e.2⟩, if_pos e]; rfl
      · rw [if_neg (fun h => e h.2), if_neg e]; exact b2' d hd
    · rw [CS.i_setI, if_neg (by omega), CS.i_setA]; exact b5
    · rw [CS.i_setI, ex_nwt hc hw]
      by_cases e : q = r
      · rw [if_pos ⟨rfl, rfl, e⟩, if_pos e, e]
      · rw [if_neg (by omega), if_neg e, CS.i_setA]; exact b6
    · rw [CS.i_setI, if_neg (by omega), CS.i_setA]; exact b7
    · rw [CS.i_setI, if_neg (by omega), CS.i_setA]; exact b8
    · rw [CS.i_setI, if_neg (by omega), CS.i_setA]; exact b9
theorem RC_ga {dl : List Nat} (G : RC N C A rd) (hA : AI A) (hr : r < 8) (h : A.rdy r c) (hw : A.wt r c = true) (hd : ∀ d, d ∈ dl ↔ A.dp c d = true) :
    RC N ((((((((C.setA 14 r c 0).setI 4 6 r (nI (A.nwt r - 1))).setA 12 r (A.ca c) (nI (A.cu c))).setI 4 5 r (nI (A.nch r + 1))).setG 16 (1 + r) (updO (hdO (C.q 16 (1 + r)) A.ca dl) (A.ca c) (some c))).setI 4 7 r (nI (A.nop r + A.cz c)))).setI 4 8 r (nI (max (A.tp r) (A.cf c + A.cz c - 1)))) (A.ga r c) rd := by
  obtain ⟨u0, u1, u2, u3, u4, u5, u6, u7, u8, u9, u10, u11, u12, u13, u14, u15, u16, u17, u18⟩ := G.nn
  have hca := (hA.2.1.1 c h.1).1
  have hq0 := (G.rp r hr).2.2.1
  obtain ⟨D, hD⟩ : ∃ D, D = ((((((C.setA 14 r c 0).setI 4 6 r (nI (A.nwt r - 1))).setA 12 r (A.ca c) (nI (A.cu c))).setI 4 5 r (nI (A.nch r + 1))).setG 16 (1 + r) (updO (hdO (C.q 16 (1 + r)) A.ca dl) (A.ca c) (some c))).setI 4 7 r (nI (A.nop r + A.cz c))).setI 4 8 r (nI (max (A.tp r) (A.cf c + A.cz c - 1))) := ⟨_, rfl⟩
  have di : ∀ k f j, ¬ (k = 4 ∧ j = r ∧ (f = 5 ∨ f = 6 ∨ f = 7 ∨ f = 8)) → D.i k f j = C.i k f j := by
    intro k f j hn
    rw [hD, CS.i_setI, if_neg (by omega), CS.i_setI, if_neg (by omega)]
    show ((((C.setA 14 r c 0).setI 4 6 r (nI (A.nwt r - 1))).setA 12 r (A.ca c) (nI (A.cu c))).setI 4 5 r (nI (A.nch r + 1))).i k f j = _
    rw [CS.i_setI, if_neg (by omega), CS.i_setA, CS.i_setI, if_neg (by omega), CS.i_setA]
  have d8 : D.i 4 8 r = nI (max (A.tp r) (A.cf c + A.cz c - 1)) := by rw [hD, CS.i_setI, if_pos ⟨rfl, rfl, rfl⟩]
  have d7 : D.i 4 7 r = nI (A.nop r + A.cz c) := by rw [hD, CS.i_setI, if_neg (by omega), CS.i_setI, if_pos ⟨rfl, rfl, rfl⟩]
  have d5 : D.i 4 5 r = nI (A.nch r + 1) := by
    rw [hD, CS.i_setI, if_neg (by omega), CS.i_setI, if_neg (by omega)]
    show ((((C.setA 14 r c 0).setI 4 6 r (nI (A.nwt r - 1))).setA 12 r (A.ca c) (nI (A.cu c))).setI 4 5 r (nI (A.nch r + 1))).i 4 5 r = _
    rw [CS.i_setI, if_pos ⟨rfl, rfl, rfl⟩]
  have d6 : D.i 4 6 r = nI (A.nwt r - 1) := by
    rw [hD, CS.i_setI, if_neg (by omega), CS.i_setI, if_neg (by omega)]
    show ((((C.setA 14 r c 0).setI 4 6 r (nI (A.nwt r - 1))).setA 12 r (A.ca c) (nI (A.cu c))).setI 4 5 r (nI (A.nch r + 1))).i 4 6 r = _
    rw [CS.i_setI, if_neg (by omega), CS.i_setA, CS.i_setI, if_pos ⟨rfl, rfl, rfl⟩]
  have dll : D.l = C.l := by rw [hD]; rfl
  have dr : D.r = C.r := by rw [hD]; rfl
  have dz : D.z = C.z := by rw [hD]; rfl
  have da : ∀ k j p, D.a k j p = if k = 12 ∧ j = r ∧ p = A.ca c then nI (A.cu c) else if k = 14 ∧ j = r ∧ p = c then 0 else C.a k j p := by
    intro k j p
    rw [hD]
    rfl
  have dq : ∀ k j p, D.q k j p = if k = 16 ∧ j = 1 + r then updO (hdO (C.q 16 (1 + r)) A.ca dl) (A.ca c) (some c) p else C.q k j p := by
    intro k j p
    rw [hD]
    rfl
  rw [← hD]
  clear hD
  have hwD : WF N D := by
    refine ⟨by rw [dr]; exact G.1.2.1.1, ?_⟩
    intro k j p y h1 h2 h3 h4
    rw [dq] at h4
    split at h4
    · rename_i e
      rw [e.1]
      show y < N 0
      unfold updO at h4
      split at h4
      · rw [← Option.some.inj h4, u0]; exact h.1
      · unfold hdO at h4
        split at h4
        · cases h4
        · have := G.1.2.1.2 16 (1 + r) p y (by omega) (by omega) (by omega) h4
          exact this
    · exact G.1.2.1.2 k j p y h1 h2 h3 h4
  refine RC_rep G hwD rfl rfl rfl rfl rfl rfl rfl rfl rfl rfl rfl rfl rfl (fun k f j hn => di k f j (by omega)) dll dr (fun k j p h1 h2 => by rw [da, if_neg (by omega), if_neg (by omega)]) (fun k j p h1 => by rw [dq, if_neg (by omega)]) dz ?_
  intro q hq
  obtain ⟨b1, b2', b3, b4, b5, b6, b7, b8, b9⟩ := G.rp q hq
  have hnw := ga_nwt hA h.1 hw (q := q)
  refine ⟨?_, ?_, ?_, ?_, ?_, ?_, ?_, ?_, ?_⟩
  · intro x hx
    rw [da, ga_hv]
    by_cases e : q = r ∧ x = A.ca c
    · rw [if_pos ⟨rfl, e⟩, if_pos e]
    · rw [if_neg (fun h => e h.2), if_neg (by omega), if_neg e]; exact b1 x hx
  · intro d hd
    rw [da, if_neg (by omega), ga_wt]
    by_cases e : q = r ∧ d = c
    · rw [if_pos ⟨rfl, e⟩, if_pos e]; rfl
    · rw [if_neg (fun h => e h.2), if_neg e]; exact b2' d hd
  · intro x d hx
    show _ ↔ _ ∧ A.ca d = x
    rw [dq]
    by_cases e : q = r
    · subst e
      rw [if_pos ⟨rfl, rfl⟩, ga_headR hA h]
      unfold updO
      by_cases e2 : x = A.ca c
      · rw [if_pos e2]
        constructor
        · intro h1
          rw [← Option.some.inj h1]
          exact ⟨Or.inl rfl, e2.symm⟩
        · rintro ⟨h1, h2⟩
          have hd' : (A.ga q c).head q d := (ga_headR hA h).mpr h1
          have hc' : (A.ga q c).head q c := (ga_headR hA h).mpr (Or.inl rfl)
          have hon := hA
          rcases h1 with h1 | h1
          · rw [h1]
          · -- a head of that actor that stands beside c is below it
            exfalso
            have hcu : A.cu d ≤ A.hv q (A.ca c) := by
              have := h1.1.1.2
              rw [h2, e2] at this
              exact this
            have hclo : A.clo c d := by
              refine ⟨h1.1.1.1, ?_⟩
              rw [h2, e2, (hA.2.1.1 c h.1).2.2.2.1, h.2.1]
              omega
            have hne : d ≠ c := by
              rintro rfl
              have := h.2.1
              omega
            obtain ⟨e3, f1, f2⟩ := clo_dp hA.2.1 h.1 hclo hne
            by_cases e4 : d = e3
            · rw [e4] at h1
              rw [f1] at h1
              cases h1.2
            · have he3 := h.2.2 e3 f1
              obtain ⟨p, p1, p2⟩ := clo_parent hA.2.1 he3.1 f2 e4
              have := h1.1.2 p (has_clo hA.2.1 he3 p1)
              rw [this] at p2
              cases p2
      · rw [if_neg e2]
        unfold hdO
        constructor
        · intro h1
          split at h1
          · cases h1
          · rename_i hn
            have h3 := (b3 x d hx).mp h1
            refine ⟨Or.inr ⟨h3.1, ?_⟩, h3.2⟩
            cases hb : A.dp c d with
            | false => rfl
            | true =>
              exfalso
              apply hn
              rw [List.any_eq_true]
              exact ⟨d, (hd d).mpr hb, by simp [h3.2, h1]⟩
        · rintro ⟨h1, h2⟩
          rcases h1 with h1 | h1
          · rw [h1] at h2
            exact absurd h2.symm e2
          · have h3 := (b3 x d hx).mpr ⟨h1.1, h2⟩
            rw [if_neg]
            · exact h3
            · intro hn
              rw [List.any_eq_true] at hn
              obtain ⟨y, y1, y2⟩ := hn
              simp only [Bool.and_eq_true, decide_eq_true_eq] at y2
              rw [h3] at y2
              rw [Option.some.inj y2.2] at h1
              rw [(hd y).mp y1] at h1
              cases h1.2
    · rw [if_neg (by omega), b3 x d hx, ga_headO hA h e]
  · rw [dr]; exact b4
  · rw [ga_nch hA h]
    by_cases e : q = r
    · rw [if_pos e, e]; exact d5
    · rw [if_neg e, di 4 5 q (by omega)]; exact b5
  · by_cases e : q = r
    · rw [if_pos e] at hnw
      rw [e] at hnw ⊢
      rw [d6]
      congr 1
      omega
    · rw [if_neg e, Nat.add_zero] at hnw
      rw [hnw, di 4 6 q (by omega)]; exact b6
  · rw [ga_nop hA h]
    by_cases e : q = r
    · rw [if_pos e, e]; exact d7
    · rw [if_neg e, di 4 7 q (by omega)]; exact b7
  · rw [ga_tp]
    by_cases e : q = r
    · rw [if_pos e, e]; exact d8
    · rw [if_neg e, di 4 8 q (by omega)]; exact b8
  · rw [di 4 9 q (by omega)]; exact b9
end GAC
