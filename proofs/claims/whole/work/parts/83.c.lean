/-! SPLICE: the class erases a run. -/
section SPC
variable {S S' : MS} {N : Nat → Nat} {C C' : CS} {A B : AS} {r rd : Nat} {x : Option Nat} {i k : Nat}
theorem sub1 {n k : Nat} (h : k < n) : nI (n - k) + (-1) = nI (n - (k + 1)) := by
  have : nI (n - k) = nI (n - (k + 1)) + 1 := by rw [nI_s]; congr 1; omega
  rw [this, Int32.add_assoc, show (1 : Int32) + -1 = 0 from by decide, Int32.add_zero]
theorem chn_app {nx : Nat → Option Nat} {l2 : List Nat} : ∀ {l1 : List Nat} {h : Option Nat}, chn nx h (l1 ++ l2) → ∃ h2, chn nx h2 l2 ∧ ∀ a l, l1 = l ++ [a] → h2 = nx a := by
  intro l1
  induction l1 with
  | nil => intro h hc; exact ⟨h, hc, fun a l e => by cases l <;> cases e⟩
  | cons b l1 ih =>
    intro h hc
    obtain ⟨h2, g1, g2⟩ := ih hc.2
    cases l1 with
    | nil =>
      refine ⟨nx b, hc.2, ?_⟩
      intro a l e
      cases l with
      | nil => cases e; rfl
      | cons c l => cases l <;> cases e
    | cons c l1 =>
      refine ⟨h2, g1, ?_⟩
      intro a l e
      cases l with
      | nil => cases e
      | cons d l =>
        injection e with e1 e2
        exact g2 a l e2
theorem filter_split {p : Nat → Bool} : ∀ {l : List Nat} {i s : Nat}, (l.filter p)[i]? = some s → ∃ l1 l2, l = l1 ++ s :: l2 ∧ l1.filter p = (l.filter p).take i ∧ p s = true := by
  intro l
  induction l with
  | nil => intro i s h; cases h
  | cons a l ih =>
    intro i s h
    by_cases e : p a = true
    · rw [List.filter_cons_of_pos e] at h ⊢
      cases i with
      | zero =>
        obtain rfl : a = s := by simpa using h
        exact ⟨[], l, rfl, rfl, e⟩
      | succ i =>
        obtain ⟨l1, l2, h1, h2, h3⟩ := ih (show (l.filter p)[i]? = some s by simpa using h)
        exact ⟨a :: l1, l2, by rw [h1]; rfl, by rw [List.filter_cons_of_pos e, h2]; rfl, h3⟩
    · rw [List.filter_cons_of_neg e] at h ⊢
      obtain ⟨l1, l2, h1, h2, h3⟩ := ih h
      exact ⟨a :: l1, l2, by rw [h1]; rfl, by rw [List.filter_cons_of_neg e]; exact h2, h3⟩
set_option maxHeartbeats 1000000 in
theorem csp_erase (G : RC N C A rd) (hA : AI A) (hv : VC C A r) (hr : r < 8) (hx : A.oV r x) (hkd : A.kd x ≠ 6) (hlk : A.lk r = none) {n : Nat} (hin : i + n ≤ (A.fl r x).length) (hn : A.n + n ≤ 4000) (hrd : rd + 20000 < 2 ^ 30) {y : Option Nat}
    (hy : (∃ s, (A.fl r x)[i]? = some s ∧ y = some (A.sj s)) ∨ (i = (A.fl r x).length ∧ y = none)) :
    ∃ N' C' c z rd', m_cJT_eraseRun N 0 C r y (nI n) = some ((N', C'), c, z) ∧ c ≤ 2 * n ∧ z ≤ 23 * n ∧ RC N' C' (A.des r x ((A.fl r x).drop i) n) rd' ∧ VC C' (A.des r x ((A.fl r x).drop i) n) r ∧ DST A r x i n (A.des r x ((A.fl r x).drop i) n) ∧ frC C C' ∧ rd ≤ rd' ∧ rd' ≤ rd + 2 * (A.L x).length := by
  have hfl : (A.fl r x).length ≤ A.n := Nat.le_trans (List.length_filter_le _ _) (L_len hA)
  have hLl := L_len hA (x := x)
  have hnn := hA.1.1
  have hLn : (A.L x).Nodup := (hA.2.2.1.2.2.2.2.2.2.2.2.1 x).1
  -- the start
  have hst : ∃ l1 l2, A.L x = l1 ++ l2 ∧ l1.filter (A.flB r) = (A.fl r x).take i ∧ (y = (l2.map A.sj).head?) ∧ (l2 = [] → y = none) := by
    rcases hy with ⟨s, h1, h2⟩ | ⟨h1, h2⟩
    · obtain ⟨l1, l2, g1, g2, g3⟩ := filter_split (l := A.L x) (p := A.flB r) h1
      exact ⟨l1, s :: l2, g1, g2, by rw [h2]; rfl, fun h => by cases h⟩
    · refine ⟨A.L x, [], by rw [List.append_nil], ?_, by rw [h2]; rfl, fun _ => h2⟩
      rw [h1, List.take_length]
      rfl
  obtain ⟨l10, l20, hL0, hf0, hy0, _⟩ := hst
  have hl20 : l20.length ≤ (A.L x).length := by rw [hL0, List.length_append]; omega
  have := lpA_run (body := fun w : (Nat → Nat) × CS × Option Nat × Int32 × Option Nat => m_cJT_eraseRun_B6 w.1 0 w.2.1 w.2.2.1 w.2.2.2.1 w.2.2.2.2)
    (fun j w c z => ∃ M W k l1 l2 rd1, w = (M, W, some r, nI (n - k), (l2.map A.sj).head?) ∧ k ≤ n ∧ k ≤ j ∧ A.L x = l1 ++ l2 ∧ l1.length = l10.length + j ∧ l1.filter (A.flB r) = (A.fl r x).take (i + k) ∧ RC M W (A.des r x ((A.fl r x).drop i) k) rd1 ∧ VC W (A.des r x ((A.fl r x).drop i) k) r ∧ DST A r x i k (A.des r x ((A.fl r x).drop i) k) ∧ frC C W ∧ rd ≤ rd1 ∧ rd1 ≤ rd + 2 * j ∧ c ≤ 2 * k ∧ z ≤ 23 * k)
    (fun e c z => ∃ M W rd1, e = (M, W) ∧ RC M W (A.des r x ((A.fl r x).drop i) n) rd1 ∧ VC W (A.des r x ((A.fl r x).drop i) n) r ∧ DST A r x i n (A.des r x ((A.fl r x).drop i) n) ∧ frC C W ∧ rd ≤ rd1 ∧ rd1 ≤ rd + 2 * (A.L x).length ∧ c ≤ 2 * n ∧ z ≤ 23 * n) l20.length ?_ FU (N, C, some r, nI n, y) (by unfold FU; omega)
    ⟨N, C, 0, l10, l20, rd, by rw [hy0]; rfl, by omega, by omega, hL0, by omega, hf0, G, hv, DST_0 hA hx hlk, frC.refl, Nat.le_refl _, by omega, by omega, by omega⟩
  · obtain ⟨e, c, z, h1, M, W, rd1, rfl, h2, h3, h4, h5, h6, h7, h8, h9⟩ := this
    refine ⟨M, W, c, z, rd1, ?_, h8, h9, h2, h3, h4, h5, h6, h7⟩
    unfold m_cJT_eraseRun m_cJT_eraseRun_J0 m_cJT_eraseRun_J52
    rw [show m_cJT_eraseRun_L6 N 0 C (some r) (nI n) y = some ((M, W), c, z) by unfold m_cJT_eraseRun_L6; exact h1, ov_ok, al_ok, Nat.zero_add, Nat.zero_add]
  · rintro j _ c z hj ⟨M, W, k, l1, l2, rd1, rfl, hkn, hkj, hL, hl1, hlf, w1, w2, w3, w4, w5, w6, w7, w8⟩
    have hdst := w3
    obtain ⟨e0, hB, hx', ekd, hlk', en, em, ekn, eoi, eL, efl, eflB, esj, eiv⟩ := w3
    obtain ⟨B, hBdef⟩ : ∃ B, B = A.des r x ((A.fl r x).drop i) k := ⟨_, rfl⟩
    have hlen : l1.length + l2.length = (A.L x).length := by rw [hL, List.length_append]
    have hlen0 : l10.length + l20.length = (A.L x).length := by rw [hL0, List.length_append]
    have hfin : ∀ {hk : k = n}, ∃ M' W' rd1', (M, W) = (M', W') ∧ RC M' W' (A.des r x ((A.fl r x).drop i) n) rd1' ∧ VC W' (A.des r x ((A.fl r x).drop i) n) r ∧ DST A r x i n (A.des r x ((A.fl r x).drop i) n) ∧ frC C W' ∧ rd ≤ rd1' ∧ rd1' ≤ rd + 2 * (A.L x).length ∧ c + 0 ≤ 2 * n ∧ z + 0 ≤ 23 * n := by
      intro hk
      subst hk
      exact ⟨M, W, rd1, rfl, w1, w2, hdst, w4, w5, by omega, by omega, by omega⟩
    rw [← hBdef] at w1 w2 hdst e0 hB hx' ekd hlk' en em ekn eoi eL efl eflB esj eiv
    show (∃ a' dc dz, m_cJT_eraseRun_B6 M 0 W (some r) (nI (n - k)) (l2.map A.sj).head? = some (.inl a', dc, dz) ∧ _) ∨ (∃ e dc dz, m_cJT_eraseRun_B6 M 0 W (some r) (nI (n - k)) (l2.map A.sj).head? = some (.inr e, dc, dz) ∧ _)
    unfold m_cJT_eraseRun_B6
    cases l2 with
    | nil =>
      right
      rw [List.append_nil] at hL
      have hk : k = n := by
        have h1 : (A.fl r x).length = ((A.fl r x).take (i + k)).length := by
          rw [← hlf, ← hL]
          rfl
        rw [List.length_take] at h1
        omega
      exact ⟨(M, W), 0, 0, rfl, hfin (hk := hk)⟩
    | cons s l2 =>
      show (∃ a' dc dz, on (some (A.sj s)) _ _ = _ ∧ _) ∨ (∃ e dc dz, on (some (A.sj s)) _ _ = _ ∧ _)
      rw [onSome]
      by_cases hk : k = n
      · right
        rw [if_pos (by rw [hk, Nat.sub_self]; decide)]
        exact ⟨(M, W), 0, 0, rfl, hfin (hk := hk)⟩
      · left
        have hkl : k < n := by omega
        have hsL : s ∈ A.L x := by rw [hL]; simp
        have hsA := L_mem hA hsL
        have hsB : s ∈ B.L x := by rw [eL]; exact hsL
        have hsB' := L_mem hB hsB
        have hsjs : B.sj s = A.sj s := esj s hsA.1
        obtain ⟨t0, t1, t2, t3, t4, t5, t6, t7, t8, t9, t10, t11, t12, t13, t14, t15, t16, t17, t18⟩ := w1.nn
        have hln := w1.ln.1 s hsB'.1 hsB'.2.2
        obtain ⟨C2, c1, c2, G2⟩ := cV_top w1 hB w2 hsB'.1 hsB'.2.2 (by omega)
        have hv2 := c2.toVC w2
        have hst2 := w1.st
        have hchain := w1.ln.2.2 x (oV_ltn hx')
        rw [eL, hL] at hchain
        have hmapsj : (l1 ++ s :: l2).map B.sj = l1.map A.sj ++ A.sj s :: l2.map A.sj := by
          rw [List.map_append, List.map_cons, hsjs]
          have : ∀ t, t ∈ l1 ++ s :: l2 → B.sj t = A.sj t := by
            intro t ht
            rw [← hL] at ht
            exact esj t (L_mem hA ht).1
          congr 1
          · exact List.map_congr_left (fun t ht => this t (by simp [ht]))
          · congr 1
            exact List.map_congr_left (fun t ht => this t (by simp [ht]))
        have hnext : ∀ {W' : CS} {B' : AS} {M' : Nat → Nat} {rd' : Nat}, RC M' W' B' rd' → B'.L x = A.L x → (∀ t, t < A.n → B'.sj t = A.sj t) → (∀ m, x = some m → m < B'.n) → W'.r 7 2 (A.sj s) = (l2.map A.sj).head? := by
          intro W' B' M' rd' GW hL' hsj' hxl'
          have hch := GW.ln.2.2 x hxl'
          rw [hL', hL] at hch
          have hm : (l1 ++ s :: l2).map B'.sj = (l1.map A.sj ++ [A.sj s]) ++ l2.map A.sj := by
            have : ∀ t, t ∈ l1 ++ s :: l2 → B'.sj t = A.sj t := by
              intro t ht
              rw [← hL] at ht
              exact hsj' t (L_mem hA ht).1
            rw [List.map_congr_left this]
            simp
          rw [hm] at hch
          obtain ⟨h2, q1, q2⟩ := chn_app hch
          have := q2 (A.sj s) (l1.map A.sj) rfl
          rw [← this]
          cases l2 with
          | nil => exact q1
          | cons t l2 => exact q1.1
        have hflBs : B.flB r s = A.flB r s := by
          rw [eflB s]
          have hni : (((A.fl r x).drop i).take k).contains s = false := by
            cases hcs : (((A.fl r x).drop i).take k).contains s with
            | false => rfl
            | true =>
              exfalso
              have h1 : s ∈ ((A.fl r x).drop i).take k := by simpa using hcs
              have h2 : s ∈ (A.fl r x).take (i + k) := by
                rw [List.take_add]
                exact List.mem_append_right _ h1
              rw [← hlf, List.mem_filter] at h2
              rw [hL] at hLn
              exact (List.nodup_append.mp hLn).2.2 s h2.1 s (by simp) rfl
          rw [hni]
          simp
        rw [if_neg (show ¬ nI (n - k) ≤ 0 from fun h => by have := (nI_leI (b := 0) (by omega) (by omega)).mp h; omega), gl_ok (by omega), gl_ok (by rw [t7, ← hsjs]; exact hln.1), hst2.2.2.1, gn_s (by omega)]
        rw [hsjs] at c1
        rw [c1, ob_ok, hflBs]
        simp only []
        cases hb : A.flB r s with
        | false =>
          have hnx := hnext G2 eL esj (oV_ltn hx')
          refine ⟨_, 0, 0, ?_, by simp only [List.length_cons] at hlen; omega, M, C2, k, l1 ++ [s], l2, rd1 + 1, rfl, hkn, by omega, by rw [hL]; simp, by rw [List.length_append, hl1]; rfl, ?_, by rw [← hBdef]; exact G2, by rw [← hBdef]; exact hv2, by rw [← hBdef]; exact hdst, w4.trans c2.fr, by omega, by omega, by omega, by omega⟩
          · rw [if_neg (by decide), on_none]
            unfold m_cJT_eraseRun_J42
            rw [show ((s :: l2).map A.sj).head? = some (A.sj s) from rfl, gn_s (show A.sj s < M 7 by rw [t7, ← hsjs]; exact hln.1), hnx]
          · rw [List.filter_append, hlf, List.filter_cons_of_neg (by rw [hb]; decide)]
            simp
        | true =>
          have hfs : (A.fl r x)[i + k]? = some s := by
            have h1 : A.fl r x = (A.fl r x).take (i + k) ++ s :: l2.filter (A.flB r) := by
              rw [← hlf]
              show (A.L x).filter (A.flB r) = _
              rw [hL, List.filter_append, List.filter_cons_of_pos hb]
            rw [h1, List.getElem?_append_right (by rw [List.length_take]; omega), List.length_take, show i + k - min (i + k) (A.fl r x).length = 0 by omega]
            rfl
          obtain ⟨d1, d2, d3⟩ := DST_s hdst hkd hr (by omega) hfs
          obtain ⟨f1, f2, f3, f4, f5, f6, f7⟩ := fl_at hB (by rw [ekd]; exact hkd) d2
          obtain ⟨N4, C4, cc, zz, k1, k2, k3, G4, hA4, hv4, hfr4⟩ := cJ_writeOn (num := 0) (act := 9) (s := s) (x := x) G2 hB hv2 hr hlk' (by omega) (by omega) f2 f4 f3 hx' (by rw [f6]; exact hB.1.2.2.1) (by omega) (fun _ => f5)
          have hs1 : A.des r x ((A.fl r x).drop i) (k + 1) = B.de r x s := d1.1.symm
          obtain ⟨D, hD⟩ : ∃ D, D = B.de r x s := ⟨_, rfl⟩
          have G4' : RC N4 C4 D (rd1 + 1 + 1) := by rw [hD]; exact G4
          have hv4' : VC C4 D r := by rw [hD]; exact hv4
          rw [← hD] at d1
          have d1' := d1
          obtain ⟨_, dAI, dx', _, _, dn, _, _, _, dL, _, _, dsj, _⟩ := d1'
          have hnx := hnext G4' dL dsj (oV_ltn dx')
          have hln4 := (G4'.ln.1 s (by omega) (by
            have : s ∈ D.L x := by rw [dL]; exact hsL
            exact (L_mem dAI this).2.2)).1
          have hn7 := G4'.nn.2.2.2.2.2.2.2.1
          refine ⟨_, cc, zz, ?_, by simp only [List.length_cons] at hlen; omega, N4, C4, k + 1, l1 ++ [s], l2, rd1 + 1 + 1, rfl, by omega, by omega, by rw [hL]; simp, by rw [List.length_append, hl1]; rfl, ?_, by rw [hs1, ← hD]; exact G4', by rw [hs1, ← hD]; exact hv4', by rw [hs1, ← hD]; exact d1, (w4.trans c2.fr).trans hfr4, by omega, by omega, by omega, by omega⟩
          · rw [if_pos rfl, onSome, gn_s (by omega)]
            rw [hsjs] at k1
            rw [show m_cJT_writeOn M 0 C2 r (A.sj s) 9 0 = _ from k1, oq_ok]
            unfold m_cJT_eraseRun_J42
            rw [show ((s :: l2).map A.sj).head? = some (A.sj s) from rfl, gn_s (show A.sj s < N4 7 by rw [hn7, ← dsj s hsA.1]; exact hln4), hnx, al_ok, sub1 hkl, Nat.zero_add, Nat.zero_add]
          · rw [List.filter_append, hlf, List.filter_cons_of_pos hb, List.filter_nil]
            have hlt : i + k < (A.fl r x).length := by omega
            rw [List.getElem?_eq_getElem hlt] at hfs
            rw [← Option.some.inj hfs, ← List.take_succ_eq_append_getElem hlt]
            rfl
end SPC
