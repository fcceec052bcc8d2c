/-! JSON: is the key there? -/
def JS.key (J : JS) (v : Nat) : List Nat := (J.d.drop (J.ka v)).take (J.kl v)
/-- among the first i values one in what is open has the key -/
def JS.dup (J : JS) (y : List Nat) (i : Nat) : Prop := ∃ v, v < i ∧ J.ar v = J.tp ∧ J.key v = y
section JSN
variable {S S' T : MS} {N : Nat → Nat} {C C' B : CS} {J : JS} {p js k kl t : Nat} {bs d0 y : List Nat}
theorem key_len (hI : JI bs J k) {v : Nat} (hv : v < J.n) (hk : 0 < J.kl v) : (J.key v).length = J.kl v ∧ J.ka v + J.kl v ≤ J.d.length := by
  have := ((hI.2.2.1 v hv).2.2.2.2.1 hk).2
  refine ⟨?_, this⟩
  unfold JS.key
  rw [List.length_take, List.length_drop]
  omega
theorem key_at (hI : JI bs J k) {v i : Nat} (hv : v < J.n) (hk : 0 < J.kl v) (hi : i < (J.key v).length) : ∃ h : J.ka v + i < J.d.length, (J.key v)[i] = J.d[J.ka v + i] := by
  obtain ⟨h1, h2⟩ := key_len hI hv hk
  refine ⟨by omega, ?_⟩
  have hh : i < ((J.d.drop (J.ka v)).take (J.kl v)).length := hi
  have : ((J.d.drop (J.ka v)).take (J.kl v))[i]'hh = J.d[J.ka v + i]'(by omega) := by rw [List.getElem_take, List.getElem_drop]
  exact this
theorem arkl (hI : JI bs J k) (htp : J.tp = some t) (hso : J.so t = 6) {v : Nat} (hv : v < J.n) (h : J.ar v = J.tp) : 0 < J.kl v := ((hI.2.2.1 v hv).2.2.1 t (by rw [h, htp])).2.2.mp hso
theorem c_newKey (h : CR N C js bs J) (hI : JI bs J k) (htp : J.tp = some t) (hso : J.so t = 6) (hd : J.d = d0 ++ y) [Decidable (y ≠ [] ∧ ¬ J.dup y J.n)] : m_cRd_isNewKey N 0 C (nI d0.length) = some (C, b2 (decide (y ≠ [] ∧ ¬ J.dup y J.n))) := by
  obtain ⟨a1, a2, a3, ⟨a4, a5, a6⟩, a7, a8, a9, a10, a11⟩ := h
  have hN := a2.1
  have h500 := hI.1.1
  have hlen : J.d.length = d0.length + y.length := by rw [hd, List.length_append]
  have h8 : J.d.length ≤ 8192 := by have := hI.1; omega
  have ht5 : t < 500 := by
    obtain ⟨c1, c2⟩ := tp_some htp
    have := (hI.2.1 (J.dp - 1) (by omega)).1
    omega
  have hRBy : RB C 1 d0.length y := by
    intro i hi
    have := a3.2.1 (d0.length + i) (by omega)
    rw [Nat.zero_add] at this
    have e : J.d[d0.length + i]'(by omega) = y[i] := by
      simp only [hd]
      rw [List.getElem_append_right (by omega)]
      simp only [Nat.add_sub_cancel_left]
    rw [e] at this
    exact this
  have hRBk : ∀ v, v < J.n → 0 < J.kl v → RB C 1 (J.ka v) (J.key v) := by
    intro v hv hk i hi
    obtain ⟨h1, h2⟩ := key_at hI hv hk hi
    have := a3.2.1 (J.ka v + i) h1
    rw [Nat.zero_add] at this
    rw [h2]
    exact this
  have := lp_run (body := fun a : CS × Int32 × Int32 × Int32 => m_cRd_isNewKey_B12 N 0 a.1 a.2.1 a.2.2.1 a.2.2.2)
    (fun i u => u = (C, nI d0.length, nI y.length, nI i) ∧ i ≤ J.n ∧ ¬ J.dup y i)
    (fun e => (e = .inl (C, nI y.length) ∧ ¬ J.dup y J.n) ∨ (e = .inr (C, 0) ∧ J.dup y J.n)) J.n ?_ FU (C, nI d0.length, nI y.length, nI 0) (by unfold FU; omega) ⟨rfl, Nat.zero_le _, fun ⟨v, hv, _⟩ => by omega⟩
  · obtain ⟨e, h1, h2⟩ := this
    unfold m_cRd_isNewKey m_cRd_isNewKey_J0 m_cRd_isNewKey_J83
    rw [gl_ok (by omega), a3.2.2.2, gn_s (by omega), a3.1.2.2.1, hlen, sub_nI (by omega), Nat.add_sub_cancel_left, show m_cRd_isNewKey_L12 N 0 C (nI d0.length) (nI y.length) 0 = _ by unfold m_cRd_isNewKey_L12; exact h1]
    rcases h2 with ⟨rfl, h2⟩ | ⟨rfl, h2⟩
    · rw [oe_l]
      simp only []
      by_cases e : y = []
      · rw [decide_eq_false (fun g => g.1 e), e, if_pos (show nI ([] : List Nat).length ≤ 0 by decide)]; rfl
      · have : 0 < y.length := by cases y with
          | nil => exact absurd rfl e
          | cons a l => simp
        rw [decide_eq_true ⟨e, h2⟩, if_neg (show ¬ nI y.length ≤ 0 from nle (i := 0) this (by omega))]; rfl
    · rw [oe_r, decide_eq_false (fun g => g.2 h2)]; rfl
  · rintro i _ hi ⟨rfl, him, hnd⟩
    show (∃ a', m_cRd_isNewKey_B12 N 0 C (nI d0.length) (nI y.length) (nI i) = _ ∧ _) ∨ (∃ e, m_cRd_isNewKey_B12 N 0 C (nI d0.length) (nI y.length) (nI i) = _ ∧ _)
    by_cases ci : i = J.n
    · right
      refine ⟨_, ?_, Or.inl ⟨rfl, by rw [← ci]; exact hnd⟩⟩
      unfold m_cRd_isNewKey_B12
      rw [gl_ok (by omega), a7, if_pos ((nI_leI (by omega) (by omega)).mpr (by omega))]
    · have hlt : i < J.n := by omega
      obtain ⟨v1, v2, v3, v4, v5, v6, v7⟩ := a11 i hlt
      have hgv : ∀ (τ : Type) (x : Option τ), gv (J.ar i) (N 9) x = x := by
        intro τ x
        cases har : J.ar i with
        | none => rfl
        | some w =>
          have := ((hI.2.2.1 i hlt).2.2.1 w har).1
          exact gv_ok (by omega)
      have hgt : ∀ (τ : Type) (x : Option τ), gv J.tp (N 9) x = x := by
        intro τ x
        rw [htp]; exact gv_ok (by omega)
      have hB : m_cRd_isNewKey_B12 N 0 C (nI d0.length) (nI y.length) (nI i) = (if J.ar i = J.tp then ob (m_cRw_compareWith N 1 C (C.i 9 3 i) (C.i 9 4 i) 1 (nI d0.length) (nI y.length)) (fun o_15 => (if o_15.2 = 0 then some (.inr (.inr (o_15.1, 0))) else some (.inl (o_15.1, nI d0.length, nI y.length, nI (i + 1))))) else some (.inl (C, nI d0.length, nI y.length, nI (i + 1)))) := by
        unfold m_cRd_isNewKey_B12 m_cRd_isNewKey_J68
        rw [gl_ok (by omega), a7, if_neg (nle hlt (by omega)), a4, gn_s (by omega), a5, gd_ok (by omega) (by omega), cl_nI (by omega), a6 _ (by omega), gn_s (by omega), v3, a9, hgv, hgt, a3.2.2.2, gn_s (by omega), nI_s]
      by_cases har : J.ar i = J.tp
      · have hkl := arkl hI htp hso hlt har
        obtain ⟨k1, k2⟩ := key_len hI hlt hkl
        obtain ⟨w1, w2⟩ := v4 hkl
        obtain ⟨dd, e1, e2⟩ := cR_cmp (N := N) (by omega) (by omega) a3.1 (hRBk i hlt hkl) (by omega) a3.1 hRBy (by omega)
        rw [k1] at e1
        rw [if_pos har, w1, w2, e1, ob_ok] at hB
        simp only [] at hB
        by_cases ed : dd = 0
        · right
          rw [if_pos ed] at hB
          refine ⟨_, hB, Or.inr ⟨rfl, i, hlt, har, kcmp_eq _ _ ?_⟩⟩
          rw [← e2, ed]; rfl
        · left
          rw [if_neg ed] at hB
          refine ⟨_, hB, hlt, rfl, hlt, ?_⟩
          rintro ⟨v, hv, hv2, hv3⟩
          by_cases ev : v = i
          · subst ev
            apply ed
            have : kcmp (J.key v) y = 0 := by rw [hv3]; exact kcmp_self y
            rw [this] at e2
            exact i32_eq0.mpr e2
          · exact hnd ⟨v, by omega, hv2, hv3⟩
      · left
        rw [if_neg har] at hB
        refine ⟨_, hB, hlt, rfl, hlt, ?_⟩
        rintro ⟨v, hv, hv2, hv3⟩
        by_cases ev : v = i
        · exact har (by rw [← ev]; exact hv2)
        · exact hnd ⟨v, by omega, hv2, hv3⟩
theorem cI_nI {x : Option Nat} (hx : ∀ w, x = some w → w < 1000) (ht : t < 1000) : (cI x = nI t) ↔ x = some t := by
  cases x with
  | none =>
    constructor
    · intro g
      exfalso
      have : (0 : Int32) ≤ cI none := by rw [g]; exact nI_pos' (by omega)
      exact absurd this (by decide)
    · intro g; cases g
  | some w =>
    have := hx w rfl
    show nI w = nI t ↔ _
    rw [nI_eq (by omega) (by omega)]
    exact ⟨fun g => by rw [g], fun g => Option.some.inj g⟩
theorem s_keyThere (h : SR S bs J) (hI : JI bs J k) (htp : J.tp = some t) (hso : J.so t = 6) (hd : J.d = d0 ++ y) (hy : y ≠ []) [Decidable (J.dup y J.n)] : m_rkeyThere S (nI t) (nI d0.length) (nI y.length) = some (S, b2 (decide (J.dup y J.n))) := by
  obtain ⟨a1, a2, a3, a4, a5, a6, a7⟩ := h
  have h500 := hI.1.1
  have hlen : J.d.length = d0.length + y.length := by rw [hd, List.length_append]
  have h8 : J.d.length ≤ 8192 := by have := hI.1; omega
  have hyl : 0 < y.length := by cases y with
    | nil => exact absurd rfl hy
    | cons a l => simp
  have ht5 : t < 500 := by
    obtain ⟨c1, c2⟩ := tp_some htp
    have := (hI.2.1 (J.dp - 1) (by omega)).1
    omega
  have hyat : ∀ i (hi : i < y.length), y[i] < 256 ∧ S.a 62 (d0.length + i) = sb y[i] := by
    intro i hi
    have := a2.2 (d0.length + i) (by omega)
    have e : J.d[d0.length + i]'(by omega) = y[i] := by
      simp only [hd]
      rw [List.getElem_append_right (by omega)]
      simp only [Nat.add_sub_cancel_left]
    rw [e] at this
    exact this
  have := lp_run (body := fun a : MS × Int32 × Int32 × Int32 × Int32 => m_rkeyThere_B3 a.1 a.2.1 a.2.2.1 a.2.2.2.1 a.2.2.2.2)
    (fun i u => u = (S, nI t, nI d0.length, nI y.length, nI i) ∧ i ≤ J.n ∧ ¬ J.dup y i)
    (fun e => (e = .inl S ∧ ¬ J.dup y J.n) ∨ (e = .inr (S, 1) ∧ J.dup y J.n)) J.n ?_ FU (S, nI t, nI d0.length, nI y.length, nI 0) (by unfold FU; omega) ⟨rfl, Nat.zero_le _, fun ⟨v, hv, _⟩ => by omega⟩
  · obtain ⟨e, h1, h2⟩ := this
    unfold m_rkeyThere m_rkeyThere_J0
    rw [show m_rkeyThere_L3 S (nI t) (nI d0.length) (nI y.length) 0 = _ by unfold m_rkeyThere_L3; exact h1]
    rcases h2 with ⟨rfl, h2⟩ | ⟨rfl, h2⟩
    · rw [oe_l, decide_eq_false h2]; rfl
    · rw [oe_r, decide_eq_true h2]; rfl
  · rintro i _ hi ⟨rfl, him, hnd⟩
    show (∃ a', m_rkeyThere_B3 S (nI t) (nI d0.length) (nI y.length) (nI i) = _ ∧ _) ∨ (∃ e, m_rkeyThere_B3 S (nI t) (nI d0.length) (nI y.length) (nI i) = _ ∧ _)
    by_cases ci : i = J.n
    · right
      refine ⟨_, ?_, Or.inl ⟨rfl, by rw [← ci]; exact hnd⟩⟩
      unfold m_rkeyThere_B3
      rw [a3, if_pos ((nI_leI (by omega) (by omega)).mpr (by omega))]
    · have hlt : i < J.n := by omega
      obtain ⟨v1, v2, v3, v4, v5, v6⟩ := a7 i hlt
      have hkl64 : J.kl i ≤ 64 := by
        by_cases e : 0 < J.kl i
        · exact ((hI.2.2.1 i hlt).2.2.2.2.1 e).1
        · omega
      have hB : m_rkeyThere_B3 S (nI t) (nI d0.length) (nI y.length) (nI i) = (if cI (J.ar i) = nI t then (if nI (J.kl i) = nI y.length then ob (m_rkeyThere_L40 S (nI t) (nI d0.length) (nI y.length) (nI i) 0) (fun b_6 => m_rkeyThere_J79 b_6.1 b_6.2.1 b_6.2.2.1 b_6.2.2.2.1 b_6.2.2.2.2.1 b_6.2.2.2.2.2) else some (.inl (S, nI t, nI d0.length, nI y.length, nI (i + 1)))) else some (.inl (S, nI t, nI d0.length, nI y.length, nI (i + 1)))) := by
        unfold m_rkeyThere_B3 m_rkeyThere_J87
        rw [a3, if_neg (nle hlt (by omega)), gd_ok (by omega) (by omega), gd_ok (by omega) (by omega), cl_nI (by omega), v3, v5, nI_s]
      have step : ¬ (J.ar i = J.tp ∧ J.key i = y) → ¬ J.dup y (i + 1) := by
        rintro hn ⟨v, hv, hv2, hv3⟩
        by_cases ev : v = i
        · exact hn (by rw [← ev]; exact ⟨hv2, hv3⟩)
        · exact hnd ⟨v, by omega, hv2, hv3⟩
      have har : (cI (J.ar i) = nI t) ↔ J.ar i = J.tp := by
        rw [htp]
        refine cI_nI ?_ (by omega)
        intro w hw
        have := ((hI.2.2.1 i hlt).2.2.1 w hw).1
        omega
      by_cases c1 : J.ar i = J.tp
      · rw [if_pos (har.mpr c1)] at hB
        have hkl := arkl hI htp hso hlt c1
        obtain ⟨k1, k2⟩ := key_len hI hlt hkl
        by_cases c2 : J.kl i = y.length
        · rw [if_pos (by rw [c2])] at hB
          have hin := lp_run (body := fun a : MS × Int32 × Int32 × Int32 × Int32 × Int32 => m_rkeyThere_B40 a.1 a.2.1 a.2.2.1 a.2.2.2.1 a.2.2.2.2.1 a.2.2.2.2.2)
            (fun q u => u = (S, nI t, nI d0.length, nI y.length, nI i, nI q) ∧ q ≤ y.length ∧ (J.key i).take q = y.take q)
            (fun e => ∃ q, e = (S, nI t, nI d0.length, nI y.length, nI i, nI q) ∧ q ≤ y.length ∧ (q = y.length ↔ J.key i = y)) y.length ?_ FU (S, nI t, nI d0.length, nI y.length, nI i, nI 0) (by unfold FU; omega) ⟨rfl, Nat.zero_le _, rfl⟩
          · obtain ⟨e, h1, q, rfl, h3, h4⟩ := hin
            rw [show m_rkeyThere_L40 S (nI t) (nI d0.length) (nI y.length) (nI i) 0 = _ by unfold m_rkeyThere_L40; exact h1, ob_ok] at hB
            unfold m_rkeyThere_J79 m_rkeyThere_J87 at hB
            simp only [] at hB
            rw [nI_s] at hB
            by_cases c3 : q = y.length
            · right
              rw [if_pos (by rw [c3])] at hB
              exact ⟨_, hB, Or.inr ⟨rfl, i, hlt, c1, h4.mp c3⟩⟩
            · left
              rw [if_neg (fun g => c3 ((nI_eq (by omega) (by omega)).mp g))] at hB
              exact ⟨_, hB, hlt, rfl, hlt, step (fun g => c3 (h4.mpr g.2))⟩
          · rintro q _ hq ⟨rfl, hqy, htk⟩
            show (∃ a', m_rkeyThere_B40 S (nI t) (nI d0.length) (nI y.length) (nI i) (nI q) = _ ∧ _) ∨ (∃ e, m_rkeyThere_B40 S (nI t) (nI d0.length) (nI y.length) (nI i) (nI q) = _ ∧ _)
            by_cases cq : q = y.length
            · right
              refine ⟨_, ?_, q, rfl, hqy, ⟨fun _ => ?_, fun _ => cq⟩⟩
              · unfold m_rkeyThere_B40
                rw [if_pos ((nI_leI (by omega) (by omega)).mpr (by omega))]
              · rw [cq, List.take_length, List.take_of_length_le (by omega)] at htk
                exact htk
            · have hql : q < y.length := by omega
              obtain ⟨z1, z2⟩ := key_at hI hlt hkl (i := q) (by omega)
              have z3 := a2.2 (J.ka i + q) z1
              have z4 := hyat q hql
              have hB4 : m_rkeyThere_B40 S (nI t) (nI d0.length) (nI y.length) (nI i) (nI q) = (if sb (J.key i)[q] = sb y[q] then some (.inl (S, nI t, nI d0.length, nI y.length, nI i, nI (q + 1))) else some (.inr (S, nI t, nI d0.length, nI y.length, nI i, nI q))) := by
                unfold m_rkeyThere_B40
                rw [if_neg (nle hql (by omega)), gd_ok (by omega) (by omega), cl_nI (by omega), v4 hkl, nI_add, gd_ok (by omega) (by omega), nI_add, gd_ok (by omega) (by omega), cl_nI (by omega), cl_nI (by omega), z3.2, z4.2, nI_s, ← z2]
              have hsb := sb_inj (x := (J.key i)[q]) (y := y[q]) (by rw [z2]; exact z3.1) z4.1
              by_cases ce : (J.key i)[q] = y[q]
              · left
                rw [if_pos (hsb.mpr ce)] at hB4
                refine ⟨_, hB4, hql, rfl, hql, ?_⟩
                rw [List.take_succ_eq_append_getElem (by omega), List.take_succ_eq_append_getElem hql, htk, ce]
              · right
                rw [if_neg (fun g => ce (hsb.mp g))] at hB4
                refine ⟨_, hB4, q, rfl, hqy, ⟨fun g => absurd g cq, fun g => ?_⟩⟩
                exfalso
                apply ce
                simp only [g]
        · left
          rw [if_neg (fun g => c2 ((nI_eq (by omega) (by omega)).mp g))] at hB
          exact ⟨_, hB, hlt, rfl, hlt, step (fun g => c2 (by rw [← k1, g.2]))⟩
      · left
        rw [if_neg (fun g => c1 (har.mp g))] at hB
        exact ⟨_, hB, hlt, rfl, hlt, step (fun g => c1 g.1)⟩
end JSN
