/-! THE CALL find. -/
section FDF
variable {S S' : MS} {N : Nat → Nat} {C C' : CS} {A : AS} {r rd : Nat} {bi bf bs bo : List Nat} {ji jf js a : Nat}
theorem LMS.i0 {x : Option Nat} (h : LMS A r x S S') : S'.i 0 = S.i 0 := by
  obtain ⟨f, c, g, t, rfl, _⟩ := h
  rw [MS.i_setA, MS.i_setI, if_neg (by decide), MS.i_setA, MS.i_setA, MS.i_setA]
/-- what the reference goes on with: the op z, or NoSuchElement -/
def rFv (S : MS) (A : AS) (r : Nat) (z : Option Nat) (q : Nat) : Option ((MS × Int32 × Int32 × Int32 × Int32 × Int32) ⊕ ((MS × Int32) ⊕ (MS × Int32))) := match z with
  | some z => some (.inl (S, nI r, nI (A.id z), nI (A.act z), nI z, nI q))
  | none => some (.inr (.inr (S.setI 0 (nI 2), nI 0)))
theorem rF_269 (hR : RS S A) (hA : AI A) {s : Nat} (hs : A.flB r s = true) (h46 : rowN (S.a 46) (A.cd r s)) {q : Nat} : m_rfind2_J269 S (nI r) (nI q) = rFv S A r (some (A.top r s)) q := by
  obtain ⟨t1, t2, t3, t4, t5⟩ := top_ok hA hs
  have hn := hA.1.1
  have h0 : S.a 46 0 = nI (A.top r s) := by
    have hne := flB_iff.mp hs
    unfold AS.top
    cases hc : A.cd r s with
    | nil => exact absurd hc hne
    | cons a l =>
      rw [hc] at h46
      exact h46 0 (by simp)
  have hop := hR.2.1 _ t2
  unfold m_rfind2_J269 rFv
  rw [show ((0 : Int32).toNatClampNeg) = 0 from by decide, h0, gd_ok (by omega) (by omega), gd_ok (by omega) (by omega), cl_nI (by omega), hop.1, hop.2.2.2.1]
theorem rF_step (hR : RS S A) (hA : AI A) (hr : r < 8) (h5 : S.i 5 = nI bf.length) (hb : byts S 2 0 bf) (h8 : bf.length ≤ 8192) {y : Option Nat} (hy : ndOK A r y) {p q : Nat} (hp : p < bf.length) (hs : stp bf p = some q) (x5 : Int32) :
    ∃ S', m_rfind2_B42 S (nI r) (nI (A.oi y)) (nI (A.kd y)) x5 (nI p) = rFv S' A r (nxt A r bf y p q) q ∧ RS S' A ∧ frS S S' ∧ S'.i 0 = S.i 0 := by
  have hn := hA.1.1
  have hql := stp_lt hs
  have hq := hql.2 (by omega)
  have hbb : ∀ i (h : i < bf.length), bf[i] < 256 := fun i hi => (byt0 hb hi).2
  have hbt := byt0 hb hp
  have e91 := sb_eq hbt.2 (k := 91) (by omega)
  have e46 := sb_eq hbt.2 (k := 46) (by omega)
  have hkl : A.kd y ≤ 8 := by
    cases y with
    | none => simp [AS.kd]
    | some m => exact (hy m rfl).2.2
  have h91 : (bf[p]? = some 91) ↔ bf[p] = 91 := by rw [List.getElem?_eq_getElem hp]; simp
  have hno : ∀ {W : MS}, m_rfind2_J94 W = rFv W A r none q := fun {W} => rfl
  have hB : m_rfind2_B42 S (nI r) (nI (A.oi y)) (nI (A.kd y)) x5 (nI p) = (if bf[p]? = some 91 then m_rfind2_J68 S (nI r) (nI (A.oi y)) (nI (A.kd y)) (nI p) 1 else m_rfind2_J68 S (nI r) (nI (A.oi y)) (nI (A.kd y)) (nI p) 0) := by
    unfold m_rfind2_B42
    rw [h5, if_neg (nle hp (by omega)), gd_ok (by omega) (by omega), cl_nI (by omega), hbt.1]
    by_cases c : bf[p] = 91
    · rw [if_pos (show sb _ = 91 from e91.mpr c), if_pos (h91.mpr c)]
    · rw [if_neg (show ¬ sb _ = 91 from fun e => c (e91.mp e)), if_neg (fun e => c (h91.mp e))]
  rw [hB]
  unfold nxt m_rfind2_J68
  by_cases c91 : bf[p]? = some 91
  · rw [if_pos c91, if_pos c91]
    obtain ⟨g0, g1, g2, g3, g4⟩ := stp_idx hs c91
    have hqn : q - p - 2 = rn dgB bf (p + 1) := by omega
    rw [hqn]
    by_cases ck : A.kd y = 7 ∨ A.kd y = 8
    · have hkne : A.kd y ≠ 6 := by omega
      have hx := nd_oV hy (by omega)
      rw [if_pos ck, if_neg (show ¬ nI (A.kd y) < 6 from fun e => by have := (nI_ltI (b := 6) (by omega) (by omega)).mp e; omega), if_neg (show ¬ nI (A.kd y) = 6 from fun e => hkne ((nI_eq (b := 6) (by omega) (by omega)).mp e))]
      unfold m_rfind2_J91
      rw [if_pos rfl, if_neg (show ¬ (1 : Int32) = 0 by decide), nI_s]
      have hnum := rF_number (S := S) (bf := bf) (p := p) (n := rn dgB bf (p + 1)) (y1 := nI r) (y3 := nI (A.oi y)) hb h8 (fun j hj => idx_dg hj) g4
      have hdl : dgv bf (p + 1) (rn dgB bf (p + 1)) < 2 ^ 31 := by
        have h1 := dgv_lt (bf := bf) (p := p + 1) (n := rn dgB bf (p + 1)) (fun j hj => (idx_dg hj).2.2)
        have h2 : 10 ^ (rn dgB bf (p + 1)) ≤ 10 ^ 6 := Nat.pow_le_pow_right (by omega) g3
        omega
      rw [show m_rfind2_L111 S (nI r) (nI (A.oi y)) (nI (p + 1)) 0 = _ from hnum, ob_ok]
      simp only []
      obtain ⟨S3, hLS3, hat⟩ := pS_at hR hA hr hx hkne (nI (dgv bf (p + 1) (rn dgB bf (p + 1))))
      have hR3 := hLS3.RS hR
      rcases hat with ⟨k', s, e, hke, hk31', hfs, hen, hee, hat⟩ | ⟨hnos, hat⟩
      · have hkk := (nI_eq hdl hk31').mp hke
        rw [← hkk] at hfs
        have hsf := fl_at hA hkne (List.mem_of_getElem? hfs)
        have hg := hLS3.get
        have h6 : e < (A.el r y).length := by
          rcases Nat.lt_or_ge e (A.el r y).length with h | h
          · exact h
          · rw [List.getElem?_eq_none h] at hee; cases hee
        have h48 : S3.a 48 e = nI s := by
          rw [hg.2.1 e h6]
          rw [List.getElem?_eq_getElem h6] at hee
          rw [Option.some.inj hee]
        have hs8 : S3.a 8 s = nI (A.id s) := (hR3.2.1 s hsf.2.1).1
        obtain ⟨g, hc1, hc2⟩ := pS_elCand hR3 hA hr hsf.2.1 hsf.2.2.2.2.1 hsf.2.2.2.1 (by rw [hsf.2.2.1]; exact hkne) hg.2.2.1
        rw [hsf.2.2.1] at hc1
        have hR4 : RS ((S3.setA 46 g).setI 47 (nI (A.cd r s).length)) A := (hR3.setA rfl).setI rfl
        have h269 := rF_269 (q := q) hR4 hA hsf.2.2.2.2.2.2 (by
          intro j hj
          rw [MS.a_setI, MS.a_setA, if_pos rfl]
          exact hc2 j hj)
        refine ⟨_, ?_, hR4, hLS3.frS.trans ((frS_setA (by decide)).trans (frS_setI (by decide))), by rw [MS.i_setI, if_neg (by decide), MS.i_setA]; exact hLS3.i0⟩
        rw [hat, ob_ok]
        simp only []
        rw [if_pos (show (0 : Int32) ≤ nI e from nI_pos' (by omega)), gd_ok (by omega) (by omega), cl_nI (by omega), h48, gd_ok (by omega) (by omega), cl_nI (by omega), hs8, hc1, ob_ok, nI_s, show p + 1 + rn dgB bf (p + 1) + 1 = q by omega, h269, hfs]
        rfl
      · refine ⟨S3, ?_, hR3, hLS3.frS, hLS3.i0⟩
        have hnone : (A.fl r y)[dgv bf (p + 1) (rn dgB bf (p + 1))]? = none := by
          rw [List.getElem?_eq_none]
          rcases Nat.lt_or_ge (dgv bf (p + 1) (rn dgB bf (p + 1))) (A.fl r y).length with h | h
          · exact absurd rfl (hnos _ h)
          · exact h
        rw [hat, ob_ok]
        simp only []
        rw [if_neg (show ¬ (0 : Int32) ≤ -nI 1 by decide), hnone]
        rfl
    · rw [if_neg ck]
      refine ⟨S, ?_, hR, frS.refl, rfl⟩
      by_cases c6 : A.kd y < 6
      · rw [if_pos (show nI (A.kd y) < 6 from (nI_ltI (b := 6) (by omega) (by omega)).mpr c6)]
        exact hno
      · have hk6 : A.kd y = 6 := by omega
        rw [hk6, if_neg (show ¬ nI 6 < 6 by decide), if_pos (show nI 6 = 6 by decide)]
        unfold m_rfind2_J91
        rw [if_neg (show ¬ (1 : Int32) = 0 by decide)]
        exact hno
  · rw [if_neg c91, if_neg c91]
    obtain ⟨g1, g2, g3, g4⟩ := stp_key hbb hs c91
    by_cases ck : A.kd y = 6
    · have hx := nd_oV hy (by omega)
      rw [if_pos ck, ck, if_neg (show ¬ nI 6 < 6 by decide), if_pos (show nI 6 = 6 by decide)]
      unfold m_rfind2_J91
      rw [if_pos rfl, if_pos rfl, gd_ok (by omega) (by omega), cl_nI (by omega), hbt.1]
      have hkf : (if sb bf[p] = 46 then m_rfind2_J207 S (nI r) (nI (A.oi y)) (nI p + 1) else m_rfind2_J207 S (nI r) (nI (A.oi y)) (nI p)) = m_rfind2_J207 S (nI r) (nI (A.oi y)) (nI (kfr p)) := by
        unfold kfr
        by_cases e : p = 0
        · have hn46 : ¬ sb bf[p] = 46 := by
            intro h
            have h2 : bf[p] = 46 := e46.mp h
            have h3 := rn_in (q := wdB) (bf := bf) (p := 0) (j := 0) (by omega) (by
              have : kfr p = 0 := by unfold kfr; rw [if_pos e]
              rw [this] at g2
              omega)
            simp only [e] at h2
            simp only [Nat.add_zero, h2] at h3
            exact absurd h3 (by decide)
          rw [if_neg hn46, if_pos e, e]
        · have h46 := g4 e
          rw [List.getElem?_eq_getElem hp] at h46
          rw [if_pos (show sb bf[p] = 46 from e46.mpr (Option.some.inj h46)), if_neg e, nI_s]
      rw [hkf]
      unfold m_rfind2_J207 m_rfind2_J239
      have hkl2 : kfr p ≤ bf.length + 1 := by unfold kfr; split <;> omega
      rw [rF_word h5 hb h8 hkl2, ob_ok]
      simp only []
      rw [← g1, sub_nI (by omega)]
      obtain ⟨sl1, sl2⟩ := slice_get (bf := bf) hq (show kfr p ≤ q by omega)
      obtain ⟨k, hk⟩ : ∃ k, k = (bf.drop (kfr p)).take (q - kfr p) := ⟨_, rfl⟩
      have hkb : byts S 2 (kfr p) k := by
        intro j hj
        simp only [hk] at hj ⊢
        have hlt : kfr p + j < bf.length := by omega
        rw [sl2 j hj]
        exact ⟨(byt0 hb hlt).2, (byt0 hb hlt).1⟩
      rw [← hk] at sl1
      obtain ⟨f, g, hc1, hc2, _⟩ := pS_keyCand hR hA hr hx ck (b := 2) (p := kfr p) (k := k) (by simp) hkb (by omega) (by intro e; rw [e] at sl1; simp at sl1; omega)
      rw [sl1] at hc1
      have hR4 : RS (((S.setA 45 f).setA 46 g).setI 47 (nI (A.kc r y k).length)) A := ((hR.setA rfl).setA rfl).setI rfl
      have hkc8 := kc_len hA (r := r) (x := y) (k := k)
      rw [hc1, ob_ok, ← hk]
      have hfr : frS S (((S.setA 45 f).setA 46 g).setI 47 (nI (A.kc r y k).length)) := ((frS_setA (by decide)).trans (frS_setA (by decide))).trans (frS_setI (by decide))
      have h47 : (((S.setA 45 f).setA 46 g).setI 47 (nI (A.kc r y k).length)).i 47 = nI (A.kc r y k).length := by rw [MS.i_setI, if_pos rfl]
      have hi0 : (((S.setA 45 f).setA 46 g).setI 47 (nI (A.kc r y k).length)).i 0 = S.i 0 := by rw [MS.i_setI, if_neg (by decide), MS.i_setA, MS.i_setA]
      refine ⟨_, ?_, hR4, hfr, hi0⟩
      rw [h47]
      cases hks : A.ks y k with
      | none =>
        have hke : A.kc r y k = [] := by unfold AS.kc; rw [hks]
        rw [hke, if_pos (show nI ([] : List Nat).length = 0 from rfl)]
        rfl
      | some s =>
        have hke : A.kc r y k = A.cd r s := by unfold AS.kc; rw [hks]
        simp only []
        cases hf : A.flB r s with
        | false =>
          have hcd : A.cd r s = [] := by
            cases hc : A.cd r s with
            | nil => rfl
            | cons a l => rw [flB_iff.mpr (by rw [hc]; simp)] at hf; cases hf
          rw [hke, hcd, if_pos (show nI ([] : List Nat).length = 0 from rfl)]
          rfl
        | true =>
          have hne := flB_iff.mp hf
          have hlen : 0 < (A.cd r s).length := List.length_pos_iff.mpr hne
          rw [hke] at hkc8 hR4 hc2 ⊢
          rw [if_neg (show ¬ nI (A.cd r s).length = 0 from fun e => by have := (nI_eq (b := 0) (by omega) (by omega)).mp e; omega)]
          exact rF_269 hR4 hA hf (by
            intro j hj
            rw [MS.a_setI, MS.a_setA, if_pos rfl]
            exact hc2 j hj)
    · rw [if_neg ck]
      refine ⟨S, ?_, hR, frS.refl, rfl⟩
      by_cases c6 : A.kd y < 6
      · rw [if_pos (show nI (A.kd y) < 6 from (nI_ltI (b := 6) (by omega) (by omega)).mpr c6)]
        exact hno
      · rw [if_neg (show ¬ nI (A.kd y) < 6 from fun e => c6 ((nI_ltI (b := 6) (by omega) (by omega)).mp e)), if_neg (show ¬ nI (A.kd y) = 6 from fun e => ck ((nI_eq (b := 6) (by omega) (by omega)).mp e))]
        unfold m_rfind2_J91
        rw [if_neg (show ¬ (0 : Int32) = 1 by decide)]
        exact hno
theorem rF_loop (hR : RS S A) (hA : AI A) (hr : r < 8) (h5 : S.i 5 = nI bf.length) (hb : byts S 2 0 bf) (h8 : bf.length ≤ 8192) (hpk : pok bf (bf.length + 1) 0 = true) :
    ∃ S', m_rfind2_L42 S (nI r) 0 6 (-1) 0 = (match fnd A r bf (bf.length + 1) none 0 with | some y => some (.inl (S', cI y)) | none => some (.inr (S'.setI 0 (nI 2), nI 0))) ∧ RS S' A ∧ frS S S' := by
  obtain ⟨R, hRd⟩ : ∃ R, R = fnd A r bf (bf.length + 1) none 0 := ⟨_, rfl⟩
  rw [← hRd]
  have := lp_run (body := fun w : MS × Int32 × Int32 × Int32 × Int32 × Int32 => m_rfind2_B42 w.1 w.2.1 w.2.2.1 w.2.2.2.1 w.2.2.2.2.1 w.2.2.2.2.2)
    (fun i w => ∃ W y p, w = (W, nI r, nI (A.oi y), nI (A.kd y), cI y, nI p) ∧ i ≤ p ∧ p ≤ bf.length ∧ ndOK A r y ∧ pok bf (bf.length + 1 - i) p = true ∧ fnd A r bf (bf.length + 1 - i) y p = R ∧ RS W A ∧ frS S W)
    (fun e => ∃ W, e = (match R with | some y => Sum.inl (W, cI y) | none => Sum.inr (W.setI 0 (nI 2), nI 0)) ∧ RS W A ∧ frS S W) bf.length ?_ FU (S, nI r, 0, 6, -1, 0) (by unfold FU; omega)
    ⟨S, none, 0, rfl, by omega, by omega, (fun m h => by cases h), hpk, hRd.symm, hR, frS.refl⟩
  · obtain ⟨e, h1, W, rfl, h2, h3⟩ := this
    refine ⟨W, ?_, h2, h3⟩
    unfold m_rfind2_L42
    rw [h1]
    cases R <;> rfl
  · rintro i _ hi ⟨W, y, p, rfl, hip, hpl, hnd, hpk', hfn, w1, w2⟩
    have e5 : W.i 5 = nI bf.length := by rw [w2.1 5 (by simp)]; exact h5
    have hbW := byts_fr hb (w2.2 2 (by simp))
    rw [show bf.length + 1 - i = (bf.length - i) + 1 by omega] at hpk' hfn
    rw [pok_s] at hpk'
    rw [fnd_s] at hfn
    show (∃ a', m_rfind2_B42 W (nI r) (nI (A.oi y)) (nI (A.kd y)) (cI y) (nI p) = _ ∧ _) ∨ (∃ e, m_rfind2_B42 W (nI r) (nI (A.oi y)) (nI (A.kd y)) (cI y) (nI p) = _ ∧ _)
    by_cases c1 : bf.length ≤ p
    · right
      rw [if_pos c1] at hfn
      refine ⟨_, ?_, W, by rw [← hfn], w1, w2⟩
      unfold m_rfind2_B42
      rw [e5, if_pos ((nI_leI (by omega) (by omega)).mpr c1)]
    · rw [if_neg c1] at hpk' hfn
      cases hs : stp bf p with
      | none => rw [hs] at hpk'; cases hpk'
      | some q =>
        rw [hs] at hpk' hfn
        simp only [] at hpk' hfn
        have hql := stp_lt hs
        obtain ⟨S', f1, f2, f3, f4⟩ := rF_step w1 hA hr e5 hbW h8 hnd (by omega) hs (cI y)
        rw [f1]
        unfold rFv
        cases hx : nxt A r bf y p q with
        | none =>
          rw [hx] at hfn
          right
          exact ⟨_, rfl, S', by rw [← hfn], f2, w2.trans f3⟩
        | some z =>
          rw [hx] at hfn
          left
          exact ⟨_, rfl, by omega, S', some z, q, rfl, by omega, hql.2 (by omega), nxt_nd hA hx, by rw [show bf.length + 1 - (i + 1) = bf.length - i by omega]; exact hpk', by rw [show bf.length + 1 - (i + 1) = bf.length - i by omega]; exact hfn, f2, w2.trans f3⟩
end FDF
