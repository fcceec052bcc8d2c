/-! TEXT: the reference's loop. -/
def isI (t : Nat) : Bool := decide (3 ≤ t)
/-- what is true of the stack -/
def PIL (A : AS) (r : Nat) (st : Option Nat) (k : List Nat) (vis ent : Nat → Bool) : Prop :=
  (∀ t, t ∈ k → 3 ≤ t → t - 3 < A.n ∧ A.inV r (t - 3) = true ∧ A.act (t - 3) ≤ 8 ∧ ent (t - 2) = false ∧ vis (A.sp (t - 3)) = true ∧ ox st < t - 2) ∧
  (∀ s, s < A.n → vis s = true → ent (ox (A.obj s)) = true) ∧ (∀ e, ent (ox e) = true → e = st ∨ ∃ m, e = some m ∧ vis (A.sp m) = true) ∧ (k.filter isI).Nodup
section TXO
variable {S S' : MS} {N : Nat → Nat} {C C' : CS} {A : AS} {r rd : Nat} {w : List Nat} {k : List Nat} {st : Option Nat}
theorem tks_mem {t : Nat} : ∀ {l : List Nat}, t ∈ tks l → t = 2 ∨ ∃ c, c ∈ l ∧ t = c + 3 := by
  intro l
  induction l with
  | nil => intro h; cases h
  | cons c l ih =>
    intro h
    rw [tks, List.mem_append, List.mem_append] at h
    rcases h with (h | h) | h
    · rcases ih h with h | ⟨d, h1, h2⟩
      · exact Or.inl h
      · exact Or.inr ⟨d, List.mem_cons_of_mem _ h1, h2⟩
    · split at h
      · cases h
      · exact Or.inl (List.mem_singleton.mp h)
    · exact Or.inr ⟨c, by simp, List.mem_singleton.mp h⟩
theorem tks_items : ∀ {l : List Nat}, (tks l).filter isI = (l.map (· + 3)).reverse := by
  intro l
  induction l with
  | nil => rfl
  | cons c l ih =>
    rw [tks, List.filter_append, List.filter_append, ih, List.map_cons, List.reverse_cons]
    have h1 : (if l.isEmpty = true then [] else [2]).filter isI = [] := by split <;> rfl
    rw [h1, List.append_nil]
    congr 1
/-- an object is begun: its children are piled -/
theorem pil_new (hA : AI A) {k' : List Nat} {c z : Nat} {vis ent : Nat → Bool} (hP : PIL A r st (k' ++ [c + 3]) vis ent) (hz : z < 3) : PIL A r st (k' ++ [z] ++ tks ((A.fl r (some c)).map (A.top r))) (addV vis (A.L (some c))) (fun e => ent e || decide (e = c + 1)) ∧ (∀ t, t ∈ A.L (some c) → vis t = false) := by
  obtain ⟨h1, h2, h3, h4⟩ := hP
  obtain ⟨c1, c2, c3, c4, c5, c6⟩ := h1 (c + 3) (by simp) (by omega)
  simp only [Nat.add_sub_cancel] at c1 c2 c3 c5
  rw [show c + 3 - 2 = c + 1 by omega] at c4 c6
  have hun : ∀ t, t ∈ A.L (some c) → vis t = false := by
    intro t ht
    have htm := L_mem hA ht
    cases hv : vis t with
    | false => rfl
    | true =>
      have := h2 t htm.1 hv
      rw [htm.2.1] at this
      rw [show ox (some c) = c + 1 from rfl, c4] at this
      cases this
  have hch : ∀ d, d ∈ (A.fl r (some c)).map (A.top r) → ∃ s, s ∈ A.L (some c) ∧ d = A.top r s ∧ d < A.n ∧ A.inV r d = true ∧ A.act d ≤ 8 ∧ A.sp d = s ∧ c + 1 < d + 1 := by
    intro d hd
    obtain ⟨s, hs1, hs2⟩ := List.mem_map.mp hd
    unfold AS.fl at hs1
    rw [List.mem_filter] at hs1
    have := ch_ok hA hs1.1 hs1.2
    rw [hs2] at this
    exact ⟨s, hs1.1, hs2.symm, this.1, this.2.2.1, this.2.2.2.1, this.2.2.2.2.1, this.2.2.2.2.2⟩
  have hnde : (k'.filter isI).Nodup ∧ (c + 3) ∉ k'.filter isI := by
    rw [List.filter_append, show [c + 3].filter isI = [c + 3] from by rw [List.filter_cons_of_pos (by unfold isI; simp), List.filter_nil]] at h4
    have := List.nodup_append.mp h4
    exact ⟨this.1, fun h => this.2.2 _ h (c + 3) (by simp) rfl⟩
  refine ⟨⟨?_, ?_, ?_, ?_⟩, hun⟩
  · intro t ht h3t
    rw [List.mem_append, List.mem_append] at ht
    rcases ht with (ht | ht) | ht
    · obtain ⟨d1, d2, d3, d4, d5, d6⟩ := h1 t (by simp [ht]) h3t
      refine ⟨d1, d2, d3, ?_, ?_, d6⟩
      · show (ent (t - 2) || decide (t - 2 = c + 1)) = false
        rw [d4, decide_eq_false]
        · rfl
        · intro e
          apply hnde.2
          rw [List.mem_filter]
          refine ⟨?_, by unfold isI; simp⟩
          rw [show c + 3 = t by omega]
          exact ht
      · unfold addV; rw [d5]; rfl
    · rw [List.mem_singleton.mp ht] at h3t
      omega
    · rcases tks_mem ht with e | ⟨d, hd, e⟩
      · omega
      · obtain ⟨s, s1, s2, s3, s4, s5, s6, s7⟩ := hch d hd
        subst e
        simp only [Nat.add_sub_cancel]
        rw [show d + 3 - 2 = d + 1 by omega]
        refine ⟨s3, s4, s5, ?_, ?_, by omega⟩
        · show (ent (d + 1) || decide (d + 1 = c + 1)) = false
          rw [decide_eq_false (by omega), Bool.or_false]
          cases he : ent (d + 1) with
          | false => rfl
          | true =>
            exfalso
            rcases h3 (some d) he with h | ⟨m, hm1, hm2⟩
            · rw [← h] at c6
              have c6 : d + 1 < c + 1 := c6
              omega
            · rw [← Option.some.inj hm1, s6, hun s s1] at hm2
              cases hm2
        · unfold addV
          rw [s6, decide_eq_true s1, Bool.or_true]
  · intro s hs hv
    unfold addV at hv
    simp only [Bool.or_eq_true, decide_eq_true_eq] at hv ⊢
    rcases hv with hv | hv
    · exact Or.inl (h2 s hs hv)
    · right
      rw [(L_mem hA hv).2.1]
      rfl
  · intro e he
    simp only [Bool.or_eq_true, decide_eq_true_eq] at he
    rcases he with he | he
    · rcases h3 e he with h | ⟨m, hm1, hm2⟩
      · exact Or.inl h
      · exact Or.inr ⟨m, hm1, by unfold addV; rw [hm2]; rfl⟩
    · right
      refine ⟨c, ?_, by unfold addV; rw [c5]; rfl⟩
      cases e with
      | none => simp [ox] at he
      | some q => simp [ox] at he; rw [he]
  · rw [List.filter_append, List.filter_append, tks_items]
    have hz2 : [z].filter isI = [] := by
      rw [List.filter_cons_of_neg (by unfold isI; simp; omega), List.filter_nil]
    rw [hz2, List.append_nil]
    have hndch : (((A.fl r (some c)).map (A.top r)).map (· + 3)).Nodup := by
      rw [List.map_map]
      have hfn := fl_nodup hA (r := r) (x := some c)
      refine List.Pairwise.map (R := fun a b => ((fun x => x + 3) ∘ A.top r) a ≠ ((fun x => x + 3) ∘ A.top r) b) _ ?_ (List.Pairwise.imp_of_mem (S := fun a b => ((fun x => x + 3) ∘ A.top r) a ≠ ((fun x => x + 3) ∘ A.top r) b) ?_ hfn)
      · exact fun a b h => h
      · intro a b ha hb hab e
        unfold AS.fl at ha hb
        rw [List.mem_filter] at ha hb
        have ea := (ch_ok hA ha.1 ha.2).2.2.2.2.1
        have eb := (ch_ok hA hb.1 hb.2).2.2.2.2.1
        have e : A.top r a + 3 = A.top r b + 3 := e
        have e2 : A.top r a = A.top r b := by omega
        rw [e2, eb] at ea
        exact hab ea.symm
    rw [List.nodup_append]
    refine ⟨hnde.1, (List.pairwise_reverse.mpr (hndch.imp (fun h => Ne.symm h))), ?_⟩
    intro a ha b hb hab
    rw [List.mem_reverse] at hb
    obtain ⟨d, hd, e⟩ := List.mem_map.mp hb
    obtain ⟨s, s1, s2, s3, s4, s5, s6, s7⟩ := hch d hd
    rw [List.mem_filter] at ha
    have hm := h1 a (by simp [ha.1]) (by omega)
    have hv := hm.2.2.2.2.1
    rw [hab, ← e, show d + 3 - 3 = d by omega, s6, hun s s1] at hv
    cases hv
theorem pil_pop {k' : List Nat} {t : Nat} {vis ent : Nat → Bool} (hP : PIL A r st (k' ++ [t]) vis ent) : PIL A r st k' vis ent := by
  obtain ⟨h1, h2, h3, h4⟩ := hP
  refine ⟨fun t ht => h1 t (by simp [ht]), h2, h3, ?_⟩
  rw [List.filter_append] at h4
  exact (List.nodup_append.mp h4).1
/-- the top is taken off -/
theorem TS.pop {t : Nat} (h : TS S A w (k ++ [t])) : TS (S.setI 73 (nI k.length)) A w k ∧ S.i 73 = nI (k.length + 1) ∧ S.a 72 k.length = tkI t := by
  refine ⟨⟨h.1.setI rfl, WR_fr h.2.1 rfl rfl, ⟨by rw [MS.i_setI, if_pos rfl], fun i hi => ?_⟩⟩, ?_, ?_⟩
  · have := h.2.2.2 i (by simp; omega)
    rw [List.getElem_append_left hi] at this
    rw [MS.a_setI]
    exact this
  · rw [h.2.2.1, List.length_append, List.length_singleton]
  · have := h.2.2.2 k.length (by simp)
    rw [this, List.getElem_concat_length rfl]
/-- the state of the reference's loop -/
def RI (S0 : MS) (A : AS) (r : Nat) (st : Option Nat) (T : List Nat) (i : Nat) (v : MS × Int32 × Int32) (x4 : Int32) : Prop :=
  ∃ W w k vis ent, v = (W, nI r, x4) ∧ TS W A w k ∧ XS S0 W ∧ T = w ++ k.reverse.flatMap (tkT A r) ∧ PIL A r st k vis ent ∧ k.length + 3 * unS A vis ≤ 3 * A.n + 1 ∧ i + (k.length + (k.filter isI).length) + 4 * unS A vis ≤ 4 * A.n + 1 ∧ w.length ≤ 999000000
def RO (S0 : MS) (A : AS) (T : List Nat) (W : MS) : Prop := ∃ w, RS W A ∧ WR W w ∧ XS S0 W ∧ (w = T ∨ (16384 < w.length ∧ ∃ t, T = w ++ t))
set_option maxHeartbeats 2000000 in
theorem rT_step {S0 : MS} (hA : AI A) (hr : r < 8) {T : List Nat} {i : Nat} {v : MS × Int32 × Int32} {x4 : Int32} (hT : RI S0 A r st T i v x4) :
    (∃ v', m_rtext_B54 v.1 v.2.1 v.2.2 = some (.inl v') ∧ i < 4 * A.n + 1 ∧ RI S0 A r st T (i + 1) v' x4) ∨ (∃ e, m_rtext_B54 v.1 v.2.1 v.2.2 = some (.inr e) ∧ ∃ W, e = (W, x4) ∧ RO S0 A T W) := by
  have hnn := hA.1.1
  obtain ⟨W, w, k, vis, ent, rfl, hS, hX, hTe, hP, h5, h6, hwl⟩ := hT
  simp only []
  unfold m_rtext_B54
  rcases List.eq_nil_or_concat k with hk | ⟨k', t, hk⟩
  · right
    subst hk
    refine ⟨(W, x4), ?_, W, rfl, w, hS.1, hS.2.1, hX, Or.inl (by rw [hTe]; simp)⟩
    rw [hS.2.2.1, if_pos (by decide)]
  · rw [List.concat_eq_append] at hk
    subst hk
    obtain ⟨p1, p2, p3⟩ := hS.pop
    have hkl : k'.length + 1 ≤ 12001 := by simp at h5; omega
    rw [p2, if_neg (fun h => by have := (nI_leI (b := 0) (by omega) (by omega)).mp h; omega), hS.2.1.1, show nI (400000 + w.length) - 400000 = nI w.length from by
      rw [show (400000 : Int32) = nI 400000 from by decide, sub_nI (by omega), Nat.add_sub_cancel_left]]
    by_cases hsp : 16384 < w.length
    · right
      refine ⟨(W, x4), by rw [if_pos (show (16384 : Int32) < nI w.length from (nI_ltI (a := 16384) (by omega) (by omega)).mpr hsp)], W, rfl, w, hS.1, hS.2.1, hX, Or.inr ⟨hsp, _, hTe⟩⟩
    · left
      rw [if_neg (show ¬ (16384 : Int32) < nI w.length from fun h => hsp ((nI_ltI (a := 16384) (by omega) (by omega)).mp h)), show nI (k'.length + 1) - 1 = nI k'.length from nI_pred _, gd_ok (by omega) (by omega), cl_nI (by omega), p3]
      have hX1 : XS S0 (W.setI 73 (nI k'.length)) := hX.trans (XS_setI (by omega))
      obtain ⟨W1, hW1⟩ : ∃ W1, W1 = W.setI 73 (nI k'.length) := ⟨_, rfl⟩
      rw [← hW1] at p1 hX1 ⊢
      have hT2 : T = w ++ (tkT A r t ++ k'.reverse.flatMap (tkT A r)) := by
        rw [hTe, List.reverse_append, List.reverse_singleton, List.flatMap_append, List.flatMap_cons, List.flatMap_nil, List.append_nil]
      have hPp := pil_pop hP
      have hfl : ((k' ++ [t]).filter isI).length = (k'.filter isI).length + (if 3 ≤ t then 1 else 0) := by
        rw [List.filter_append, List.length_append]
        congr 1
        by_cases e : 3 ≤ t
        · rw [if_pos e, List.filter_cons_of_pos (by unfold isI; simp [e])]; rfl
        · rw [if_neg e, List.filter_cons_of_neg (by unfold isI; simp [e])]; rfl
      rw [hfl] at h6
      simp only [List.length_append, List.length_singleton] at h5 h6
      have hlow : t < 3 → ∀ b : Nat, b < 256 → tkT A r t = [b] → ∃ W2, m_rwrite W1 (nI b) = some W2 ∧ RI S0 A r st T (i + 1) (W2, nI r, x4) x4 := by
        intro ht b hb htb
        obtain ⟨W2, a1, a2, a3⟩ := p1.put (by omega) (nI b)
        rw [byt_nI hb] at a2
        refine ⟨W2, a1, W2, w ++ [b], k', vis, ent, rfl, a2, hX1.trans a3.X, ?_, hPp, by omega, ?_, by simp; omega⟩
        · rw [hT2, htb, List.append_assoc]
        · rw [if_neg (by omega)] at h6
          omega
      by_cases t2 : t = 2
      · obtain ⟨W2, a1, a2⟩ := hlow (by omega) 44 (by omega) (by rw [t2]; rfl)
        refine ⟨(W2, nI r, x4), ?_, by omega, a2⟩
        rw [if_pos (by rw [t2]; rfl), show m_rwrite W1 44 = _ from a1, ob_ok]
        rfl
      rw [if_neg (show ¬ tkI t = -3 from fun e => by
        unfold tkI at e
        split at e
        · exact absurd e (by decide)
        · split at e
          · exact absurd e (by decide)
          · have h1 : ((-3 : Int32)) < 0 := by decide
            rw [← e] at h1
            have hm := hP.1 t (by simp) (by omega)
            exact nI_pos (by omega) h1)]
      by_cases t0 : t = 0
      · obtain ⟨W2, a1, a2⟩ := hlow (by omega) 125 (by omega) (by rw [t0]; rfl)
        refine ⟨(W2, nI r, x4), ?_, by omega, a2⟩
        rw [if_pos (by rw [t0]; rfl), show m_rwrite W1 125 = _ from a1, ob_ok]
        rfl
      by_cases t1 : t = 1
      · obtain ⟨W2, a1, a2⟩ := hlow (by omega) 93 (by omega) (by rw [t1]; rfl)
        refine ⟨(W2, nI r, x4), ?_, by omega, a2⟩
        rw [if_neg (by rw [t1]; decide), if_pos (by rw [t1]; rfl), show m_rwrite W1 93 = _ from a1, ob_ok]
        rfl
      -- an op
      obtain ⟨c, rfl⟩ : ∃ c, t = c + 3 := ⟨t - 3, by omega⟩
      obtain ⟨c1, c2, c3, c4, c5, c6⟩ := hP.1 (c + 3) (by simp) (by omega)
      simp only [Nat.add_sub_cancel] at c1 c2 c3 c5
      have hneg : ∀ {y : Int32}, y < 0 → ¬ nI c = y := fun hy e => by rw [← e] at hy; exact nI_pos (by omega) hy
      rw [tkI_c, if_neg (hneg (by decide)), if_neg (hneg (by decide)), gd_ok (by omega) (by omega), cl_nI (by omega)]
      rw [if_pos (by omega)] at h6
      have hitem : tkT A r (c + 3) = nmT A c ++ A.val r c := by
        unfold tkT
        rw [if_neg (by omega), if_neg (by omega), if_neg (by omega)]
        rfl
      rw [hitem] at hT2
      have h15 : W.a 15 c = nI (A.key c).length := (hS.1.2.2.1 c c1).2.1
      have hkn := hA.1.2.2.1
      have hkl2 := (hS.1.2.2.1 c c1).2.2.2.2.2.1
      -- its name
      have hname : ∃ W2, (if W.a 15 c ≤ 0 then m_rtext_J158 W1 (nI r) x4 (nI c) else ob (m_rname W1 (nI c)) (fun o_9 => m_rtext_J158 o_9 (nI r) x4 (nI c))) = m_rtext_J158 W2 (nI r) x4 (nI c) ∧ TS W2 A (w ++ nmT A c) k' ∧ XS S0 W2 := by
        rw [h15]
        unfold nmT
        have hkey := key_nil hA c1
        by_cases e : A.kd (A.obj c) = 6
        · have hk0 : A.key c ≠ [] := fun h => hkey.mp h e
          have hkpos : 0 < (A.key c).length := List.length_pos_iff.mpr hk0
          have hk64 : (A.key c).length ≤ 64 := by
            have hins : A.ins c = 0 := by
              have h01 := (hA.2.2.1.1 c c1).2.2.2.2.2.2
              by_cases e1 : A.ins c = 1
              · exact absurd (hA.2.2.1.2.2.2.2.1 c c1 e1).2.1 hk0
              · omega
            exact ((hA.2.2.1.2.2.2.2.2.1 c c1 hins).2.2.2.2.2 e).2.1
          obtain ⟨W2, a1, a2, a3⟩ := pW_name p1.1 hA p1.2.1 c1 hk0 hk64 (by omega)
          refine ⟨W2, ?_, ⟨a3.RS p1.1, by rw [if_pos e]; exact a2, a3.STK p1.2.2⟩, hX1.trans a3.X⟩
          rw [if_neg (fun h => by have := (nI_leI (b := 0) (by omega) (by omega)).mp h; omega), a1, ob_ok]
        · have hk0 : A.key c = [] := hkey.mpr e
          refine ⟨W1, ?_, by rw [if_neg e, List.append_nil]; exact p1, hX1⟩
          rw [hk0, if_pos (by decide)]
      obtain ⟨W2, hn1, hn2, hn3⟩ := hname
      have hnl : (nmT A c).length ≤ 98400 := by
        unfold nmT
        have := escs_len (A.key c)
        split
        · simp; omega
        · simp
      rw [hn1]
      unfold m_rtext_J158
      have h11 := (hn2.1.2.1 c c1).2.2.2.1
      have h8 := (hn2.1.2.1 c c1).1
      rw [gd_ok (by omega) (by omega), cl_nI (by omega), h11, h8, gd_ok (by omega) (by omega), gd_ok (by omega) (by omega)]
      have hstr : (A.str c).length ≤ 24576 := by omega
      by_cases ha5 : A.act c ≤ 5
      · rw [if_pos (show nI (A.act c) < 6 from (nI_ltI (b := 6) (by omega) (by omega)).mpr (by omega))]
        obtain ⟨W3, b1, b2', b3⟩ := pT_plain hn2.1 hA hr hn2.2.1 (by simp; omega) c1 ha5
        have hpl := plT_len (r := r) hA hstr
        refine ⟨(W3, nI r, x4), by rw [b1, ob_ok]; rfl, by omega, W3, w ++ nmT A c ++ plT A r c, k', vis, ent, rfl, ⟨b3.RS hn2.1, b2', b3.STK hn2.2.2⟩, hn3.trans b3.X, ?_, hPp, by omega, by omega, by simp; omega⟩
        rw [hT2, val_plain hA c1 ha5]
        simp only [List.append_assoc]
      · rw [if_neg (show ¬ nI (A.act c) < 6 from fun h => by have := (nI_ltI (b := 6) (by omega) (by omega)).mp h; omega)]
        have hoV : A.oV r (some c) := ⟨c1, c2, by omega, c3⟩
        have hLl := L_len hA (x := some c)
        have hfll : (A.fl r (some c)).length ≤ (A.L (some c)).length := List.length_filter_le _ _
        by_cases ha8 : A.act c = 8
        · obtain ⟨W3, b1, b2', b3⟩ := pT_text hn2 hA hr hoV ha8 (by simp; omega)
          have hel := elT_len (r := r) hn2.1 hA (y := some c) (R := A.L (some c)) (fun _ h => h)
          refine ⟨(W3, nI r, x4), ?_, by omega, W3, w ++ nmT A c ++ (34 :: elT A r (A.L (some c)) ++ [34]), k', vis, ent, rfl, b2', hn3.trans b3, ?_, hPp, by omega, by omega, by simp; omega⟩
          · rw [ha8, show m_rbegin W2 (nI r) (nI (A.id c)) (nI 8) = _ from b1, ob_ok]
            rfl
          · rw [hT2, val_text hA c1 ha8]
            simp only [List.append_assoc]
        · have h67 : A.act c = 6 ∨ A.act c = 7 := by omega
          have hbeg : ∃ W3 z, m_rbegin W2 (nI r) (nI (A.id c)) (nI (A.act c)) = some W3 ∧ z < 3 ∧ tkT A r z = [clB A (some c)] ∧ TS W3 A (w ++ nmT A c ++ [if A.act c = 6 then 123 else 91]) (k' ++ [z] ++ tks ((A.fl r (some c)).map (A.top r))) ∧ XS W2 W3 := by
            have hun := (pil_new hA hP (z := 0) (by omega)).2
            have hu := unS_add (A := A) vis (l := A.L (some c)) (hA.2.2.1.2.2.2.2.2.2.2.2.1 (some c)).1 (fun t ht => ⟨(L_mem hA ht).1, hun t ht⟩)
            rcases h67 with h | h
            · obtain ⟨W3, b1, b2', b3⟩ := pT_map hn2 hA hr hoV h (by simp; omega) (by omega)
              refine ⟨W3, 0, by rw [h]; exact b1, by omega, ?_, by rw [if_pos h]; exact b2', b3⟩
              unfold clB
              rw [if_pos (show A.kd (some c) = 6 from h)]
              rfl
            · obtain ⟨W3, b1, b2', b3⟩ := pT_list hn2 hA hr hoV h (by simp; omega) (by omega)
              refine ⟨W3, 1, by rw [h]; exact b1, by omega, ?_, by rw [if_neg (by omega)]; exact b2', b3⟩
              unfold clB
              rw [if_neg (show ¬ A.kd (some c) = 6 by show ¬ A.act c = 6; omega)]
              rfl
          obtain ⟨W3, z, b1, b2', b3, b4, b5⟩ := hbeg
          obtain ⟨hPn, hun⟩ := pil_new hA hP b2'
          have hu := unS_add (A := A) vis (l := A.L (some c)) (hA.2.2.1.2.2.2.2.2.2.2.2.1 (some c)).1 (fun t ht => ⟨(L_mem hA ht).1, hun t ht⟩)
          have htl := tks_len (l := (A.fl r (some c)).map (A.top r))
          rw [List.length_map] at htl
          refine ⟨(W3, nI r, x4), by rw [b1, ob_ok]; rfl, by omega, W3, _, _, _, _, rfl, b4, hn3.trans b5, ?_, hPn, ?_, ?_, by simp; omega⟩
          · rw [hT2, val_obj hA c1 h67, List.reverse_append, List.reverse_append, List.flatMap_append, List.flatMap_append, tks_out (g := fun c => nmT A c ++ A.val r c)]
            · rw [List.reverse_singleton, List.flatMap_cons, List.flatMap_nil, List.append_nil, b3]
              show _ = w ++ nmT A c ++ [if A.act c = 6 then 123 else 91] ++ (csF true (itT A r (A.val r) (A.L (some c))) ++ ([clB A (some c)] ++ k'.reverse.flatMap (tkT A r)))
              simp only [List.append_assoc]
            · intro d
              unfold tkT
              rw [if_neg (by omega), if_neg (by omega), if_neg (by omega)]
              rfl
          · simp only [List.length_append, List.length_singleton]
            omega
          · rw [List.filter_append, List.filter_append, tks_items]
            have hz2 : [z].filter isI = [] := by
              rw [List.filter_cons_of_neg (by unfold isI; simp; omega), List.filter_nil]
            rw [hz2, List.append_nil]
            simp only [List.length_append, List.length_singleton, List.length_reverse, List.length_map]
            omega
end TXO
