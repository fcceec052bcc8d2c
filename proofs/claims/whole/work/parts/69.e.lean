/-! THE CLASS: a new op stands in its place: RCu becomes RC. -/
section FIN
variable {N : Nat → Nat} {C C' : CS} {A : AS} {r rd : Nat} {x : Option Nat} {act : Nat} {num : Int64} {ins : Nat} {par : Option Nat} {s : Nat} {key pre : List Nat} {pl : Nat} {Lx Os : List Nat}
theorem setP_i {r' : Nat → Nat → Nat → Option Nat} : (C.setP r').i = C.i := rfl
theorem setP_r {r' : Nat → Nat → Nat → Option Nat} : (C.setP r').r = r' := rfl
theorem st_congr (h : ∀ k g j, k ≠ 3 → k ≠ 7 → C'.r k g j = C.r k g j) (hs : RC_st C) : RC_st C' := by
  unfold RC_st at *
  rw [h 11 0 0 (by decide) (by decide), h 11 1 0 (by decide) (by decide), h 11 2 0 (by decide) (by decide), h 11 3 0 (by decide) (by decide), h 11 4 0 (by decide) (by decide), h 11 5 0 (by decide) (by decide), h 11 6 0 (by decide) (by decide), h 8 0 0 (by decide) (by decide), h 8 1 0 (by decide) (by decide), h 8 2 0 (by decide) (by decide), h 8 3 0 (by decide) (by decide), h 10 0 0 (by decide) (by decide), h 10 1 0 (by decide) (by decide), h 10 2 0 (by decide) (by decide), h 1 0 0 (by decide) (by decide), h 1 1 0 (by decide) (by decide), h 2 0 0 (by decide) (by decide), h 2 1 0 (by decide) (by decide), h 6 0 0 (by decide) (by decide), h 6 1 0 (by decide) (by decide), h 6 2 0 (by decide) (by decide)]
  exact hs
/-- what the writing of references of ops and spots alone leaves -/
theorem RCu_congr {B : AS} {M : Nat → Nat} {r' : Nat → Nat → Nat → Option Nat} (h : ∀ k g j, k ≠ 3 → k ≠ 7 → r' k g j = C.r k g j) (h1 : ∀ j, r' 3 1 j = C.r 3 1 j) (h7 : ∀ j, r' 3 7 j = C.r 3 7 j) (hM : M 15 = N 15)
    (U : RC_st C ∧ RC_sz C A.m ∧ RC_rt C ∧ RC_pr N C B ∧ RC_id C B ∧ RC_kp C B ∧ RC_cg C B ∧ RC_rp C B ∧ RC_opm C B) : RC_st (C.setP r') ∧ RC_sz (C.setP r') A.m ∧ RC_rt (C.setP r') ∧ RC_pr M (C.setP r') B ∧ RC_id (C.setP r') B ∧ RC_kp (C.setP r') B ∧ RC_cg (C.setP r') B ∧ RC_rp (C.setP r') B ∧ RC_opm (C.setP r') B := by
  obtain ⟨b1, b2, b3, b4, b5, b6, b7, b8, b9⟩ := U
  refine ⟨st_congr (C := C) h b1, ?_, ?_, ?_, b5, b6, ?_, ?_, ?_⟩
  · obtain ⟨z1, z2, z3, z4, z5, z6, z7, z8, z9, z10, z11, z12, z13, z14, z15, z16⟩ := b2
    refine ⟨z1, z2, z3, z4, z5, z6, z7, z8, z9, z10, z11, z12, ?_, z14, ?_, z16⟩
    · intro q hq
      obtain ⟨y1, y2, y3, y4, y5⟩ := z13 q hq
      exact ⟨y1, (h 4 1 q (by decide) (by decide)).trans y2, (h 4 2 q (by decide) (by decide)).trans y3, (h 4 3 q (by decide) (by decide)).trans y4, y5⟩
    · intro j hj
      exact (h 5 0 j (by decide) (by decide)).trans (z15 j hj)
  · exact ⟨b3.1, (h1 0).trans b3.2.1, b3.2.2⟩
  · intro o ho
    have h2 := b4 o ho
    cases hp : B.pre o with
    | nil => rw [hp] at h2; exact (h7 _).trans h2
    | cons a l =>
      rw [hp] at h2
      obtain ⟨j, c1, c2, c3, c4⟩ := h2
      exact ⟨j, c1, by rw [hM]; exact c2, (h7 _).trans c3, c4⟩
  · obtain ⟨d1, d2, d3, d4⟩ := b7
    refine ⟨d1, d2, d3, ?_⟩
    intro c hc
    obtain ⟨y1, y2, y3, y4, y5, y6, y7, y8, y9⟩ := d4 c hc
    exact ⟨y1, y2, y3, y4, y5, y6, (h 0 5 c (by decide) (by decide)).trans y7, (h 0 6 c (by decide) (by decide)).trans y8, y9⟩
  · intro q hq
    obtain ⟨y1, y2, y3, y4, y5⟩ := b8 q hq
    exact ⟨y1, y2, y3, (h 4 4 q (by decide) (by decide)).trans y4, y5⟩
  · intro o ho
    obtain ⟨y1, y2, y3⟩ := b9 o ho
    exact ⟨y1, (h1 _).trans y2, y3⟩
/-- linked at a spot that was there -/
theorem RCu.linked {r' : Nat → Nat → Nat → Option Nat} (hA : AI A) (U : RCu N C A (A.mk r x act num 0 none s key pre pl (A.L x) Os)) (hs : s < A.n) (hss : A.sp s = s) (hw : WF N (C.setP r')) (h11 : r' 3 11 (A.n + 1) = some (A.sj s)) (hch : chn (r' 3 12) (r' 7 1 (A.sj s)) (Os.map (· + 1)))
    (hf : ∀ k g j, ¬ (k = 3 ∧ g = 11 ∧ j = A.n + 1) → ¬ (k = 3 ∧ g = 12 ∧ (j = A.n + 1 ∨ ∃ o, o ∈ A.O s ∧ j = o + 1)) → ¬ (k = 7 ∧ g = 1 ∧ j = A.sj s) → r' k g j = C.r k g j) : RC0 N (C.setP r') (A.mk r x act num 0 none s key pre pl (A.L x) Os) := by
  obtain ⟨⟨u0, u1, u2, u3, u4, u5, u6, u7, u8, u9, u10, u11, u12, u13, u14, u15, u16, u17, u18⟩, b2, b3, b4, b5, b6, b7, b8, b9, b10, b11, b12, b13, b14⟩ := U
  have hsn : ¬ s = A.n := by omega
  obtain ⟨c1, c2, c3, c4, c5, c6, c7, c8, c9⟩ := RCu_congr (A := A) (M := N) (fun k g j e1 e2 => hf k g j (by omega) (by omega) (by omega)) (fun j => hf 3 1 j (by omega) (by omega) (by omega)) (fun j => hf 3 7 j (by omega) (by omega) (by omega)) rfl ⟨b3, b4, b5, b6, b7, b8, b9, b10, b11⟩
  refine ⟨⟨u0, u1, u2, ?_, u4, u5, u6, ?_, u8, u9, u10, u11, u12, u13, u14, u15, u16, u17, u18⟩, hw, c1, c2, c3, c4, c5, c6, c7, c8, ?_, ?_⟩
  · rw [mk_n]; exact u3
  · rw [mk_ns, if_neg hsn]; exact u7
  · intro o ho
    obtain ⟨y1, y2, y3, y4, y5, y6, y7, y8⟩ := c9 o ho
    rw [mk_n] at ho
    have hlk : (C.setP r').i 3 5 (o + 1) = nI ((A.mk r x act num 0 none s key pre pl (A.L x) Os).ins o) ∧ (C.setP r').r 3 6 (o + 1) = ((A.mk r x act num 0 none s key pre pl (A.L x) Os).par o).map (· + 1) ∧ (C.setP r').r 3 11 (o + 1) = some ((A.mk r x act num 0 none s key pre pl (A.L x) Os).sj ((A.mk r x act num 0 none s key pre pl (A.L x) Os).sp o)) := by
      rw [mk_ins, mk_par, mk_sp, mk_sj, setP_i, setP_r]
      by_cases e : o = A.n
      · subst e
        simp only [if_true, hsn, if_false]
        refine ⟨b14.1, ?_, h11⟩
        rw [hf 3 6 (A.n + 1) (by omega) (by omega) (by omega)]
        exact b14.2.1
      · have h12 := b12 o (by omega)
        have hspo : ¬ A.sp o = A.n := by have := (((hA.2.2.1.2.2.2.2.2.2.2.2.1 _).2.1 _).mp (sp_L hA (show o < A.n by omega))).1; omega
        simp only [e, hspo, if_false]
        rw [hf 3 6 (o + 1) (by omega) (by omega) (by omega), hf 3 11 (o + 1) (by omega) (by omega) (by omega)]
        exact h12
    exact ⟨y1, y2, y3, y4, y5, hlk.1, hlk.2.1, y6, y7, y8, hlk.2.2⟩
  · obtain ⟨l1, l2, l3⟩ := b13
    refine ⟨?_, ?_, ?_⟩
    · intro t ht hts
      rw [mk_n] at ht
      rw [mk_sp] at hts
      have htn : ¬ t = A.n := by
        intro e
        rw [if_pos e] at hts
        omega
      rw [if_neg htn] at hts
      obtain ⟨m1, m2, m3⟩ := l1 t (by omega) hts
      rw [mk_sj, if_neg htn, mk_ns, if_neg hsn, mk_O, setP_r]
      refine ⟨m1, by rw [hf 7 0 _ (by omega) (by omega) (by omega)]; exact m2, ?_⟩
      by_cases e : t = s
      · subst e
        rw [if_pos rfl]
        exact hch
      · rw [if_neg e]
        have hne : ¬ A.sj t = A.sj s := fun h => e (l2 t s (by omega) hs hts hss h)
        rw [hf 7 1 (A.sj t) (by omega) (by omega) (by omega)]
        refine chn_congr ?_ m3
        intro y hy
        rw [List.mem_map] at hy
        obtain ⟨o, ho, rfl⟩ := hy
        have h2 := ((hA.2.2.1.2.2.2.2.2.2.2.2.2 t).2.1 o).mp ho
        refine (hf 3 12 (o + 1) (by omega) ?_ (by omega)).symm
        rintro ⟨_, _, h3 | ⟨o', h3, h4⟩⟩
        · omega
        · have h5 := ((hA.2.2.1.2.2.2.2.2.2.2.2.2 s).2.1 o').mp h3
          have : o' = o := by omega
          subst this
          exact e (by rw [← h2.2, h5.2])
    · intro a b ha hb hsa hsb he
      rw [mk_n] at ha hb
      rw [mk_sp] at hsa hsb
      have ha' : ¬ a = A.n := by intro e; rw [if_pos e] at hsa; omega
      have hb' : ¬ b = A.n := by intro e; rw [if_pos e] at hsb; omega
      rw [if_neg ha'] at hsa
      rw [if_neg hb'] at hsb
      rw [mk_sj, mk_sj, if_neg ha', if_neg hb'] at he
      exact l2 a b (by omega) (by omega) hsa hsb he
    · intro y hy
      rw [mk_L, setP_r]
      have hyn : ∀ m, y = some m → m < A.n + 1 := hy
      have e1 : (if y = x then A.L x else A.L y) = A.L y := by
        split
        · rename_i e; rw [e]
        · rfl
      rw [e1]
      have hsj : (A.L y).map (A.mk r x act num 0 none s key pre pl (A.L x) Os).sj = (A.L y).map A.sj := by
        apply List.map_congr_left
        intro t ht
        rw [mk_sj, if_neg (by have := (L_mem hA ht).1; omega)]
      rw [hsj, hf 3 13 _ (by omega) (by omega) (by omega)]
      have e2 : r' 7 2 = C.r 7 2 := by
        funext j
        exact hf 7 2 j (by omega) (by omega) (by omega)
      rw [e2]
      by_cases e : y = some A.n
      · subst e
        have : A.L (some A.n) = [] := by
          cases hl : A.L (some A.n) with
          | nil => rfl
          | cons t l =>
            have h5 := L_mem hA (show t ∈ A.L (some A.n) by rw [hl]; simp)
            have := (hA.2.2.1.2.2.2.1 t A.n h5.1 h5.2.1).1
            omega
        rw [this]
        exact b14.2.2
      · refine l3 y ?_
        intro m hm
        have := hyn m hm
        have : m ≠ A.n := by rintro rfl; exact e hm
        omega
end FIN
