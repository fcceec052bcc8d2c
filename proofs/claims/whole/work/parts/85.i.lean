/-! TEXT: the class writes an object, whole. -/
section TXI
variable {S S' : MS} {N : Nat → Nat} {C C' : CS} {A : AS} {r rd : Nat} {w : List Nat} {st : Option Nat}
theorem FOK_lt (hA : AI A) : ∀ {fs : List (Option Nat × List Nat)} {f : Option Nat × List Nat}, FOK A r st (f :: fs) → ∀ g, g ∈ fs → ox g.1 < ox f.1 ∧ ∀ t, t ∈ g.2 → A.obj t = g.1 := by
  intro fs
  induction fs with
  | nil => intro f _ g hg; cases hg
  | cons h fs ih =>
    intro f hF g hg
    obtain ⟨⟨m, h1, h2, h3, h4, pre, h5⟩, a1, a2, a3, a4⟩ := hF
    have hlt : ox h.1 < ox f.1 := by
      rw [h1, ← h3]
      cases ho : A.obj m with
      | none => simp [ox]
      | some q =>
        have := (hA.2.2.1.2.2.2.1 m q h2 ho).1
        simp [ox]
        omega
    rcases List.mem_cons.mp hg with e | e
    · rw [e]
      refine ⟨hlt, fun t ht => ?_⟩
      have : t ∈ A.L h.1 := by rw [h5]; simp [ht]
      exact (L_mem hA this).2.1
    · have := ih a4 g e
      exact ⟨by omega, this.2⟩
theorem ox_ne {a b : Option Nat} (h : ox a < ox b) : a ≠ b := by rintro rfl; omega
/-- the state of the class's loop -/
def TI (N : Nat → Nat) (C : CS) (A : AS) (r rd : Nat) (st : Option Nat) (T : List Nat) (i : Nat) (v : CS × Option Nat × Option Nat × Option Nat × Int32 × Int32) : Prop :=
  (∃ W y R fs w vis ent rd1, v = (W, some (ox st), some (ox y), (R.map A.sj).head?, 1, nI i) ∧ FOK A r st ((y, R) :: fs) ∧ T = w ++ rstF A r (lastB w) ((y, R) :: fs) ∧ w ≠ [] ∧ WB W w ∧ RC N W A rd1 ∧ VC W A r ∧ frX C W ∧ SEEN A st ((y, R) :: fs) vis ent ∧ (∀ f, f ∈ (y, R) :: fs → ent (ox f.1) = true) ∧ i + 2 * unS A vis + ((y, R) :: fs).length ≤ 2 * A.n + 1 ∧ rd1 + unS A vis ≤ rd + A.n ∧ rd ≤ rd1) ∨
  (∃ W x rd1, v = (W, some (ox st), x, none, 0, nI i) ∧ WB W T ∧ RC N W A rd1 ∧ VC W A r ∧ frX C W ∧ rd ≤ rd1 ∧ rd1 ≤ rd + A.n ∧ i ≤ 2 * A.n + 2)
/-- what comes out -/
def TO (N : Nat → Nat) (C : CS) (A : AS) (r rd : Nat) (T : List Nat) (W : CS) : Prop :=
  ∃ w rd1, WB W w ∧ (w = T ∨ (16384 < w.length ∧ ∃ t, T = w ++ t)) ∧ RC N W A rd1 ∧ VC W A r ∧ frX C W ∧ rd ≤ rd1 ∧ rd1 ≤ rd + A.n
set_option maxHeartbeats 2000000 in
theorem cT_step (hA : AI A) (hrd : rd + 10000 < 2 ^ 30) {T : List Nat} {i : Nat} {v : CS × Option Nat × Option Nat × Option Nat × Int32 × Int32} (hT : TI N C A r rd st T i v) :
    (∃ v', m_cWr_writeObject_B40 N 0 v.1 v.2.1 v.2.2.1 v.2.2.2.1 v.2.2.2.2.1 v.2.2.2.2.2 = some (.inl v') ∧ i < 2 * A.n + 2 ∧ TI N C A r rd st T (i + 1) v') ∨ (∃ e, m_cWr_writeObject_B40 N 0 v.1 v.2.1 v.2.2.1 v.2.2.2.1 v.2.2.2.2.1 v.2.2.2.2.2 = some (.inr e) ∧ TO N C A r rd T e) := by
  have hnn := hA.1.1
  rcases hT with ⟨W, y, R, fs, w, vis, ent, rd1, rfl, hF, hTe, hwne, hw, G, hv, hX, hS, hE, hM, hrd1, hrd2⟩ | ⟨W, x, rd1, rfl, hw, G, hv, hX, hr1, hr2, hi⟩
  · obtain ⟨u0, u1, u2, u3, u4, u5, u6, u7, u8, u9, u10, u11, u12, u13, u14, u15, u16, u17, u18⟩ := G.nn
    simp only []
    have hlen1 : 1 ≤ ((y, R) :: fs).length := by simp
    unfold m_cWr_writeObject_B40
    rw [if_neg (show ¬ (12000 : Int32) < nI i from fun h => by have := (nI_ltI (a := 12000) (by omega) (by omega)).mp h; omega), if_neg (show ¬ (1 : Int32) = 0 by decide), gl_ok (by omega), G.TB.2.2.2.1, gn_s (by omega), hw.2.1]
    by_cases hsp : 16384 < w.length
    · right
      rw [if_pos hsp, if_neg (show ¬ nI 1 = 0 by decide)]
      exact ⟨W, rfl, w, rd1, hw, Or.inr ⟨hsp, _, hTe⟩, G, hv, hX, hrd2, by omega⟩
    · left
      rw [if_neg hsp, if_pos (show nI 0 = 0 by decide)]
      obtain ⟨⟨pre, hL⟩, hnd, hkd, hst0, hstle⟩ := FOK_top hF
      have hL : A.L y = pre ++ R := hL
      have hstle : ox st ≤ ox y := hstle
      have hyl : ∀ m, y = some m → m < A.n := fun m hm => (hnd m hm).1
      have hstl : ∀ m, st = some m → m < A.n := by
        intro m hm
        have h1 := ox_lt hyl
        rw [hm] at hstle
        have hstle : m + 1 ≤ ox y := hstle
        omega
      have hox := ox_lt hyl
      have hoxs := ox_lt hstl
      have hkdc := kd_ox G hyl
      have hlt := FOK_lt hA hF
      cases R with
      | nil =>
        -- the object is closed
        show ∃ v', on none _ _ = _ ∧ _
        rw [on_none]
        unfold m_cWr_writeObject_J79
        show ∃ v', on none _ _ = _ ∧ _
        rw [on_none, gl_ok (by omega), gn_s (by omega), hkdc]
        obtain ⟨C1, a1, a2, a3, a4⟩ := G.TB.put hw (nI (clB A y))
        have hcl : clB A y < 256 := by unfold clB; split <;> omega
        rw [byt_nI hcl] at a2
        have hJ : (if nI (A.kd y) = 6 then m_cWr_writeObject_J105 N 0 W (some (ox st)) (some (ox y)) (nI i) 125 (W.r 2 1 0) else m_cWr_writeObject_J105 N 0 W (some (ox st)) (some (ox y)) (nI i) 93 (W.r 2 1 0)) = m_cWr_writeObject_J105 N 0 W (some (ox st)) (some (ox y)) (nI i) (nI (clB A y)) (some 2) := by
          unfold clB
          rw [G.TB.2.2.2.1]
          rcases hkd with h | h
          · have h : A.kd y = 6 := h
            rw [h]; rfl
          · have h : A.kd y = 7 := h
            rw [h]; rfl
        rw [hJ]
        unfold m_cWr_writeObject_J105
        rw [gn_s (by omega), a1, ob_ok, gv_ok (by omega), gv_ok (by omega)]
        have hT2 : T = (w ++ [clB A y]) ++ rstF A r false fs := by
          rw [hTe]
          show w ++ (csF (lastB w) [] ++ [clB A y] ++ rstF A r false fs) = _
          rw [show csF (lastB w) [] = [] from rfl]
          simp
        cases fs with
        | nil =>
          have hys : y = st := hst0 rfl
          rw [if_pos (by rw [hys])]
          unfold m_cWr_writeObject_J118 m_cWr_writeObject_J136 m_cWr_writeObject_J150 m_cWr_writeObject_J242
          rw [if_pos rfl, if_pos rfl]
          refine ⟨_, rfl, by simp at hM; omega, Or.inr ⟨C1, some (ox st), rd1, by rw [nI_s], ?_, a3.RC G, a3.VC hv, hX.trans a3.X, hrd2, by omega, by simp at hM; omega⟩⟩
          rw [hT2]
          simpa [rstF] using a2
        | cons g fs =>
          obtain ⟨⟨m, h1, h2, h3, h4, pre2, h5⟩, _, _, _, hF2⟩ := hF
          have h1 : y = some m := h1
          have hop := (a3.RC G).op m h2
          have hne : ¬ some (ox y) = some (ox st) := fun e => by have := Option.some.inj e; have h4 : ox st < ox y := h4; omega
          rw [if_neg hne]
          have hspm : A.sp m < A.n ∧ A.sp (A.sp m) = A.sp m := by
            have : A.sp m ∈ A.L g.1 := by rw [h5]; simp
            have := L_mem hA this
            exact ⟨this.1, this.2.2⟩
          have hsj := (G.ln.1 _ hspm.1 hspm.2).1
          have hgl : ∀ q, g.1 = some q → q < A.n := fun q hq => by have := (hA.2.2.1.2.2.2.1 m q h2 (by rw [h3]; exact hq)).1; omega
          have hnx := chain_next (a3.RC G) hgl h5
          unfold m_cWr_writeObject_J118 m_cWr_writeObject_J136 m_cWr_writeObject_J150 m_cWr_writeObject_J242
          rw [if_neg (show ¬ (1 : Int32) = 0 by decide), gn_s (by omega), h1, show ox (some m) = m + 1 from rfl, hop.2.2.2.2.2.2.2.2.2.2, gn_s (by omega), hnx, if_neg (show ¬ (1 : Int32) = 0 by decide), gn_s (by omega), hop.2.1, h3]
          refine ⟨_, rfl, by simp at hM; omega, Or.inl ⟨C1, g.1, g.2, fs, w ++ [clB A y], vis, ent, rd1, by rw [nI_s], hF2, ?_, by simp, a2, a3.RC G, a3.VC hv, hX.trans a3.X, ⟨fun f hf => hS.1 f (List.mem_cons_of_mem _ hf), hS.2.1, hS.2.2⟩, fun f hf => hE f (List.mem_cons_of_mem _ hf), ?_, hrd1, hrd2⟩⟩
          · rw [lastB_snoc, hT2]
            have : (decide (clB A y = 123) || decide (clB A y = 91)) = false := by unfold clB; split <;> rfl
            rw [this]
          · simp only [List.length_cons] at hM ⊢
            omega
      | cons s R =>
        have hsL : s ∈ A.L y := by rw [hL]; simp
        have hsm := L_mem hA hsL
        have hsj := (G.ln.1 s hsm.1 hsm.2.2).1
        obtain ⟨C2, c1, c2, G2⟩ := cV_top G hA hv hsm.1 hsm.2.2 (by omega)
        have hv2 := c2.toVC hv
        have hXv := VR.X c2
        have hw2 := hXv.2 _ hw
        have hvis : vis s = false := hS.1 (y, s :: R) (by simp) s (by simp)
        have hdis : ∀ f, f ∈ fs → s ∉ f.2 := by
          intro f hf hs
          have h1 := hlt f hf
          have h2 := h1.2 s hs
          rw [hsm.2.1] at h2
          exact ox_ne h1.1 h2.symm
        have hEy : ent (ox y) = true := hE (y, s :: R) (by simp)
        have hnext : ∀ {W' : CS}, W'.r = W.r → W'.r 7 2 (A.sj s) = (R.map A.sj).head? := fun h => by rw [h]; exact chain_next G hyl hL
        show ∃ v', on (some (A.sj s)) _ _ = _ ∧ _
        rw [onSome, gl_ok (by omega), G.st.2.2.2.2.2.2.2.2.2.2.2.2.2.2.2.2.1, gn_s (by omega), c1, ob_ok]
        simp only []
        unfold m_cWr_writeObject_J79
        show ∃ v', on (some (A.sj s)) _ _ = _ ∧ _
        rw [onSome]
        have hu1 := unS_add (A := A) vis (l := [s]) (by simp) (fun t ht => by rw [List.mem_singleton.mp ht]; exact ⟨hsm.1, hvis⟩)
        rw [List.length_singleton] at hu1
        cases hf : A.flB r s with
        | false =>
          rw [if_neg (by decide), on_none, gl_ok (by omega), hnext c2.rr]
          unfold m_cWr_writeObject_J242
          have hS2 := seen_step hA hS hF hEy hdis (l := []) (c := none) (Or.inl ⟨rfl, rfl⟩) (fun f _ t _ h => by cases h)
          refine ⟨_, rfl, by omega, Or.inl ⟨C2, y, R, fs, w, addV vis [s], _, rd1 + 1, by rw [nI_s], FOK_drop hF, ?_, hwne, hw2, G2, hv2, hX.trans hXv.1, hS2, ?_, ?_, by omega, by omega⟩⟩
          · rw [hTe]
            show w ++ (csF (lastB w) (itT A r (A.val r) (s :: R)) ++ [clB A y] ++ rstF A r false fs) = w ++ (csF (lastB w) (itT A r (A.val r) R) ++ [clB A y] ++ rstF A r false fs)
            rw [itT_cons, if_neg (by rw [hf]; decide)]
          · intro f hf2
            simp only [Bool.or_eq_true]
            left
            rcases List.mem_cons.mp hf2 with e | e
            · rw [e]; exact hEy
            · exact hE f (List.mem_cons_of_mem _ e)
          · simp only [List.length_cons] at hM ⊢
            omega
        | true =>
          obtain ⟨t1, t2, t3, t4, t5, t6⟩ := ch_ok hA hsL hf
          obtain ⟨c, hc⟩ : ∃ c, c = A.top r s := ⟨_, rfl⟩
          rw [← hc] at t1 t2 t3 t4 t5 t6
          have hnew := seen_new hA hS hsL hf hstle
          rw [← hc] at hnew
          obtain ⟨C3, d1, d2, d3⟩ := cW_before G2 hA hw2 hwne (by omega) t1
          have G3 := d3.RC G2
          have hv3 := d3.VC hv2
          have hop3 := G3.op c t1
          have hr3 : C3.r = W.r := d3.rr.trans c2.rr
          have hT2 : T = (w ++ (if lastB w = true then [] else [44]) ++ nmT A c) ++ (A.val r c ++ (csF false (itT A r (A.val r) R) ++ [clB A y] ++ rstF A r false fs)) := by
            rw [hTe]
            show w ++ (csF (lastB w) (itT A r (A.val r) (s :: R)) ++ [clB A y] ++ rstF A r false fs) = _
            rw [itT_cons, if_pos hf, csF_cons, ← hc]
            simp only [List.append_assoc]
          obtain ⟨w3, hw3⟩ : ∃ w3, w3 = w ++ (if lastB w = true then [] else [44]) ++ nmT A c := ⟨_, rfl⟩
          rw [← hw3] at d2 hT2
          have hw3ne : w3 ≠ [] := by
            rw [hw3]
            intro e
            have := List.append_eq_nil_iff.mp e
            have := List.append_eq_nil_iff.mp this.1
            exact hwne this.1
          rw [if_pos rfl, onSome, gl_ok (by omega), gl_ok (by omega), ← hc, d1, ob_ok, hop3.2.2.1]
          have hXf := (hX.trans hXv.1).trans d3.X
          -- no spot of another frame lies in c
          have hld : ∀ f, f ∈ (y, R) :: fs → ∀ t, t ∈ f.2 → t ∉ A.L (some c) := by
            intro f hf2 t ht hm
            have h1 := (L_mem hA hm).2.1
            rcases List.mem_cons.mp hf2 with e | e
            · rw [e] at ht
              have : t ∈ A.L y := by rw [hL]; simp [show t ∈ R from ht]
              rw [(L_mem hA this).2.1] at h1
              rw [h1] at t6
              omega
            · have h2 := hlt f e
              rw [h2.2 t ht] at h1
              rw [← h1] at t6
              have h3 := h2.1
              have h3 : ox f.1 < ox y := h3
              omega
          by_cases hk67 : A.act c = 6 ∨ A.act c = 7
          · -- it enters
            have hJ : (if nI (A.act c) = 6 then m_cWr_writeObject_J193 N 0 C3 (some (ox st)) (some (ox y)) (some (A.sj s)) 1 (nI i) (some (c + 1)) else (if nI (A.act c) = 7 then m_cWr_writeObject_J193 N 0 C3 (some (ox st)) (some (ox y)) (some (A.sj s)) 1 (nI i) (some (c + 1)) else m_cWr_writeObject_J198 N 0 C3 (some (ox st)) (some (ox y)) (some (A.sj s)) 1 (nI i) (some (c + 1)) 0)) = m_cWr_writeObject_J193 N 0 C3 (some (ox st)) (some (ox y)) (some (A.sj s)) 1 (nI i) (some (c + 1)) := by
              rcases hk67 with h | h
              · rw [h]; rfl
              · rw [h]; rfl
            have hcl : ∀ m, (some c : Option Nat) = some m → m < A.n := fun m hm => by rw [← Option.some.inj hm]; exact t1
            obtain ⟨C4, f1, f2, f3⟩ := cW_enter G3 d2 (y := some c) hcl hk67
            have hS2 := seen_step hA hS hF hEy hdis (l := []) (c := some c) (Or.inr ⟨c, rfl, t1, t5, fun t ht => by cases ht⟩) (fun f _ t _ h => by cases h)
            refine ⟨(C4, some (ox st), some (ox (some c)), ((A.L (some c)).map A.sj).head?, 1, nI (i + 1)), ?_, by omega, Or.inl ⟨C4, some c, A.L (some c), (y, R) :: fs, w3 ++ [if A.kd (some c) = 6 then 123 else 91], addV vis [s], (fun e => ent e || decide ((some c : Option Nat) ≠ none ∧ e = ox (some c))), rd1 + 1, rfl, ?_, ?_, by simp, f2, f3.RC G3, f3.VC hv3, hXf.trans f3.X, ⟨?_, hS2.2.1, hS2.2.2⟩, ?_, ?_, by omega, by omega⟩⟩
            · rw [show ((s :: R).map A.sj).head? = some (A.sj s) from rfl, hJ]
              unfold m_cWr_writeObject_J193 m_cWr_writeObject_J198 m_cWr_writeObject_J211 m_cWr_writeObject_J222 m_cWr_writeObject_J241 m_cWr_writeObject_J242
              rw [if_neg (show ¬ (1 : Int32) = 0 by decide), if_neg (show ¬ (1 : Int32) = 0 by decide), if_neg (show ¬ (1 : Int32) = 0 by decide), gn_s (by omega), gl_ok (by omega), show m_cWr_enter N 0 C3 (c + 1) = _ from f1, ob_ok, nI_s]
              rfl
            · refine ⟨⟨c, rfl, t1, t2, by show ox st < ox (some c); omega, pre, ?_⟩, ⟨[], rfl⟩, ?_, hk67, FOK_drop hF⟩
              · rw [t5]; exact hL
              · intro m hm
                rw [← Option.some.inj hm]
                exact ⟨t1, t3, t4⟩
            · rw [lastB_snoc, hT2, val_obj hA t1 hk67]
              have : (decide ((if A.kd (some c) = 6 then 123 else 91) = 123) || decide ((if A.kd (some c) = 6 then 123 else 91) = 91)) = true := by split <;> rfl
              rw [this]
              show _ = w3 ++ [if A.act c = 6 then 123 else 91] ++ (csF true (itT A r (A.val r) (A.L (some c))) ++ [clB A (some c)] ++ (csF false (itT A r (A.val r) R) ++ [clB A y] ++ rstF A r false fs))
              simp only [List.append_assoc]
            · intro f hf2 t ht
              rcases List.mem_cons.mp hf2 with e | e
              · rw [e] at ht
                have h1 := hnew t ht
                unfold addV
                rw [h1.1, decide_eq_false (by simp [h1.2])]
                rfl
              · exact hS2.1 f e t ht
            · intro f hf2
              simp only [Bool.or_eq_true, decide_eq_true_eq]
              rcases List.mem_cons.mp hf2 with e | e
              · rw [e]
                right
                exact ⟨by simp, rfl⟩
              · left
                rcases List.mem_cons.mp e with e2 | e2
                · rw [e2]; exact hEy
                · exact hE f (List.mem_cons_of_mem _ e2)
            · simp only [List.length_cons] at hM ⊢
              omega
          · have hJ : (if nI (A.act c) = 6 then m_cWr_writeObject_J193 N 0 C3 (some (ox st)) (some (ox y)) (some (A.sj s)) 1 (nI i) (some (c + 1)) else (if nI (A.act c) = 7 then m_cWr_writeObject_J193 N 0 C3 (some (ox st)) (some (ox y)) (some (A.sj s)) 1 (nI i) (some (c + 1)) else m_cWr_writeObject_J198 N 0 C3 (some (ox st)) (some (ox y)) (some (A.sj s)) 1 (nI i) (some (c + 1)) 0)) = m_cWr_writeObject_J198 N 0 C3 (some (ox st)) (some (ox y)) (some (A.sj s)) 1 (nI i) (some (c + 1)) 0 := by
              rw [if_neg (show ¬ nI (A.act c) = 6 from fun e => hk67 (Or.inl ((nI_eq (b := 6) (by omega) (by omega)).mp e))), if_neg (show ¬ nI (A.act c) = 7 from fun e => hk67 (Or.inr ((nI_eq (b := 7) (by omega) (by omega)).mp e)))]
            rw [show ((s :: R).map A.sj).head? = some (A.sj s) from rfl, hJ]
            -- the value is written at once
            have hval : ∃ (C4 : CS) (l : List Nat) (rd4 : Nat), m_cWr_writePlain N 0 C3 (c + 1) = some C4 ∧ WB C4 (w3 ++ A.val r c) ∧ RC N C4 A rd4 ∧ VC C4 A r ∧ frX C3 C4 ∧ l.Nodup ∧ (∀ t, t ∈ l → t ∈ A.L (some c)) ∧ rd4 = rd1 + 1 + l.length := by
              by_cases h8 : A.act c = 8
              · have hLl := L_len hA (x := some c)
                obtain ⟨C4, f1, f2, f3, f4, f5⟩ := cW_textual G3 hA hv3 d2 t1 h8 (by omega)
                exact ⟨C4, A.L (some c), _, f1, by rw [val_text hA t1 h8]; exact f2, f3, f4, f5, (hA.2.2.1.2.2.2.2.2.2.2.2.1 (some c)).1, fun t h => h, rfl⟩
              · obtain ⟨C4, f1, f2, f3⟩ := cW_plain G3 hA hv3 d2 t1 (by omega)
                exact ⟨C4, [], _, f1, by rw [val_plain hA t1 (by omega)]; exact f2, f3.RC G3, f3.VC hv3, f3.X, List.nodup_nil, (fun t h => absurd h (by simp)), rfl⟩
            obtain ⟨C4, l, rd4, f1, f2, f3, f4, f5, f6, f7, f8⟩ := hval
            have hS2 := seen_step hA hS hF hEy hdis (l := l) (c := some c) (Or.inr ⟨c, rfl, t1, t5, f7⟩) (fun f hf2 t ht h => hld f hf2 t ht (f7 t h))
            have hu2 := unS_add (A := A) vis (l := s :: l) (by
              rw [List.nodup_cons]
              exact ⟨fun h => (hnew s (f7 s h)).2 rfl, f6⟩) (fun t ht => by
              rcases List.mem_cons.mp ht with e | e
              · rw [e]; exact ⟨hsm.1, hvis⟩
              · exact ⟨(L_mem hA (f7 t e)).1, (hnew t (f7 t e)).1⟩)
            rw [List.length_cons] at hu2
            have hnx4 : C4.r 7 2 (A.sj s) = (R.map A.sj).head? := hnext (f5.1.trans hr3)
            refine ⟨(C4, some (ox st), some (ox y), (R.map A.sj).head?, 1, nI (i + 1)), ?_, by omega, Or.inl ⟨C4, y, R, fs, w3 ++ A.val r c, addV vis (s :: l), _, rd4, rfl, FOK_drop hF, ?_, ?_, f2, f3, f4, hXf.trans f5, hS2, ?_, ?_, by omega, by omega⟩⟩
            · unfold m_cWr_writeObject_J198 m_cWr_writeObject_J211 m_cWr_writeObject_J222 m_cWr_writeObject_J241 m_cWr_writeObject_J242
              rw [if_pos rfl, gn_s (by omega), gl_ok (by omega), f1, ob_ok, if_pos rfl, if_pos rfl, gn_s (by omega), hnx4, nI_s]
            · rw [val_last hA t1 t4, hT2]
              show _ = w3 ++ A.val r c ++ (csF false (itT A r (A.val r) R) ++ [clB A y] ++ rstF A r false fs)
              simp only [List.append_assoc]
            · intro e
              exact hw3ne (List.append_eq_nil_iff.mp e).1
            · intro f hf2
              simp only [Bool.or_eq_true]
              left
              rcases List.mem_cons.mp hf2 with e | e
              · rw [e]; exact hEy
              · exact hE f (List.mem_cons_of_mem _ e)
            · simp only [List.length_cons] at hM ⊢
              omega
  · right
    refine ⟨W, ?_, T, rd1, hw, Or.inl rfl, G, hv, hX, hr1, hr2⟩
    simp only []
    unfold m_cWr_writeObject_B40
    rw [if_neg (show ¬ (12000 : Int32) < nI i from fun h => by have := (nI_ltI (a := 12000) (by omega) (by omega)).mp h; omega), if_pos rfl]
end TXI
