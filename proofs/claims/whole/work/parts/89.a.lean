/-! READ: the values are written. -/
/-- one op more -/
def STP (B D : AS) (r act : Nat) : Prop := D.n = B.n + 1 ∧ D.m = B.m ∧ D.lk r = none ∧ (∀ o, o < B.n → D.id o = B.id o ∧ D.act o = B.act o ∧ D.inV r o = B.inV r o ∧ D.obj o = B.obj o ∧ D.sp o = B.sp o) ∧ D.act B.n = act ∧ D.inV r B.n = true
/-- the class's values, when they are written -/
def KC (C : CS) (J : JS) : Prop := CD C J.d ∧ C.i 1 3 0 = nI J.n ∧ ∀ v, v < J.n → C.i 9 0 v = nI (J.so v) ∧ C.l 9 1 v = J.nu v ∧ C.r 9 2 v = J.ar v ∧ (0 < J.kl v → C.i 9 3 v = nI (J.ka v) ∧ C.i 9 4 v = nI (J.kl v)) ∧ (J.so v = 4 → C.i 9 5 v = nI (J.ba v) ∧ C.i 9 6 v = nI (J.bl v))
def KS (S : MS) (J : JS) : Prop := SD S J.d ∧ S.i 64 = nI J.n ∧ ∀ v, v < J.n → SV S J v
def JS.str (J : JS) (v : Nat) : List Nat := (J.d.drop (J.ba v)).take (J.bl v)
/-- i values are written -/
def WIN (A : AS) (J : JS) (r : Nat) (lb : Nat) (i : Nat) (N : Nat → Nat) (C : CS) (S : MS) (B : AS) (rd : Nat) (x3 : Int32) : Prop :=
  (RS S B ∧ RC N C B rd ∧ AI B ∧ VC C B r ∧ B.lk r = none) ∧ (B.n = A.n + i ∧ B.m = A.m ∧ B.kn = A.kn + (if i = 0 then 0 else lb) + sumN J.w i) ∧ (KC C J ∧ KS S J) ∧
  (∀ v, v < i → C.r 9 8 v = some (A.n + v + 1) ∧ S.a 59 v = nI (A.n + v) ∧ (6 ≤ J.so v → B.act (A.n + v) = J.so v ∧ B.inV r (A.n + v) = true ∧ ∃ la : Option Nat, S.a 60 v = nI (B.oi la) ∧ C.r 9 9 v = la.map (· + 1) ∧ ∀ p, la = some p → p ∈ B.L (some (A.n + v)) ∧ B.inV r p = true)) ∧
  (∀ v, i ≤ v → v < J.n → C.r 9 9 v = none) ∧ (i = 0 → B = A) ∧ (0 < i → x3 = nI (B.id A.n)) ∧ S.i 0 = nI 0
section RDA
variable {S S' : MS} {N N' : Nat → Nat} {C C' : CS} {A B D : AS} {J : JS} {r rd rd' i lb : Nat} {bs : List Nat}
theorem QC_r9 {f v : Nat} {y : Option Nat} : QC C (C.setR 9 f v y) := ⟨fun _ _ _ _ _ _ => rfl, fun _ _ _ _ => rfl, fun k f1 j h1 h2 => by rw [CS.r_setR, if_neg (fun h => h2 h.1)], fun _ _ _ _ => rfl, rfl, rfl⟩
theorem RC_r9 (G : RC N C A rd) {f v y : Nat} (hf : f = 8 ∨ f = 9) (hy : y < A.n + 1) : RC N (C.setR 9 f v (some y)) A rd := by
  obtain ⟨u0, u1, u2, u3, u4, u5, u6, u7, u8, u9, u10, u11, u12, u13, u14, u15, u16, u17, u18⟩ := G.nn
  refine QC_r9.rc G (WF_setR G.1.2.1 ?_) ?_ ?_
  · intro t z ht hz
    have e : ∀ f : Nat, f = 8 ∨ f = 9 → ((cFT.getD 9 [])[f]? : Option Nat) = some (3 + 2) := by
      intro f hf
      rcases hf with rfl | rfl <;> decide
    rw [e f hf] at ht
    have := Option.some.inj ht
    have := Option.some.inj hz
    obtain rfl : t = 3 := by omega
    omega
  · rw [CS.r_setR, if_neg (by omega)]; exact G.st.2.2.2.2.2.2.2.2.2.2.2.2.2.2.1
  · rw [CS.r_setR, if_neg (by omega)]; exact G.st.2.2.2.2.2.2.2.2.2.2.2.2.2.2.2.1
theorem STP_mk (hlk : B.lk r = none) {x : Option Nat} {act : Nat} {num : Int64} {ins : Nat} {par : Option Nat} {s : Nat} {key pre : List Nat} {pl : Nat} {Lx Os st : List Nat} : STP B ((B.mk r x act num ins par s key pre pl Lx Os).gs st) r act := by
  refine ⟨rfl, rfl, hlk, fun o ho => ⟨?_, ?_, ?_, ?_, ?_⟩, ?_, ?_⟩
  · show (B.mk r x act num ins par s key pre pl Lx Os).id o = _
    rw [mk_id, if_neg (by omega)]
  · show (B.mk r x act num ins par s key pre pl Lx Os).act o = _
    rw [mk_act, if_neg (by omega)]
  · exact mk_inVo (key := key) (pre := pre) (par := par) hlk ho
  · show (B.mk r x act num ins par s key pre pl Lx Os).obj o = _
    rw [mk_obj, if_neg (by omega)]
  · show (B.mk r x act num ins par s key pre pl Lx Os).sp o = _
    rw [mk_sp, if_neg (by omega)]
  · show (B.mk r x act num ins par s key pre pl Lx Os).act B.n = _
    rw [mk_act, if_pos rfl]
  · exact mk_inVn (x := x) (act := act) (num := num) (ins := ins) (s := s) (pl := pl) (Lx := Lx) (Os := Os) (key := key) (pre := pre) (par := par) hlk
theorem KC.fr (h : KC C J) (hf : frC C C') : KC C' J := by
  obtain ⟨⟨h1, h2, h3, h4⟩, h5, h6⟩ := h
  refine ⟨⟨RW_fr hf (by omega) h1, RB_fr hf (by omega) h2, by rw [hf.2.2.2.2.2.2.2.1]; exact h3, by rw [hf.2.2.2.1]; exact h4⟩, by rw [hf.2.2.1]; exact h5, fun v hv => ?_⟩
  obtain ⟨_, _, _, _, _, _, _, _, f9, f10, f11, _⟩ := hf
  have := h6 v hv
  rw [f9, f9, f9, f9, f9, f10, f11]
  exact this
theorem KC.r9 (h : KC C J) {f v : Nat} {y : Option Nat} (hf : f ≠ 2) : KC (C.setR 9 f v y) J := by
  obtain ⟨h1, h5, h6⟩ := h
  refine ⟨h1.r9, h5, fun w hw => ?_⟩
  have := h6 w hw
  rw [CS.r_setR, if_neg (fun g => hf g.2.1.symm)]
  exact this
theorem KS.fr (h : KS S J) (hf : frA S S') : KS S' J := by
  obtain ⟨h1, h2, h3⟩ := h
  refine ⟨h1.fr (hf.1 65 (by omega) (by omega) (by omega) (by omega)) (hf.2.1 62 (by omega)), by rw [hf.1 64 (by omega) (by omega) (by omega) (by omega)]; exact h2, fun v hv => ?_⟩
  have := h3 v hv
  unfold SV at this ⊢
  rw [hf.2.1 53 (by omega), hf.2.1 54 (by omega), hf.2.1 55 (by omega), hf.2.1 56 (by omega), hf.2.1 57 (by omega), hf.2.1 58 (by omega), hf.2.2]
  exact this
theorem KS.a (h : KS S J) {k : Nat} {f : Nat → Int32} (hk : k = 59 ∨ k = 60) : KS (S.setA k f) J := by
  obtain ⟨h1, h2, h3⟩ := h
  refine ⟨h1.fr rfl (by rw [MS.a_setA, if_neg (by omega)]), h2, fun v hv => ?_⟩
  have := h3 v hv
  unfold SV at this ⊢
  rw [MS.a_setA, if_neg (by omega), MS.a_setA, if_neg (by omega), MS.a_setA, if_neg (by omega), MS.a_setA, if_neg (by omega), MS.a_setA, if_neg (by omega), MS.a_setA, if_neg (by omega), MS.n_setA]
  exact this
theorem sumN_mono {g : Nat → Nat} : ∀ {m n : Nat}, m ≤ n → sumN g m ≤ sumN g n := by
  intro m n h
  induction n with
  | zero => rw [show m = 0 by omega]; exact Nat.le_refl _
  | succ n ih =>
    by_cases e : m = n + 1
    · rw [e]; exact Nat.le_refl _
    · exact Nat.le_trans (ih (by omega)) (Nat.le_add_right _ _)
/-- the string is given, the op noted -/
theorem wstr (G : RC N C D rd) (hK : KC C J) (hI : JI bs J 0) {n v : Nat} (hv : v < J.n) (hn : D.n = n + 1) (ha : D.act n = J.so v) (hs : D.str n = []) (hkn : D.ba n + (D.key n).length = D.kn) (hl : D.kn + (stv (J.so v) (J.str v)).length ≤ 24576) (x1 x2 : Option Nat) (x3 : Int32) {x4 : Nat} :
    ∃ C5, m_cJT_writeValues_J166 N 0 C x1 x2 x3 (nI x4) (some v) (some (n + 1)) = some (.inl (N, C5.setR 9 8 v (some (n + 1)), x1, x2, x3, nI (x4 + 1)), 0, 0) ∧ RC N C5 (D.gs (stv (J.so v) (J.str v))) rd ∧ frC C C5 ∧ (∀ q, C5.a 12 8 q = C.a 12 8 q) := by
  obtain ⟨u0, u1, u2, u3, u4, u5, u6, u7, u8, u9, u10, u11, u12, u13, u14, u15, u16, u17, u18⟩ := G.nn
  obtain ⟨s1, s2, s3, s4, s5, s6, s7, s8, s9, s10, s11, s12, s13, s14, s15, s16, s17, s18, s19, s20, s21⟩ := G.st
  rw [hn] at u3
  have h500 := hI.1.1
  obtain ⟨k0, k1, k2, k3, k4⟩ := hK.2.2 v hv
  unfold m_cJT_writeValues_J166 m_cJT_writeValues_J201
  rw [gn_s (by omega), k0]
  by_cases c4 : J.so v = 4
  · obtain ⟨e5, e6⟩ := k4 c4
    have hbl := (hI.2.2.1 v hv).2.2.2.2.2 c4
    have hsl : (J.str v).length = J.bl v := by
      unfold JS.str
      rw [List.length_take, List.length_drop]; omega
    have hRB : RB C 1 (J.ba v) (J.str v) := by
      intro q hq
      have hh : q < ((J.d.drop (J.ba v)).take (J.bl v)).length := hq
      have := hK.1.2.1 (J.ba v + q) (by omega)
      rw [Nat.zero_add] at this
      show ((J.d.drop (J.ba v)).take (J.bl v))[q]'hh < 256 ∧ C.a 13 1 (J.ba v + q) = sb (((J.d.drop (J.ba v)).take (J.bl v))[q]'hh)
      rw [List.getElem_take, List.getElem_drop]
      exact this
    have hst : stv (J.so v) (J.str v) = J.str v := by unfold stv; rw [if_pos c4]
    rw [hst] at hl ⊢
    obtain ⟨f, q1, q2⟩ := cS_keepString G hn (by rw [ha]; exact c4) hs hkn hK.1.1 hRB (by omega) hl
    rw [hsl] at q1
    refine ⟨_, ?_, q2, frC_key, fun _ => rfl⟩
    rw [if_pos (show nI (J.so v) = 4 by rw [c4]; rfl), gl_ok (by omega), s4, gn_s (by omega), hK.1.2.2.2, gn_s (by omega), gn_s (by omega), s1, gn_s (by omega), e5, e6, q1, ob_ok, gn_s (by omega), nI_s, hsl]
  · have hst : stv (J.so v) (J.str v) = [] := by unfold stv; rw [if_neg c4]
    have hle := (hI.2.2.1 v hv).1.1
    rw [hst, gs_nil (by rw [hn]; exact hs) (by omega)]
    refine ⟨C, ?_, G, frC.refl, fun _ => rfl⟩
    rw [if_neg (show ¬ nI (J.so v) = 4 from fun g => c4 ((nI_eq (a := J.so v) (b := 4) (by omega) (by omega)).mp g)), gn_s (by omega), nI_s]
end RDA
