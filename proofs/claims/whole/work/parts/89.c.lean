/-! READ: a value is written. -/
def WST (A : AS) (J : JS) (r : Nat) (x : Option Nat) (bi bf bs bo : List Nat) (ji jf js a i : Nat) (N : Nat → Nat) (C : CS) (S : MS) (rd : Nat) (x3 : Int32) : Prop :=
  ∃ N' C' S' B' rd' x3' c z, m_cJT_writeValues_B5 N 0 C (some r) (some (ox x)) x3 (nI i) = some (.inl (N', C', some r, some (ox x), x3', nI (i + 1)), c, z) ∧ m_rread_B194 S (nI r) (nI (A.oi x)) (nI i) = some (.inl (S', nI r, nI (A.oi x), nI (i + 1))) ∧ WIN A J r bf.length (i + 1) N' C' S' B' rd' x3' ∧ RIO S' C' bi bf bs bo ji jf js a ∧ c ≤ 2 ∧ z ≤ 23 ∧ rd ≤ rd' ∧ rd' ≤ rd + 1
section RDC
variable {S S' : MS} {N N' : Nat → Nat} {C C' : CS} {A B D : AS} {J : JS} {r rd rd' i lb : Nat} {tx : List Nat} {x3 x3' : Int32} {x : Option Nat} {bi bf bs bo : List Nat} {ji jf js a : Nat}
theorem RIO.r9 (h : RIO S C bi bf bs bo ji jf js a) {f v : Nat} {y : Option Nat} : RIO S (C.setR 9 f v y) bi bf bs bo ji jf js a := h
theorem w_root (h : WIN A J r bf.length 0 N C S B rd x3) (hio : RIO S C bi bf bs bo ji jf js a) (hI : JI tx J 0) (hn : 0 < J.n) (hr : r < 8) (hx : A.oV r x) (hkd : A.kd x = 6) (hb : 1 ≤ bf.length ∧ bf.length ≤ 64) (hrd : rd < 2 ^ 30) (hN : A.n + J.n ≤ 4000) (hT : A.kn + bf.length + sumN J.w J.n ≤ 24576) : WST A J r x bi bf bs bo ji jf js a 0 N C S rd x3 := by
  have h' := h
  obtain ⟨⟨hR, G, hA, hV, hlk⟩, ⟨b1, b2, b3⟩, ⟨hKC, hKS⟩, e3, e4, e5, e6, e7⟩ := h
  obtain rfl := e5 rfl
  obtain ⟨u0, u1, u2, u3, u4, u5, u6, u7, u8, u9, u10, u11, u12, u13, u14, u15, u16, u17, u18⟩ := G.nn
  obtain ⟨s1, s2, s3, s4, s5, s6, s7, s8, s9, s10, s11, s12, s13, s14, s15, s16, s17, s18, s19, s20, s21⟩ := G.st
  obtain ⟨⟨i1, i2, i3, i4, i5, i6, i7, i8, i9⟩, _, ⟨c1, c2, c3, c4, c5⟩, _⟩ := id hio
  have hjf := c1.1
  have hz := G.1.2.2.2.1
  obtain ⟨k0, k1, k2, k3, k4⟩ := hKC.2.2 0 hn
  obtain ⟨v0, v1, v2, v3, v4, v5⟩ := hKS.2.2 0 hn
  obtain ⟨j1, j2, j3, j4, j5, j6⟩ := hI.2.2.1 0 hn
  have har : J.ar 0 = none := j2.mpr rfl
  have hkl : J.kl 0 = 0 := j4 rfl
  have hw := wle hI hn
  have hsum : J.w 0 ≤ sumN J.w J.n := by
    have := sumN_mono (g := J.w) (m := 1) (n := J.n) hn
    have e : sumN J.w 1 = J.w 0 := by show 0 + J.w 0 = _; omega
    omega
  have hox := ox_lt (oV_ltn hx)
  -- the class
  obtain ⟨N3, C3, c, z, rd3, s, Lx, Os, q1, q2, q3, q4, q5, G3, hA3, hv3, hfr3⟩ := cJ_writeAtKey (num := J.nu 0) G hA hV hr hlk (by omega) hrd hx hkd (j := jf) (p := 0) (k := bf) (by omega) c1 c2 (by omega) hb.1 hb.2 (by omega) (show J.so 0 ≤ 9 by omega)
  obtain ⟨D, hD⟩ : ∃ D, D = B.mk r x (J.so 0) (J.nu 0) 0 none s bf (B.kc r x bf).reverse 0 Lx Os := ⟨_, rfl⟩
  have hDn : D.n = B.n + 1 := by rw [hD]; rfl
  have hDa : D.act B.n = J.so 0 := by rw [hD, mk_act, if_pos rfl]
  have hDs : D.str B.n = [] := by rw [hD, mk_str, if_pos rfl]
  have hDk : D.ba B.n + (D.key B.n).length = D.kn := by rw [hD, mk_ba, mk_key, if_pos rfl, if_pos rfl]; rfl
  have hDkn : D.kn = B.kn + bf.length := by rw [hD]; rfl
  -- the reference
  obtain ⟨S3, m1, m2, m3⟩ := pS_setKey (S := S.setA 60 (upd (S.a 60) 0 0)) (s := s) (Lx := Lx) (Os := Os) (num := J.nu 0) (act := J.so 0) (k := bf) (b := 2) (p := 0) (b' := 62) (p1 := J.ba 0) (st := J.str 0) (q := S.a 58 0) (p' := S.a 57 0) (hR.setA rfl) hA hr hx hkd (by simp) (byts_fr (S := S) c4 (by rw [MS.a_setA, if_neg (by decide)])) (by omega) (by intro g; rw [g] at hb; simp at hb) (by omega) (by omega) (by simp) (fun g4 => by
      have hh := j6 g4
      obtain ⟨y1, y2⟩ := byts62 (J := J) hKS.1 (p := J.ba 0) (n := J.bl 0) rfl hh.2
      exact ⟨byts_fr (S := S) y1 (by rw [MS.a_setA, if_neg (by decide)]), by have : (J.str 0).length = J.bl 0 := y2; have := hI.1; omega⟩) (by omega) (fun g4 => by rw [hw.2 g4]; exact (v5 g4).2) (fun g4 => (v5 g4).1)
  rw [← hD] at G3 hA3 hv3
  rw [← hD] at m2
  obtain ⟨C5, w1, w2, w3, w4⟩ := wstr (v := 0) (x4 := 0) G3 (hKC.fr hfr3) hI hn hDn hDa hDs hDk (by omega) (some r) (some (ox x)) (C3.i 3 0 (B.n + 1))
  have hgs : AI (D.gs (stv (J.so 0) (J.str 0))) := gs_AI hA3 (by omega)
  have hP : STP B (D.gs (stv (J.so 0) (J.str 0))) r (J.so 0) := by rw [hD]; exact STP_mk hlk
  obtain ⟨t0, t1, t2, t3, t4, t5, t6, t7, t8, t9, t10, t11, t12, t13, t14, t15, t16, t17, t18⟩ := G3.nn
  rw [hDn] at t3
  have hid : C3.i 3 0 (B.n + 1) = nI (D.id B.n) := (G3.op B.n (by omega)).1
  have hBC : m_cJT_writeValues_B5 N 0 C (some r) (some (ox x)) x3 (nI 0) = some (.inl (N3, C5.setR 9 8 0 (some (B.n + 1)), some r, some (ox x), C3.i 3 0 (B.n + 1), nI (0 + 1)), c, z) := by
    unfold m_cJT_writeValues_B5
    rw [gl_ok (by omega), s4, gn_s (by omega), hKC.2.1, if_neg (nle hn (by have := hI.1; omega)), s15, gn_s (by omega), hz.2.2.2.2.1, gd_ok (by omega) (by omega), cl_nI (by omega), hz.2.2.2.2.2.2.2.2.2.2.2.2.2.2.2 0 (by omega), gn_s (by omega), k2, har, on_none, i2, gn_s (by omega), gn_s (by omega), gn_s (by omega), c1.2.2.1, k0, k1]
    rw [show m_cJT_writeAtKey N 0 C r (ox x) jf 0 (nI bf.length) (nI (J.so 0)) (J.nu 0) = _ from q1, oq_ok, gn_s (by omega), w1, al_ok]
    simp only [Nat.zero_add]
  have hBS : m_rread_B194 S (nI r) (nI (B.oi x)) (nI 0) = some (.inl (S3.setA 59 (upd (S3.a 59) 0 (nI B.n)), nI r, nI (B.oi x), nI (0 + 1))) := by
    unfold m_rread_B194 m_rread_J463
    rw [hKS.2.1, if_neg (nle hn (by have := hI.1; omega)), if_pos (show nI 0 = 0 from rfl)]
    simp only [gd_ok (show 0 < 501 by omega) (by decide), cl_nI (show 0 < 2 ^ 31 by omega)]
    rw [v0, v1, c3, show m_rsetKey (S.setA 60 (upd (S.a 60) 0 0)) (nI r) (nI (B.oi x)) 2 0 (nI bf.length) (nI (J.so 0)) (J.nu 0) 62 (S.a 57 0) (S.a 58 0) = _ from m1, ob_ok]
    rfl
  refine ⟨N3, _, _, D.gs (stv (J.so 0) (J.str 0)), rd3, C3.i 3 0 (B.n + 1), c, z, hBC, hBS, ?_, ?_, q2, q3, q4, q5⟩
  · refine wfin h' hI hn hP (m2.setA rfl) (RC_r9 w2 (Or.inl rfl) (by rw [hP.1]; omega)) hgs ?_ ?_ (((hKC.fr hfr3).fr w3).r9 (by decide)) (((hKS.a (Or.inr rfl)).fr m3).a (Or.inl rfl)) ?_ ?_ ?_ ?_ ?_ ?_ ?_ ?_ ?_ ?_
    · intro q hq
      show C5.a 12 8 q = _
      rw [w4]
      exact hv3 q hq
    · rw [if_pos rfl]
      show D.kn + (stv (J.so 0) (J.str 0)).length = _
      omega
    · intro v hv
      rw [CS.r_setR, if_neg (fun g => hv g.2.2), w3.2.2.2.2.2.2.2.2.2.2.1, hfr3.2.2.2.2.2.2.2.2.2.2.1]
    · rw [CS.r_setR, if_pos ⟨rfl, rfl, rfl⟩]
    · intro v hv
      rw [MS.a_setA, if_pos rfl, updq hv, m3.2.1 59 (by omega), MS.a_setA, if_neg (by decide)]
    · rw [MS.a_setA, if_pos rfl, updn]
    · intro v hv
      rw [CS.r_setR, if_neg (by omega), w3.2.2.2.2.2.2.2.2.2.2.1, hfr3.2.2.2.2.2.2.2.2.2.2.1]
    · intro v hv _
      rw [MS.a_setA, if_neg (by decide), m3.2.1 60 (by omega), MS.a_setA, if_pos rfl, updq hv]
    · rw [MS.a_setA, if_neg (by decide), m3.2.1 60 (by omega), MS.a_setA, if_pos rfl, updn]; rfl
    · intro w hw; rw [har] at hw; cases hw
    · rw [hid]; rfl
    · rw [MS.i_setA, m3.1 0 (by decide) (by decide) (by decide) (by decide), MS.i_setA]; exact e7
  · exact ((hio.fr ((frS_setA (k := 60) (by decide)).trans (m3.toS.trans (frS_setA (k := 59) (by decide)))) (hfr3.trans w3))).r9
theorem w_map (h : WIN A J r bf.length i N C S B rd x3) (hio : RIO S C bi bf bs bo ji jf js a) (hI : JI tx J 0) (hi : i < J.n) (hr : r < 8) (hx : A.oV r x) {w : Nat} (har : J.ar i = some w) (h6 : J.so w = 6) (hrd : rd < 2 ^ 30) (hN : A.n + J.n ≤ 4000) (hT : A.kn + bf.length + sumN J.w J.n ≤ 24576) : WST A J r x bi bf bs bo ji jf js a i N C S rd x3 := by
  have h' := h
  obtain ⟨⟨hR, G, hA, hV, hlk⟩, ⟨b1, b2, b3⟩, ⟨hKC, hKS⟩, e3, e4, e5, e6, e7⟩ := h
  obtain ⟨u0, u1, u2, u3, u4, u5, u6, u7, u8, u9, u10, u11, u12, u13, u14, u15, u16, u17, u18⟩ := G.nn
  obtain ⟨s1, s2, s3, s4, s5, s6, s7, s8, s9, s10, s11, s12, s13, s14, s15, s16, s17, s18, s19, s20, s21⟩ := G.st
  have hz := G.1.2.2.2.1
  have h1i := hI.1
  obtain ⟨k0, k1, k2, k3, k4⟩ := hKC.2.2 i hi
  obtain ⟨v0, v1, v2, v3, v4, v5⟩ := hKS.2.2 i hi
  obtain ⟨j1, j2, j3, j4, j5, j6⟩ := hI.2.2.1 i hi
  obtain ⟨hwi, _, hw6⟩ := j3 w har
  have hkl := hw6.mp h6
  have hi0 : i ≠ 0 := by omega
  obtain ⟨f1, f2, f3⟩ := e3 w hwi
  obtain ⟨g1, g2, _⟩ := f3 (by omega)
  have hw := wle hI hi
  obtain ⟨hkey, hkd2⟩ := key_len hI hi hkl
  have h64 := (j5 hkl).1
  have hsum : sumN J.w i + J.w i ≤ sumN J.w J.n := sumN_mono (g := J.w) (m := i + 1) (n := J.n) hi
  rw [if_neg hi0] at b3
  have hoV : B.oV r (some (A.n + w)) := ⟨by omega, g2, by omega, by omega⟩
  have hkdB : B.kd (some (A.n + w)) = 6 := by show B.act (A.n + w) = 6; omega
  have hox := ox_lt (oV_ltn hx)
  have hRBk : RB C 1 (J.ka i) (J.key i) := by
    intro q hq
    obtain ⟨z1, z2⟩ := key_at hI hi hkl hq
    have := hKC.1.2.1 (J.ka i + q) z1
    rw [Nat.zero_add] at this
    rw [z2]
    exact this
  obtain ⟨K1, K2⟩ := k3 hkl
  have hso0 : C.i 9 0 w = nI 6 := by rw [(hKC.2.2 w (by omega)).1, h6]
  have hsoS : S.a 53 w = nI 6 := by rw [(hKS.2.2 w (by omega)).1, h6]
  have h8 : S.a 8 (A.n + w) = nI (B.oi (some (A.n + w))) := (hR.2.1 (A.n + w) (by omega)).1
  -- the class
  obtain ⟨N3, C3, c, z, rd3, s, Lx, Os, q1, q2, q3, q4, q5, G3, hA3, hv3, hfr3⟩ := cJ_writeAtKey (num := J.nu i) G hA hV hr hlk (by omega) hrd hoV hkdB (j := 1) (p := J.ka i) (k := J.key i) (by omega) hKC.1.1 hRBk (by omega) (by omega) (by omega) (by omega) (show J.so i ≤ 9 by omega)
  obtain ⟨D, hD⟩ : ∃ D, D = B.mk r (some (A.n + w)) (J.so i) (J.nu i) 0 none s (J.key i) (B.kc r (some (A.n + w)) (J.key i)).reverse 0 Lx Os := ⟨_, rfl⟩
  have hDn : D.n = B.n + 1 := by rw [hD]; rfl
  have hDa : D.act B.n = J.so i := by rw [hD, mk_act, if_pos rfl]
  have hDs : D.str B.n = [] := by rw [hD, mk_str, if_pos rfl]
  have hDk : D.ba B.n + (D.key B.n).length = D.kn := by rw [hD, mk_ba, mk_key, if_pos rfl, if_pos rfl]; rfl
  have hDkn : D.kn = B.kn + (J.key i).length := by rw [hD]; rfl
  have hKb := byts62 (J := J) hKS.1 (p := J.ka i) (n := J.kl i) (k := J.key i) rfl hkd2
  -- the reference
  obtain ⟨S3, m1, m2, m3⟩ := pS_setKey (S := S.setA 60 (upd (S.a 60) i 0)) (s := s) (Lx := Lx) (Os := Os) (num := J.nu i) (act := J.so i) (k := J.key i) (b := 62) (p := J.ka i) (b' := 62) (p1 := J.ba i) (st := J.str i) (q := S.a 58 i) (p' := S.a 57 i) (hR.setA rfl) hA hr hoV hkdB (by simp) (byts_fr (S := S) hKb.1 (by rw [MS.a_setA, if_neg (by decide)])) (by omega) (by intro g; rw [g] at hkey; simp at hkey; omega) (by omega) (by omega) (by simp) (fun g4 => by
      have hh := j6 g4
      obtain ⟨y1, y2⟩ := byts62 (J := J) hKS.1 (p := J.ba i) (n := J.bl i) rfl hh.2
      exact ⟨byts_fr (S := S) y1 (by rw [MS.a_setA, if_neg (by decide)]), by have : (J.str i).length = J.bl i := y2; omega⟩) (by omega) (fun g4 => by rw [hw.2 g4]; exact (v5 g4).2) (fun g4 => (v5 g4).1)
  rw [← hD] at G3 hA3 hv3
  rw [← hD] at m2
  obtain ⟨C5, w1, w2, w3, w4⟩ := wstr (v := i) (x4 := i) G3 (hKC.fr hfr3) hI hi hDn hDa hDs hDk (by omega) (some r) (some (ox x)) x3
  have hgs : AI (D.gs (stv (J.so i) (J.str i))) := gs_AI hA3 (by omega)
  have hP : STP B (D.gs (stv (J.so i) (J.str i))) r (J.so i) := by rw [hD]; exact STP_mk hlk
  have hBC : m_cJT_writeValues_B5 N 0 C (some r) (some (ox x)) x3 (nI i) = some (.inl (N3, C5.setR 9 8 i (some (B.n + 1)), some r, some (ox x), x3, nI (i + 1)), c, z) := by
    unfold m_cJT_writeValues_B5
    rw [gl_ok (by omega), s4, gn_s (by omega), hKC.2.1, if_neg (nle hi (by omega)), s15, gn_s (by omega), hz.2.2.2.2.1, gd_ok (by omega) (by omega), cl_nI (by omega), hz.2.2.2.2.2.2.2.2.2.2.2.2.2.2.2 i (by omega), gn_s (by omega), k2, har, onSome, gl_ok (by omega), hso0, if_pos (show nI 6 = 6 from rfl), s16, gn_s (by omega), f1, gn_s (by omega), gn_s (by omega), gv_ok (by omega), K1, K2, k0, k1]
    rw [← hkey, show m_cJT_writeAtKey N 0 C r (A.n + w + 1) 1 (nI (J.ka i)) (nI (J.key i).length) (nI (J.so i)) (J.nu i) = _ from q1, oq_ok, w1, al_ok]
    simp only [Nat.zero_add]
  have hBS : m_rread_B194 S (nI r) (nI (A.oi x)) (nI i) = some (.inl (S3.setA 59 (upd (S3.a 59) i (nI B.n)), nI r, nI (A.oi x), nI (i + 1))) := by
    unfold m_rread_B194 m_rread_J463
    rw [hKS.2.1, if_neg (nle hi (by omega)), if_neg (show ¬ nI i = 0 from fun g => hi0 ((nI_eq (a := i) (b := 0) (by omega) (by omega)).mp g))]
    simp only [gd_ok (show i < 501 by omega) (by decide), cl_nI (show i < 2 ^ 31 by omega)]
    rw [v2, har, show cI (some w) = nI w from rfl]
    simp only [gd_ok (show w < 501 by omega) (by decide), cl_nI (show w < 2 ^ 31 by omega)]
    rw [hsoS, if_pos (show nI 6 = 6 from rfl), f2, gd_ok (by omega) (by omega), cl_nI (by omega), h8, v3 hkl, v4, v0, v1, ← hkey]
    rw [show m_rsetKey (S.setA 60 (upd (S.a 60) i 0)) (nI r) (nI (B.oi (some (A.n + w)))) 62 (nI (J.ka i)) (nI (J.key i).length) (nI (J.so i)) (J.nu i) 62 (S.a 57 i) (S.a 58 i) = _ from m1, ob_ok, nI_s]
  refine ⟨N3, _, _, D.gs (stv (J.so i) (J.str i)), rd3, x3, c, z, hBC, hBS, ?_, ?_, q2, q3, q4, q5⟩
  · refine wfin h' hI hi hP (m2.setA rfl) (RC_r9 w2 (Or.inl rfl) (by rw [hP.1]; omega)) hgs ?_ ?_ (((hKC.fr hfr3).fr w3).r9 (by decide)) (((hKS.a (Or.inr rfl)).fr m3).a (Or.inl rfl)) ?_ ?_ ?_ ?_ ?_ ?_ ?_ ?_ ?_ ?_
    · intro q hq
      show C5.a 12 8 q = _
      rw [w4]
      exact hv3 q hq
    · rw [if_neg hi0]
      show D.kn + (stv (J.so i) (J.str i)).length = _
      omega
    · intro v hv
      rw [CS.r_setR, if_neg (fun g => hv g.2.2), w3.2.2.2.2.2.2.2.2.2.2.1, hfr3.2.2.2.2.2.2.2.2.2.2.1]
    · rw [CS.r_setR, if_pos ⟨rfl, rfl, rfl⟩]
    · intro v hv
      rw [MS.a_setA, if_pos rfl, updq hv, m3.2.1 59 (by omega), MS.a_setA, if_neg (by decide)]
    · rw [MS.a_setA, if_pos rfl, updn]
    · intro v hv
      rw [CS.r_setR, if_neg (by omega), w3.2.2.2.2.2.2.2.2.2.2.1, hfr3.2.2.2.2.2.2.2.2.2.2.1]
    · intro v hv _
      rw [MS.a_setA, if_neg (by decide), m3.2.1 60 (by omega), MS.a_setA, if_pos rfl, updq hv]
    · rw [MS.a_setA, if_neg (by decide), m3.2.1 60 (by omega), MS.a_setA, if_pos rfl, updn]; rfl
    · intro w' hw' h7
      rw [har] at hw'
      obtain rfl := Option.some.inj hw'
      omega
    · rw [e6 (by omega), (hP.2.2.2.1 A.n (by omega)).1]
    · rw [MS.i_setA, m3.1 0 (by decide) (by decide) (by decide) (by decide), MS.i_setA]; exact e7
  · exact ((hio.fr ((frS_setA (k := 60) (by decide)).trans (m3.toS.trans (frS_setA (k := 59) (by decide)))) (hfr3.trans w3))).r9
theorem w_list (h : WIN A J r bf.length i N C S B rd x3) (hio : RIO S C bi bf bs bo ji jf js a) (hI : JI tx J 0) (hi : i < J.n) (hr : r < 8) (hx : A.oV r x) {w : Nat} (har : J.ar i = some w) (h7 : J.so w = 7) (hN : A.n + J.n ≤ 4000) (hT : A.kn + bf.length + sumN J.w J.n ≤ 24576) : WST A J r x bi bf bs bo ji jf js a i N C S rd x3 := by
  have h' := h
  obtain ⟨⟨hR, G, hA, hV, hlk⟩, ⟨b1, b2, b3⟩, ⟨hKC, hKS⟩, e3, e4, e5, e6, e7⟩ := h
  obtain ⟨u0, u1, u2, u3, u4, u5, u6, u7, u8, u9, u10, u11, u12, u13, u14, u15, u16, u17, u18⟩ := G.nn
  obtain ⟨s1, s2, s3, s4, s5, s6, s7, s8, s9, s10, s11, s12, s13, s14, s15, s16, s17, s18, s19, s20, s21⟩ := G.st
  have hz := G.1.2.2.2.1
  have h1i := hI.1
  obtain ⟨k0, k1, k2, k3, k4⟩ := hKC.2.2 i hi
  obtain ⟨v0, v1, v2, v3, v4, v5⟩ := hKS.2.2 i hi
  obtain ⟨j1, j2, j3, j4, j5, j6⟩ := hI.2.2.1 i hi
  obtain ⟨hwi, _, hw6⟩ := j3 w har
  have hkl : J.kl i = 0 := by
    have : ¬ 0 < J.kl i := fun g => by have := hw6.mpr g; omega
    omega
  have hi0 : i ≠ 0 := by omega
  obtain ⟨f1, f2, f3⟩ := e3 w hwi
  obtain ⟨g1, g2, la, g3, g4, g5⟩ := f3 (by omega)
  have hw := wle hI hi
  have hsum : sumN J.w i + J.w i ≤ sumN J.w J.n := sumN_mono (g := J.w) (m := i + 1) (n := J.n) hi
  rw [if_neg hi0] at b3
  have hoV : B.oV r (some (A.n + w)) := ⟨by omega, g2, by omega, by omega⟩
  have hkdB : B.kd (some (A.n + w)) ≠ 6 := by show B.act (A.n + w) ≠ 6; omega
  have hox := ox_lt (oV_ltn hx)
  have hso0 : C.i 9 0 w = nI 7 := by rw [(hKC.2.2 w (by omega)).1, h7]
  have hsoS : S.a 53 w = nI 7 := by rw [(hKS.2.2 w (by omega)).1, h7]
  have h8 : S.a 8 (A.n + w) = nI (B.oi (some (A.n + w))) := (hR.2.1 (A.n + w) (by omega)).1
  -- the class
  obtain ⟨N3, C3, Lx, q1, G3, hA3, hv3, hfr3⟩ := cJ_writeBehind (num := J.nu i) (act := J.so i) (x := some (A.n + w)) (par := la) G hA hV hr hlk (by omega) (by omega) hoV hkdB g5
  obtain ⟨D, hD⟩ : ∃ D, D = B.mk r (some (A.n + w)) (J.so i) (J.nu i) 1 la B.n [] [] (B.oi la) Lx [B.n] := ⟨_, rfl⟩
  have hDn : D.n = B.n + 1 := by rw [hD]; rfl
  have hDa : D.act B.n = J.so i := by rw [hD, mk_act, if_pos rfl]
  have hDs : D.str B.n = [] := by rw [hD, mk_str, if_pos rfl]
  have hDk : D.ba B.n + (D.key B.n).length = D.kn := by rw [hD, mk_ba, mk_key, if_pos rfl, if_pos rfl]; rfl
  have hDkn : D.kn = B.kn := by rw [hD]; rfl
  -- the reference
  obtain ⟨S3, m1, m2, m3⟩ := pS_insB (S := S.setA 60 (upd (S.a 60) i 0)) (x := some (A.n + w)) (par := la) (v := B.oi la) (s := B.n) (Lx := Lx) (Os := [B.n]) (num := J.nu i) (act := J.so i) (b' := 62) (p1 := J.ba i) (st := J.str i) (q := S.a 58 i) (p' := S.a 57 i) (hR.setA rfl) hA hr (oV_ltn hoV) (by omega) (by omega) (by simp) (fun g4 => by
      have hh := j6 g4
      obtain ⟨y1, y2⟩ := byts62 (J := J) hKS.1 (p := J.ba i) (n := J.bl i) rfl hh.2
      exact ⟨byts_fr (S := S) y1 (by rw [MS.a_setA, if_neg (by decide)]), by have : (J.str i).length = J.bl i := y2; omega⟩) (by omega) (fun g4 => by rw [hw.2 g4]; exact (v5 g4).2) (fun g4 => (v5 g4).1)
  rw [← hD] at G3 hA3 hv3
  rw [← hD] at m2
  have G3' : RC N3 (C3.setR 9 9 w (some (B.n + 1))) D rd := RC_r9 G3 (Or.inr rfl) (by omega)
  obtain ⟨C5, w1, w2, w3, w4⟩ := wstr (v := i) (x4 := i) G3' ((hKC.fr hfr3).r9 (by decide)) hI hi hDn hDa hDs hDk (by omega) (some r) (some (ox x)) x3
  have hgs : AI (D.gs (stv (J.so i) (J.str i))) := gs_AI hA3 (by omega)
  have hP : STP B (D.gs (stv (J.so i) (J.str i))) r (J.so i) := by rw [hD]; exact STP_mk hlk
  have hBC : m_cJT_writeValues_B5 N 0 C (some r) (some (ox x)) x3 (nI i) = some (.inl (N3, C5.setR 9 8 i (some (B.n + 1)), some r, some (ox x), x3, nI (i + 1)), 2, 18) := by
    unfold m_cJT_writeValues_B5
    rw [gl_ok (by omega), s4, gn_s (by omega), hKC.2.1, if_neg (nle hi (by omega)), s15, gn_s (by omega), hz.2.2.2.2.1, gd_ok (by omega) (by omega), cl_nI (by omega), hz.2.2.2.2.2.2.2.2.2.2.2.2.2.2.2 i (by omega), gn_s (by omega), k2, har, onSome, gl_ok (by omega), hso0, if_neg (show ¬ nI 7 = 6 by decide), f1, gn_s (by omega), gn_s (by omega), gv_ok (by omega), g4, k0, k1]
    rw [show m_cJT_writeBehind N 0 C r (A.n + w + 1) (la.map (· + 1)) (nI (J.so i)) (J.nu i) = _ from q1, oq_ok, w1, al_ok]
  have h54 : S3.a 54 i = nI w := by rw [m3.2.1 54 (by omega), MS.a_setA, if_neg (by decide), v2, har]; rfl
  have h60 : S3.a 60 = upd (S.a 60) i 0 := by rw [m3.2.1 60 (by omega), MS.a_setA, if_pos rfl]
  have h8n : S3.a 8 B.n = nI ((D.gs (stv (J.so i) (J.str i))).id B.n) := (m2.2.1 B.n (by show B.n < D.n; omega)).1
  have hBS : m_rread_B194 S (nI r) (nI (A.oi x)) (nI i) = some (.inl ((S3.setA 59 (upd (S3.a 59) i (nI B.n))).setA 60 (upd (S3.a 60) w (S3.a 8 B.n)), nI r, nI (A.oi x), nI (i + 1))) := by
    unfold m_rread_B194 m_rread_J463
    rw [hKS.2.1, if_neg (nle hi (by omega)), if_neg (show ¬ nI i = 0 from fun g => hi0 ((nI_eq (a := i) (b := 0) (by omega) (by omega)).mp g))]
    simp only [gd_ok (show i < 501 by omega) (by decide), cl_nI (show i < 2 ^ 31 by omega)]
    rw [v2, har, show cI (some w) = nI w from rfl]
    simp only [gd_ok (show w < 501 by omega) (by decide), cl_nI (show w < 2 ^ 31 by omega)]
    rw [hsoS, if_neg (show ¬ nI 7 = 6 by decide), f2, gd_ok (by omega) (by omega), cl_nI (by omega), h8, updq (by omega), g3, v0, v1]
    rw [show m_rinsertBehind (S.setA 60 (upd (S.a 60) i 0)) (nI r) (nI (B.oi (some (A.n + w)))) (nI (B.oi la)) (nI (J.so i)) (J.nu i) 62 (S.a 57 i) (S.a 58 i) = _ from m1, ob_ok]
    simp only [updn]
    rw [gd_ok (by omega) (by omega), h54, gd_ok (by omega) (by omega), cl_nI (by omega), cl_nI (by omega), nI_s]
  refine ⟨N3, _, _, D.gs (stv (J.so i) (J.str i)), rd, x3, 2, 18, hBC, hBS, ?_, ?_, by omega, by omega, Nat.le_refl _, by omega⟩
  · refine wfin h' hI hi hP ((m2.setA rfl).setA rfl) (RC_r9 w2 (Or.inl rfl) (by rw [hP.1]; omega)) hgs ?_ ?_ ((((hKC.fr hfr3).r9 (by decide)).fr w3).r9 (by decide)) ((((hKS.a (Or.inr rfl)).fr m3).a (Or.inl rfl)).a (Or.inr rfl)) ?_ ?_ ?_ ?_ ?_ ?_ ?_ ?_ ?_ ?_
    · intro q hq
      show C5.a 12 8 q = _
      rw [w4]
      exact hv3 q hq
    · rw [if_neg hi0]
      show D.kn + (stv (J.so i) (J.str i)).length = _
      omega
    · intro v hv
      rw [CS.r_setR, if_neg (fun g => hv g.2.2), w3.2.2.2.2.2.2.2.2.2.2.1, CS.r_setR, if_neg (by omega), hfr3.2.2.2.2.2.2.2.2.2.2.1]
    · rw [CS.r_setR, if_pos ⟨rfl, rfl, rfl⟩]
    · intro v hv
      rw [MS.a_setA, if_neg (by decide), MS.a_setA, if_pos rfl, updq hv, m3.2.1 59 (by omega), MS.a_setA, if_neg (by decide)]
    · rw [MS.a_setA, if_neg (by decide), MS.a_setA, if_pos rfl, updn]
    · intro v hv
      have hvw : v ≠ w := fun g => hv (by rw [g]; exact ⟨har, h7⟩)
      rw [CS.r_setR, if_neg (by omega), w3.2.2.2.2.2.2.2.2.2.2.1, CS.r_setR, if_neg (fun g => hvw g.2.2), hfr3.2.2.2.2.2.2.2.2.2.2.1]
    · intro v hv hv2
      have hvw : v ≠ w := fun g => hv2 (by rw [g]; exact ⟨har, h7⟩)
      rw [MS.a_setA, if_pos rfl, updq hvw, h60, updq hv]
    · rw [MS.a_setA, if_pos rfl, updq (by omega), h60, updn]; rfl
    · intro w' hw' _
      rw [har] at hw'
      obtain rfl := Option.some.inj hw'
      refine ⟨?_, ?_, ?_, ?_⟩
      · rw [CS.r_setR, if_neg (by omega), w3.2.2.2.2.2.2.2.2.2.2.1, CS.r_setR, if_pos ⟨rfl, rfl, rfl⟩]
      · rw [MS.a_setA, if_pos rfl, updn, h8n]
      · show D.obj B.n = _
        rw [hD, mk_obj, if_pos rfl]
      · show D.sp B.n = _
        rw [hD, mk_sp, if_pos rfl]
    · rw [e6 (by omega), (hP.2.2.2.1 A.n (by omega)).1]
    · rw [MS.i_setA, MS.i_setA, m3.1 0 (by decide) (by decide) (by decide) (by decide), MS.i_setA]; exact e7
  · exact (((hio.fr ((frS_setA (k := 60) (by decide)).trans (m3.toS.trans ((frS_setA (k := 59) (by decide)).trans (frS_setA (k := 60) (by decide))))) hfr3).r9 (f := 9) (v := w) (y := some (B.n + 1))).fr frS.refl w3).r9
end RDC
