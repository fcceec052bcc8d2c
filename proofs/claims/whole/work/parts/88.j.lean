/-! JSON: steps of what has been read. -/
section JSJ
variable {S S' : MS} {N : Nat → Nat} {C C' : CS} {J : JS} {p js k : Nat} {bs d : List Nat}
section P
variable {so ka kl ba bl : Nat} {x : Int64}
theorem put_F {f v : Nat} (h : v ≠ J.n) : (J.put so x ka kl ba bl p d).F f v = J.F f v := if_neg h
theorem put_so {v : Nat} (h : v ≠ J.n) : (J.put so x ka kl ba bl p d).so v = J.so v := if_neg h
theorem put_ka {v : Nat} (h : v ≠ J.n) : (J.put so x ka kl ba bl p d).ka v = J.ka v := if_neg h
theorem put_kl {v : Nat} (h : v ≠ J.n) : (J.put so x ka kl ba bl p d).kl v = J.kl v := if_neg h
theorem put_ba {v : Nat} (h : v ≠ J.n) : (J.put so x ka kl ba bl p d).ba v = J.ba v := if_neg h
theorem put_bl {v : Nat} (h : v ≠ J.n) : (J.put so x ka kl ba bl p d).bl v = J.bl v := if_neg h
theorem put_nu {v : Nat} (h : v ≠ J.n) : (J.put so x ka kl ba bl p d).nu v = J.nu v := if_neg h
theorem put_ar {v : Nat} (h : v ≠ J.n) : (J.put so x ka kl ba bl p d).ar v = J.ar v := if_neg h
theorem putn_so : (J.put so x ka kl ba bl p d).so J.n = so := by
  show (if J.n = J.n then (if 0 = 0 then so else _) else _) = so
  rw [if_pos rfl, if_pos rfl]
theorem putn_ka : (J.put so x ka kl ba bl p d).ka J.n = ka := by
  show (if J.n = J.n then (if 1 = 0 then so else if 1 = 1 then ka else _) else _) = ka
  rw [if_pos rfl, if_neg (by decide), if_pos rfl]
theorem putn_kl : (J.put so x ka kl ba bl p d).kl J.n = kl := by
  show (if J.n = J.n then (if 2 = 0 then so else if 2 = 1 then ka else if 2 = 2 then kl else _) else _) = kl
  rw [if_pos rfl, if_neg (by decide), if_neg (by decide), if_pos rfl]
theorem putn_ba : (J.put so x ka kl ba bl p d).ba J.n = ba := by
  show (if J.n = J.n then (if 3 = 0 then so else if 3 = 1 then ka else if 3 = 2 then kl else if 3 = 3 then ba else bl) else _) = ba
  rw [if_pos rfl, if_neg (by decide), if_neg (by decide), if_neg (by decide), if_pos rfl]
theorem putn_bl : (J.put so x ka kl ba bl p d).bl J.n = bl := by
  show (if J.n = J.n then (if 4 = 0 then so else if 4 = 1 then ka else if 4 = 2 then kl else if 4 = 3 then ba else bl) else _) = bl
  rw [if_pos rfl, if_neg (by decide), if_neg (by decide), if_neg (by decide), if_neg (by decide)]
theorem putn_nu : (J.put so x ka kl ba bl p d).nu J.n = x := if_pos rfl
theorem putn_ar : (J.put so x ka kl ba bl p d).ar J.n = J.tp := if_pos rfl
theorem CR.put (h : CR N C js bs J) (hst : ∀ i, i < J.dp → J.st i < J.n) (hQ : QV J.n C C') (hw : WF N C') (hT : CT N C' js bs p) (hD : CD C' d) (h3 : C'.i 1 3 0 = nI (J.n + 1)) (hv : CV C' (J.put so x ka kl ba bl p d) J.n) : CR N C' js bs (J.put so x ka kl ba bl p d) := by
  obtain ⟨a1, a2, a3, ⟨a4, a5, a6⟩, a7, a8, a9, a10, a11⟩ := h
  obtain ⟨q0, q1, q2, q3, q4, q5, q6⟩ := hQ
  refine ⟨hw, hT, hD, ⟨by rw [q4]; exact a4, by rw [q0.2.2.2.2.2]; exact a5, by rw [q0.2.2.2.2.1]; exact a6⟩, h3, by rw [q5]; exact a8, by rw [q6]; exact a9, ?_, ?_⟩
  · intro i hi
    have hi : i < J.dp := hi
    have := hst i hi
    show C'.i 9 7 (J.st i) = _
    rw [q1 7 (J.st i) (by omega)]
    exact a10 i hi
  · intro v hvl
    have hvl : v < J.n + 1 := hvl
    by_cases e : v = J.n
    · rw [e]; exact hv
    · have := a11 v (by omega)
      unfold CV at this ⊢
      rw [put_so e, put_ka e, put_kl e, put_ba e, put_bl e, put_nu e, put_ar e, q1 _ _ e, q1 _ _ e, q1 _ _ e, q1 _ _ e, q1 _ _ e, q2 _ _ e, q3 _ _ e, q3 _ _ e, q3 _ _ e]
      exact this
theorem SR.put (h : SR S bs J) (hQ : QW J.n S S') (hT : ST S' bs p) (hD : SD S' d) (h3 : S'.i 64 = nI (J.n + 1)) (h68 : S'.i 68 = 0) (hv : SV S' (J.put so x ka kl ba bl p d) J.n) : SR S' bs (J.put so x ka kl ba bl p d) := by
  obtain ⟨a1, a2, a3, a4, a5, a6, a7⟩ := h
  obtain ⟨q0, q1, q2, q3, q4⟩ := hQ
  refine ⟨hT, hD, h3, by rw [q4]; exact a4, h68, by rw [q2]; exact a6, ?_⟩
  intro v hvl
  have hvl : v < J.n + 1 := hvl
  by_cases e : v = J.n
  · rw [e]; exact hv
  · have := a7 v (by omega)
    unfold SV at this ⊢
    rw [put_so e, put_ka e, put_kl e, put_ba e, put_bl e, put_nu e, put_ar e, q1 53 _ (by omega) (by omega) e, q1 54 _ (by omega) (by omega) e, q1 55 _ (by omega) (by omega) e, q1 56 _ (by omega) (by omega) e, q1 57 _ (by omega) (by omega) e, q1 58 _ (by omega) (by omega) e, q3 _ e]
    exact this
theorem sumN_congr {f g : Nat → Nat} : ∀ n, (∀ v, v < n → f v = g v) → sumN f n = sumN g n := by
  intro n
  induction n with
  | zero => intro _; rfl
  | succ n ih => intro h; show sumN f n + f n = sumN g n + g n; rw [ih (fun v hv => h v (by omega)), h n (by omega)]
/-- a value's key: in a map alone -/
def KOK (J : JS) (ka kl : Nat) : Prop := (∀ w, J.tp = some w → (J.so w = 6 ↔ 0 < kl)) ∧ (J.tp = none → kl = 0) ∧ (0 < kl → kl ≤ 64 ∧ ka + kl ≤ J.d.length) ∧ (J.tp = none ↔ J.n = 0)
theorem tp_some (h : J.tp = some k) : 0 < J.dp ∧ k = J.st (J.dp - 1) := by
  unfold JS.tp at h
  split at h
  · cases h
  · exact ⟨by omega, (Option.some.inj h).symm⟩
theorem JI.put (h : JI bs J kl) (hn : J.n < 500) (hk : KOK J ka kl) (hso : so ≤ 7 ∧ so ≠ 5) (hp : J.p ≤ p) (hpl : p ≤ bs.length) {y : List Nat} (hd : d = J.d ++ y) (hdl : d.length ≤ p) (hy : y.length = if so = 4 then bl else 0) (h4 : so = 4 → bl ≤ 1024 ∧ ba = J.d.length) : JI bs (J.put so x ka kl ba bl p d) 0 := by
  obtain ⟨⟨b1, b2, b3, b4, b5⟩, b6, b7, b8, b9⟩ := h
  have hlen : d.length = J.d.length + y.length := by rw [hd, List.length_append]
  refine ⟨⟨hn, b2, hdl, hpl, b5⟩, ?_, ?_, ?_, b9⟩
  · intro i hi
    have hi : i < J.dp := hi
    obtain ⟨c1, c2, c3⟩ := b6 i hi
    have e : J.st i ≠ J.n := by omega
    refine ⟨by show J.st i < J.n + 1; omega, ?_, ?_⟩
    · show (JS.put J so x ka kl ba bl p d).so (J.st i) = 6 ∨ (JS.put J so x ka kl ba bl p d).so (J.st i) = 7
      rw [put_so e]; exact c2
    · show (JS.put J so x ka kl ba bl p d).ar (J.st i) = _
      rw [put_ar e]; exact c3
  · intro v hv
    have hv : v < J.n + 1 := hv
    by_cases e : v = J.n
    · subst e
      unfold JVI
      rw [putn_so, putn_ka, putn_kl, putn_ba, putn_bl, putn_ar]
      refine ⟨hso, hk.2.2.2, ?_, fun h0 => hk.2.1 (hk.2.2.2.mpr h0), fun h0 => ?_, fun h0 => ?_⟩
      · intro w hw
        obtain ⟨c1, c2⟩ := tp_some hw
        have hst := b6 (J.dp - 1) (by omega)
        rw [← c2] at hst
        have e : w ≠ J.n := by omega
        rw [put_so e]
        exact ⟨hst.1, hst.2.1, hk.1 w hw⟩
      · obtain ⟨c1, c2⟩ := hk.2.2.1 h0
        exact ⟨c1, by show ka + kl ≤ d.length; omega⟩
      · obtain ⟨c1, c2⟩ := h4 h0
        rw [if_pos h0] at hy
        exact ⟨c1, by show ba + bl ≤ d.length; omega⟩
    · obtain ⟨c1, c2, c3, c4, c5, c6⟩ := b7 v (by omega)
      unfold JVI
      rw [put_so e, put_ka e, put_kl e, put_ba e, put_bl e, put_ar e]
      refine ⟨c1, c2, ?_, c4, fun h0 => ?_, fun h0 => ?_⟩
      · intro w hw
        have c := c3 w hw
        rw [put_so (by omega)]
        exact c
      · have := c5 h0
        exact ⟨this.1, by show J.ka v + J.kl v ≤ d.length; omega⟩
      · have := c6 h0
        exact ⟨this.1, by show J.ba v + J.bl v ≤ d.length; omega⟩
  · show sumN (JS.put J so x ka kl ba bl p d).w (J.n + 1) + 0 = d.length
    have e1 : sumN (JS.put J so x ka kl ba bl p d).w J.n = sumN J.w J.n := by
      apply sumN_congr
      intro v hv
      unfold JS.w
      rw [put_so (by omega), put_kl (by omega), put_bl (by omega)]
    have e2 : (JS.put J so x ka kl ba bl p d).w J.n = kl + (if so = 4 then bl else 0) := by
      unfold JS.w
      rw [putn_so, putn_kl, putn_bl]
    show sumN (JS.put J so x ka kl ba bl p d).w J.n + (JS.put J so x ka kl ba bl p d).w J.n + 0 = d.length
    rw [e1, e2]
    omega
end P
/-- what has just been put is opened -/
theorem CR.opn (h : CR N C js bs J) (hfr : J.fr = false) (hst : ∀ i, i < J.dp → J.st i < J.n - 1) (hn : 0 < J.n) (h500 : J.n ≤ 500) (h7 : C.i 9 7 (J.n - 1) = 0) (hp : J.p < bs.length) : CR N (((C.setI 1 5 0 (nI (J.dp + 1))).setI 1 4 0 (nI (J.p + 1))).setR 1 6 0 (some (J.n - 1))) js bs (J.opn (J.p + 1)) := by
  obtain ⟨a1, a2, a3, a4, a7, a8, a9, a10, a11⟩ := h
  have hN := a2.1
  refine ⟨?_, ?_, ?_, a4, ?_, ?_, ?_, ?_, ?_⟩
  · refine WF_setR (show WF N ((C.setI 1 5 0 (nI (J.dp + 1))).setI 1 4 0 (nI (J.p + 1))) from a1) ?_
    intro t y ht hy
    obtain rfl : t = 9 := by
      have : ((cFT.getD 1 [])[6]? : Option Nat) = some (9 + 2) := by decide
      rw [this] at ht
      have := Option.some.inj ht
      omega
    have := Option.some.inj hy
    omega
  · have h1 : CT N (C.setI 1 5 0 (nI (J.dp + 1))) js bs J.p := by
      obtain ⟨h1, h2, h3, h4, h5, h6, h7⟩ := a2
      exact ⟨h1, h2, ⟨h3.1, h3.2.1, by rw [CS.i_setI, if_neg (by omega)]; exact h3.2.2.1, h3.2.2.2⟩, h4, h5, by rw [CS.i_setI, if_neg (by omega)]; exact h6, h7⟩
    obtain ⟨h1, h2, h3, h4, h5, h6, h7⟩ := h1.set (q := J.p + 1) (by omega)
    exact ⟨h1, ⟨by rw [CS.r_setR, if_neg (by omega)]; exact h2.1, h2.2⟩, ⟨h3.1, by rw [CS.r_setR, if_neg (by omega)]; exact h3.2.1, h3.2.2⟩, h4, h5, h6, h7⟩
  · obtain ⟨h1, h2, h3, h4⟩ := a3
    exact ⟨⟨h1.1, by rw [CS.r_setR, if_neg (by omega)]; exact h1.2.1, by rw [CS.i_setR, CS.i_setI, if_neg (by omega), CS.i_setI, if_neg (by omega)]; exact h1.2.2.1, h1.2.2.2⟩, h2, h3, by rw [CS.r_setR, if_neg (by omega)]; exact h4⟩
  · rw [CS.i_setR, CS.i_setI, if_neg (by omega), CS.i_setI, if_neg (by omega)]; exact a7
  · rw [CS.i_setR, CS.i_setI, if_neg (by omega), CS.i_setI, if_pos ⟨rfl, rfl, rfl⟩]; rfl
  · rw [CS.r_setR, if_pos ⟨rfl, rfl, rfl⟩]
    show _ = (if J.dp + 1 = 0 then none else some (if J.dp + 1 - 1 = J.dp then J.n - 1 else J.st (J.dp + 1 - 1)))
    rw [if_neg (by omega), if_pos (by omega)]
  · intro i hi
    have hi : i < J.dp + 1 := hi
    show (C.i 9 7 (if i = J.dp then J.n - 1 else J.st i)) = (if i + 1 = J.dp + 1 ∧ true = true then 0 else 1)
    by_cases e : i = J.dp
    · rw [if_pos e, if_pos ⟨by omega, rfl⟩]; exact h7
    · rw [if_neg e, if_neg (by omega), a10 i (by omega), if_neg (by rw [hfr]; exact fun g => by cases g.2)]
  · intro v hv
    exact a11 v hv
theorem SR.opn (h : SR S bs J) (hn : 0 < J.n) (hd : J.dp < 32) (hp : J.p < bs.length) : SR ((((S.setI 66 (nI (J.p + 1))).setA 63 (upd (S.a 63) J.dp (nI (J.n - 1)))).setI 67 (nI (J.dp + 1))).setI 69 1) bs (J.opn (J.p + 1)) := by
  obtain ⟨a1, a2, a3, a4, a5, a6, a7⟩ := h
  refine ⟨(a1.set (q := J.p + 1) (by omega)).fr rfl rfl rfl, a2, a3, rfl, a5, ?_, a7⟩
  intro i hi
  have hi : i < J.dp + 1 := hi
  show upd (S.a 63) J.dp (nI (J.n - 1)) i = nI (if i = J.dp then J.n - 1 else J.st i)
  unfold upd
  by_cases e : i = J.dp
  · rw [if_pos e, if_pos e]
  · rw [if_neg e, if_neg e]
    exact a6 i (by omega)
theorem JI.opn (h : JI bs J 0) (hn : 0 < J.n) (hd : J.dp < 20) (hp : J.p < bs.length) (hso : J.so (J.n - 1) = 6 ∨ J.so (J.n - 1) = 7) (har : J.ar (J.n - 1) = J.tp) (hst : ∀ i, i < J.dp → J.st i < J.n - 1) : JI bs (J.opn (J.p + 1)) 0 := by
  obtain ⟨⟨b1, b2, b3, b4, b5⟩, b6, b7, b8, b9⟩ := h
  refine ⟨⟨b1, by show J.dp + 1 ≤ 20; omega, by show J.d.length ≤ J.p + 1; omega, by show J.p + 1 ≤ _; omega, b5⟩, ?_, b7, b8, fun _ => by show 0 < J.dp + 1; omega⟩
  intro i hi
  have hi : i < J.dp + 1 := hi
  show (if i = J.dp then J.n - 1 else J.st i) < J.n ∧ (J.so (if i = J.dp then J.n - 1 else J.st i) = 6 ∨ J.so (if i = J.dp then J.n - 1 else J.st i) = 7) ∧ J.ar (if i = J.dp then J.n - 1 else J.st i) = (if i = 0 then none else some (if i - 1 = J.dp then J.n - 1 else J.st (i - 1)))
  by_cases e : i = J.dp
  · rw [if_pos e]
    refine ⟨by omega, hso, ?_⟩
    rw [har]
    unfold JS.tp
    by_cases e0 : i = 0
    · rw [if_pos e0, if_pos (by omega)]
    · rw [if_neg e0, if_neg (by omega), if_neg (by omega), e]
  · have := b6 i (by omega)
    rw [if_neg e]
    refine ⟨this.1, this.2.1, ?_⟩
    rw [this.2.2]
    by_cases e0 : i = 0
    · rw [if_pos e0, if_pos e0]
    · rw [if_neg e0, if_neg e0, if_neg (by omega)]
/-- the class closes -/
theorem CR.cls (h : CR N C js bs J) (hI : JI bs J k) (hd : 0 < J.dp) (hp : J.p < bs.length) : CR N (((C.setI 1 4 0 (nI (J.p + 1))).setI 1 5 0 (nI (J.dp - 1))).setR 1 6 0 (C.r 9 2 (J.st (J.dp - 1)))) js bs (J.cls (J.p + 1)) := by
  have hI' := hI
  obtain ⟨⟨b1, b2, b3, b4, b5⟩, b6, b7, b8, b9⟩ := hI
  obtain ⟨a1, a2, a3, a4, a7, a8, a9, a10, a11⟩ := h
  have hN := a2.1
  have htop := b6 (J.dp - 1) (by omega)
  have har : C.r 9 2 (J.st (J.dp - 1)) = (if J.dp - 1 = 0 then none else some (J.st (J.dp - 1 - 1))) := by
    rw [(a11 _ htop.1).2.2.1, htop.2.2]
  refine ⟨?_, ?_, ?_, a4, ?_, ?_, ?_, ?_, ?_⟩
  · refine WF_setR (show WF N ((C.setI 1 4 0 (nI (J.p + 1))).setI 1 5 0 (nI (J.dp - 1))) from a1) ?_
    intro t y ht hy
    obtain rfl : t = 9 := by
      have : ((cFT.getD 1 [])[6]? : Option Nat) = some (9 + 2) := by decide
      rw [this] at ht
      have := Option.some.inj ht
      omega
    rw [har] at hy
    split at hy
    · cases hy
    · have := Option.some.inj hy
      have := (b6 (J.dp - 1 - 1) (by omega)).1
      omega
  · have h1 := a2.set (q := J.p + 1) (by omega)
    obtain ⟨h1, h2, h3, h4, h5, h6, h7⟩ := h1
    exact ⟨h1, ⟨by rw [CS.r_setR, if_neg (by omega)]; exact h2.1, h2.2⟩, ⟨h3.1, by rw [CS.r_setR, if_neg (by omega)]; exact h3.2.1, by rw [CS.i_setR, CS.i_setI, if_neg (by omega)]; exact h3.2.2.1, h3.2.2.2⟩, h4, h5, by rw [CS.i_setR, CS.i_setI, if_neg (by omega)]; exact h6, h7⟩
  · obtain ⟨h1, h2, h3, h4⟩ := a3
    exact ⟨⟨h1.1, by rw [CS.r_setR, if_neg (by omega)]; exact h1.2.1, by rw [CS.i_setR, CS.i_setI, if_neg (by omega), CS.i_setI, if_neg (by omega)]; exact h1.2.2.1, h1.2.2.2⟩, h2, h3, by rw [CS.r_setR, if_neg (by omega)]; exact h4⟩
  · rw [CS.i_setR, CS.i_setI, if_neg (by omega), CS.i_setI, if_neg (by omega)]; exact a7
  · rw [CS.i_setR, CS.i_setI, if_pos ⟨rfl, rfl, rfl⟩]; rfl
  · rw [CS.r_setR, if_pos ⟨rfl, rfl, rfl⟩, har]
    rfl
  · intro i hi
    have hi : i < J.dp - 1 := hi
    show C.i 9 7 (J.st i) = (if i + 1 = J.dp - 1 ∧ false = true then 0 else 1)
    rw [if_neg (fun g => by cases g.2), a10 i (by omega), if_neg (by omega)]
  · intro v hv
    exact a11 v hv
theorem SR.cls (h : SR S bs J) (hp : J.p < bs.length) : SR (((S.setI 66 (nI (J.p + 1))).setI 67 (nI (J.dp - 1))).setI 69 2) bs (J.cls (J.p + 1)) := by
  obtain ⟨a1, a2, a3, a4, a5, a6, a7⟩ := h
  exact ⟨(a1.set (q := J.p + 1) (by omega)).fr rfl rfl rfl, a2, a3, rfl, a5, fun i hi => a6 i (by have : i < J.dp - 1 := hi; omega), a7⟩
theorem JI.cls (h : JI bs J k) (hp : J.p < bs.length) : JI bs (J.cls (J.p + 1)) k := by
  obtain ⟨⟨b1, b2, b3, b4, b5⟩, b6, b7, b8, b9⟩ := h
  exact ⟨⟨b1, by show J.dp - 1 ≤ 20; omega, by show J.d.length ≤ J.p + 1; omega, by show J.p + 1 ≤ _; omega, b5⟩, fun i hi => b6 i (by have : i < J.dp - 1 := hi; omega), b7, b8, fun h => by cases h⟩
/-- on to another place -/
theorem CR.go (h : CR N C js bs J) (hQ : Q1 C C') (hT : CT N C' js bs p) (hD : CD C' d) (hf : J.fr = false) : CR N C' js bs (J.go p d) := by
  obtain ⟨a1, a2, a3, ⟨a4, a5, a6⟩, a7, a8, a9, a10, a11⟩ := h
  have hv : QC C C' := hQ.v (n := 0) |>.1
  refine ⟨hQ.wf a1, hT, hD, ⟨by rw [hQ.r]; exact a4, by rw [hv.2.2.2.2.2]; exact a5, by rw [hv.2.2.2.2.1]; exact a6⟩, by rw [hQ.i1 3 (by omega)]; exact a7, by rw [hQ.i1 5 (by omega)]; exact a8, by rw [hQ.r]; exact a9, ?_, ?_⟩
  · intro i hi
    show C'.i 9 7 (J.st i) = (if i + 1 = J.dp ∧ false = true then 0 else 1)
    rw [hQ.i9, a10 i hi, hf]
  · intro v hvl
    have := a11 v hvl
    unfold CV at this ⊢
    rw [hQ.i9, hQ.i9, hQ.i9, hQ.i9, hQ.i9, hQ.l, hQ.r]
    exact this
/-- what is open is no more empty -/
theorem CR.fill (h : CR N C js bs J) (hI : JI bs J k) (hd : 0 < J.dp) : CR N ((C.setI 9 7 (J.st (J.dp - 1)) 1).setI 1 7 0 1) js bs (J.go J.p J.d) := by
  have hI' := hI
  obtain ⟨⟨b1, b2, b3, b4, b5⟩, b6, b7, b8, b9⟩ := hI
  obtain ⟨a1, a2, a3, a4, a7, a8, a9, a10, a11⟩ := h
  refine ⟨a1, ?_, ?_, a4, ?_, ?_, a9, ?_, ?_⟩
  · obtain ⟨h1, h2, h3, h4, h5, h6, h7⟩ := a2
    exact ⟨h1, h2, ⟨h3.1, h3.2.1, by rw [CS.i_setI, if_neg (by omega), CS.i_setI, if_neg (by omega)]; exact h3.2.2.1, h3.2.2.2⟩, h4, h5, by rw [CS.i_setI, if_neg (by omega), CS.i_setI, if_neg (by omega)]; exact h6, h7⟩
  · obtain ⟨h1, h2, h3, h4⟩ := a3
    exact ⟨⟨h1.1, h1.2.1, by rw [CS.i_setI, if_neg (by omega), CS.i_setI, if_neg (by omega)]; exact h1.2.2.1, h1.2.2.2⟩, h2, h3, h4⟩
  · rw [CS.i_setI, if_neg (by omega), CS.i_setI, if_neg (by omega)]; exact a7
  · rw [CS.i_setI, if_neg (by omega), CS.i_setI, if_neg (by omega)]; exact a8
  · intro i hi
    have hi : i < J.dp := hi
    show ((C.setI 9 7 (J.st (J.dp - 1)) 1).setI 1 7 0 1).i 9 7 (J.st i) = (if i + 1 = J.dp ∧ false = true then 0 else 1)
    rw [CS.i_setI, if_neg (by omega), CS.i_setI, if_neg (show ¬ (i + 1 = J.dp ∧ false = true) from fun g => by cases g.2)]
    by_cases e : J.st i = J.st (J.dp - 1)
    · rw [if_pos ⟨rfl, rfl, e⟩]
    · rw [if_neg (fun g => e g.2.2), a10 i hi, if_neg]
      intro g
      exact e (by rw [show i = J.dp - 1 by omega])
  · intro v hv
    have := a11 v hv
    unfold CV at this ⊢
    simp only [CS.i_setI, CS.l_setI, CS.r_setI, Nat.reduceEqDiff, false_and, and_false, if_false]
    exact this
theorem SR.go (h : SR S bs J) (hQ : QS S S') (h0 : S'.i 68 = 0) (hT : ST S' bs p) (hD : SD S' d) : SR S' bs (J.go p d) := by
  obtain ⟨a1, a2, a3, a4, a5, a6, a7⟩ := h
  refine ⟨hT, hD, by rw [hQ.1 64 (by omega) (by omega) (by omega)]; exact a3, by rw [hQ.1 67 (by omega) (by omega) (by omega)]; exact a4, h0, by rw [hQ.2.1 63 (by omega)]; exact a6, ?_⟩
  intro v hv
  have := a7 v hv
  unfold SV at this ⊢
  rw [hQ.2.1 53 (by omega), hQ.2.1 54 (by omega), hQ.2.1 55 (by omega), hQ.2.1 56 (by omega), hQ.2.1 57 (by omega), hQ.2.1 58 (by omega), hQ.2.2]
  exact this
theorem SR.st (h : SR S bs J) {x : Int32} : SR (S.setI 69 x) bs J := by
  obtain ⟨a1, a2, a3, a4, a5, a6, a7⟩ := h
  exact ⟨a1.fr rfl rfl rfl, a2, a3, a4, a5, a6, a7⟩
theorem JI.go (h : JI bs J k) (hp : J.p ≤ p) (hpl : p ≤ bs.length) {y : List Nat} (hd : d = J.d ++ y) (hdl : d.length ≤ p) : JI bs (J.go p d) (k + y.length) := by
  obtain ⟨⟨b1, b2, b3, b4, b5⟩, b6, b7, b8, b9⟩ := h
  have hlen : d.length = J.d.length + y.length := by rw [hd, List.length_append]
  refine ⟨⟨b1, b2, hdl, hpl, b5⟩, b6, ?_, by show sumN J.w J.n + (k + y.length) = d.length; omega, fun h => by cases h⟩
  intro v hv
  obtain ⟨c1, c2, c3, c4, c5, c6⟩ := b7 v hv
  exact ⟨c1, c2, c3, c4, fun h0 => ⟨(c5 h0).1, by have := (c5 h0).2; show J.ka v + J.kl v ≤ d.length; omega⟩, fun h0 => ⟨(c6 h0).1, by have := (c6 h0).2; show J.ba v + J.bl v ≤ d.length; omega⟩⟩
end JSJ
