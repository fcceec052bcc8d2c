/-! JSON: what has been read. -/
/-- n values, the place, the decoded bytes, by field and value (0 sort, 1 and 2 key, 3 and 4 string), numbers, what a value lies in, the stack, its depth, just opened? -/
def JS : Type := Nat × Nat × List Nat × (Nat → Nat → Nat) × (Nat → Int64) × (Nat → Option Nat) × (Nat → Nat) × Nat × Bool
def JS.n (J : JS) : Nat := J.1
def JS.p (J : JS) : Nat := J.2.1
def JS.d (J : JS) : List Nat := J.2.2.1
def JS.F (J : JS) : Nat → Nat → Nat := J.2.2.2.1
def JS.nu (J : JS) : Nat → Int64 := J.2.2.2.2.1
def JS.ar (J : JS) : Nat → Option Nat := J.2.2.2.2.2.1
def JS.st (J : JS) : Nat → Nat := J.2.2.2.2.2.2.1
def JS.dp (J : JS) : Nat := J.2.2.2.2.2.2.2.1
def JS.fr (J : JS) : Bool := J.2.2.2.2.2.2.2.2
def JS.so (J : JS) (v : Nat) : Nat := J.F 0 v
def JS.ka (J : JS) (v : Nat) : Nat := J.F 1 v
def JS.kl (J : JS) (v : Nat) : Nat := J.F 2 v
def JS.ba (J : JS) (v : Nat) : Nat := J.F 3 v
def JS.bl (J : JS) (v : Nat) : Nat := J.F 4 v
/-- what is open -/
def JS.tp (J : JS) : Option Nat := if J.dp = 0 then none else some (J.st (J.dp - 1))
def CV (C : CS) (J : JS) (v : Nat) : Prop := C.i 9 0 v = nI (J.so v) ∧ C.l 9 1 v = J.nu v ∧ C.r 9 2 v = J.ar v ∧ (0 < J.kl v → C.i 9 3 v = nI (J.ka v) ∧ C.i 9 4 v = nI (J.kl v)) ∧ (J.so v = 4 → C.i 9 5 v = nI (J.ba v) ∧ C.i 9 6 v = nI (J.bl v)) ∧ C.r 9 8 v = none ∧ C.r 9 9 v = none
def CR (N : Nat → Nat) (C : CS) (js : Nat) (bs : List Nat) (J : JS) : Prop := WF N C ∧ CT N C js bs J.p ∧ CD C J.d ∧ (C.r 1 0 0 = some 0 ∧ C.z 18 0 = 500 ∧ ∀ i, i < 500 → C.q 18 0 i = some i) ∧ C.i 1 3 0 = nI J.n ∧ C.i 1 5 0 = nI J.dp ∧ C.r 1 6 0 = J.tp ∧ (∀ i, i < J.dp → C.i 9 7 (J.st i) = (if i + 1 = J.dp ∧ J.fr = true then 0 else 1)) ∧ ∀ v, v < J.n → CV C J v
def SV (S : MS) (J : JS) (v : Nat) : Prop := S.a 53 v = nI (J.so v) ∧ S.n 61 v = J.nu v ∧ S.a 54 v = cI (J.ar v) ∧ (0 < J.kl v → S.a 55 v = nI (J.ka v)) ∧ S.a 56 v = nI (J.kl v) ∧ (J.so v = 4 → S.a 57 v = nI (J.ba v) ∧ S.a 58 v = nI (J.bl v))
def SR (S : MS) (bs : List Nat) (J : JS) : Prop := ST S bs J.p ∧ SD S J.d ∧ S.i 64 = nI J.n ∧ S.i 67 = nI J.dp ∧ S.i 68 = 0 ∧ (∀ i, i < J.dp → S.a 63 i = nI (J.st i)) ∧ ∀ v, v < J.n → SV S J v
def JS.w (J : JS) (v : Nat) : Nat := J.kl v + (if J.so v = 4 then J.bl v else 0)
def JVI (J : JS) (v : Nat) : Prop := (J.so v ≤ 7 ∧ J.so v ≠ 5) ∧ (J.ar v = none ↔ v = 0) ∧ (∀ w, J.ar v = some w → w < v ∧ (J.so w = 6 ∨ J.so w = 7) ∧ (J.so w = 6 ↔ 0 < J.kl v)) ∧ (v = 0 → J.kl v = 0) ∧ (0 < J.kl v → J.kl v ≤ 64 ∧ J.ka v + J.kl v ≤ J.d.length) ∧ (J.so v = 4 → J.bl v ≤ 1024 ∧ J.ba v + J.bl v ≤ J.d.length)
/-- what is true of it; k bytes are a key whose value hasn't begun -/
def JI (bs : List Nat) (J : JS) (k : Nat) : Prop := (J.n ≤ 500 ∧ J.dp ≤ 20 ∧ J.d.length ≤ J.p ∧ J.p ≤ bs.length ∧ bs.length ≤ 8192) ∧ (∀ i, i < J.dp → J.st i < J.n ∧ (J.so (J.st i) = 6 ∨ J.so (J.st i) = 7) ∧ J.ar (J.st i) = (if i = 0 then none else some (J.st (i - 1)))) ∧ (∀ v, v < J.n → JVI J v) ∧ sumN J.w J.n + k = J.d.length ∧ (J.fr = true → 0 < J.dp)
/-- the class keeps all but what the reader has -/
def QC (C C' : CS) : Prop := (∀ k f j, k ≠ 1 → k ≠ 9 → ¬ (k = 5 ∧ j = 1) → C'.i k f j = C.i k f j) ∧ (∀ k f j, k ≠ 9 → C'.l k f j = C.l k f j) ∧ (∀ k f j, k ≠ 1 → k ≠ 9 → C'.r k f j = C.r k f j) ∧ (∀ k j q, ¬ (k = 13 ∧ j = 1) → C'.a k j q = C.a k j q) ∧ C'.q = C.q ∧ C'.z = C.z
/-- so does the reference -/
def QR (S S' : MS) : Prop := (∀ j, j < 64 ∨ 69 < j → S'.i j = S.i j) ∧ (∀ k, k < 53 ∨ 58 < k → k ≠ 62 → k ≠ 63 → S'.a k = S.a k) ∧ ∀ k, k ≠ 61 → S'.n k = S.n k
/-- all but value n -/
def QV (n : Nat) (C C' : CS) : Prop := QC C C' ∧ (∀ f j, j ≠ n → C'.i 9 f j = C.i 9 f j) ∧ (∀ f j, j ≠ n → C'.l 9 f j = C.l 9 f j) ∧ (∀ f j, j ≠ n → C'.r 9 f j = C.r 9 f j) ∧ C'.r 1 0 0 = C.r 1 0 0 ∧ C'.i 1 5 0 = C.i 1 5 0 ∧ C'.r 1 6 0 = C.r 1 6 0
def QW (n : Nat) (S S' : MS) : Prop := QR S S' ∧ (∀ k v, 53 ≤ k → k ≤ 58 → v ≠ n → S'.a k v = S.a k v) ∧ S'.a 63 = S.a 63 ∧ (∀ v, v ≠ n → S'.n 61 v = S.n 61 v) ∧ S'.i 67 = S.i 67
/-- one more value -/
def JS.put (J : JS) (so : Nat) (x : Int64) (ka kl ba bl p : Nat) (d : List Nat) : JS := (J.n + 1, p, d, fun f v => if v = J.n then (if f = 0 then so else if f = 1 then ka else if f = 2 then kl else if f = 3 then ba else bl) else J.F f v, fun v => if v = J.n then x else J.nu v, fun v => if v = J.n then J.tp else J.ar v, J.st, J.dp, J.fr)
/-- the last value is opened -/
def JS.opn (J : JS) (p : Nat) : JS := (J.n, p, J.d, J.F, J.nu, J.ar, fun i => if i = J.dp then J.n - 1 else J.st i, J.dp + 1, true)
def JS.cls (J : JS) (p : Nat) : JS := (J.n, p, J.d, J.F, J.nu, J.ar, J.st, J.dp - 1, false)
/-- elsewhere, other bytes, not just opened -/
def JS.go (J : JS) (p : Nat) (d : List Nat) : JS := (J.n, p, d, J.F, J.nu, J.ar, J.st, J.dp, false)
section JSI
variable {S S' : MS} {N : Nat → Nat} {C C' : CS} {J : JS} {A : AS} {p js rd n : Nat} {bs d : List Nat}
theorem QC.refl : QC C C := ⟨fun _ _ _ _ _ _ => rfl, fun _ _ _ _ => rfl, fun _ _ _ _ _ => rfl, fun _ _ _ _ => rfl, rfl, rfl⟩
theorem QC.trans {C'' : CS} (h : QC C C') (g : QC C' C'') : QC C C'' := ⟨fun k f j a b c => (g.1 k f j a b c).trans (h.1 k f j a b c), fun k f j a => (g.2.1 k f j a).trans (h.2.1 k f j a), fun k f j a b => (g.2.2.1 k f j a b).trans (h.2.2.1 k f j a b), fun k j q a => (g.2.2.2.1 k j q a).trans (h.2.2.2.1 k j q a), g.2.2.2.2.1.trans h.2.2.2.2.1, g.2.2.2.2.2.trans h.2.2.2.2.2⟩
theorem QV.refl : QV n C C := ⟨QC.refl, fun _ _ _ => rfl, fun _ _ _ => rfl, fun _ _ _ => rfl, rfl, rfl, rfl⟩
theorem QV.trans {C'' : CS} (h : QV n C C') (g : QV n C' C'') : QV n C C'' := ⟨h.1.trans g.1, fun f j a => (g.2.1 f j a).trans (h.2.1 f j a), fun f j a => (g.2.2.1 f j a).trans (h.2.2.1 f j a), fun f j a => (g.2.2.2.1 f j a).trans (h.2.2.2.1 f j a), g.2.2.2.2.1.trans h.2.2.2.2.1, g.2.2.2.2.2.1.trans h.2.2.2.2.2.1, g.2.2.2.2.2.2.trans h.2.2.2.2.2.2⟩
theorem Q1.v (h : Q1 C C') : QV n C C' := by
  obtain ⟨x, u, f, rfl⟩ := h
  refine ⟨⟨?_, fun _ _ _ _ => rfl, fun _ _ _ _ _ => rfl, ?_, rfl, rfl⟩, fun _ _ _ => rfl, fun _ _ _ => rfl, fun _ _ _ => rfl, rfl, rfl, rfl⟩
  · intro k f1 j h1 h2 h3
    rw [jr_i, if_neg (fun h => h1 h.1), if_neg h3]
  · intro k j q h1
    rw [jr_a, if_neg h1]
theorem Q1.i9 (h : Q1 C C') (f j : Nat) : C'.i 9 f j = C.i 9 f j := by obtain ⟨x, u, f, rfl⟩ := h; rfl
theorem Q1.l (h : Q1 C C') : C'.l = C.l := by obtain ⟨x, u, f, rfl⟩ := h; rfl
theorem Q1.r (h : Q1 C C') : C'.r = C.r := by obtain ⟨x, u, f, rfl⟩ := h; rfl
theorem Q1.i1 (h : Q1 C C') (f : Nat) (hf : f ≠ 4) : C'.i 1 f 0 = C.i 1 f 0 := by
  obtain ⟨x, u, g, rfl⟩ := h
  rw [jr_i, if_neg (by omega), if_neg (by omega)]
theorem Q1.wf (h : Q1 C C') (hw : WF N C) : WF N C' := by obtain ⟨x, u, f, rfl⟩ := h; exact hw
theorem QV_i1 {f : Nat} {x : Int32} (hf : f ≠ 5) : QV n C (C.setI 1 f 0 x) := by
  refine ⟨⟨fun k f1 j h1 h2 h3 => ?_, fun _ _ _ _ => rfl, fun _ _ _ _ _ => rfl, fun _ _ _ _ => rfl, rfl, rfl⟩, fun f1 j h1 => ?_, fun _ _ _ => rfl, fun _ _ _ => rfl, rfl, ?_, rfl⟩
  · rw [CS.i_setI, if_neg (fun h => h1 h.1)]
  · rw [CS.i_setI, if_neg (by omega)]
  · rw [CS.i_setI, if_neg (fun h => hf h.2.1.symm)]
theorem QV_i9 {f : Nat} {x : Int32} : QV n C (C.setI 9 f n x) := by
  refine ⟨⟨fun k f1 j h1 h2 h3 => ?_, fun _ _ _ _ => rfl, fun _ _ _ _ _ => rfl, fun _ _ _ _ => rfl, rfl, rfl⟩, fun f1 j h1 => ?_, fun _ _ _ => rfl, fun _ _ _ => rfl, rfl, ?_, rfl⟩
  · rw [CS.i_setI, if_neg (fun h => h2 h.1)]
  · rw [CS.i_setI, if_neg (fun h => h1 h.2.2)]
  · rw [CS.i_setI, if_neg (by omega)]
theorem QV_l9 {f : Nat} {x : Int64} : QV n C (C.setL 9 f n x) := by
  refine ⟨⟨fun _ _ _ _ _ _ => rfl, fun k f1 j h1 => ?_, fun _ _ _ _ _ => rfl, fun _ _ _ _ => rfl, rfl, rfl⟩, fun _ _ _ => rfl, fun f1 j h1 => ?_, fun _ _ _ => rfl, rfl, rfl, rfl⟩
  · rw [CS.l_setL, if_neg (fun h => h1 h.1)]
  · rw [CS.l_setL, if_neg (fun h => h1 h.2.2)]
theorem QV_r9 {f : Nat} {x : Option Nat} : QV n C (C.setR 9 f n x) := by
  refine ⟨⟨fun _ _ _ _ _ _ => rfl, fun _ _ _ _ => rfl, fun k f1 j h1 h2 => ?_, fun _ _ _ _ => rfl, rfl, rfl⟩, fun _ _ _ => rfl, fun _ _ _ => rfl, fun f1 j h1 => ?_, ?_, rfl, ?_⟩
  · rw [CS.r_setR, if_neg (fun h => h2 h.1)]
  · rw [CS.r_setR, if_neg (fun h => h1 h.2.2)]
  · rw [CS.r_setR, if_neg (by omega)]
  · rw [CS.r_setR, if_neg (by omega)]
theorem QR.refl : QR S S := ⟨fun _ _ => rfl, fun _ _ _ _ => rfl, fun _ _ => rfl⟩
theorem QR.trans {S'' : MS} (h : QR S S') (g : QR S' S'') : QR S S'' := ⟨fun j a => (g.1 j a).trans (h.1 j a), fun k a b c => (g.2.1 k a b c).trans (h.2.1 k a b c), fun k a => (g.2.2 k a).trans (h.2.2 k a)⟩
theorem QW.refl : QW n S S := ⟨QR.refl, fun _ _ _ _ _ => rfl, rfl, fun _ _ => rfl, rfl⟩
theorem QW.trans {S'' : MS} (h : QW n S S') (g : QW n S' S'') : QW n S S'' := ⟨h.1.trans g.1, fun k v a b c => (g.2.1 k v a b c).trans (h.2.1 k v a b c), g.2.2.1.trans h.2.2.1, fun v a => (g.2.2.2.1 v a).trans (h.2.2.2.1 v a), g.2.2.2.2.trans h.2.2.2.2⟩
theorem QS.w (h : QS S S') : QW n S S' := ⟨⟨fun j a => h.1 j (by omega) (by omega) (by omega), fun k a b c => h.2.1 k b, fun k _ => by rw [h.2.2]⟩, fun k v a b _ => by rw [h.2.1 k (by omega)], h.2.1 63 (by omega), fun v _ => by rw [h.2.2], h.1 67 (by omega) (by omega) (by omega)⟩
theorem QW_i {j : Nat} {x : Int32} (hj : 64 ≤ j) (h2 : j ≤ 69) (h3 : j ≠ 67) : QW n S (S.setI j x) := ⟨⟨fun i a => by rw [MS.i_setI, if_neg (by omega)], fun _ _ _ _ => rfl, fun _ _ => rfl⟩, fun _ _ _ _ _ => rfl, rfl, fun _ _ => rfl, by rw [MS.i_setI, if_neg (by omega)]⟩
theorem QW_a {k : Nat} {x : Int32} (h1 : 53 ≤ k) (h2 : k ≤ 58) : QW n S (S.setA k (upd (S.a k) n x)) := by
  refine ⟨⟨fun _ _ => rfl, fun i a b c => by rw [MS.a_setA, if_neg (by omega)], fun _ _ => rfl⟩, fun i v a b c => ?_, by rw [MS.a_setA, if_neg (by omega)], fun _ _ => rfl, rfl⟩
  rw [MS.a_setA]
  split
  · rename_i e; subst e; unfold upd; rw [if_neg c]
  · rfl
theorem QW_n {x : Int64} : QW n S (S.setN 61 (vp_updL (S.n 61) n x)) := by
  refine ⟨⟨fun _ _ => rfl, fun _ _ _ _ => rfl, fun k h => by rw [MS.n_setN, if_neg h]⟩, fun _ _ _ _ _ => rfl, rfl, fun v h => ?_, rfl⟩
  rw [MS.n_setN, if_pos rfl]
  unfold vp_updL
  rw [if_neg h]
theorem QR.rs (h : QR S S') (hR : RS S A) : RS S' A := by
  have hi : ∀ j, j = 23 ∨ j = 34 ∨ j = 27 ∨ j = 25 ∨ j = 35 → S'.i j = S.i j := fun j hj => h.1 j (by omega)
  have ha : ∀ j, j < 40 ∨ 100 < j → S'.a j = S.a j := fun j hj => h.2.1 j (by omega) (by omega) (by omega)
  have hn := h.2.2 22 (by decide)
  unfold RS R_n R_op R_tx R_pr R_od R_cg R_dp R_rp at *
  rw [hi 23 (by simp), hi 34 (by simp), hi 27 (by simp), hi 25 (by simp), hi 35 (by simp), hn]
  rw [ha 8 (by omega), ha 9 (by omega), ha 10 (by omega), ha 11 (by omega), ha 12 (by omega), ha 13 (by omega), ha 20 (by omega), ha 21 (by omega), ha 14 (by omega), ha 15 (by omega), ha 16 (by omega), ha 17 (by omega), ha 26 (by omega), ha 18 (by omega), ha 19 (by omega), ha 24 (by omega), ha 28 (by omega), ha 29 (by omega), ha 30 (by omega), ha 31 (by omega), ha 32 (by omega), ha 33 (by omega), ha 39 (by omega)]
  refine ⟨hR.1, hR.2.1, hR.2.2.1, hR.2.2.2.1, hR.2.2.2.2.1, hR.2.2.2.2.2.1, hR.2.2.2.2.2.2.1, ?_⟩
  intro r hr
  have h3 := hR.2.2.2.2.2.2.2 r hr
  refine ⟨h3.1, fun c hc => ?_⟩
  rw [ha (101 + r) (by omega), ha (109 + r) (by omega), ha (117 + r) (by omega)]
  exact h3.2 c hc
def CS.jz (C : CS) (u1 u9 : Nat → Nat → Int32) (u5 : Nat → Int32) (l9 : Nat → Nat → Int64) (r1 r9 : Nat → Nat → Option Nat) (f : Nat → Int32) : CS := (fun k f1 j => if k = 1 then u1 f1 j else if k = 9 then u9 f1 j else if k = 5 ∧ j = 1 then u5 f1 else C.i k f1 j, fun k f1 j => if k = 9 then l9 f1 j else C.l k f1 j, fun k f1 j => if k = 1 then r1 f1 j else if k = 9 then r9 f1 j else C.r k f1 j, fun k j p => if k = 13 ∧ j = 1 then f p else C.a k j p, C.q, C.z)
theorem QC.rc (h : QC C C') (G : RC N C A rd) (hw : WF N C') (h1 : C'.r 1 0 0 = some 0) (h2 : C'.r 1 1 0 = some 1) : RC N C' A rd := by
  have e : C' = C.jz (C'.i 1) (C'.i 9) (fun f => C'.i 5 f 1) (C'.l 9) (C'.r 1) (C'.r 9) (C'.a 13 1) := by
    apply CS_ext
    · intro k f j
      show _ = (if k = 1 then C'.i 1 f j else if k = 9 then C'.i 9 f j else if k = 5 ∧ j = 1 then C'.i 5 f 1 else C.i k f j)
      split
      · rename_i e; rw [e]
      · split
        · rename_i e; rw [e]
        · split
          · rename_i e; rw [e.1, e.2]
          · rename_i a b c; exact h.1 k f j a b c
    · intro k f j
      show _ = (if k = 9 then C'.l 9 f j else C.l k f j)
      split
      · rename_i e; rw [e]
      · rename_i e; exact h.2.1 k f j e
    · intro k f j
      show _ = (if k = 1 then C'.r 1 f j else if k = 9 then C'.r 9 f j else C.r k f j)
      split
      · rename_i e; rw [e]
      · split
        · rename_i e; rw [e]
        · rename_i a b; exact h.2.2.1 k f j a b
    · intro k j q
      show _ = (if k = 13 ∧ j = 1 then C'.a 13 1 q else C.a k j q)
      split
      · rename_i e; rw [e.1, e.2]
      · rename_i e; exact h.2.2.2.1 k j q e
    · intro k j q; rw [h.2.2.2.2.1]; rfl
    · intro k j; rw [h.2.2.2.2.2]; rfl
  generalize C'.i 1 = u1 at e
  generalize C'.i 9 = u9 at e
  generalize (fun f => C'.i 5 f 1) = u5 at e
  generalize C'.l 9 = l9 at e
  have h1' := h1
  have h2' := h2
  generalize hr1 : C'.r 1 = r1 at e h1' h2'
  generalize C'.r 9 = r9 at e
  generalize C'.a 13 1 = f at e
  obtain ⟨⟨g1, g2, g3, g4, g5, g6, g7, g8, g9, g10, g11, g12⟩, gs⟩ := G
  subst e
  refine ⟨⟨g1, hw, ?_, g4, g5, g6, g7, g8, g9, g10, g11, g12⟩, gs⟩
  obtain ⟨s1, s2, s3, s4, s5, s6, s7, s8, s9, s10, s11, s12, s13, s14, s15, s16, s17, s18, s19, s20, s21⟩ := g3
  exact ⟨s1, s2, s3, s4, s5, s6, s7, s8, s9, s10, s11, s12, s13, s14, h1, h2, s17, s18, s19, s20, s21⟩
end JSI
