/-! READ: a value has been written. -/
section RDB
variable {S S' : MS} {N N' : Nat → Nat} {C C' : CS} {A B D : AS} {J : JS} {r rd rd' i lb : Nat} {bs : List Nat} {x3 x3' : Int32}
theorem wfin (h : WIN A J r lb i N C S B rd x3) (hI : JI bs J 0) (hi : i < J.n) (hP : STP B D r (J.so i)) (hR : RS S' D) (hG : RC N' C' D rd') (hA : AI D) (hV : VC C' D r) (hkn : D.kn = B.kn + (if i = 0 then lb else 0) + J.w i) (hKC : KC C' J) (hKS : KS S' J) (c8 : ∀ v, v ≠ i → C'.r 9 8 v = C.r 9 8 v) (c8i : C'.r 9 8 i = some (B.n + 1)) (s9 : ∀ v, v ≠ i → S'.a 59 v = S.a 59 v) (s9i : S'.a 59 i = nI B.n) (c9 : ∀ v, ¬ (J.ar i = some v ∧ J.so v = 7) → C'.r 9 9 v = C.r 9 9 v) (s6 : ∀ v, v ≠ i → ¬ (J.ar i = some v ∧ J.so v = 7) → S'.a 60 v = S.a 60 v) (s6i : S'.a 60 i = nI 0) (hpar : ∀ w, J.ar i = some w → J.so w = 7 → C'.r 9 9 w = some (B.n + 1) ∧ S'.a 60 w = nI (D.id B.n) ∧ D.obj B.n = some (A.n + w) ∧ D.sp B.n = B.n) (hx : x3' = nI (D.id A.n)) (h0 : S'.i 0 = nI 0) : WIN A J r lb (i + 1) N' C' S' D rd' x3' := by
  obtain ⟨⟨a1, a2, a3, a4, a5⟩, ⟨b1, b2, b3⟩, ⟨e1, e2⟩, e3, e4, e5, e6, e7⟩ := h
  obtain ⟨p1, p2, p3, p4, p5, p6⟩ := hP
  have hLB := fun y p => (a3.2.2.1.2.2.2.2.2.2.2.2.1 y).2.1 p
  have hLD := fun y p => (hA.2.2.1.2.2.2.2.2.2.2.2.1 y).2.1 p
  have hself : ¬ (J.ar i = some i ∧ J.so i = 7) := fun g => by
    have := ((hI.2.2.1 i hi).2.2.1 i g.1).1
    omega
  refine ⟨⟨hR, hG, hA, hV, p3⟩, ⟨by omega, by omega, ?_⟩, ⟨hKC, hKS⟩, ?_, ?_, fun g => by omega, fun _ => hx, h0⟩
  · rw [if_neg (by omega), hkn, b3]
    show _ = A.kn + lb + (sumN J.w i + J.w i)
    by_cases c : i = 0
    · rw [if_pos c, if_pos c]; omega
    · rw [if_neg c, if_neg c]; omega
  · intro v hv
    by_cases ev : v = i
    · subst ev
      refine ⟨by rw [c8i, b1], by rw [s9i, b1], fun h6 => ⟨by rw [← b1]; exact p5, by rw [← b1]; exact p6, none, s6i, ?_, fun p hp => by cases hp⟩⟩
      rw [c9 v hself, e4 v (Nat.le_refl _) hi]
      rfl
    · obtain ⟨f1, f2, f3⟩ := e3 v (by omega)
      refine ⟨by rw [c8 v ev]; exact f1, by rw [s9 v ev]; exact f2, fun h6 => ?_⟩
      obtain ⟨g1, g2, la, g3, g4, g5⟩ := f3 h6
      obtain ⟨q1, q2, q3, q4, q5⟩ := p4 (A.n + v) (by omega)
      refine ⟨by rw [q2]; exact g1, by rw [q3]; exact g2, ?_⟩
      by_cases hp : J.ar i = some v ∧ J.so v = 7
      · obtain ⟨z1, z2, z3, z4⟩ := hpar v hp.1 hp.2
        refine ⟨some B.n, z2, z1, fun p hp2 => ?_⟩
        obtain rfl := Option.some.inj hp2
        exact ⟨(hLD _ _).mpr ⟨by omega, z3, z4⟩, p6⟩
      · refine ⟨la, ?_, by rw [c9 v hp]; exact g4, fun p hp2 => ?_⟩
        · rw [s6 v ev hp, g3]
          cases la with
          | none => rfl
          | some p =>
            have := (hLB _ _).mp (g5 p rfl).1
            show nI (B.id p) = nI (D.id p)
            rw [(p4 p this.1).1]
        · obtain ⟨y1, y2⟩ := g5 p hp2
          obtain ⟨y3, y4, y5⟩ := (hLB _ _).mp y1
          obtain ⟨w1, w2, w3, w4, w5⟩ := p4 p y3
          exact ⟨(hLD _ _).mpr ⟨by omega, by rw [w4]; exact y4, by rw [w5]; exact y5⟩, by rw [w3]; exact y2⟩
  · intro v hv hvn
    rw [c9 v]
    · exact e4 v (by omega) hvn
    · intro g
      have := ((hI.2.2.1 i hi).2.2.1 v g.1).1
      omega
theorem updq {f : Nat → Int32} {n m : Nat} {x : Int32} (h : m ≠ n) : upd f n x m = f m := by unfold upd; rw [if_neg h]
theorem byts62 (h : SD S J.d) {p : Nat} {k : List Nat} {n : Nat} (hk : k = (J.d.drop p).take n) (hp : p + n ≤ J.d.length) : byts S 62 p k ∧ k.length = n := by
  subst hk
  have hl : ((J.d.drop p).take n).length = n := by rw [List.length_take, List.length_drop]; omega
  refine ⟨fun q hq => ?_, hl⟩
  have := h.2 (p + q) (by omega)
  rw [List.getElem_take, List.getElem_drop]
  exact this
theorem wle (hI : JI bs J 0) {i : Nat} (hi : i < J.n) : (stv (J.so i) (J.str i)).length + J.kl i = J.w i ∧ (J.so i = 4 → (J.str i).length = J.bl i) := by
  have h4 : J.so i = 4 → (J.str i).length = J.bl i := by
    intro c4
    have := (hI.2.2.1 i hi).2.2.2.2.2 c4
    unfold JS.str
    rw [List.length_take, List.length_drop]; omega
  refine ⟨?_, h4⟩
  unfold JS.w stv
  by_cases c4 : J.so i = 4
  · rw [if_pos c4, if_pos c4, h4 c4]; omega
  · rw [if_neg c4, if_neg c4]; simp
end RDB
