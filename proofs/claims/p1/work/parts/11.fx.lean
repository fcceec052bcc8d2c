/-! THE CLASS'S WORLD ON A FRESH OBJECT: ad: addresses by place; ac: the array classes; ck: what the VIEW's clock holds. -/
abbrev fxT (ac : Nat → ClassId) : List (ClassId × FieldType) := [(ac 0, .int), (ac 1, .byte), (ac 2, .boolean), (ac 3, .object "JoinedTrees$Op"), (ac 4, .object "JoinedTrees$Replica"), (ac 5, .object "JoinedTrees$Change"), (ac 6, .object "JoinedTrees$Value"), (ac 7, .long)]
abbrev fxRep (ad : Nat → Nat) (r : Nat) : List Value := [.int (nI r), .ref (ad (26 + r)), .ref (ad (67 + r)), .ref (ad (34 + r)), .null, .int 0, .int 0, .int 0, .int 0, .int 0]
def fxB (ad : Nat → Nat) (ac : Nat → ClassId) (ck : Nat → Int32) : va_W := [
  (ad 0, .inr (11, [.ref (ad 1), .ref (ad 2), .ref (ad 3), .ref (ad 60), .ref (ad 14), .ref (ad 17), .ref (ad 7), .int 0, .ref (ad 9), .ref (ad 11), .ref (ad 12), .int 0, .int (-1)])),
  (ad 1, .inr (8, [.ref (ad 5), .ref (ad 6), .ref (ad 13), .ref (ad 61), .int 0, .int 0])),
  (ad 2, .inl (ac 4, 8, .inr (.inr (.inr (.inr (fun i => some (ad (18 + i)))))))),
  (ad 3, .inr (10, [.ref (ad 1), .ref (ad 4), .ref (ad 62), .int 0, .int 0])),
  (ad 4, .inl (ac 0, 8, .inl ck)),
  (ad 5, .inr (3, [.int 0, .null, .int 6, .long 0, .int 0, .int 0, .null, .null, .int 0, .int 0, .int 0, .null, .null, .null, .int 0])),
  (ad 6, .inl (ac 3, 32008, .inr (.inr (.inr (.inr (fun _ => none)))))),
  (ad 7, .inr (5, [.ref (ad 8), .int 0, .int 0])),
  (ad 8, .inl (ac 1, 224582, .inl (fun _ => 0))),
  (ad 9, .inr (5, [.ref (ad 10), .int 0, .int 0])),
  (ad 10, .inl (ac 1, 8192, .inl (fun _ => 0))),
  (ad 11, .inr (5, [.ref (ad 63), .int 0, .int 0])),
  (ad 12, .inr (5, [.ref (ad 64), .int 0, .int 0])),
  (ad 13, .inr (5, [.ref (ad 65), .int 0, .int 0])),
  (ad 14, .inr (2, [.ref (ad 3), .ref (ad 15)])),
  (ad 15, .inr (5, [.ref (ad 16), .int 0, .int 0])),
  (ad 16, .inl (ac 1, 16384, .inl (fun _ => 0))),
  (ad 17, .inr (6, [.ref (ad 1), .ref (ad 7), .ref (ad 66), .int 0, .int 0, .int 0]))]
def fxR (ad : Nat → Nat) (ac : Nat → ClassId) : va_W := [
  (ad 18, .inr (4, fxRep ad 0)), (ad 19, .inr (4, fxRep ad 1)), (ad 20, .inr (4, fxRep ad 2)), (ad 21, .inr (4, fxRep ad 3)), (ad 22, .inr (4, fxRep ad 4)), (ad 23, .inr (4, fxRep ad 5)), (ad 24, .inr (4, fxRep ad 6)), (ad 25, .inr (4, fxRep ad 7)),
  (ad 26, .inl (ac 0, 8, .inl (fun _ => 0))), (ad 27, .inl (ac 0, 8, .inl (fun _ => 0))), (ad 28, .inl (ac 0, 8, .inl (fun _ => 0))), (ad 29, .inl (ac 0, 8, .inl (fun _ => 0))), (ad 30, .inl (ac 0, 8, .inl (fun _ => 0))), (ad 31, .inl (ac 0, 8, .inl (fun _ => 0))), (ad 32, .inl (ac 0, 8, .inl (fun _ => 0))), (ad 33, .inl (ac 0, 8, .inl (fun _ => 0))),
  (ad 34, .inl (ac 5, 8, .inr (.inr (.inr (.inr (fun _ => none)))))), (ad 35, .inl (ac 5, 8, .inr (.inr (.inr (.inr (fun _ => none)))))), (ad 36, .inl (ac 5, 8, .inr (.inr (.inr (.inr (fun _ => none)))))), (ad 37, .inl (ac 5, 8, .inr (.inr (.inr (.inr (fun _ => none)))))), (ad 38, .inl (ac 5, 8, .inr (.inr (.inr (.inr (fun _ => none)))))), (ad 39, .inl (ac 5, 8, .inr (.inr (.inr (.inr (fun _ => none)))))), (ad 40, .inl (ac 5, 8, .inr (.inr (.inr (.inr (fun _ => none)))))), (ad 41, .inl (ac 5, 8, .inr (.inr (.inr (.inr (fun _ => none))))))]
def fxW (ad : Nat → Nat) (ac : Nat → ClassId) (ck : Nat → Int32) : va_W := fxB ad ac ck ++ fxR ad ac
theorem fx_rep (ad : Nat → Nat) (ac : Nat → ClassId) (ck : Nat → Int32) : ∀ r : Nat, r < 8 → (fxW ad ac ck)[18 + r]? = some (ad (18 + r), .inr (4, fxRep ad r))
  | 0, _ => rfl | 1, _ => rfl | 2, _ => rfl | 3, _ => rfl | 4, _ => rfl | 5, _ => rfl | 6, _ => rfl | 7, _ => rfl
  | n + 8, h => absurd h (by omega)
theorem fx_has (ad : Nat → Nat) (ac : Nat → ClassId) (ck : Nat → Int32) : ∀ r : Nat, r < 8 → (fxW ad ac ck)[26 + r]? = some (ad (26 + r), .inl (ac 0, 8, .inl (fun _ => 0)))
  | 0, _ => rfl | 1, _ => rfl | 2, _ => rfl | 3, _ => rfl | 4, _ => rfl | 5, _ => rfl | 6, _ => rfl | 7, _ => rfl
  | n + 8, h => absurd h (by omega)
theorem fx_heads (ad : Nat → Nat) (ac : Nat → ClassId) (ck : Nat → Int32) : ∀ r : Nat, r < 8 → (fxW ad ac ck)[34 + r]? = some (ad (34 + r), .inl (ac 5, 8, .inr (.inr (.inr (.inr (fun _ => none))))))
  | 0, _ => rfl | 1, _ => rfl | 2, _ => rfl | 3, _ => rfl | 4, _ => rfl | 5, _ => rfl | 6, _ => rfl | 7, _ => rfl
  | n + 8, h => absurd h (by omega)
theorem lt8 : ∀ r : Nat, r < 8 → nI r < 8 := by decide +kernel
theorem nlt0 : ∀ r : Nat, r < 8 → ¬ nI r < 0 := by decide +kernel
theorem cl8 : ∀ r : Nat, r < 8 → (nI r).toNatClampNeg = r := by decide +kernel
theorem in8 (r : Nat) (h : r < 8) : vp_in (nI r) 8 := vp_in_nI h (by decide)
theorem of8 {x : Int32} (h1 : ¬ x < 0) (h2 : x < 8) : ∃ r : Nat, r < 8 ∧ x = nI r := by
  obtain ⟨j, hj, rfl⟩ := nI_of h1
  refine ⟨j, ?_, rfl⟩
  have : nI j < nI 8 := h2
  exact (nI_ltI hj (by decide)).mp this
/-- a contract's start: the fresh object's world, and the surroundings -/
def fxPc (D : va_G) (ad : Nat → Nat) (ac : Nat → ClassId) (ck : Nat → Int32) (sz : Nat) (av : List Value) : Array Value → State → Prop :=
  va_Pc av (fun U => U.heap.size = sz ∧ va_P D cls (fxW ad ac ck) U.heap ∧ va_K D cls (fxT ac) U ∧ va_D (fun _ => True) (fxW ad ac ck) ∧ ev (va_A (fxW ad ac ck) U.heap.size) U)
theorem fx_blind {D : va_G} {ad : Nat → Nat} {ac : Nat → ClassId} {ck : Nat → Int32} {sz : Nat} {av : List Value} : FrameBlind (fxPc D ad ac ck sz av) := fun a U g mk q => by
  obtain ⟨q0, q1, qP, qK, qD, qE⟩ := q
  exact ⟨q0, q1, qP, va_K.moved (u := U) (U := U.calling g mk a) (Vm.Alike.refl U.vm) qK, qD, qE.calling g mk a⟩
theorem fx_pre {D : va_G} {ad : Nat → Nat} {ac : Nat → ClassId} {ck : Nat → Int32} {s U : State} {H : Heap} {A : Nat → Prop} {locs : List Loc} {av : List Value} (hU : U.heap = H) (hW : s.WarmedH U.vm) (hP : va_P D cls (fxW ad ac ck) H) (hK : va_K D cls (fxT ac) s) (hD : va_D A (fxW ad ac ck)) (hev : ev A s) (hNS : tx_NS A s) (hS : va_S A s.heap H locs) (hFc : ∀ q, va_A (fxW ad ac ck) H.size q → A q) : fxPc D ad ac ck H.size av av.toArray U :=
  ⟨rfl, by rw [hU], by rw [hU]; exact hP, hK.moved hW.alike, hD.weaken (fun _ _ _ _ => trivial), hev.go hNS hS (by rw [hU]; exact hFc) hU hW⟩
/-- a contract's end: the fresh object's world again, its clock as it may be -/
abbrev fxO (D : va_G) (ad : Nat → Nat) (ac : Nat → ClassId) (A : Nat → Prop) (ck : Nat → Int32) (t : State) : Prop := va_P D cls (fxW ad ac ck) t.heap ∧ va_K D cls (fxT ac) t ∧ va_D A (fxW ad ac ck)
