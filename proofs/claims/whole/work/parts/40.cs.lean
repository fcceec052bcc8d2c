/-! THE CLASS AS FUNCTIONS: its state CS by tables (kinds 0 to 11 the classes, 12 int[], 13 byte[], 14 boolean[], 15 Op[], 16 Change[], 17 Replica[], 18 Value[]), its world cw. Printed by wip/gen/cs.py -/
def CS : Type := (Nat → Nat → Nat → Int32) × (Nat → Nat → Nat → Int64) × (Nat → Nat → Nat → Option Nat) × (Nat → Nat → Nat → Int32) × (Nat → Nat → Nat → Option Nat) × (Nat → Nat → Nat)
def CS.i (S : CS) : Nat → Nat → Nat → Int32 := S.1
def CS.l (S : CS) : Nat → Nat → Nat → Int64 := S.2.1
def CS.r (S : CS) : Nat → Nat → Nat → Option Nat := S.2.2.1
def CS.a (S : CS) : Nat → Nat → Nat → Int32 := S.2.2.2.1
def CS.q (S : CS) : Nat → Nat → Nat → Option Nat := S.2.2.2.2.1
def CS.z (S : CS) : Nat → Nat → Nat := S.2.2.2.2.2
def CS.setI (S : CS) (k f j : Nat) (v : Int32) : CS := (fun k1 f1 j1 => if k1 = k ∧ f1 = f ∧ j1 = j then v else S.i k1 f1 j1, S.l, S.r, S.a, S.q, S.z)
def CS.setL (S : CS) (k f j : Nat) (v : Int64) : CS := (S.i, fun k1 f1 j1 => if k1 = k ∧ f1 = f ∧ j1 = j then v else S.l k1 f1 j1, S.r, S.a, S.q, S.z)
def CS.setR (S : CS) (k f j : Nat) (v : Option Nat) : CS := (S.i, S.l, fun k1 f1 j1 => if k1 = k ∧ f1 = f ∧ j1 = j then v else S.r k1 f1 j1, S.a, S.q, S.z)
def CS.setA (S : CS) (k f j : Nat) (v : Int32) : CS := (S.i, S.l, S.r, fun k1 f1 j1 => if k1 = k ∧ f1 = f ∧ j1 = j then v else S.a k1 f1 j1, S.q, S.z)
def CS.setQ (S : CS) (k f j : Nat) (v : Option Nat) : CS := (S.i, S.l, S.r, S.a, fun k1 f1 j1 => if k1 = k ∧ f1 = f ∧ j1 = j then v else S.q k1 f1 j1, S.z)
def CS.setF (S : CS) (k j : Nat) (g : Nat → Int32) : CS := (S.i, S.l, S.r, fun k1 j1 p1 => if k1 = k ∧ j1 = j then g p1 else S.a k1 j1 p1, S.q, S.z)
def cFT : List (List Nat) := [[0, 0, 0, 0, 0, 18, 14], [20, 7, 7, 0, 0, 0, 11, 0, 0, 0], [12, 7], [0, 5, 0, 1, 0, 0, 5, 17, 0, 0, 0, 9, 5, 9, 0], [0, 14, 16, 18, 2, 0, 0, 0, 0, 0], [15, 0, 0], [10, 7, 14, 0, 0, 0], [5, 5, 9], [5, 17, 7, 18, 0, 0], [0, 1, 11, 0, 0, 0, 0, 0, 5, 5], [10, 14, 17, 0, 0], [10, 19, 12, 3, 4, 8, 7, 0, 7, 7, 7, 0, 0]]
def cET (k : Nat) : Nat := if k = 15 then 3 else if k = 16 then 0 else if k = 17 then 4 else 9
def rv (ad : Nat → Nat → Nat) (k : Nat) (x : Option Nat) : Value := va_rf (x.map (ad k))
def cVal (ad : Nat → Nat → Nat) (S : CS) (k f j : Nat) : Nat → Value
  | 0 => .int (S.i k f j)
  | 1 => .long (S.l k f j)
  | t + 2 => rv ad t (S.r k f j)
def cFs (ad : Nat → Nat → Nat) (S : CS) (k j : Nat) : Nat → List Nat → List Value
  | _, [] => []
  | f, t :: ts => cVal ad S k f j t :: cFs ad S k j (f + 1) ts
def cObj (ad : Nat → Nat → Nat) (S : CS) (k j : Nat) : List Value := cFs ad S k j 0 (cFT.getD k [])
def cCell (ad : Nat → Nat → Nat) (cc : Nat → ClassId) (S : CS) (k j : Nat) : Nat × va_E :=
  if k < 12 then (ad k j, .inr (k, cObj ad S k j)) else if k < 15 then (ad k j, .inl (cc k, S.z k j, .inl (S.a k j))) else (ad k j, .inl (cc k, S.z k j, .inr (.inr (.inr (.inr (fun p => (S.q k j p).map (ad (cET k))))))))
def cT (ad : Nat → Nat → Nat) (cc : Nat → ClassId) (N : Nat → Nat) (S : CS) (k : Nat) : va_W := (List.range (N k)).map (cCell ad cc S k)
def cwF (ad : Nat → Nat → Nat) (cc : Nat → ClassId) (N : Nat → Nat) (S : CS) : Nat → va_W
  | 0 => []
  | k + 1 => cwF ad cc N S k ++ cT ad cc N S k
def cw (ad : Nat → Nat → Nat) (cc : Nat → ClassId) (N : Nat → Nat) (S : CS) : va_W := cwF ad cc N S 19
def cOff (N : Nat → Nat) : Nat → Nat
  | 0 => 0
  | k + 1 => cOff N k + N k
def cPos (N : Nat → Nat) (k j : Nat) : Nat := cOff N k + j
abbrev cty (cc : Nat → ClassId) : List (ClassId × FieldType) := [(cc 12, .int), (cc 13, .byte), (cc 14, .boolean), (cc 15, .object "JoinedTrees$Op"), (cc 16, .object "JoinedTrees$Change"), (cc 17, .object "JoinedTrees$Replica"), (cc 18, .object "JoinedTrees$Value")]
section CWL
variable {ad : Nat → Nat → Nat} {cc : Nat → ClassId} {N : Nat → Nat} {S S' : CS}
theorem cwF_len (m : Nat) : (cwF ad cc N S m).length = cOff N m := by
  induction m with
  | zero => rfl
  | succ m ih => simp [cwF, cOff, cT, ih]
theorem cwF_at {k j : Nat} (hj : j < N k) : ∀ m, k < m → (cwF ad cc N S m)[cPos N k j]? = some (cCell ad cc S k j) := by
  intro m
  induction m with
  | zero => intro h; omega
  | succ m ih =>
    intro h
    by_cases hk : k < m
    · have h1 := ih hk
      have h2 : cPos N k j < (cwF ad cc N S m).length := (List.getElem?_eq_some_iff.mp h1).1
      rw [cwF, List.getElem?_append_left h2]
      exact h1
    · obtain rfl : k = m := by omega
      rw [cwF, List.getElem?_append_right (by rw [cwF_len]; unfold cPos; omega), cwF_len]
      unfold cPos
      rw [Nat.add_sub_cancel_left, cT, List.getElem?_map, List.getElem?_range hj]
      rfl
theorem cw_at {k j : Nat} (hk : k < 19) (hj : j < N k) : (cw ad cc N S)[cPos N k j]? = some (cCell ad cc S k j) := cwF_at hj 19 hk
theorem cT_same {k : Nat} (h : ∀ j, cCell ad cc S' k j = cCell ad cc S k j) : cT ad cc N S' k = cT ad cc N S k := by
  unfold cT
  congr 1
  funext j
  exact h j
theorem cT_set {k j : Nat} (hj : j < N k) (h : ∀ j', j' ≠ j → cCell ad cc S' k j' = cCell ad cc S k j') : (cT ad cc N S k).set j (cCell ad cc S' k j) = cT ad cc N S' k := by
  unfold cT
  apply List.ext_getElem?
  intro i
  rw [List.getElem?_set]
  by_cases hi : j = i
  · subst hi
    rw [if_pos rfl, List.getElem?_map, List.getElem?_range hj]
    simp [hj]
  · rw [if_neg hi, List.getElem?_map, List.getElem?_map]
    cases hr : (List.range (N k))[i]? with
    | none => rfl
    | some x =>
      have hx : x = i := by
        obtain ⟨h1, h2⟩ := List.getElem?_eq_some_iff.mp hr
        simpa using h2.symm
      simp only [Option.map_some]
      rw [h x (by rw [hx]; exact fun q => hi q.symm)]
theorem cwF_same {m : Nat} (h : ∀ k j, k < m → cCell ad cc S' k j = cCell ad cc S k j) : cwF ad cc N S' m = cwF ad cc N S m := by
  induction m with
  | zero => rfl
  | succ m ih =>
    rw [cwF, cwF, ih (fun k j hk => h k j (by omega)), cT_same (fun j => h m j (by omega))]
theorem cwF_set {k j : Nat} (hj : j < N k) (h : ∀ k' j', ¬ (k' = k ∧ j' = j) → cCell ad cc S' k' j' = cCell ad cc S k' j') : ∀ m, k < m → (cwF ad cc N S m).set (cPos N k j) (cCell ad cc S' k j) = cwF ad cc N S' m := by
  intro m
  induction m with
  | zero => intro h; omega
  | succ m ih =>
    intro hm
    rw [cwF, cwF]
    by_cases hk : k < m
    · have h2 : cPos N k j < (cwF ad cc N S m).length := (List.getElem?_eq_some_iff.mp (cwF_at (ad := ad) (cc := cc) (S := S) hj m hk)).1
      rw [List.set_append_left _ _ h2, ih hk, cT_same (fun j' => h m j' (fun q => by omega))]
    · obtain rfl : k = m := by omega
      have h2 : (cwF ad cc N S k).length ≤ cPos N k j := by rw [cwF_len]; unfold cPos; omega
      rw [List.set_append_right _ _ h2, cwF_len]
      unfold cPos
      rw [Nat.add_sub_cancel_left, cT_set hj (fun j' hj' => h k j' (fun q => hj' q.2)), cwF_same (S := S) (S' := S') (fun k' j' hk' => h k' j' (fun q => by omega))]
theorem cFs_same {k j : Nat} (hi : ∀ f, S'.i k f j = S.i k f j) (hl : ∀ f, S'.l k f j = S.l k f j) (hr : ∀ f, S'.r k f j = S.r k f j) : ∀ (ts : List Nat) (f : Nat), cFs ad S' k j f ts = cFs ad S k j f ts := by
  intro ts
  induction ts with
  | nil => intro f; rfl
  | cons t ts ih =>
    intro f
    rw [cFs, cFs, ih]
    congr 1
    match t with
    | 0 => simp only [cVal, hi]
    | 1 => simp only [cVal, hl]
    | t + 2 => simp only [cVal, hr]
theorem cFs_set {k j f : Nat} {t : Nat} {v : Value} (hv : cVal ad S' k f j t = v) (h : ∀ f' t', f' ≠ f → cVal ad S' k f' j t' = cVal ad S k f' j t') : ∀ (ts : List Nat) (f0 i : Nat), ts[i]? = some t → f0 + i = f → (cFs ad S k j f0 ts).set i v = cFs ad S' k j f0 ts := by
  intro ts
  induction ts with
  | nil => intro f0 i h; simp at h
  | cons t0 ts ih =>
    intro f0 i hi hf
    cases i with
    | zero =>
      simp only [List.getElem?_cons_zero, Option.some.injEq] at hi
      subst hi
      have hf0 : f0 = f := by omega
      subst hf0
      rw [cFs, cFs, List.set_cons_zero, ← hv]
      congr 1
      have : ∀ (ts : List Nat) (g : Nat), f0 < g → cFs ad S k j g ts = cFs ad S' k j g ts := by
        intro ts
        induction ts with
        | nil => intro g _; rfl
        | cons t1 ts ih2 => intro g hg; rw [cFs, cFs, ih2 (g + 1) (by omega), h g t1 (by omega)]
      exact this ts (f0 + 1) (by omega)
    | succ i =>
      simp only [List.getElem?_cons_succ] at hi
      rw [cFs, cFs, List.set_cons_succ, ih (f0 + 1) i hi (by omega), h f0 t0 (by omega)]
theorem cw_setI {k f j : Nat} {v : Int32} (hk : k < 12) (ht : (cFT.getD k [])[f]? = some 0) (hj : j < N k) : (cw ad cc N S).set (cPos N k j) (ad k j, .inr (k, (cObj ad S k j).set f (.int v))) = cw ad cc N (S.setI k f j v) := by
  have hc : ∀ k' j', ¬ (k' = k ∧ j' = j) → cCell ad cc (S.setI k f j v) k' j' = cCell ad cc S k' j' := by
    intro k' j' h
    have h1 : cObj ad (S.setI k f j v) k' j' = cObj ad S k' j' := by
      have e9 : ∀ f', (S.setI k f j v).i k' f' j' = S.i k' f' j' := fun f' => if_neg (fun q : k' = k ∧ f' = f ∧ j' = j => h ⟨q.1, q.2.2⟩)
      exact cFs_same (S := S) (S' := S.setI k f j v) e9 (fun _ => rfl) (fun _ => rfl) _ _
    unfold cCell
    rw [h1]
    rfl
  have hx : cCell ad cc (S.setI k f j v) k j = (ad k j, .inr (k, (cObj ad S k j).set f (.int v))) := by
    unfold cCell
    rw [if_pos hk]
    congr 3
    exact (cFs_set (by show Value.int (if k = k ∧ f = f ∧ j = j then v else _) = _; rw [if_pos ⟨rfl, rfl, rfl⟩]) (fun f' t' hf' => by
      match t' with
      | 0 => exact congrArg Value.int (if_neg (fun q => hf' q.2.1))
      | 1 => rfl
      | t + 2 => rfl) _ 0 f ht (by omega)).symm
  rw [← hx]
  exact cwF_set hj hc 19 (by omega)
theorem cw_setL {k f j : Nat} {v : Int64} (hk : k < 12) (ht : (cFT.getD k [])[f]? = some 1) (hj : j < N k) : (cw ad cc N S).set (cPos N k j) (ad k j, .inr (k, (cObj ad S k j).set f (.long v))) = cw ad cc N (S.setL k f j v) := by
  have hc : ∀ k' j', ¬ (k' = k ∧ j' = j) → cCell ad cc (S.setL k f j v) k' j' = cCell ad cc S k' j' := by
    intro k' j' h
    have h1 : cObj ad (S.setL k f j v) k' j' = cObj ad S k' j' := by
      have e9 : ∀ f', (S.setL k f j v).l k' f' j' = S.l k' f' j' := fun f' => if_neg (fun q : k' = k ∧ f' = f ∧ j' = j => h ⟨q.1, q.2.2⟩)
      exact cFs_same (S := S) (S' := S.setL k f j v) (fun _ => rfl) e9 (fun _ => rfl) _ _
    unfold cCell
    rw [h1]
    rfl
  have hx : cCell ad cc (S.setL k f j v) k j = (ad k j, .inr (k, (cObj ad S k j).set f (.long v))) := by
    unfold cCell
    rw [if_pos hk]
    congr 3
    exact (cFs_set (by show Value.long (if k = k ∧ f = f ∧ j = j then v else _) = _; rw [if_pos ⟨rfl, rfl, rfl⟩]) (fun f' t' hf' => by
      match t' with
      | 0 => rfl
      | 1 => exact congrArg Value.long (if_neg (fun q => hf' q.2.1))
      | t + 2 => rfl) _ 0 f ht (by omega)).symm
  rw [← hx]
  exact cwF_set hj hc 19 (by omega)
theorem cw_setR {k f j t : Nat} {v : Option Nat} (hk : k < 12) (ht : (cFT.getD k [])[f]? = some (t + 2)) (hj : j < N k) : (cw ad cc N S).set (cPos N k j) (ad k j, .inr (k, (cObj ad S k j).set f (rv ad t v))) = cw ad cc N (S.setR k f j v) := by
  have hc : ∀ k' j', ¬ (k' = k ∧ j' = j) → cCell ad cc (S.setR k f j v) k' j' = cCell ad cc S k' j' := by
    intro k' j' h
    have h1 : cObj ad (S.setR k f j v) k' j' = cObj ad S k' j' := by
      have e9 : ∀ f', (S.setR k f j v).r k' f' j' = S.r k' f' j' := fun f' => if_neg (fun q : k' = k ∧ f' = f ∧ j' = j => h ⟨q.1, q.2.2⟩)
      exact cFs_same (S := S) (S' := S.setR k f j v) (fun _ => rfl) (fun _ => rfl) e9 _ _
    unfold cCell
    rw [h1]
    rfl
  have hx : cCell ad cc (S.setR k f j v) k j = (ad k j, .inr (k, (cObj ad S k j).set f (rv ad t v))) := by
    unfold cCell
    rw [if_pos hk]
    congr 3
    exact (cFs_set (by show rv ad t (if k = k ∧ f = f ∧ j = j then v else _) = _; rw [if_pos ⟨rfl, rfl, rfl⟩]) (fun f' t' hf' => by
      match t' with
      | 0 => rfl
      | 1 => rfl
      | t' + 2 => exact congrArg (rv ad t') (if_neg (fun q => hf' q.2.1))) _ 0 f ht (by omega)).symm
  rw [← hx]
  exact cwF_set hj hc 19 (by omega)
theorem cw_setA {k j i : Nat} {v : Int32} (hk : 12 ≤ k ∧ k < 15) (hj : j < N k) : (cw ad cc N S).set (cPos N k j) (ad k j, .inl (cc k, S.z k j, .inl (upd (S.a k j) i v))) = cw ad cc N (S.setA k j i v) := by
  have hc : ∀ k' j', ¬ (k' = k ∧ j' = j) → cCell ad cc (S.setA k j i v) k' j' = cCell ad cc S k' j' := by
    intro k' j' h
    have h0 : cObj ad (S.setA k j i v) k' j' = cObj ad S k' j' := cFs_same (S := S) (S' := S.setA k j i v) (fun _ => rfl) (fun _ => rfl) (fun _ => rfl) _ _
    have h1 : (S.setA k j i v).a k' j' = S.a k' j' := by funext p; exact if_neg (fun q => h ⟨q.1, q.2.1⟩)
    unfold cCell
    rw [h0, h1]
    rfl
  have hx : cCell ad cc (S.setA k j i v) k j = (ad k j, .inl (cc k, S.z k j, .inl (upd (S.a k j) i v))) := by
    have h1 : (S.setA k j i v).a k j = upd (S.a k j) i v := by
      funext p
      show (if k = k ∧ j = j ∧ p = i then v else S.a k j p) = upd (S.a k j) i v p
      unfold upd
      by_cases hp : p = i <;> simp [hp]
    unfold cCell
    rw [if_neg (by omega), if_pos hk.2, h1]
    rfl
  rw [← hx]
  exact cwF_set hj hc 19 (by omega)
theorem cw_setQ {k j i : Nat} {v : Option Nat} (hk : 15 ≤ k ∧ k < 19) (hj : j < N k) : (cw ad cc N S).set (cPos N k j) (ad k j, .inl (cc k, S.z k j, .inr (.inr (.inr (.inr (va_up (fun p => (S.q k j p).map (ad (cET k))) i (v.map (ad (cET k))))))))) = cw ad cc N (S.setQ k j i v) := by
  have hc : ∀ k' j', ¬ (k' = k ∧ j' = j) → cCell ad cc (S.setQ k j i v) k' j' = cCell ad cc S k' j' := by
    intro k' j' h
    have h0 : cObj ad (S.setQ k j i v) k' j' = cObj ad S k' j' := cFs_same (S := S) (S' := S.setQ k j i v) (fun _ => rfl) (fun _ => rfl) (fun _ => rfl) _ _
    have h1 : (S.setQ k j i v).q k' j' = S.q k' j' := by funext p; exact if_neg (fun q => h ⟨q.1, q.2.1⟩)
    unfold cCell
    rw [h0, h1]
    rfl
  have hx : cCell ad cc (S.setQ k j i v) k j = (ad k j, .inl (cc k, S.z k j, .inr (.inr (.inr (.inr (va_up (fun p => (S.q k j p).map (ad (cET k))) i (v.map (ad (cET k))))))))) := by
    have h1 : (fun p => ((S.setQ k j i v).q k j p).map (ad (cET k))) = va_up (fun p => (S.q k j p).map (ad (cET k))) i (v.map (ad (cET k))) := by
      funext p
      show (if k = k ∧ j = j ∧ p = i then v else S.q k j p).map (ad (cET k)) = va_up (fun p => (S.q k j p).map (ad (cET k))) i (v.map (ad (cET k))) p
      unfold va_up
      by_cases hp : p = i <;> simp [hp]
    unfold cCell
    rw [if_neg (by omega), if_neg (by omega), h1]
    rfl
  rw [← hx]
  exact cwF_set hj hc 19 (by omega)
theorem cw_setF {k j : Nat} {g : Nat → Int32} (hk : 12 ≤ k ∧ k < 15) (hj : j < N k) : (cw ad cc N S).set (cPos N k j) (ad k j, .inl (cc k, S.z k j, .inl g)) = cw ad cc N (S.setF k j g) := by
  have hc : ∀ k' j', ¬ (k' = k ∧ j' = j) → cCell ad cc (S.setF k j g) k' j' = cCell ad cc S k' j' := by
    intro k' j' h
    have h0 : cObj ad (S.setF k j g) k' j' = cObj ad S k' j' := cFs_same (S := S) (S' := S.setF k j g) (fun _ => rfl) (fun _ => rfl) (fun _ => rfl) _ _
    have h1 : (S.setF k j g).a k' j' = S.a k' j' := by funext p; exact if_neg (fun q => h q)
    unfold cCell
    rw [h0, h1]
    rfl
  have hx : cCell ad cc (S.setF k j g) k j = (ad k j, .inl (cc k, S.z k j, .inl g)) := by
    have h1 : (S.setF k j g).a k j = g := by
      funext p
      exact if_pos ⟨rfl, rfl⟩
    unfold cCell
    rw [if_neg (by omega), if_pos hk.2, h1]
    rfl
  rw [← hx]
  exact cwF_set hj hc 19 (by omega)
/-- addresses differ -/
theorem cw_inj {A : Nat → Prop} (hD : va_D A (cw ad cc N S)) {k i j : Nat} (hk : k < 19) (hi : i < N k) (hj : j < N k) (h : ad k i = ad k j) : i = j := by
  have e1 : ∀ x, (cCell ad cc S k x).1 = ad k x := by
    intro x
    unfold cCell
    split
    · rfl
    · split <;> rfl
  have := hD.1 _ _ _ _ (cw_at (S := S) hk hi) (cw_at (S := S) hk hj) (by rw [e1, e1, h])
  unfold cPos at this
  omega
end CWL
def gn {τ : Type} (x : Option Nat) (n : Nat) (k : Nat → Option τ) : Option τ := match x with
  | none => none
  | some j => if j < n then k j else none
theorem gn_some {τ : Type} {x : Option Nat} {n : Nat} {k : Nat → Option τ} {o : τ} (h : gn x n k = some o) : ∃ j, x = some j ∧ j < n ∧ k j = some o := by
  cases x with
  | none => cases h
  | some j =>
    change (if j < n then k j else none) = some o at h
    split at h
    · rename_i h1; exact ⟨j, rfl, h1, h⟩
    · cases h
def gl {τ : Type} (j n : Nat) (k : Option τ) : Option τ := if j < n then k else none
theorem gl_some {τ : Type} {j n : Nat} {k : Option τ} {o : τ} (h : gl j n k = some o) : j < n ∧ k = some o := by
  unfold gl at h
  split at h
  · rename_i h1; exact ⟨h1, h⟩
  · cases h
def gle {τ : Type} (a b : Nat) (k : Option τ) : Option τ := if a ≤ b then k else none
theorem gle_some {τ : Type} {a b : Nat} {k : Option τ} {o : τ} (h : gle a b k = some o) : a ≤ b ∧ k = some o := by
  unfold gle at h
  split at h
  · rename_i h1; exact ⟨h1, h⟩
  · cases h
/-- null or in its table -/
def gv {τ : Type} (x : Option Nat) (n : Nat) (k : Option τ) : Option τ := match x with
  | none => k
  | some j => if j < n then k else none
theorem gv_some {τ : Type} {x : Option Nat} {n : Nat} {k : Option τ} {o : τ} (h : gv x n k = some o) : (∀ j, x = some j → j < n) ∧ k = some o := by
  cases x with
  | none => exact ⟨fun j h => (by cases h), h⟩
  | some j =>
    change (if j < n then k else none) = some o at h
    split at h
    · rename_i h1; exact ⟨fun j' h' => by cases h'; exact h1, h⟩
    · cases h
def on {τ : Type} (x : Option Nat) (a : Option τ) (f : Nat → Option τ) : Option τ := match x with
  | none => a
  | some j => f j
theorem on_some {τ : Type} {x : Option Nat} {a : Option τ} {f : Nat → Option τ} {o : τ} (h : on x a f = some o) : (x = none ∧ a = some o) ∨ ∃ j, x = some j ∧ f j = some o := by
  cases x with
  | none => exact Or.inl ⟨rfl, h⟩
  | some j => exact Or.inr ⟨j, rfl, h⟩
theorem rv_eq {A : Nat → Prop} {ad : Nat → Nat → Nat} {cc : Nat → ClassId} {N : Nat → Nat} {S : CS} (hD : va_D A (cw ad cc N S)) {k : Nat} (hk : k < 19) {x y : Option Nat} (hx : ∀ j, x = some j → j < N k) (hy : ∀ j, y = some j → j < N k) : x.map (ad k) = y.map (ad k) ↔ x = y := by
  constructor
  · intro h
    cases x with
    | none =>
      cases y with
      | none => rfl
      | some j => cases h
    | some i =>
      cases y with
      | none => cases h
      | some j =>
        simp only [Option.map_some, Option.some.injEq] at h
        rw [cw_inj hD hk (hx i rfl) (hy j rfl) h]
  · intro h; rw [h]
