/-! A NEW OBJECT OR ARRAY IN THE CLASS'S WORLD. Printed by wip/gen/na.py -/
theorem p_mem {D : va_G} {cl : List vw_C} {ws ws' : va_W} {H : Heap} (hP : va_P D cl ws H) (h : ∀ q, q ∈ ws' → q ∈ ws) : va_P D cl ws' H := by
  intro k q hq
  obtain ⟨i, hi, e⟩ := List.mem_iff_getElem.mp (h q (List.mem_of_getElem? hq))
  exact hP i q (by rw [List.getElem?_eq_getElem hi, e])
theorem d_pw {A : Nat → Prop} {ws : va_W} (hD : va_D A ws) : ws.Pairwise (fun a b => a.1 ≠ b.1) := by
  rw [List.pairwise_iff_getElem]
  intro i j hi hj hij h
  have := hD.1 i j _ _ (List.getElem?_eq_getElem hi) (List.getElem?_eq_getElem hj) h
  omega
theorem d_of_pw {A : Nat → Prop} {ws : va_W} (h : ws.Pairwise (fun a b => a.1 ≠ b.1)) (hA : ∀ q ∈ ws, A q.1) : va_D A ws := by
  rw [List.pairwise_iff_getElem] at h
  refine ⟨fun i j p q hp hq e => ?_, fun k q hq => hA q (List.mem_of_getElem? hq)⟩
  obtain ⟨hi, rfl⟩ := List.getElem?_eq_some_iff.mp hp
  obtain ⟨hj, rfl⟩ := List.getElem?_eq_some_iff.mp hq
  rcases Nat.lt_trichotomy i j with hij | hij | hij
  · exact absurd e (h i j hi hj hij)
  · exact hij
  · exact absurd e.symm (h j i hj hi hij)
theorem d_perm2 {A : Nat → Prop} {ws ws' : va_W} (hp : ws.Perm ws') (hD : va_D A ws) : va_D A ws' :=
  d_of_pw ((d_pw hD).perm hp (fun h => fun e => h e.symm)) (fun q hq => by
    obtain ⟨i, hi, e⟩ := List.mem_iff_getElem.mp (hp.mem_iff.mpr hq)
    exact hD.2 i q (by rw [List.getElem?_eq_getElem hi, e]))
theorem p_perm2 {D : va_G} {cl : List vw_C} {ws ws' : va_W} {H : Heap} (hp : ws.Perm ws') (hP : va_P D cl ws H) : va_P D cl ws' H := p_mem hP (fun _ h => hp.mem_iff.mpr h)
def adU (ad : Nat → Nat → Nat) (k j q : Nat) : Nat → Nat → Nat := fun k1 j1 => if k1 = k ∧ j1 = j then q else ad k1 j1
def Nup (N : Nat → Nat) (k : Nat) : Nat → Nat := fun k1 => if k1 = k then N k + 1 else N k1
/-- an object's fields (k < 12) or an array's length and contents are made new at (k, j) -/
def CS.new (S : CS) (k j n : Nat) : CS :=
  (fun k1 f1 j1 => if k1 = k ∧ j1 = j then 0 else S.i k1 f1 j1, fun k1 f1 j1 => if k1 = k ∧ j1 = j then 0 else S.l k1 f1 j1, fun k1 f1 j1 => if k1 = k ∧ j1 = j then none else S.r k1 f1 j1,
   fun k1 j1 p1 => if k1 = k ∧ j1 = j then 0 else S.a k1 j1 p1, fun k1 j1 p1 => if k1 = k ∧ j1 = j then none else S.q k1 j1 p1, fun k1 j1 => if k1 = k ∧ j1 = j then n else S.z k1 j1)
/-- nothing in the world points at the place that is free next in table k -/
def wfN (N : Nat → Nat) (S : CS) (k : Nat) : Prop :=
  (∀ k1 f1 j1, k1 < 12 → j1 < N k1 → (cFT.getD k1 [])[f1]? = some (k + 2) → S.r k1 f1 j1 ≠ some (N k)) ∧ ∀ k1 j1 p1, 15 ≤ k1 → k1 < 19 → j1 < N k1 → cET k1 = k → S.q k1 j1 p1 ≠ some (N k)
section NEW
variable {ad : Nat → Nat → Nat} {cc : Nat → ClassId} {N : Nat → Nat} {S : CS} {k q n : Nat}
theorem rv_adU {t : Nat} {x : Option Nat} (h : t = k → x ≠ some (N k)) : x.map (adU ad k (N k) q t) = x.map (ad t) := by
  cases x with
  | none => rfl
  | some j =>
    show some (adU ad k (N k) q t j) = some (ad t j)
    unfold adU
    rw [if_neg (fun z => h z.1 (by rw [z.2]))]
theorem cFs_new {k1 j1 : Nat} (hne : ¬ (k1 = k ∧ j1 = N k)) : ∀ (ts : List Nat) (f : Nat), (∀ i, ts[i]? = some (k + 2) → S.r k1 (f + i) j1 ≠ some (N k)) → cFs (adU ad k (N k) q) (S.new k (N k) n) k1 j1 f ts = cFs ad S k1 j1 f ts := by
  intro ts
  induction ts with
  | nil => intro f _; rfl
  | cons t ts ih =>
    intro f h
    rw [cFs, cFs, ih (f + 1) (fun i hi => by have := h (i + 1) (by simpa using hi); rwa [show f + (i + 1) = f + 1 + i by omega] at this)]
    congr 1
    match t, h with
    | 0, _ => exact congrArg Value.int (if_neg hne)
    | 1, _ => exact congrArg Value.long (if_neg hne)
    | t + 2, h =>
      have e1 : (S.new k (N k) n).r k1 f j1 = S.r k1 f j1 := if_neg hne
      show rv (adU ad k (N k) q) t ((S.new k (N k) n).r k1 f j1) = rv ad t (S.r k1 f j1)
      rw [e1]
      unfold rv
      rw [rv_adU (fun e => by subst e; exact h 0 rfl)]
theorem cCell_new {k1 j1 : Nat} (hw : wfN N S k) (hk1 : k1 < 19) (hj : j1 < N k1) : cCell (adU ad k (N k) q) cc (S.new k (N k) n) k1 j1 = cCell ad cc S k1 j1 := by
  have hne : ¬ (k1 = k ∧ j1 = N k) := fun z => by rw [z.1, z.2] at hj; omega
  have ha : adU ad k (N k) q k1 j1 = ad k1 j1 := if_neg hne
  have hz : (S.new k (N k) n).z k1 j1 = S.z k1 j1 := if_neg hne
  unfold cCell
  rw [ha, hz]
  split
  · rename_i h12
    rw [show cObj (adU ad k (N k) q) (S.new k (N k) n) k1 j1 = cObj ad S k1 j1 from cFs_new hne _ 0 (fun i hi => by rw [Nat.zero_add]; exact hw.1 k1 i j1 h12 hj hi)]
  · split
    · rename_i h12 h15
      have e1 : (S.new k (N k) n).a k1 j1 = S.a k1 j1 := by funext p; exact if_neg hne
      rw [e1]
    · rename_i h12 h15
      have e1 : (fun p => ((S.new k (N k) n).q k1 j1 p).map (adU ad k (N k) q (cET k1))) = fun p => (S.q k1 j1 p).map (ad (cET k1)) := by
        funext p
        rw [show (S.new k (N k) n).q k1 j1 p = S.q k1 j1 p from if_neg hne]
        exact rv_adU (fun e => hw.2 k1 j1 p (by omega) hk1 hj e)
      rw [e1]
theorem cT_new (hw : wfN N S k) {k1 : Nat} (hk1 : k1 < 19) (hne : k1 ≠ k) : cT (adU ad k (N k) q) cc (Nup N k) (S.new k (N k) n) k1 = cT ad cc N S k1 := by
  unfold cT
  rw [show Nup N k k1 = N k1 from if_neg hne]
  apply List.map_congr_left
  intro j hj
  exact cCell_new hw hk1 (List.mem_range.mp hj)
theorem cT_newk (hw : wfN N S k) (hk : k < 19) : cT (adU ad k (N k) q) cc (Nup N k) (S.new k (N k) n) k = cT ad cc N S k ++ [cCell (adU ad k (N k) q) cc (S.new k (N k) n) k (N k)] := by
  unfold cT
  rw [show Nup N k k = N k + 1 from if_pos rfl, List.range_succ, List.map_append]
  congr 1
  apply List.map_congr_left
  intro j hj
  exact cCell_new hw hk (List.mem_range.mp hj)
theorem cwF_new (hw : wfN N S k) : ∀ m : Nat, m ≤ 19 → (cwF ad cc N S m ++ (if k < m then [cCell (adU ad k (N k) q) cc (S.new k (N k) n) k (N k)] else [])).Perm (cwF (adU ad k (N k) q) cc (Nup N k) (S.new k (N k) n) m) := by
  intro m
  induction m with
  | zero => intro _; exact List.Perm.refl _
  | succ m ih =>
    intro hm
    have h1 := ih (by omega)
    rw [cwF, cwF]
    by_cases hk : k < m
    · rw [if_pos (by omega)]
      rw [if_pos hk] at h1
      rw [cT_new hw (by omega) (by omega), List.append_assoc]
      refine List.Perm.trans (List.Perm.append_left _ List.perm_append_comm) ?_
      rw [← List.append_assoc]
      exact List.Perm.append_right _ h1
    · rw [if_neg hk, List.append_nil] at h1
      by_cases hkm : k = m
      · subst hkm
        rw [if_pos (by omega), cT_newk hw (by omega), List.append_assoc]
        exact List.Perm.append_right _ h1
      · rw [if_neg (by omega), List.append_nil, cT_new hw (by omega) (by omega)]
        exact List.Perm.append_right _ h1
theorem cw_new (hw : wfN N S k) (hk : k < 19) : (cw ad cc N S ++ [cCell (adU ad k (N k) q) cc (S.new k (N k) n) k (N k)]).Perm (cw (adU ad k (N k) q) cc (Nup N k) (S.new k (N k) n)) := by
  have h := cwF_new (ad := ad) (cc := cc) (q := q) (n := n) hw 19 (Nat.le_refl _)
  rw [if_pos hk] at h
  exact h
end NEW
