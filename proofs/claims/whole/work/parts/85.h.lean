/-! TEXT: the class writes an object. -/
def clB (A : AS) (y : Option Nat) : Nat := if A.kd y = 6 then 125 else 93
def rstF (A : AS) (r : Nat) : Bool → List (Option Nat × List Nat) → List Nat
  | _, [] => []
  | b, f :: fs => csF b (itT A r (A.val r) f.2) ++ [clB A f.1] ++ rstF A r false fs
def FOK (A : AS) (r : Nat) (st : Option Nat) : List (Option Nat × List Nat) → Prop
  | [] => False
  | [f] => f.1 = st ∧ (∃ pre, A.L f.1 = pre ++ f.2) ∧ ndOK A r f.1 ∧ (A.kd f.1 = 6 ∨ A.kd f.1 = 7)
  | f :: g :: fs => (∃ m, f.1 = some m ∧ m < A.n ∧ A.obj m = g.1 ∧ ox st < ox f.1 ∧ ∃ pre, A.L g.1 = pre ++ A.sp m :: g.2) ∧ (∃ pre, A.L f.1 = pre ++ f.2) ∧ ndOK A r f.1 ∧ (A.kd f.1 = 6 ∨ A.kd f.1 = 7) ∧ FOK A r st (g :: fs)
/-- how many spots haven't been seen -/
def unS (A : AS) (vis : Nat → Bool) : Nat := cntTo (fun s => !vis s) A.n
def addV (vis : Nat → Bool) (l : List Nat) (s : Nat) : Bool := vis s || decide (s ∈ l)
/-- what has been seen -/
def SEEN (A : AS) (st : Option Nat) (fs : List (Option Nat × List Nat)) (vis ent : Nat → Bool) : Prop :=
  (∀ f, f ∈ fs → ∀ s, s ∈ f.2 → vis s = false) ∧ (∀ s, s < A.n → vis s = true → ent (ox (A.obj s)) = true) ∧ (∀ e, ent (ox e) = true → e = st ∨ ∃ m, e = some m ∧ vis (A.sp m) = true)
section TXH
variable {S S' : MS} {N : Nat → Nat} {C C' : CS} {A : AS} {r rd : Nat} {w : List Nat} {st : Option Nat}
theorem FOK_top {f : Option Nat × List Nat} {fs : List (Option Nat × List Nat)} (h : FOK A r st (f :: fs)) : (∃ pre, A.L f.1 = pre ++ f.2) ∧ ndOK A r f.1 ∧ (A.kd f.1 = 6 ∨ A.kd f.1 = 7) ∧ (fs = [] → f.1 = st) ∧ ox st ≤ ox f.1 := by
  cases fs with
  | nil => exact ⟨h.2.1, h.2.2.1, h.2.2.2, fun _ => h.1, by rw [h.1]; exact Nat.le_refl _⟩
  | cons g fs =>
    obtain ⟨⟨m, h1, h2, h3, h4, h5⟩, a1, a2, a3, a4⟩ := h
    exact ⟨a1, a2, a3, fun e => (by cases e), by omega⟩
theorem FOK_drop {y : Option Nat} {s : Nat} {R : List Nat} {fs : List (Option Nat × List Nat)} (h : FOK A r st ((y, s :: R) :: fs)) : FOK A r st ((y, R) :: fs) := by
  have hs : ∀ {pre}, A.L y = pre ++ s :: R → ∃ pre, A.L y = pre ++ R := fun {pre} h => ⟨pre ++ [s], by rw [h]; simp⟩
  cases fs with
  | nil =>
    obtain ⟨h1, ⟨pre, h2⟩, h3⟩ := h
    exact ⟨h1, hs h2, h3⟩
  | cons g fs =>
    obtain ⟨h1, ⟨pre, h2⟩, h3⟩ := h
    exact ⟨h1, hs h2, h3⟩
theorem unS_add (vis : Nat → Bool) : ∀ {l : List Nat}, l.Nodup → (∀ s, s ∈ l → s < A.n ∧ vis s = false) → unS A (addV vis l) + l.length = unS A vis := by
  intro l
  induction l with
  | nil =>
    intro _ _
    unfold unS addV
    simp
  | cons a l ih =>
    intro h1 h2
    rw [List.nodup_cons] at h1
    have := ih h1.2 (fun s hs => h2 s (List.mem_cons_of_mem _ hs))
    rw [List.length_cons, ← this]
    have hk : unS A (addV vis l) = unS A (addV vis (a :: l)) + 1 := by
      unfold unS
      refine cntTo_add (h2 a (by simp)).1 ?_ ?_ ?_
      · unfold addV; simp
      · unfold addV; rw [(h2 a (by simp)).2, decide_eq_false h1.1]; rfl
      · intro i _ hne
        unfold addV
        simp [hne]
    omega
theorem csF_cons {b : Bool} {a : List Nat} {l : List (List Nat)} : csF b (a :: l) = (if b = true then [] else [44]) ++ a ++ csF false l := rfl
theorem itT_cons {s : Nat} {R : List Nat} : itT A r (A.val r) (s :: R) = if A.flB r s = true then (nmT A (A.top r s) ++ A.val r (A.top r s)) :: itT A r (A.val r) R else itT A r (A.val r) R := by
  unfold itT
  by_cases e : A.flB r s = true
  · rw [if_pos e, List.filter_cons_of_pos e]
    rfl
  · rw [if_neg e, List.filter_cons_of_neg e]
theorem val_obj (hA : AI A) {c : Nat} (hc : c < A.n) (hk : A.act c = 6 ∨ A.act c = 7) : A.val r c = [if A.act c = 6 then 123 else 91] ++ csF true (itT A r (A.val r) (A.L (some c))) ++ [clB A (some c)] := by
  rw [val_eq hA hc]
  unfold vb clB
  show (if A.act c = 6 then _ else if A.act c = 7 then _ else _) = _
  rcases hk with h | h
  · rw [if_pos h, if_pos h, if_pos (show A.kd (some c) = 6 from h)]; rfl
  · rw [if_neg (by omega), if_pos h, if_neg (by omega), if_neg (by show ¬ A.act c = 6; omega)]; rfl
theorem val_text (hA : AI A) {c : Nat} (hc : c < A.n) (hk : A.act c = 8) : A.val r c = 34 :: elT A r (A.L (some c)) ++ [34] := by
  rw [val_eq hA hc]
  unfold vb
  show (if A.act c = 6 then _ else if A.act c = 7 then _ else if A.act c = 8 then _ else _) = _
  rw [if_neg (by omega), if_neg (by omega), if_pos hk]
theorem val_plain (hA : AI A) {c : Nat} (hc : c < A.n) (hk : A.act c ≤ 5) : A.val r c = plT A r c := by
  rw [val_eq hA hc]
  unfold vb
  show (if A.act c = 6 then _ else if A.act c = 7 then _ else if A.act c = 8 then _ else _) = _
  rw [if_neg (by omega), if_neg (by omega), if_neg (by omega)]
/-- a value never ends with a bracket that opens -/
theorem val_last (hA : AI A) {c : Nat} (hc : c < A.n) (h8 : A.act c ≤ 8) : lastB (w ++ A.val r c) = false := by
  by_cases h5 : A.act c ≤ 5
  · rw [val_plain hA hc h5]
    obtain ⟨l, b, h1, h2, h3⟩ := plT_last (A := A) (r := r) h5
    rw [h1, ← List.append_assoc, lastB_snoc]
    simp [h2, h3]
  · by_cases hk : A.act c = 8
    · rw [val_text hA hc hk, ← List.append_assoc, lastB_snoc]
      rfl
    · rw [val_obj hA hc (by omega), ← List.append_assoc, lastB_snoc]
      unfold clB
      split <;> rfl
/-- entering c: none of its spots has been seen -/
theorem seen_new (hA : AI A) {y : Option Nat} {s : Nat} {R : List Nat} {fs : List (Option Nat × List Nat)} {vis ent : Nat → Bool} (hS : SEEN A st ((y, s :: R) :: fs) vis ent) (hsL : s ∈ A.L y) (hf : A.flB r s = true) (hst : ox st ≤ ox y) : ∀ t, t ∈ A.L (some (A.top r s)) → vis t = false ∧ t ≠ s := by
  obtain ⟨t1, t2, t3, t4, t5, t6⟩ := ch_ok hA hsL hf
  intro t ht
  have htm := L_mem hA ht
  have hsm := L_mem hA hsL
  have hne : t ≠ s := by
    rintro rfl
    rw [hsm.2.1] at htm
    have := htm.2.1
    rw [← this] at t6
    omega
  refine ⟨?_, hne⟩
  cases hv : vis t with
  | false => rfl
  | true =>
    exfalso
    have h1 := hS.2.1 t htm.1 hv
    rw [htm.2.1] at h1
    rcases hS.2.2 _ h1 with h2 | ⟨m, h2, h3⟩
    · rw [← h2] at hst
      omega
    · rw [← Option.some.inj h2, t5] at h3
      rw [hS.1 (y, s :: R) (by simp) s (by simp)] at h3
      cases h3
theorem seen_step (hA : AI A) {y : Option Nat} {s : Nat} {R : List Nat} {fs : List (Option Nat × List Nat)} {vis ent : Nat → Bool} (hS : SEEN A st ((y, s :: R) :: fs) vis ent) (hF : FOK A r st ((y, s :: R) :: fs)) (hent : ent (ox y) = true) (hdis : ∀ f, f ∈ fs → s ∉ f.2) {l : List Nat} {c : Option Nat} (hl : (l = [] ∧ c = none) ∨ ∃ m, c = some m ∧ m < A.n ∧ A.sp m = s ∧ ∀ t, t ∈ l → t ∈ A.L c)
    (hld : ∀ f, f ∈ (y, R) :: fs → ∀ t, t ∈ f.2 → t ∉ l) : SEEN A st ((y, R) :: fs) (addV vis (s :: l)) (fun e => ent e || decide (c ≠ none ∧ e = ox c)) := by
  obtain ⟨h1, h2, h3⟩ := hS
  obtain ⟨⟨pre, hL⟩, _, _, _, _⟩ := FOK_top hF
  have hLn : (A.L y).Nodup := (hA.2.2.1.2.2.2.2.2.2.2.2.1 y).1
  have hL : A.L y = pre ++ s :: R := hL
  have hsL : s ∈ A.L y := by rw [hL]; simp
  have hsm := L_mem hA hsL
  refine ⟨?_, ?_, ?_⟩
  · intro f hf t ht
    unfold addV
    have hv : vis t = false := by
      rcases List.mem_cons.mp hf with e | e
      · rw [e] at ht
        exact h1 (y, s :: R) (by simp) t (List.mem_cons_of_mem _ ht)
      · exact h1 f (List.mem_cons_of_mem _ e) t ht
    have hne : t ≠ s := by
      rintro rfl
      rcases List.mem_cons.mp hf with e | e
      · rw [e] at ht
        rw [hL] at hLn
        exact (List.nodup_cons.mp (List.nodup_append.mp hLn).2.1).1 ht
      · exact hdis f e ht
    have hnl := hld f hf t ht
    rw [hv, decide_eq_false (by simp [hne, hnl])]
    rfl
  · intro t ht hv
    unfold addV at hv
    simp only [Bool.or_eq_true, decide_eq_true_eq] at hv ⊢
    rcases hv with hv | hv
    · exact Or.inl (h2 t ht hv)
    · rcases List.mem_cons.mp hv with e | e
      · left
        rw [e, hsm.2.1]
        exact hent
      · rcases hl with ⟨hl, _⟩ | ⟨m, hc, _, _, hm⟩
        · rw [hl] at e; cases e
        · right
          refine ⟨by rw [hc]; simp, ?_⟩
          rw [(L_mem hA (hm t e)).2.1]
  · intro e he
    simp only [Bool.or_eq_true, decide_eq_true_eq] at he
    rcases he with he | ⟨he1, he2⟩
    · rcases h3 e he with h | ⟨m, hm1, hm2⟩
      · exact Or.inl h
      · refine Or.inr ⟨m, hm1, ?_⟩
        unfold addV
        rw [hm2]
        rfl
    · rcases hl with ⟨_, hl⟩ | ⟨m, hc, _, hsp, _⟩
      · exact absurd hl he1
      · right
        refine ⟨m, ?_, ?_⟩
        · rw [← hc]
          cases e with
          | none => rw [hc] at he2; simp [ox] at he2
          | some q => rw [hc] at he2 ⊢; simp [ox] at he2; rw [he2]
        · unfold addV
          rw [hsp]
          simp
end TXH
