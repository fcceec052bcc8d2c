/-! THE CLASS'S FIRST STATE, by lists. -/
def iL : List (Nat × Nat × Nat × Int32) → Nat → Nat → Nat → Int32
  | [], _, _, _ => 0
  | e :: t, k, f, j => if k = e.1 ∧ f = e.2.1 ∧ j = e.2.2.1 then e.2.2.2 else iL t k f j
def rL : List (Nat × Nat × Nat × Nat) → Nat → Nat → Nat → Option Nat
  | [], _, _, _ => none
  | e :: t, k, f, j => if k = e.1 ∧ f = e.2.1 ∧ j = e.2.2.1 then some e.2.2.2 else rL t k f j
def zL : List (Nat × Nat × Nat) → Nat → Nat → Nat
  | [], _, _ => 0
  | e :: t, k, j => if k = e.1 ∧ j = e.2.1 then e.2.2 else zL t k j
def DL (Li : List (Nat × Nat × Nat × Int32)) (Lr Lq : List (Nat × Nat × Nat × Nat)) (Lz : List (Nat × Nat × Nat)) (m : Nat) : CS := (iL Li, fun _ _ _ => 0, rL Lr, fun _ _ _ => 0, fun k j p => if k = 18 ∧ j = 0 ∧ p < m then some p else rL Lq k j p, zL Lz)
def Nn (l : List Nat) : Nat → Nat := fun k => l.getD k 0
def frB (Li : List (Nat × Nat × Nat × Int32)) (Lr Lq : List (Nat × Nat × Nat × Nat)) (m k j : Nat) : Bool := Li.all (fun e => !(k == e.1 && j == e.2.2.1)) && Lr.all (fun e => !(k == e.1 && j == e.2.2.1)) && Lq.all (fun e => !(k == e.1 && j == e.2.1)) && !(k == 18 && j == 0 && decide (0 < m))
def wfB (l : List Nat) (Lr Lq : List (Nat × Nat × Nat × Nat)) (m : Nat) : Bool := Lr.all (fun e => match (cFT.getD e.1 [])[e.2.1]? with
    | some (t + 2) => decide (e.2.2.2 < l.getD t 0)
    | _ => true) && Lq.all (fun e => decide (e.2.2.2 < l.getD (cET e.1) 0)) && decide (m ≤ l.getD 9 0)
section INA
variable {Li : List (Nat × Nat × Nat × Int32)} {Lr Lq : List (Nat × Nat × Nat × Nat)} {Lz : List (Nat × Nat × Nat)} {m k f j n : Nat} {l : List Nat}
theorem dl_setR {v : Nat} : (DL Li Lr Lq Lz m).setR k f j (some v) = DL Li ((k, f, j, v) :: Lr) Lq Lz m := rfl
theorem dl_setI {v : Int32} : (DL Li Lr Lq Lz m).setI k f j v = DL ((k, f, j, v) :: Li) Lr Lq Lz m := rfl
theorem dl_setQ {v : Nat} (hk : k ≠ 18) : (DL Li Lr Lq Lz m).setQ k f j (some v) = DL Li Lr ((k, f, j, v) :: Lq) Lz m := by
  apply CS_ext <;> intros <;> try rfl
  rename_i k1 f1 j1
  show (if k1 = k ∧ f1 = f ∧ j1 = j then some v else if k1 = 18 ∧ f1 = 0 ∧ j1 < m then some j1 else rL Lq k1 f1 j1) = (if k1 = 18 ∧ f1 = 0 ∧ j1 < m then some j1 else if k1 = k ∧ f1 = f ∧ j1 = j then some v else rL Lq k1 f1 j1)
  by_cases c : k1 = 18 ∧ f1 = 0 ∧ j1 < m
  · rw [if_neg (by omega), if_pos c, if_pos c]
  · rw [if_neg c, if_neg c]
theorem dl_set18 : (DL Li Lr Lq Lz m).setQ 18 0 m (some m) = DL Li Lr Lq Lz (m + 1) := by
  apply CS_ext <;> intros <;> try rfl
  rename_i k1 f1 j1
  show (if k1 = 18 ∧ f1 = 0 ∧ j1 = m then some m else if k1 = 18 ∧ f1 = 0 ∧ j1 < m then some j1 else rL Lq k1 f1 j1) = (if k1 = 18 ∧ f1 = 0 ∧ j1 < m + 1 then some j1 else rL Lq k1 f1 j1)
  by_cases c : k1 = 18 ∧ f1 = 0 ∧ j1 = m
  · rw [if_pos c, if_pos (by omega), c.2.2]
  · rw [if_neg c]
    by_cases c2 : k1 = 18 ∧ f1 = 0 ∧ j1 < m
    · rw [if_pos c2, if_pos (by omega)]
    · rw [if_neg c2, if_neg (by omega)]
theorem iL_fr (h : Li.all (fun e => !(k == e.1 && j == e.2.2.1)) = true) : iL Li k f j = 0 := by
  induction Li with
  | nil => rfl
  | cons e t ih =>
    rw [List.all_cons, Bool.and_eq_true] at h
    show (if k = e.1 ∧ f = e.2.1 ∧ j = e.2.2.1 then e.2.2.2 else iL t k f j) = 0
    rw [if_neg, ih h.2]
    intro g
    have := h.1
    rw [g.1, g.2.2] at this
    simp at this
theorem rL_fr (h : Lr.all (fun e => !(k == e.1 && j == e.2.2.1)) = true) : rL Lr k f j = none := by
  induction Lr with
  | nil => rfl
  | cons e t ih =>
    rw [List.all_cons, Bool.and_eq_true] at h
    show (if k = e.1 ∧ f = e.2.1 ∧ j = e.2.2.1 then some e.2.2.2 else rL t k f j) = none
    rw [if_neg, ih h.2]
    intro g
    have := h.1
    rw [g.1, g.2.2] at this
    simp at this
theorem qL_fr (h : Lq.all (fun e => !(k == e.1 && j == e.2.1)) = true) : rL Lq k j f = none := by
  induction Lq with
  | nil => rfl
  | cons e t ih =>
    rw [List.all_cons, Bool.and_eq_true] at h
    show (if k = e.1 ∧ j = e.2.1 ∧ f = e.2.2.1 then some e.2.2.2 else rL t k j f) = none
    rw [if_neg, ih h.2]
    intro g
    have := h.1
    rw [g.1, g.2.1] at this
    simp at this
theorem dl_new (h : frB Li Lr Lq m k j = true) : (DL Li Lr Lq Lz m).new k j n = DL Li Lr Lq ((k, j, n) :: Lz) m := by
  unfold frB at h
  simp only [Bool.and_eq_true] at h
  obtain ⟨⟨⟨h1, h2⟩, h3⟩, h4⟩ := h
  apply CS_ext
  · intro k1 f1 j1
    show (if k1 = k ∧ j1 = j then 0 else iL Li k1 f1 j1) = iL Li k1 f1 j1
    split
    · rename_i e; rw [e.1, e.2, iL_fr h1]
    · rfl
  · intro k1 f1 j1
    show (if k1 = k ∧ j1 = j then 0 else 0) = (0 : Int64)
    split <;> rfl
  · intro k1 f1 j1
    show (if k1 = k ∧ j1 = j then none else rL Lr k1 f1 j1) = rL Lr k1 f1 j1
    split
    · rename_i e; rw [e.1, e.2, rL_fr h2]
    · rfl
  · intro k1 f1 j1
    show (if k1 = k ∧ f1 = j then 0 else 0) = (0 : Int32)
    split <;> rfl
  · intro k1 f1 j1
    show (if k1 = k ∧ f1 = j then none else if k1 = 18 ∧ f1 = 0 ∧ j1 < m then some j1 else rL Lq k1 f1 j1) = if k1 = 18 ∧ f1 = 0 ∧ j1 < m then some j1 else rL Lq k1 f1 j1
    split
    · rename_i e
      rw [e.1, e.2, if_neg, qL_fr h3]
      intro g
      rw [g.1, g.2.1, show decide (0 < m) = true from decide_eq_true (by omega)] at h4
      cases h4
    · rfl
  · intro k1 f1; rfl
theorem rL_mem {v : Nat} (h : rL Lr k f j = some v) : (k, f, j, v) ∈ Lr := by
  induction Lr with
  | nil => cases h
  | cons e t ih =>
    have h : (if k = e.1 ∧ f = e.2.1 ∧ j = e.2.2.1 then some e.2.2.2 else rL t k f j) = some v := h
    by_cases c : k = e.1 ∧ f = e.2.1 ∧ j = e.2.2.1
    · rw [if_pos c] at h
      rw [c.1, c.2.1, c.2.2, ← Option.some.inj h]
      exact List.mem_cons_self
    · rw [if_neg c] at h
      exact List.mem_cons_of_mem _ (ih h)
theorem wf_of (h : wfB l Lr Lq m = true) : WF (Nn l) (DL Li Lr Lq Lz m) := by
  unfold wfB at h
  simp only [Bool.and_eq_true, List.all_eq_true] at h
  obtain ⟨⟨h1, h2⟩, h3⟩ := h
  refine ⟨fun k f j t y hk hj ht hy => ?_, fun k j p y h15 h19 hj hy => ?_⟩
  · have := h1 _ (rL_mem hy)
    simp only [ht] at this
    exact of_decide_eq_true this
  · have hy : (if k = 18 ∧ j = 0 ∧ p < m then some p else rL Lq k j p) = some y := hy
    by_cases c : k = 18 ∧ j = 0 ∧ p < m
    · rw [if_pos c] at hy
      have := Option.some.inj hy
      have h9 : m ≤ l.getD 9 0 := of_decide_eq_true h3
      rw [c.1]
      show y < l.getD 9 0
      omega
    · rw [if_neg c] at hy
      exact of_decide_eq_true (h2 _ (rL_mem hy))
theorem nup_l {l' : List Nat} (hl : l.length = 19) (hk : k < 19) (h : l' = l.set k (l.getD k 0 + 1)) : Nup (Nn l) k = Nn l' := by
  funext k1
  rw [nup_i, h]
  show (if k1 = k then l.getD k 0 + 1 else l.getD k1 0) = (l.set k (l.getD k 0 + 1)).getD k1 0
  generalize l.getD k 0 + 1 = v
  by_cases e : k1 = k
  · rw [if_pos e, e, List.getD_eq_getElem?_getD, List.getElem?_set_self (by omega)]; rfl
  · rw [if_neg e, List.getD_eq_getElem?_getD, List.getD_eq_getElem?_getD, List.getElem?_set_ne (fun g => e g.symm)]
theorem nwL {τ : Type} {z : Nat} {l' : List Nat} {F : (Nat → Nat) → CS → Nat → Option (τ × Nat × Nat)} (hl : l.length = 19) (hk : k < 19) (hw : wfB l Lr Lq m = true) (hj : l.getD k 0 = j) (hl' : l.set k (j + 1) = l') (hf : frB Li Lr Lq m k j = true) : nw z k n (Nn l) (DL Li Lr Lq Lz m) F = al 1 z (F (Nn l') (DL Li Lr Lq ((k, j, n) :: Lz) m) j) := by
  unfold nw
  rw [gW_ok (WF_wfN (wf_of hw)), nup_l hl hk (l' := l') (by rw [hj]; exact hl'.symm), show Nn l k = j from hj, dl_new hf]
theorem rowL {x0 s : Nat} {l' : List Nat} (hl : l.length = 19) (hw : wfB l Lr Lq m = true) (hj : l.getD 13 0 = j) (hl' : l.set 13 (j + 1) = l') (hf : frB Li Lr Lq m 13 j = true) (hx : x0 < l'.getD 5 0) (hs : s ≤ 1000000) : m_cRw_init (Nn l) x0 (DL Li Lr Lq Lz m) (nI s) = some ((Nn l', DL Li ((5, 0, x0, j) :: Lr) Lq ((13, j, s) :: Lz) m), 1, s) := by
  unfold m_cRw_init m_cRw_init_J0 gA
  rw [if_neg (nI_pos (by omega)), cl_nI (by omega), if_pos hs, nwL hl (by omega) hw hj hl' hf, gl_ok (show x0 < Nn l' 5 from hx), al_ok, dl_setR]
  simp only [Nat.zero_add]
end INA
