/-! CANDIDATES at a place, over the abstract state. -/
section CD
variable {A : AS}
/-- an object that the view holds -/
def AS.oV (A : AS) (r : Nat) (x : Option Nat) : Prop := match x with
  | none => True
  | some m => m < A.n ∧ A.inV r m = true ∧ 6 ≤ A.act m ∧ A.act m ≤ 8
theorem obj_inV (h : AI A) {r o : Nat} (ho : o < A.n) (hv : A.inV r o = true) : A.oV r (A.obj o) := by
  cases hx : A.obj o with
  | none => trivial
  | some m =>
    have h1 := h.2.2.1.2.2.2.1 o m ho hx
    exact ⟨by omega, inV_seen h.2.1 h.2.2.1.2.2.1 ho hv (h1.2.2.2 (inV_gone hv)), h1.2.1, h1.2.2.1⟩
theorem inV_inj (h : AI A) {r o p : Nat} (ho : o < A.n) (hp : p < A.n) (hv : A.inV r o = true) (hw : A.inV r p = true) (he : A.id o = A.id p) : o = p :=
  h.2.2.1.2.1 o p ho hp (inV_gone hv) (inV_gone hw) he
theorem oi_inj (h : AI A) {r : Nat} {x y : Option Nat} (hx : A.oV r x) (hy : A.oV r y) : A.oi x = A.oi y ↔ x = y := by
  constructor
  · intro he
    cases x with
    | none =>
      cases y with
      | none => rfl
      | some m =>
        have := (h.2.2.1.1 m hy.1).2.2.1
        simp only [AS.oi] at he
        omega
    | some o =>
      cases y with
      | none =>
        have := (h.2.2.1.1 o hx.1).2.2.1
        simp only [AS.oi] at he
        omega
      | some p => rw [inV_inj h hx.1 hy.1 hx.2.1 hy.2.1 he]
  · rintro rfl; rfl
theorem oV_lt (h : AI A) {r : Nat} {x : Option Nat} (hx : A.oV r x) : A.oi x < 40000 := by
  cases x with
  | none => simp [AS.oi]
  | some m => exact id_lt h hx.1
theorem vis_inV {r o : Nat} (h : A.visB r o = true) : A.inV r o = true := (visB_iff.mp h).1
theorem sp_L (h : AI A) {o : Nat} (ho : o < A.n) : A.sp o ∈ A.L (A.obj o) := by
  rw [(h.2.2.1.2.2.2.2.2.2.2.2.1 _).2.1]
  have hi := h.2.2.1.1 o ho
  have : A.ins o = 0 ∨ A.ins o = 1 := by omega
  rcases this with h1 | h1
  · have h2 := h.2.2.1.2.2.2.2.2.1 o ho h1
    exact ⟨h2.2.1, h2.2.2.2.1, h2.2.2.1⟩
  · have h2 := h.2.2.1.2.2.2.2.1 o ho h1
    rw [h2.1]
    exact ⟨ho, rfl, h2.1⟩
theorem obj_sp (h : AI A) {o : Nat} (ho : o < A.n) : A.obj (A.sp o) = A.obj o :=
  (((h.2.2.1.2.2.2.2.2.2.2.2.1 _).2.1 _).mp (sp_L h ho)).2.1
theorem key_sp (h : AI A) {o : Nat} (ho : o < A.n) : A.key (A.sp o) = A.key o := by
  have hi := h.2.2.1.1 o ho
  have : A.ins o = 0 ∨ A.ins o = 1 := by omega
  rcases this with h1 | h1
  · have h2 := h.2.2.1.2.2.2.2.2.1 o ho h1
    by_cases e : A.kd (A.obj o) = 6
    · exact (h2.2.2.2.2.2 e).2.2.1
    · have h3 := h2.2.2.2.2.1 e
      have hs : A.sp o < A.n := h2.2.1
      rw [h3.1]
      exact (h.2.2.1.2.2.2.2.1 _ hs h3.2.2.1).2.1
  · rw [(h.2.2.1.2.2.2.2.1 o ho h1).1]
/-- the spot of a map's key -/
def AS.ks (A : AS) (x : Option Nat) (k : List Nat) : Option Nat := (A.L x).find? (fun s => decide (A.key s = k))
theorem ks_some (h : AI A) {x : Option Nat} {k : List Nat} {s : Nat} (hx : A.kd x = 6) : A.ks x k = some s ↔ s ∈ A.L x ∧ A.key s = k := by
  have hL := h.2.2.1.2.2.2.2.2.2.2.2.1 x
  have hs := hL.2.2.1 hx
  unfold AS.ks
  generalize A.L x = l at hs
  clear hL
  induction l with
  | nil => simp
  | cons a l ih =>
    rw [List.pairwise_cons] at hs
    rw [List.find?_cons]
    by_cases e : A.key a = k
    · simp only [e, decide_true, Option.some.injEq, List.mem_cons]
      constructor
      · rintro rfl; exact ⟨Or.inl rfl, e⟩
      · rintro ⟨h1 | h1, h2⟩
        · exact h1.symm
        · have := kcmp_irr (hs.1 s h1)
          rw [e, h2] at this
          exact absurd rfl this
    · simp only [e, decide_false, List.mem_cons]
      refine (ih hs.2).trans ?_
      constructor
      · rintro ⟨h1, h2⟩; exact ⟨Or.inr h1, h2⟩
      · rintro ⟨h1 | h1, h2⟩
        · rw [h1] at h2; exact absurd h2 e
        · exact ⟨h1, h2⟩
theorem ks_none {x : Option Nat} {k : List Nat} : A.ks x k = none ↔ ∀ s, s ∈ A.L x → A.key s ≠ k := by
  unfold AS.ks
  simp
/-- candidates at a key -/
def AS.kc (A : AS) (r : Nat) (x : Option Nat) (k : List Nat) : List Nat := match A.ks x k with
  | none => []
  | some s => A.cd r s
theorem cd_mem (h : AI A) {r s o : Nat} : o ∈ A.cd r s ↔ o < A.n ∧ A.sp o = s ∧ A.visB r o = true := by
  unfold AS.cd
  rw [List.mem_filter, ((h.2.2.1.2.2.2.2.2.2.2.2.2 s).2.1 o)]
  simp [and_assoc]
theorem cd_desc (h : AI A) {r s : Nat} : (A.cd r s).Pairwise (fun a b => A.id b < A.id a) := by
  have hO := h.2.2.1.2.2.2.2.2.2.2.2.2 s
  have h1 : (A.cd r s).Pairwise (fun a b => a ≠ b ∧ A.id b ≤ A.id a) := by
    unfold AS.cd
    refine List.Pairwise.filter _ ?_
    exact List.Pairwise.and hO.1 hO.2.2
  refine List.Pairwise.imp_of_mem ?_ h1
  intro a b ha hb hab
  rw [cd_mem h] at ha hb
  have : A.id a ≠ A.id b := fun e => hab.1 (inV_inj h ha.1 hb.1 (vis_inV ha.2.2) (vis_inV hb.2.2) e)
  omega
theorem cd_nodup (h : AI A) {r s : Nat} : (A.cd r s).Nodup := (cd_desc h).imp (fun hab e => by subst e; omega)
theorem cd_len (h : AI A) {r s : Nat} : (A.cd r s).length ≤ 8 :=
  vis_len h.2.1 h.2.2.1.2.2.1 h.2.2.1.2.2.2.2.2.2.2.1 h.2.2.1.1 (r := r) (s := s) (cd_nodup h) (fun o ho => by
    rw [cd_mem h] at ho
    exact ⟨ho.1, ho.2.1, visB_iff.mp ho.2.2⟩)
/-- what the reference asks of an op at a key -/
theorem kc_iff (h : AI A) {r : Nat} {x : Option Nat} {k : List Nat} (hx : A.oV r x) (hk : A.kd x = 6) (hk0 : k ≠ []) {o : Nat} : o ∈ A.kc r x k ↔ o < A.n ∧ A.visB r o = true ∧ A.oi (A.obj o) = A.oi x ∧ A.ins o = 0 ∧ A.key o ≠ [] ∧ A.key o = k := by
  have back : ∀ o, o < A.n → A.visB r o = true → A.oi (A.obj o) = A.oi x → A.key o = k → A.ks x k = some (A.sp o) := by
    intro o ho h1 h2 h3
    rw [oi_inj h (obj_inV h ho (vis_inV h1)) hx] at h2
    rw [ks_some h hk, key_sp h ho]
    exact ⟨by rw [← h2]; exact sp_L h ho, h3⟩
  unfold AS.kc
  cases hs : A.ks x k with
  | none =>
    simp only [List.not_mem_nil, false_iff]
    rintro ⟨h1, h2, h3, _, _, h6⟩
    have := back o h1 h2 h3 h6
    rw [hs] at this
    cases this
  | some s =>
    simp only
    rw [cd_mem h]
    have hs' := (ks_some h hk).mp hs
    have hsL := ((h.2.2.1.2.2.2.2.2.2.2.2.1 x).2.1 s).mp hs'.1
    constructor
    · rintro ⟨h1, h2, h3⟩
      have e1 : A.obj o = x := by rw [← obj_sp h h1, h2]; exact hsL.2.1
      have e2 : A.key o = k := by rw [← key_sp h h1, h2]; exact hs'.2
      have e3 : A.ins o = 0 := by
        have := (h.2.2.1.1 o h1).2.2.2.2.2.2
        rcases Nat.lt_or_ge (A.ins o) 1 with h5 | h5
        · omega
        · have h6 := h.2.2.1.2.2.2.2.1 o h1 (by omega)
          rw [e1] at h6
          exact absurd hk h6.2.2.2.1
      exact ⟨h1, h3, by rw [e1], e3, by rw [e2]; exact hk0, e2⟩
    · rintro ⟨h1, h2, h3, _, _, h6⟩
      have := back o h1 h2 h3 h6
      rw [hs] at this
      exact ⟨h1, (Option.some.inj this).symm, h2⟩
theorem sp_inV (h : AI A) {r o : Nat} (ho : o < A.n) (hv : A.inV r o = true) (hk : A.kd (A.obj o) ≠ 6) : A.inV r (A.sp o) = true := by
  have hi := (h.2.2.1.1 o ho).2.2.2.2.2.2
  have : A.ins o = 0 ∨ A.ins o = 1 := by omega
  rcases this with h1 | h1
  · have h2 := (h.2.2.1.2.2.2.2.2.1 o ho h1).2.2.2.2.1 hk
    exact inV_seen h.2.1 h.2.2.1.2.2.1 ho hv (h2.2.2.2.2 (inV_gone hv))
  · rw [(h.2.2.1.2.2.2.2.1 o ho h1).1]; exact hv
theorem key_nil (h : AI A) {o : Nat} (ho : o < A.n) : A.key o = [] ↔ A.kd (A.obj o) ≠ 6 := by
  have hi := (h.2.2.1.1 o ho).2.2.2.2.2.2
  have : A.ins o = 0 ∨ A.ins o = 1 := by omega
  rcases this with h1 | h1
  · have h2 := h.2.2.1.2.2.2.2.2.1 o ho h1
    constructor
    · intro h3 h4
      have := (h2.2.2.2.2.2 h4).1
      rw [h3] at this
      simp at this
    · exact fun h3 => (h2.2.2.2.2.1 h3).1
  · have h2 := h.2.2.1.2.2.2.2.1 o ho h1
    exact ⟨fun _ => h2.2.2.2.1, fun _ => h2.2.1⟩
/-- what the reference asks of an op at an element -/
theorem ec_iff (h : AI A) {r s : Nat} (hs : s < A.n) (hsv : A.inV r s = true) (hss : A.sp s = s) (hk : A.kd (A.obj s) ≠ 6) {o : Nat} :
    o ∈ A.cd r s ↔ o < A.n ∧ A.visB r o = true ∧ A.oi (A.obj o) = A.oi (A.obj s) ∧ A.key o = [] ∧ (if A.ins o = 1 then A.id o else A.plc o) = A.id s := by
  rw [cd_mem h]
  constructor
  · rintro ⟨h1, h2, h3⟩
    have e1 : A.obj o = A.obj s := by rw [← obj_sp h h1, h2]
    refine ⟨h1, h3, by rw [e1], by rw [key_nil h h1, e1]; exact hk, ?_⟩
    by_cases e : A.ins o = 1
    · rw [if_pos e]
      have := (h.2.2.1.2.2.2.2.1 o h1 e).1
      rw [← h2, this]
    · rw [if_neg e]
      unfold AS.plc
      rw [if_neg e, if_neg (by rw [e1]; exact hk), h2]
  · rintro ⟨h1, h2, h3, h4, h5⟩
    have hv := vis_inV h2
    rw [oi_inj h (obj_inV h h1 hv) (obj_inV h hs hsv)] at h3
    refine ⟨h1, ?_, h2⟩
    have hk' : A.kd (A.obj o) ≠ 6 := by rw [h3]; exact hk
    by_cases e : A.ins o = 1
    · rw [if_pos e] at h5
      rw [(h.2.2.1.2.2.2.2.1 o h1 e).1]
      exact inV_inj h h1 hs hv hsv h5
    · rw [if_neg e] at h5
      unfold AS.plc at h5
      rw [if_neg e, if_neg hk'] at h5
      have hsp : A.sp o < A.n := (((h.2.2.1.2.2.2.2.2.2.2.2.1 _).2.1 _).mp (sp_L h h1)).1
      exact inV_inj h hsp hs (sp_inV h h1 hv hk') hsv h5
/-- a list's spot that shows something is in the view -/
theorem cd_inV (h : AI A) {r s : Nat} (hk : A.kd (A.obj s) ≠ 6) (hc : A.cd r s ≠ []) : s < A.n ∧ A.inV r s = true := by
  obtain ⟨o, ho⟩ := List.exists_mem_of_ne_nil _ hc
  rw [cd_mem h] at ho
  obtain ⟨h1, h2, h3⟩ := ho
  subst h2
  refine ⟨(((h.2.2.1.2.2.2.2.2.2.2.2.1 _).2.1 _).mp (sp_L h h1)).1, ?_⟩
  refine sp_inV h h1 (vis_inV h3) ?_
  rw [← obj_sp h h1]
  exact hk
end CD
