/-! FIND: from object to object. -/
def dgv (bf : List Nat) (p : Nat) : Nat → Nat
  | 0 => 0
  | n + 1 => 10 * dgv bf p n + (bf.getD (p + n) 0 - 48)
theorem dgv_lt {bf : List Nat} {p : Nat} : ∀ {n : Nat}, (∀ j, j < n → bf.getD (p + j) 0 ≤ 57) → dgv bf p n < 10 ^ n := by
  intro n
  induction n with
  | zero => intro _; exact Nat.one_pos
  | succ n ih =>
    intro h
    have h1 := ih (fun j hj => h j (by omega))
    have h2 := h n (by omega)
    rw [dgv, Nat.pow_succ]
    omega
/-- where a key's bytes begin -/
def kfr (p : Nat) : Nat := if p = 0 then 0 else p + 1
def nxt (A : AS) (r : Nat) (bf : List Nat) (y : Option Nat) (p q : Nat) : Option Nat :=
  if bf[p]? = some 91 then (if A.kd y = 7 ∨ A.kd y = 8 then ((A.fl r y)[dgv bf (p + 1) (q - p - 2)]?).map (A.top r) else none)
  else (if A.kd y = 6 then (match A.ks y ((bf.drop (kfr p)).take (q - kfr p)) with
    | some s => if A.flB r s = true then some (A.top r s) else none
    | none => none) else none)
def fnd (A : AS) (r : Nat) (bf : List Nat) : Nat → Option Nat → Nat → Option (Option Nat)
  | 0, _, _ => none
  | f + 1, y, p => if bf.length ≤ p then some y else match stp bf p with
    | none => none
    | some q => match nxt A r bf y p q with
      | none => none
      | some z => fnd A r bf f (some z) q
def ndOK (A : AS) (r : Nat) (y : Option Nat) : Prop := ∀ m, y = some m → m < A.n ∧ A.inV r m = true ∧ A.act m ≤ 8
section FDD
variable {S S' : MS} {N : Nat → Nat} {C C' : CS} {A : AS} {r rd : Nat} {bf : List Nat} {jf : Nat}
theorem fnd_s {f p : Nat} {y : Option Nat} : fnd A r bf (f + 1) y p = if bf.length ≤ p then some y else match stp bf p with
    | none => none
    | some q => match nxt A r bf y p q with
      | none => none
      | some z => fnd A r bf f (some z) q := rfl
theorem nd_oV {y : Option Nat} (h : ndOK A r y) (hk : 6 ≤ A.kd y) : A.oV r y := by
  cases y with
  | none => trivial
  | some m => exact ⟨(h m rfl).1, (h m rfl).2.1, hk, (h m rfl).2.2⟩
theorem top_ok (hA : AI A) {s : Nat} (h : A.flB r s = true) : A.top r s ∈ A.cd r s ∧ A.top r s < A.n ∧ A.sp (A.top r s) = s ∧ A.inV r (A.top r s) = true ∧ A.act (A.top r s) ≤ 8 := by
  have hne := flB_iff.mp h
  have hm : A.top r s ∈ A.cd r s := by
    unfold AS.top
    cases hc : A.cd r s with
    | nil => exact absurd hc hne
    | cons a l => simp
  have := (cd_mem hA).mp hm
  have hv := visB_iff.mp this.2.2
  exact ⟨hm, this.1, this.2.1, hv.1, hv.2.1⟩
/-- what lies at a step: its object is y -/
theorem nxt_ok (hA : AI A) {y : Option Nat} {p q z : Nat} (h : nxt A r bf y p q = some z) : z < A.n ∧ A.obj z = y ∧ A.inV r z = true ∧ A.act z ≤ 8 := by
  have key : ∀ s, s ∈ A.L y → A.flB r s = true → z = A.top r s → z < A.n ∧ A.obj z = y ∧ A.inV r z = true ∧ A.act z ≤ 8 := by
    intro s hs hf e
    obtain ⟨_, t2, t3, t4, t5⟩ := top_ok hA hf
    have hL := L_mem hA hs
    rw [e]
    refine ⟨t2, ?_, t4, t5⟩
    rw [← obj_sp hA t2, t3]
    exact hL.2.1
  unfold nxt at h
  split at h
  · split at h
    · cases hx : (A.fl r y)[dgv bf (p + 1) (q - p - 2)]? with
      | none => rw [hx] at h; cases h
      | some s =>
        rw [hx] at h
        have hm : s ∈ A.fl r y := List.mem_of_getElem? hx
        unfold AS.fl at hm
        rw [List.mem_filter] at hm
        exact key s hm.1 hm.2 (Option.some.inj h).symm
    · cases h
  · split at h
    · cases hx : A.ks y ((bf.drop (kfr p)).take (q - kfr p)) with
      | none => rw [hx] at h; cases h
      | some s =>
        rw [hx] at h
        rename_i hkd
        have hs := ((ks_some hA hkd).mp hx).1
        simp only [] at h
        split at h
        · rename_i hf
          exact key s hs hf (Option.some.inj h).symm
        · cases h
    · cases h
theorem nxt_lt (hA : AI A) {y : Option Nat} {p q z : Nat} (h : nxt A r bf y p q = some z) : ox y < ox (some z) := by
  obtain ⟨h1, h2, _⟩ := nxt_ok hA h
  cases y with
  | none => simp [ox]
  | some m =>
    have := (hA.2.2.1.2.2.2.1 z m h1 h2).1
    simp [ox]
    omega
theorem nxt_nd (hA : AI A) {y : Option Nat} {p q z : Nat} (h : nxt A r bf y p q = some z) : ndOK A r (some z) := by
  obtain ⟨h1, h2, h3, h4⟩ := nxt_ok hA h
  intro m hm
  rw [← Option.some.inj hm]
  exact ⟨h1, h3, h4⟩
/-- how many spots lie in objects before -/
def AS.cum (A : AS) (k : Nat) : Nat := cntTo (fun s => decide (ox (A.obj s) < k)) A.n
theorem cum_le {k : Nat} : A.cum k ≤ A.n := cntTo_le _ _
theorem cum_add (hA : AI A) {y : Option Nat} {k : Nat} (hk : ox y < k) : A.cum (ox y) + (A.L y).length ≤ A.cum k := by
  have hL := hA.2.2.1.2.2.2.2.2.2.2.2.1 y
  rw [nodup_cnt (n := A.n) hL.1 (fun s hs => ((hL.2.1 s).mp hs).1)]
  unfold AS.cum
  rw [← cntTo_or]
  · refine cntTo_mono (fun s hs h => ?_)
    simp only [Bool.or_eq_true, decide_eq_true_eq] at h ⊢
    rcases h with h | h
    · omega
    · rw [((hL.2.1 s).mp h).2.1]; exact hk
  · intro s hs h
    simp only [decide_eq_true_eq] at h
    refine decide_eq_false (fun h2 => ?_)
    rw [((hL.2.1 s).mp h2).2.1] at h
    omega
/-- facts of a step -/
theorem stp_key {p q : Nat} (hb : ∀ i (h : i < bf.length), bf[i] < 256) (h : stp bf p = some q) (h91 : ¬ bf[p]? = some 91) : q = kfr p + rn wdB bf (kfr p) ∧ 1 ≤ rn wdB bf (kfr p) ∧ rn wdB bf (kfr p) ≤ 64 ∧ (p ≠ 0 → bf[p]? = some 46) := by
  unfold stp at h
  unfold kfr
  by_cases e : p = 0
  · rw [if_pos e] at h
    rw [if_pos e]
    unfold kend at h
    split at h
    · rename_i hc
      exact ⟨(Option.some.inj h).symm, hc.1, hc.2, fun h => absurd e h⟩
    · cases h
  · rw [if_neg e] at h
    rw [if_neg e]
    split at h
    · rename_i h46
      unfold kend at h
      split at h
      · rename_i hc
        exact ⟨(Option.some.inj h).symm, hc.1, hc.2, fun _ => h46⟩
      · cases h
    · cases h
theorem stp_idx {p q : Nat} (h : stp bf p = some q) (h91 : bf[p]? = some 91) : p ≠ 0 ∧ q = p + 1 + rn dgB bf (p + 1) + 1 ∧ 1 ≤ rn dgB bf (p + 1) ∧ rn dgB bf (p + 1) ≤ 6 ∧ bf[p + 1 + rn dgB bf (p + 1)]? = some 93 := by
  unfold stp at h
  by_cases e : p = 0
  · rw [if_pos e] at h
    exfalso
    unfold kend at h
    split at h
    · rename_i hc
      have hlt : 0 < bf.length := by
        have := rn_le (q := wdB) (bf := bf) (p := 0)
        omega
      have h1 := rn_in (q := wdB) (bf := bf) (p := 0) (j := 0) (by omega) (by omega)
      rw [e, List.getElem?_eq_getElem hlt] at h91
      simp only [Nat.add_zero, Option.some.inj h91] at h1
      exact absurd h1 (by decide)
    · cases h
  · rw [if_neg e, if_neg (by rw [h91]; decide), if_pos h91] at h
    unfold iend at h
    split at h
    · rename_i hc
      exact ⟨e, (Option.some.inj h).symm, hc.1, hc.2.1, hc.2.2⟩
    · cases h
/-- the bytes of a step's number -/
theorem idx_dg {p j : Nat} (hj : j < rn dgB bf (p + 1)) : p + 1 + j < bf.length ∧ 48 ≤ bf.getD (p + 1 + j) 0 ∧ bf.getD (p + 1 + j) 0 ≤ 57 := by
  have hle := rn_le (q := dgB) (bf := bf) (p := p + 1)
  have hlt : p + 1 + j < bf.length := by omega
  have := rn_in hlt hj
  unfold dgB at this
  simp only [Bool.and_eq_true, decide_eq_true_eq] at this
  rw [List.getD_eq_getElem?_getD, List.getElem?_eq_getElem hlt]
  exact ⟨hlt, this.1, this.2⟩
theorem dgv_step {v b : Nat} (h : 48 ≤ b) : (10 : Int32) * nI v + nI b - 48 = nI (10 * v + (b - 48)) := by
  rw [show (10 : Int32) = nI 10 from q10, pk_mul, nI_add, show (48 : Int32) = nI 48 from by decide, sub_nI (by omega)]
  congr 1
  omega
theorem cJ_number (h : FR N C jf bf) {p n : Nat} {z : Option Nat} (hn : ∀ j, j < n → p + 1 + j < bf.length ∧ 48 ≤ bf.getD (p + 1 + j) 0) (hp : p + 1 + n < 8300) : m_cJT_elementOf_L8 N 0 C z (nI (p + 1 + n + 1)) (nI 0) (nI (p + 1)) = some (C, z, nI (dgv bf (p + 1) n)) := by
  obtain ⟨h5, h13, h11, h9, hw, hr, h8⟩ := h
  have hjf := hw.1
  have := lp_run (body := fun w : CS × Option Nat × Int32 × Int32 × Int32 => m_cJT_elementOf_B8 N 0 w.1 w.2.1 w.2.2.1 w.2.2.2.1 w.2.2.2.2) (fun i w => w = (C, z, nI (p + 1 + n + 1), nI (dgv bf (p + 1) i), nI (p + 1 + i))) (fun e => e = (C, z, nI (dgv bf (p + 1) n))) n ?_ FU (C, z, nI (p + 1 + n + 1), nI 0, nI (p + 1)) (by unfold FU; omega) rfl
  · obtain ⟨e, h1, rfl⟩ := this
    unfold m_cJT_elementOf_L8
    exact h1
  · rintro i _ hi rfl
    unfold m_cJT_elementOf_B8
    simp only []
    rw [show nI (p + 1 + n + 1) - 1 = nI (p + 1 + n) from nI_pred _]
    by_cases hin : i < n
    · left
      obtain ⟨b1, b2'⟩ := hn i hin
      have hg : atI bf (p + 1 + i) = nI (bf.getD (p + 1 + i) 0) := by
        unfold atI
        rw [List.getD_eq_getElem?_getD, List.getElem?_eq_getElem b1]
        rfl
      refine ⟨_, ?_, hin, rfl⟩
      rw [if_neg (fun e => by have := (nI_leI (by omega) (by omega)).mp e; omega), gl_ok (by omega), h9, gn_s (by omega), cR_atI h5 h13 hw hr (by omega), ob_ok]
      simp only []
      rw [hg, dgv_step b2', nI_s]
      rfl
    · right
      refine ⟨_, by rw [if_pos ((nI_leI (by omega) (by omega)).mpr (by omega))], ?_⟩
      rw [show i = n by omega]
theorem rF_number (hb : byts S 2 0 bf) (h8 : bf.length ≤ 8192) {p n : Nat} {y1 y3 : Int32} (hn : ∀ j, j < n → p + 1 + j < bf.length ∧ 48 ≤ bf.getD (p + 1 + j) 0 ∧ bf.getD (p + 1 + j) 0 ≤ 57) (he : bf[p + 1 + n]? = some 93) : m_rfind2_L111 S y1 y3 (nI (p + 1)) (nI 0) = some (S, y1, y3, nI (p + 1 + n), nI (dgv bf (p + 1) n)) := by
  have hle : p + 1 + n < bf.length := by
    rcases Nat.lt_or_ge (p + 1 + n) bf.length with h | h
    · exact h
    · rw [List.getElem?_eq_none h] at he; cases he
  have := lp_run (body := fun w : MS × Int32 × Int32 × Int32 × Int32 => m_rfind2_B111 w.1 w.2.1 w.2.2.1 w.2.2.2.1 w.2.2.2.2) (fun i w => w = (S, y1, y3, nI (p + 1 + i), nI (dgv bf (p + 1) i))) (fun e => e = (S, y1, y3, nI (p + 1 + n), nI (dgv bf (p + 1) n))) n ?_ FU (S, y1, y3, nI (p + 1), nI 0) (by unfold FU; omega) rfl
  · obtain ⟨e, h1, rfl⟩ := this
    unfold m_rfind2_L111
    exact h1
  · rintro i _ hi rfl
    unfold m_rfind2_B111
    simp only []
    have hlt : p + 1 + i < bf.length := by omega
    have hbt := byt0 hb hlt
    have e93 := sb_eq hbt.2 (k := 93) (by omega)
    rw [gd_ok (by omega) (by omega), cl_nI (by omega), hbt.1, gd_ok (by omega) (by omega)]
    by_cases hin : i < n
    · left
      obtain ⟨b1, b2', b3⟩ := hn i hin
      have hg : bf.getD (p + 1 + i) 0 = bf[p + 1 + i] := by rw [List.getD_eq_getElem?_getD, List.getElem?_eq_getElem b1]; rfl
      rw [hg] at b2' b3
      refine ⟨_, ?_, hin, rfl⟩
      rw [if_neg (show ¬ sb _ = 93 from fun e => by have := e93.mp e; omega), sb_lo _ (by omega), Int32.mul_comm, dgv_step b2', nI_s]
      rw [dgv, hg]
      rfl
    · right
      have e : i = n := by omega
      subst e
      rw [List.getElem?_eq_getElem hlt] at he
      exact ⟨_, by rw [if_pos (show sb _ = 93 from e93.mpr (Option.some.inj he))], rfl⟩
theorem rF_word (h5 : S.i 5 = nI bf.length) (hb : byts S 2 0 bf) (h8 : bf.length ≤ 8192) {p : Nat} (hp : p ≤ bf.length + 1) {y1 y3 : Int32} : m_rfind2_L211 S y1 y3 (nI p) (nI p) = some (S, y1, y3, nI (p + rn wdB bf p), nI p) := by
  have hrl := rn_le (q := wdB) (bf := bf) (p := p)
  have := lp_run (body := fun w : MS × Int32 × Int32 × Int32 × Int32 => m_rfind2_B211 w.1 w.2.1 w.2.2.1 w.2.2.2.1 w.2.2.2.2) (fun i w => w = (S, y1, y3, nI (p + i), nI p) ∧ i ≤ rn wdB bf p) (fun e => e = (S, y1, y3, nI (p + rn wdB bf p), nI p)) (rn wdB bf p) ?_ FU (S, y1, y3, nI p, nI p) (by unfold FU; omega) ⟨rfl, by omega⟩
  · obtain ⟨e, h1, rfl⟩ := this
    unfold m_rfind2_L211
    exact h1
  · rintro i _ hi ⟨rfl, hir⟩
    unfold m_rfind2_B211
    simp only []
    rw [h5]
    by_cases c0 : bf.length ≤ p + i
    · right
      refine ⟨_, by rw [if_pos ((nI_leI (by omega) (by omega)).mpr c0)], ?_⟩
      rw [show i = rn wdB bf p by omega]
    · have hlt : p + i < bf.length := by omega
      have hbt := byt0 hb hlt
      rw [if_neg (fun e => c0 ((nI_leI (by omega) (by omega)).mp e)), gd_ok (by omega) (by omega), cl_nI (by omega), hbt.1, pS_isWord hbt.2, ob_ok]
      by_cases hin : i < rn wdB bf p
      · left
        have := rn_in hlt hin
        refine ⟨(S, y1, y3, nI (p + (i + 1)), nI p), ?_, hin, rfl, by omega⟩
        rw [this, if_neg (show ¬ b2 true = 0 by decide), nI_s]
        rfl
      · right
        have e : i = rn wdB bf p := by omega
        have := rn_end (q := wdB) (bf := bf) (p := p) (by omega)
        refine ⟨_, ?_, rfl⟩
        subst e
        rw [this, if_pos (show b2 false = 0 by decide)]
end FDD
