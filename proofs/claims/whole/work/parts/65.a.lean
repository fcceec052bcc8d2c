/-! THE ABSTRACT STATE: ops, changes, replicas, chains of spots and of ops; what is true of it always (AI). -/
def AS : Type := (Nat → Nat) × (Nat → Nat → Nat) × (Nat → Nat → Option Nat) × (Nat → Nat → List Nat) × (Nat → Int64) × (Nat → Nat → Nat) × (Nat → Nat → Nat → Nat) × (Nat → Nat → Bool) × (Nat → Nat → Bool) × (Nat → Option Nat) × (Option Nat → List Nat) × (Nat → List Nat)
/-- how many ops, changes, kept bytes -/
def AS.n (A : AS) : Nat := A.1 0
def AS.m (A : AS) : Nat := A.1 1
def AS.kn (A : AS) : Nat := A.1 2
/-- how many spots; the place of the spot that an op opened -/
def AS.ns (A : AS) : Nat := A.1 3
/-- of an op: id, action, owner, whether gone, whether it inserts, the op that opened its spot, where its bytes begin, the number of its change -/
def AS.id (A : AS) : Nat → Nat := A.2.1 0
def AS.act (A : AS) : Nat → Nat := A.2.1 1
def AS.own (A : AS) : Nat → Nat := A.2.1 2
def AS.gone (A : AS) : Nat → Nat := A.2.1 3
def AS.ins (A : AS) : Nat → Nat := A.2.1 4
def AS.sp (A : AS) : Nat → Nat := A.2.1 5
def AS.ba (A : AS) : Nat → Nat := A.2.1 6
def AS.cn (A : AS) : Nat → Nat := A.2.1 7
def AS.pl (A : AS) : Nat → Nat := A.2.1 8
def AS.sj (A : AS) : Nat → Nat := A.2.1 9
/-- its object (none: the root), the element that it is put behind, its change -/
def AS.obj (A : AS) : Nat → Option Nat := A.2.2.1 0
def AS.par (A : AS) : Nat → Option Nat := A.2.2.1 1
def AS.chg (A : AS) : Nat → Option Nat := A.2.2.1 2
def AS.key (A : AS) : Nat → List Nat := A.2.2.2.1 0
def AS.str (A : AS) : Nat → List Nat := A.2.2.2.1 1
def AS.pre (A : AS) : Nat → List Nat := A.2.2.2.1 2
def AS.num (A : AS) : Nat → Int64 := A.2.2.2.2.1
/-- of a change: actor, number, first counter, size; of a replica: top, how many open, how many ops -/
def AS.ca (A : AS) : Nat → Nat := A.2.2.2.2.2.1 0
def AS.cu (A : AS) : Nat → Nat := A.2.2.2.2.2.1 1
def AS.cf (A : AS) : Nat → Nat := A.2.2.2.2.2.1 2
def AS.cz (A : AS) : Nat → Nat := A.2.2.2.2.2.1 3
def AS.tp (A : AS) : Nat → Nat := A.2.2.2.2.2.1 4
def AS.on (A : AS) : Nat → Nat := A.2.2.2.2.2.1 5
/-- clocks: of an op, of a change, of a replica -/
def AS.oc (A : AS) : Nat → Nat → Nat := A.2.2.2.2.2.2.1 0
def AS.cl (A : AS) : Nat → Nat → Nat := A.2.2.2.2.2.2.1 1
def AS.hv (A : AS) : Nat → Nat → Nat := A.2.2.2.2.2.2.1 2
/-- waits, direct dependence, look, spots of an object, ops of a spot -/
def AS.wt (A : AS) : Nat → Nat → Bool := A.2.2.2.2.2.2.2.1
def AS.dp (A : AS) : Nat → Nat → Bool := A.2.2.2.2.2.2.2.2.1
def AS.lk (A : AS) : Nat → Option Nat := A.2.2.2.2.2.2.2.2.2.1
def AS.L (A : AS) : Option Nat → List Nat := A.2.2.2.2.2.2.2.2.2.2.1
def AS.O (A : AS) : Nat → List Nat := A.2.2.2.2.2.2.2.2.2.2.2
/-- kind of an object -/
def AS.kd (A : AS) (x : Option Nat) : Nat := match x with
  | none => 6
  | some m => A.act m
/-- id of an object -/
def AS.oi (A : AS) (x : Option Nat) : Nat := match x with
  | none => 0
  | some m => A.id m
/-- the clock of the replica's view -/
def AS.vw (A : AS) (r a : Nat) : Nat := match A.lk r with
  | none => A.hv r a + (if a = r then 1 else 0)
  | some c => A.cl c a
def AS.inV (A : AS) (r o : Nat) : Bool := decide (A.gone o = 0) && decide (A.cn o ≤ A.vw r (A.own o))
/-- the op was seen when o was made -/
def AS.seen (A : AS) (p o : Nat) : Prop := A.gone p = 0 ∧ A.cn p ≤ A.oc o (A.own p)
/-- a change that r has -/
def AS.has (A : AS) (r c : Nat) : Prop := c < A.m ∧ A.cu c ≤ A.hv r (A.ca c)
/-- a change that c is or depends on -/
def AS.clo (A : AS) (c d : Nat) : Prop := d < A.m ∧ A.cu d ≤ A.cl c (A.ca d)
/-- hidden in the view -/
def AS.hid (A : AS) (r o : Nat) : Prop := ∃ p, p < A.n ∧ A.inV r p = true ∧ A.act p ≠ 10 ∧ o ∈ A.pre p
/-- shows as a candidate in the view -/
def AS.vis (A : AS) (r o : Nat) : Prop := A.inV r o = true ∧ A.act o ≤ 8 ∧ ¬ A.hid r o
/-! what is true of it always -/
def I_ops (A : AS) : Prop := ∀ o, o < A.n → A.own o < 8 ∧ A.id o % 8 = A.own o ∧ 8 ≤ A.id o ∧ A.id o / 8 ≤ o + 1 ∧ A.act o ≤ 10 ∧ A.gone o ≤ 1 ∧ A.ins o ≤ 1
def I_uni (A : AS) : Prop := ∀ o p, o < A.n → p < A.n → A.gone o = 0 → A.gone p = 0 → A.id o = A.id p → o = p
def I_chg (A : AS) : Prop := ∀ o, o < A.n → match A.chg o with
  | some c => c < A.m ∧ A.gone o = 0 ∧ A.ca c = A.own o ∧ A.cn o = A.cu c ∧ A.oc o = A.cl c
  | none => A.gone o = 0 → A.cn o = A.hv (A.own o) (A.own o) + 1 ∧ ∀ a, A.oc o a = A.hv (A.own o) a + (if a = A.own o then 1 else 0)
def I_obj (A : AS) : Prop := ∀ o x, o < A.n → A.obj o = some x → x < o ∧ 6 ≤ A.act x ∧ A.act x ≤ 8 ∧ (A.gone o = 0 → A.seen x o)
def I_ins (A : AS) : Prop := ∀ o, o < A.n → A.ins o = 1 → A.sp o = o ∧ A.key o = [] ∧ A.pre o = [] ∧ A.kd (A.obj o) ≠ 6 ∧ A.act o ≤ 8 ∧ ∀ p, A.par o = some p → p < o ∧ A.ins p = 1 ∧ A.obj p = A.obj o ∧ A.id p < A.id o ∧ (A.gone o = 0 → A.seen p o)
def I_on (A : AS) : Prop := ∀ o, o < A.n → A.ins o = 0 → A.par o = none ∧ A.sp o < A.n ∧ A.sp (A.sp o) = A.sp o ∧ A.obj (A.sp o) = A.obj o ∧
  (A.kd (A.obj o) ≠ 6 → A.key o = [] ∧ A.sp o < o ∧ A.ins (A.sp o) = 1 ∧ A.id (A.sp o) < A.id o ∧ (A.gone o = 0 → A.seen (A.sp o) o)) ∧
  (A.kd (A.obj o) = 6 → 1 ≤ (A.key o).length ∧ (A.key o).length ≤ 64 ∧ A.key (A.sp o) = A.key o ∧ A.ins (A.sp o) = 0 ∧ A.sp o ≤ o)
def I_pre (A : AS) : Prop := ∀ o, o < A.n → (A.pre o).length ≤ 8 ∧ (A.pre o).Pairwise (fun a b => A.id a < A.id b) ∧ ∀ p, p ∈ A.pre o → p < o ∧ A.sp p = A.sp o ∧ A.id p < A.id o ∧ A.act p ≤ 8 ∧ (A.act o = 10 → A.act p = 5) ∧ (A.gone o = 0 → A.seen p o)
/-- an actor's later op at a place has what hides the earlier one -/
def I_hid (A : AS) : Prop := ∀ o q, o < A.n → q < o → A.gone o = 0 → A.gone q = 0 → A.act o ≠ 10 → A.act q ≤ 8 → A.own q = A.own o → A.sp q = A.sp o → ∃ p, p < A.n ∧ q ∈ A.pre p ∧ A.act p ≠ 10 ∧ (p = o ∨ A.seen p o)
def I_cgs (A : AS) : Prop := ∀ c, c < A.m → A.ca c < 8 ∧ 1 ≤ A.cu c ∧ A.cu c ≤ A.hv (A.ca c) (A.ca c) ∧ A.cl c (A.ca c) = A.cu c ∧ A.cu c ≤ c + 1
def I_cun (A : AS) : Prop := ∀ c d, c < A.m → d < A.m → A.ca c = A.ca d → (A.cu c < A.cu d ↔ c < d)
/-- each number of an actor is a change's -/
def I_cex (A : AS) : Prop := ∀ a k, 1 ≤ k → k ≤ A.hv a a → ∃ c, c < A.m ∧ A.ca c = a ∧ A.cu c = k
def I_clo (A : AS) : Prop := ∀ c d, c < A.m → A.clo c d → d ≤ c ∧ ∀ a, A.cl d a ≤ A.cl c a
def I_has (A : AS) : Prop := ∀ r c, A.has r c → ∀ a, A.cl c a ≤ A.hv r a
def I_le (A : AS) : Prop := (∀ r a, A.hv r a ≤ A.hv a a) ∧ (∀ c a, c < A.m → A.cl c a ≤ A.hv a a) ∧ ∀ r a, 8 ≤ a → A.hv r a = 0
def I_dp (A : AS) : Prop := ∀ c d, c < A.m → A.dp c d = true → d < c ∧ A.clo c d
/-- a change's clock comes from what it depends on -/
def I_sup (A : AS) : Prop := ∀ c a, c < A.m → (A.cl c a - (if a = A.ca c then 1 else 0) = 0) ∨ ∃ d, A.dp c d = true ∧ A.cl c a - (if a = A.ca c then 1 else 0) ≤ A.cl d a
def I_lk (A : AS) : Prop := ∀ r c, A.lk r = some c → A.has r c
def I_wt (A : AS) : Prop := ∀ r c, A.wt r c = true → c < A.m ∧ ¬ A.has r c
