/-! A NEW OP, over the abstract state. Lemmas printed by a program. -/
def AS.mk (A : AS) (r : Nat) (x : Option Nat) (act : Nat) (num : Int64) (ins : Nat) (par : Option Nat) (s : Nat) (key pre : List Nat) (pl : Nat) (Lx Os : List Nat) : AS :=
  (fun k => if k = 0 then A.n + 1 else if k = 2 then A.kn + key.length else if k = 3 then A.ns + (if s = A.n then 1 else 0) else A.1 k,
   fun k o => if o = A.n then (if k = 0 then 8 * (A.tp r + 1) + r else if k = 1 then act else if k = 2 then r else if k = 3 then 0 else if k = 4 then ins else if k = 5 then s else if k = 6 then A.kn else if k = 7 then A.hv r r + 1 else if k = 8 then pl else if k = 9 then A.ns else 0) else A.2.1 k o,
   fun k o => if o = A.n then (if k = 0 then x else if k = 1 then par else none) else A.2.2.1 k o,
   fun k o => if o = A.n then (if k = 0 then key else if k = 2 then pre else []) else A.2.2.2.1 k o,
   fun o => if o = A.n then (if act = 3 ∨ act = 5 ∨ act = 10 then num else 0) else A.num o,
   fun k c => if k = 4 ∧ c = r then A.tp r + 1 else if k = 5 ∧ c = r then A.on r + 1 else A.2.2.2.2.2.1 k c,
   fun k o a => if k = 0 ∧ o = A.n then A.hv r a + (if a = r then 1 else 0) else A.2.2.2.2.2.2.1 k o a,
   A.wt, A.dp, A.lk, fun y => if y = x then Lx else A.L y, fun t => if t = s then Os else A.O t)
section MKL
variable {A : AS} {r : Nat} {x : Option Nat} {act : Nat} {num : Int64} {ins : Nat} {par : Option Nat} {s : Nat} {key pre : List Nat} {pl : Nat} {Lx Os : List Nat}
theorem mk_n  : (A.mk r x act num ins par s key pre pl Lx Os).n = A.n + 1 := rfl
theorem mk_m  : (A.mk r x act num ins par s key pre pl Lx Os).m = A.m := rfl
theorem mk_kn  : (A.mk r x act num ins par s key pre pl Lx Os).kn = A.kn + key.length := rfl
theorem mk_ns  : (A.mk r x act num ins par s key pre pl Lx Os).ns = A.ns + (if s = A.n then 1 else 0) := rfl
theorem mk_sj (o : Nat) : (A.mk r x act num ins par s key pre pl Lx Os).sj o = if o = A.n then A.ns else A.sj o := rfl
theorem mk_id (o : Nat) : (A.mk r x act num ins par s key pre pl Lx Os).id o = if o = A.n then 8 * (A.tp r + 1) + r else A.id o := rfl
theorem mk_act (o : Nat) : (A.mk r x act num ins par s key pre pl Lx Os).act o = if o = A.n then act else A.act o := rfl
theorem mk_own (o : Nat) : (A.mk r x act num ins par s key pre pl Lx Os).own o = if o = A.n then r else A.own o := rfl
theorem mk_gone (o : Nat) : (A.mk r x act num ins par s key pre pl Lx Os).gone o = if o = A.n then 0 else A.gone o := rfl
theorem mk_ins (o : Nat) : (A.mk r x act num ins par s key pre pl Lx Os).ins o = if o = A.n then ins else A.ins o := rfl
theorem mk_sp (o : Nat) : (A.mk r x act num ins par s key pre pl Lx Os).sp o = if o = A.n then s else A.sp o := rfl
theorem mk_ba (o : Nat) : (A.mk r x act num ins par s key pre pl Lx Os).ba o = if o = A.n then A.kn else A.ba o := rfl
theorem mk_cn (o : Nat) : (A.mk r x act num ins par s key pre pl Lx Os).cn o = if o = A.n then A.hv r r + 1 else A.cn o := rfl
theorem mk_pl (o : Nat) : (A.mk r x act num ins par s key pre pl Lx Os).pl o = if o = A.n then pl else A.pl o := rfl
theorem mk_obj (o : Nat) : (A.mk r x act num ins par s key pre pl Lx Os).obj o = if o = A.n then x else A.obj o := rfl
theorem mk_par (o : Nat) : (A.mk r x act num ins par s key pre pl Lx Os).par o = if o = A.n then par else A.par o := rfl
theorem mk_chg (o : Nat) : (A.mk r x act num ins par s key pre pl Lx Os).chg o = if o = A.n then none else A.chg o := rfl
theorem mk_key (o : Nat) : (A.mk r x act num ins par s key pre pl Lx Os).key o = if o = A.n then key else A.key o := rfl
theorem mk_str (o : Nat) : (A.mk r x act num ins par s key pre pl Lx Os).str o = if o = A.n then [] else A.str o := rfl
theorem mk_pre (o : Nat) : (A.mk r x act num ins par s key pre pl Lx Os).pre o = if o = A.n then pre else A.pre o := rfl
theorem mk_num (o : Nat) : (A.mk r x act num ins par s key pre pl Lx Os).num o = if o = A.n then (if act = 3 ∨ act = 5 ∨ act = 10 then num else 0) else A.num o := rfl
theorem mk_ca  : (A.mk r x act num ins par s key pre pl Lx Os).ca = A.ca := rfl
theorem mk_cu  : (A.mk r x act num ins par s key pre pl Lx Os).cu = A.cu := rfl
theorem mk_cf  : (A.mk r x act num ins par s key pre pl Lx Os).cf = A.cf := rfl
theorem mk_cz  : (A.mk r x act num ins par s key pre pl Lx Os).cz = A.cz := rfl
theorem mk_cl  : (A.mk r x act num ins par s key pre pl Lx Os).cl = A.cl := rfl
theorem mk_hv  : (A.mk r x act num ins par s key pre pl Lx Os).hv = A.hv := rfl
theorem mk_wt  : (A.mk r x act num ins par s key pre pl Lx Os).wt = A.wt := rfl
theorem mk_dp  : (A.mk r x act num ins par s key pre pl Lx Os).dp = A.dp := rfl
theorem mk_lk  : (A.mk r x act num ins par s key pre pl Lx Os).lk = A.lk := rfl
theorem mk_tp (q : Nat) : (A.mk r x act num ins par s key pre pl Lx Os).tp q = if q = r then A.tp r + 1 else A.tp q := by
  show (if 4 = 4 ∧ q = r then _ else if 4 = 5 ∧ q = r then _ else A.2.2.2.2.2.1 4 q) = _
  simp [AS.tp]
theorem mk_on (q : Nat) : (A.mk r x act num ins par s key pre pl Lx Os).on q = if q = r then A.on r + 1 else A.on q := by
  show (if 5 = 4 ∧ q = r then A.tp r + 1 else if 5 = 5 ∧ q = r then A.on r + 1 else A.2.2.2.2.2.1 5 q) = _
  simp [AS.on]
theorem mk_oc (o a : Nat) : (A.mk r x act num ins par s key pre pl Lx Os).oc o a = if o = A.n then A.hv r a + (if a = r then 1 else 0) else A.oc o a := by
  show (if 0 = 0 ∧ o = A.n then _ else A.2.2.2.2.2.2.1 0 o a) = _
  simp [AS.oc]
theorem mk_L (y : Option Nat) : (A.mk r x act num ins par s key pre pl Lx Os).L y = if y = x then Lx else A.L y := rfl
theorem mk_O (t : Nat) : (A.mk r x act num ins par s key pre pl Lx Os).O t = if t = s then Os else A.O t := rfl
end MKL
