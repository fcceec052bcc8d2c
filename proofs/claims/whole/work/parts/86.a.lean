/-! SAVED: numbers, check numbers. -/
def uN (x : Int64) : Nat := x.toUInt64.toNat
theorem uN_lt (x : Int64) : uN x < 2 ^ 64 := x.toUInt64.toNat_lt
theorem uN_t32 (x : Int64) : x.toInt32.toBitVec.toNat = uN x % 2 ^ 32 := by
  have h1 : x.toInt32.toBitVec = x.toBitVec.signExtend 32 := rfl
  rw [h1, BitVec.signExtend_eq_setWidth_of_le _ (by omega), BitVec.toNat_setWidth]
  rfl
theorem nI_bv (n : Nat) : (nI n).toBitVec.toNat = n % 2 ^ 32 := by
  show (BitVec.ofNat 32 n).toNat = _
  rw [BitVec.toNat_ofNat]
theorem uN_low (x : Int64) : ((x &&& 127).toInt32 ||| 128) = nI (uN x % 128 + 128) := by
  apply Int32.toBitVec_inj.mp
  apply BitVec.eq_of_toNat_eq
  rw [nI_bv, Int32.toBitVec_or, BitVec.toNat_or, uN_t32]
  have h1 : uN (x &&& 127) = uN x % 128 := by
    unfold uN
    rw [Int64.toUInt64_and, UInt64.toNat_and, show (Int64.toUInt64 127).toNat = 2 ^ 7 - 1 from by decide, Nat.and_two_pow_sub_one_eq_mod]
  have h2 : uN x % 128 < 2 ^ 7 := Nat.mod_lt _ (by decide)
  rw [h1, Nat.mod_eq_of_lt (a := uN x % 128) (b := 2 ^ 32) (by omega), Nat.mod_eq_of_lt (a := uN x % 128 + 128) (b := 2 ^ 32) (by omega), show (128 : Int32).toBitVec.toNat = 2 ^ 7 * 1 from by decide, Nat.or_comm, ← Nat.two_pow_add_eq_or_of_lt h2]
  omega
theorem uN_32 {x : Int64} (_h : uN x < 2 ^ 31) : x.toInt32 = nI (uN x) := by
  apply Int32.toBitVec_inj.mp
  apply BitVec.eq_of_toNat_eq
  rw [nI_bv, uN_t32]
theorem uN_of {n : Nat} (h : n < 2 ^ 31) : uN (nI n).toInt64 = n := by
  have h1 : (nI n).toInt64.toBitVec = (nI n).toBitVec.signExtend 64 := rfl
  show (nI n).toInt64.toBitVec.toNat = n
  rw [h1, BitVec.toNat_signExtend]
  have hm : (nI n).toBitVec.msb = false := by
    rw [BitVec.msb_eq_decide, nI_bv]
    simp
    omega
  rw [hm, BitVec.toNat_setWidth, nI_bv]
  simp
  omega
theorem uN_int (x : Int64) : x.toInt = if uN x < 2 ^ 63 then (uN x : Int) else (uN x : Int) - 2 ^ 64 := by
  unfold uN
  have h : x.toInt = x.toBitVec.toInt := rfl
  have h2 : x.toUInt64.toNat = x.toBitVec.toNat := rfl
  rw [h, h2, BitVec.toInt_eq_toNat_cond]
  split <;> split <;> omega
theorem uN_shr (x : Int64) : uN (ushr64 x 7) = uN x / 128 := by
  unfold uN ushr64
  rw [UInt64.toUInt64_toInt64, UInt64.toNat_shiftRight, show ((7 : Int32).toInt64.toUInt64 &&& Int64.toUInt64 63).toNat % 64 = 7 from by decide, Nat.shiftRight_eq_div_pow]
theorem uN_inj {x y : Int64} (h : uN x = uN y) : x = y := by
  apply Int64.toBitVec_inj.mp
  apply BitVec.eq_of_toNat_eq
  exact h
theorem uN_cmp0 (x : Int64) : lg_cmp (ushr64 x 7) 0 = 0 ↔ uN x < 128 := by
  have h := uN_shr x
  unfold lg_cmp
  by_cases c : ushr64 x 7 = 0
  · rw [c] at h
    have h0 : uN 0 = 0 := by decide
    rw [c]
    simp
    omega
  · have hne : uN (ushr64 x 7) ≠ 0 := fun e => c (uN_inj (e.trans (by decide)))
    rw [if_neg c]
    constructor
    · intro e
      split at e <;> exact absurd e (by decide)
    · intro e
      omega
/-- a long, without its sign -/
theorem uN_grp (x : Int64) : (¬ lg_cmp x 0 < 0 ∧ lg_cmp x 127 ≤ 0) ↔ uN x < 128 := by
  have hl := uN_lt x
  rw [Int32.not_lt, lg_ge, lg_lez, show (0 : Int64).toInt = 0 from by decide, show (127 : Int64).toInt = 127 from by decide, uN_int]
  split <;> omega
def zz (x : Int64) : Int64 := if 0 ≤ lg_cmp x 0 then 2 * x else (-2) * x - 1
theorem zz_eq (x : Int64) : (x <<< ((1 : Int32).toInt64 &&& 63)) ^^^ (x >>> ((63 : Int32).toInt64 &&& 63)) = zz x := by
  have hs1 : ((1 : Int32).toInt64 &&& 63) = 1 := by decide
  have hs2 : ((63 : Int32).toInt64 &&& 63) = 63 := by decide
  rw [hs1, hs2]
  apply uN_inj
  have e1 : (x <<< (1 : Int64)) = 2 * x := by
    apply Int64.toBitVec_inj.mp
    rw [Int64.toBitVec_shiftLeft, Int64.toBitVec_mul]
    apply BitVec.eq_of_toNat_eq
    rw [show ((Int64.toBitVec 1).smod 64) = 1#64 from by decide]
    rw [BitVec.shiftLeft_eq', BitVec.toNat_shiftLeft, BitVec.toNat_mul]
    rw [show (1#64).toNat = 1 from by decide, show (Int64.toBitVec 2).toNat = 2 from by decide, Nat.shiftLeft_eq]
    congr 1
    omega
  have e2 : (x >>> (63 : Int64)) = if uN x < 2 ^ 63 then 0 else -1 := by
    apply Int64.toBitVec_inj.mp
    rw [Int64.toBitVec_shiftRight, show ((Int64.toBitVec 63).smod 64) = 63#64 from by decide, BitVec.sshiftRight_eq', show (63#64).toNat = 63 from by decide]
    apply BitVec.eq_of_toInt_eq
    rw [BitVec.toInt_sshiftRight]
    have hi := uN_int x
    have hl := uN_lt x
    have h : x.toInt = x.toBitVec.toInt := rfl
    rw [← h, hi, Int.shiftRight_eq_div_pow]
    split
    · rename_i c
      rw [show (Int64.toBitVec 0).toInt = 0 from by decide]
      omega
    · rename_i c
      rw [show (Int64.toBitVec (-1)).toInt = -1 from by decide]
      omega
  rw [e1, e2]
  unfold zz
  have hc : (0 ≤ lg_cmp x 0) ↔ uN x < 2 ^ 63 := by
    rw [lg_ge, show (0 : Int64).toInt = 0 from by decide, uN_int]
    have hl := uN_lt x
    split <;> omega
  by_cases c : uN x < 2 ^ 63
  · rw [if_pos c, if_pos (hc.mpr c)]
    rw [Int64.xor_zero]
  · rw [if_neg c, if_neg (fun h => c (hc.mp h))]
    congr 1
    have : (2 * x) ^^^ (-1 : Int64) = ~~~ (2 * x) := Int64.xor_neg_one
    rw [this, Int64.not_eq_neg_sub, Int64.neg_mul]
def c1 (x : Int32) : Int32 := if x &&& 1 = 0 then ushr32 x 1 else (ushr32 x 1) ^^^ (-306674912)
def cP : BitVec 32 := 0xEDB88320#32
def bt (b : Bool) : BitVec 32 := if b = true then cP else 0#32
theorem c1_bv (x : Int32) : (c1 x).toBitVec = (x.toBitVec >>> 1) ^^^ bt (x.toBitVec.getLsbD 0) := by
  have hs : (ushr32 x 1).toBitVec = x.toBitVec >>> 1 := by
    unfold ushr32
    show (x.toUInt32 >>> ((1 : Int32).toUInt32 &&& Int32.toUInt32 31)).toBitVec = _
    rw [show ((1 : Int32).toUInt32 &&& Int32.toUInt32 31) = 1 from by decide, UInt32.toBitVec_shiftRight]
    rw [show (UInt32.toBitVec 1 % 32) = 1#32 from by decide, BitVec.ushiftRight_eq']
    rfl
  have hb : (x &&& 1 = 0) ↔ x.toBitVec.getLsbD 0 = false := by
    rw [← Int32.toBitVec_inj, Int32.toBitVec_and]
    have h : (x.toBitVec &&& Int32.toBitVec 1).toNat = x.toBitVec.toNat % 2 := by
      rw [BitVec.toNat_and, show (Int32.toBitVec 1).toNat = 2 ^ 1 - 1 from by decide, Nat.and_two_pow_sub_one_eq_mod]
    rw [← BitVec.toNat_inj, h]
    show _ = 0 ↔ x.toBitVec.toNat.testBit 0 = false
    rw [Nat.testBit_zero, decide_eq_false_iff_not]
    omega
  unfold c1 bt
  by_cases c : x &&& 1 = 0
  · rw [if_pos c, hb.mp c, if_neg (by decide), hs, BitVec.xor_zero]
  · rw [if_neg c]
    have h1 : x.toBitVec.getLsbD 0 = true := by
      cases hx : x.toBitVec.getLsbD 0 with
      | true => rfl
      | false => exact absurd (hb.mpr hx) c
    rw [h1, if_pos rfl, Int32.toBitVec_xor, hs]
    rfl
theorem bt_low (b : Bool) (i : Nat) (h : i < 5) : (bt b).getLsbD i = false := by
  unfold bt
  cases b with
  | false => rw [if_neg (by decide)]; exact BitVec.getLsbD_zero
  | true =>
    rw [if_pos rfl]
    rcases (show i = 0 ∨ i = 1 ∨ i = 2 ∨ i = 3 ∨ i = 4 by omega) with rfl | rfl | rfl | rfl | rfl <;> decide
theorem c1_bit (x : Int32) (i : Nat) (h : i < 4) : (c1 x).toBitVec.getLsbD i = x.toBitVec.getLsbD (i + 1) := by
  rw [c1_bv, BitVec.getLsbD_xor, bt_low _ _ (by omega), BitVec.getLsbD_ushiftRight, Nat.add_comm 1 i, Bool.xor_false]
theorem c4 (x : Int32) : c1 (c1 (c1 (c1 x))) = (ushr32 x 4) ^^^ crcT ((x &&& 15).toNatClampNeg) := by
  apply Int32.toBitVec_inj.mp
  have hs : (ushr32 x 4).toBitVec = x.toBitVec >>> 4 := by
    unfold ushr32
    show (x.toUInt32 >>> ((4 : Int32).toUInt32 &&& Int32.toUInt32 31)).toBitVec = _
    rw [show ((4 : Int32).toUInt32 &&& Int32.toUInt32 31) = 4 from by decide, UInt32.toBitVec_shiftRight]
    rw [show (UInt32.toBitVec 4 % 32) = 4#32 from by decide, BitVec.ushiftRight_eq']
    rfl
  have hn : (x &&& 15).toNatClampNeg = x.toBitVec.toNat % 16 := by
    have h : (x.toBitVec &&& Int32.toBitVec 15).toNat = x.toBitVec.toNat % 16 := by
      rw [BitVec.toNat_and, show (Int32.toBitVec 15).toNat = 2 ^ 4 - 1 from by decide, Nat.and_two_pow_sub_one_eq_mod]
    show (x &&& 15).toInt.toNat = _
    have h2 : (x &&& 15).toInt = (x.toBitVec &&& Int32.toBitVec 15).toInt := rfl
    rw [h2, BitVec.toInt_eq_toNat_cond, h]
    split <;> omega
  rw [Int32.toBitVec_xor, hs, hn, c1_bv, c1_bit _ _ (by omega), c1_bit _ _ (by omega), c1_bit _ _ (by omega), c1_bv, c1_bit _ _ (by omega), c1_bit _ _ (by omega), c1_bv, c1_bit _ _ (by omega), c1_bv]
  simp only [Nat.zero_add, Nat.reduceAdd]
  have e : ∀ n, n < 4 → x.toBitVec.getLsbD n = decide ((x.toBitVec.toNat % 16) / 2 ^ n % 2 = 1) := by
    intro n hn
    show x.toBitVec.toNat.testBit n = _
    rw [Nat.testBit_eq_decide_div_mod_eq]
    congr 1
    rcases (show n = 0 ∨ n = 1 ∨ n = 2 ∨ n = 3 by omega) with rfl | rfl | rfl | rfl <;> (apply propext; omega)
  rw [e 0 (by omega), e 1 (by omega), e 2 (by omega), e 3 (by omega)]
  have hx : x.toBitVec >>> 4 = (((x.toBitVec >>> 1) >>> 1) >>> 1) >>> 1 := by
    rw [← BitVec.shiftRight_add, ← BitVec.shiftRight_add, ← BitVec.shiftRight_add]
  rw [hx]
  generalize x.toBitVec >>> 1 = y
  have hlt : x.toBitVec.toNat % 16 < 16 := Nat.mod_lt _ (by decide)
  generalize x.toBitVec.toNat % 16 = n at hlt
  simp only [BitVec.ushiftRight_xor_distrib]
  simp only [BitVec.xor_assoc]
  congr 1
  revert n
  decide
/-- groups of seven bits -/
def gN : Nat → Nat → List Nat
  | 0, n => [n]
  | f + 1, n => if n < 128 then [n] else (n % 128 + 128) :: gN f (n / 128)
def grp (n : Nat) : List Nat := gN 9 n
theorem gN_len : ∀ (f n : Nat), (gN f n).length ≤ f + 1 := by
  intro f
  induction f with
  | zero => intro n; simp [gN]
  | succ f ih =>
    intro n
    rw [gN]
    split
    · simp
    · have := ih (n / 128)
      rw [List.length_cons]
      omega
theorem grp_len (n : Nat) : (grp n).length ≤ 10 := gN_len 9 n
theorem grp_1 {n : Nat} (h : n < 128) : grp n = [n] := by
  unfold grp
  rw [gN, if_pos h]
theorem grp_len1 {n : Nat} (h : n < 128) : (grp n).length = 1 := by rw [grp_1 h]; rfl
theorem gN_2 {f n : Nat} (h : n < 16384) : (gN (f + 1) n).length ≤ 2 := by
  rw [gN]
  split
  · simp
  · cases f with
    | zero => simp [gN]
    | succ f => rw [gN, if_pos (by omega)]; simp
theorem grp_len2 {n : Nat} (h : n < 16384) : (grp n).length ≤ 2 := gN_2 h
theorem grp_len3 {n : Nat} (h : n < 2097152) : (grp n).length ≤ 3 := by
  unfold grp
  rw [gN]
  split
  · simp
  · have h8 : (gN 8 (n / 128)).length ≤ 2 := gN_2 (f := 7) (by omega)
    rw [List.length_cons]
    omega
