/-! THE CALL harm: bytes. -/
section CHA
variable {S S' : MS} {N : Nat → Nat} {C C' : CS} {A : AS} {r rd : Nat} {bi bf bs bo : List Nat} {ji jf js a : Nat}
theorem RC_row3 {p : Nat} {v : Int32} (G : RC N C A rd) : RC N (C.setA 13 3 p v) A rd := G
theorem xor_b (u w : Int32) : (u ^^^ w.toInt8.toInt32).toInt8.toInt32 = (u ^^^ w).toInt8.toInt32 := by
  rw [Int32.toInt8_xor, Int32.toInt8_xor, Int8.toInt8_toInt32]
end CHA
