section CHB
theorem sb_of (w : Int8) : ∃ y, y < 256 ∧ w.toInt32 = sb y := by
  refine ⟨w.toBitVec.toNat, w.toBitVec.isLt, ?_⟩
  unfold sb
  congr 1
  apply Int8.toBitVec_inj.mp
  apply BitVec.eq_of_toNat_eq
  have h := w.toBitVec.isLt
  show _ = (((nI w.toBitVec.toNat).toBitVec).signExtend 8).toNat
  rw [BitVec.signExtend_eq_setWidth_of_le _ (by decide), BitVec.toNat_setWidth]
  show _ = (BitVec.ofNat 32 w.toBitVec.toNat).toNat % 2 ^ 8
  rw [BitVec.toNat_ofNat]
  omega
end CHB
