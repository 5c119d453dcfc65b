/-! feed -/
theorem byte_bv (v : BitVec 32) (s : Nat) (hs : s ≤ 24) : BitVec.signExtend 8 (v >>> s) = BitVec.signExtend 8 (v.sshiftRight s) := by
  rw [BitVec.signExtend_eq_setWidth_of_le _ (by omega), BitVec.signExtend_eq_setWidth_of_le _ (by omega)]
  ext i hi
  simp [BitVec.getElem_setWidth, BitVec.getLsbD_sshiftRight, BitVec.getLsbD_ushiftRight]
  have h1 : i < 32 := by omega
  have h2 : s + i < 32 := by omega
  simp [h1, h2]
theorem byte_24 (v : Int32) : (oi2b (oushr v 24)).toInt8.toInt32 = (oi2b (oshr v 24)).toInt8.toInt32 := by
  have h : (oushr v 24).toInt8 = (oshr v 24).toInt8 := Int8.toBitVec_inj.mp (byte_bv v.toBitVec 24 (by decide))
  unfold oi2b
  rw [h]
theorem byte_16 (v : Int32) : (oi2b (oushr v 16)).toInt8.toInt32 = (oi2b (oshr v 16)).toInt8.toInt32 := by
  have h : (oushr v 16).toInt8 = (oshr v 16).toInt8 := Int8.toBitVec_inj.mp (byte_bv v.toBitVec 16 (by decide))
  unfold oi2b
  rw [h]
theorem byte_8 (v : Int32) : (oi2b (oushr v 8)).toInt8.toInt32 = (oi2b (oshr v 8)).toInt8.toInt32 := by
  have h : (oushr v 8).toInt8 = (oshr v 8).toInt8 := Int8.toBitVec_inj.mp (byte_bv v.toBitVec 8 (by decide))
  unfold oi2b
  rw [h]
theorem byte_0 (v : Int32) : (oi2b (oushr v 0)).toInt8.toInt32 = (oi2b (oshr v 0)).toInt8.toInt32 := by
  have h : (oushr v 0).toInt8 = (oshr v 0).toInt8 := Int8.toBitVec_inj.mp (byte_bv v.toBitVec 0 (by decide))
  unfold oi2b
  rw [h]
