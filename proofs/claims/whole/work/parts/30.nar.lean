/-! the lowest bits of a long, both ways -/
theorem shl_bv (v s : Int64) (k : Nat) (hk : (s.toBitVec.smod 64).toNat = k) : (v <<< s).toBitVec = v.toBitVec <<< k := by
  subst hk
  rfl
theorem shr_bv (v s : Int64) (k : Nat) (hk : (s.toBitVec.smod 64).toNat = k) : (v >>> s).toBitVec = v.toBitVec.sshiftRight k := by
  subst hk
  rfl
set_option maxHeartbeats 400000 in
theorem nar8 (v : Int64) : ((v <<< (Int32.toInt64 56 &&& 63)) >>> (Int32.toInt64 56 &&& 63)) = Int32.toInt64 ((Int32.toInt8 (Int64.toInt32 v)).toInt32) := by
  apply Int64.toBitVec_inj.mp
  rw [shr_bv _ _ 56 (by decide), shl_bv _ _ 56 (by decide)]
  have e : (Int32.toInt64 ((Int32.toInt8 (Int64.toInt32 v)).toInt32)).toBitVec = (((v.toBitVec.signExtend 32).signExtend 8).signExtend 32).signExtend 64 := rfl
  rw [e]
  generalize v.toBitVec = b
  apply BitVec.eq_of_getLsbD_eq
  intro i hi
  simp only [BitVec.getLsbD_sshiftRight, BitVec.getLsbD_shiftLeft, BitVec.getLsbD_signExtend, BitVec.msb_eq_getLsbD_last]
  by_cases c : i < 8
  · simp [c, hi, show i < 32 from by omega, show 56 + i < 64 from by omega, show ¬ 64 ≤ i from by omega, show ¬ 56 + i < 56 from by omega]
  · by_cases c2 : i < 32
    · simp [c, hi, c2, show ¬ 56 + i < 64 from by omega]
    · simp [c, hi, c2, show ¬ 56 + i < 64 from by omega]
set_option maxHeartbeats 400000 in
theorem nar16 (v : Int64) : ((v <<< (Int32.toInt64 48 &&& 63)) >>> (Int32.toInt64 48 &&& 63)) = Int32.toInt64 ((Int32.toInt16 (Int64.toInt32 v)).toInt32) := by
  apply Int64.toBitVec_inj.mp
  rw [shr_bv _ _ 48 (by decide), shl_bv _ _ 48 (by decide)]
  have e : (Int32.toInt64 ((Int32.toInt16 (Int64.toInt32 v)).toInt32)).toBitVec = (((v.toBitVec.signExtend 32).signExtend 16).signExtend 32).signExtend 64 := rfl
  rw [e]
  generalize v.toBitVec = b
  apply BitVec.eq_of_getLsbD_eq
  intro i hi
  simp only [BitVec.getLsbD_sshiftRight, BitVec.getLsbD_shiftLeft, BitVec.getLsbD_signExtend, BitVec.msb_eq_getLsbD_last]
  by_cases c : i < 16
  · simp [c, hi, show i < 32 from by omega, show 48 + i < 64 from by omega, show ¬ 64 ≤ i from by omega, show ¬ 48 + i < 48 from by omega]
  · by_cases c2 : i < 32
    · simp [c, hi, c2, show ¬ 48 + i < 64 from by omega]
    · simp [c, hi, c2, show ¬ 48 + i < 64 from by omega]
