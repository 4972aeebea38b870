/-! A told choice: the class shifts without the sign, the reference with it -/
theorem amt_a : ∀ k, k < 64 → (((nI k).toInt64 &&& 63).toBitVec.smod 64#64).toNat = k := by decide +kernel
theorem amt_l : ∀ k, k < 64 → (((nI k).toInt64.toUInt64 &&& Int64.toUInt64 63).toBitVec % 64#64).toNat = k := by decide +kernel
theorem lshr_bv (x : Int64) {k : Nat} (hk : k < 64) : (am_lshr x (nI k)).toBitVec = x.toBitVec.sshiftRight k := by
  unfold am_lshr
  show x.toBitVec.sshiftRight (((nI k).toInt64 &&& 63).toBitVec.smod 64#64).toNat = _
  rw [amt_a k hk]
theorem lushr_bv (x : Int64) {k : Nat} (hk : k < 64) : (am_lushr x (nI k)).toBitVec = x.toBitVec >>> k := by
  unfold am_lushr
  show x.toBitVec >>> (((nI k).toInt64.toUInt64 &&& Int64.toUInt64 63).toBitVec % 64#64).toNat = _
  rw [amt_l k hk]
theorem f15 : ∀ i, i < 32 → 4 ≤ i → (15#32).getLsbD i = false := by decide
theorem choice_eq (x : Int64) {c : Nat} (hc : c < 16) : X7_choiceOf x (nI c) = ((am_lshr x (4 * nI c)).toInt32 &&& 15) := by
  unfold X7_choiceOf
  rw [show (4 : Int32) * nI c = nI (4 * c) from pk_mul 4 c]
  apply Int32.toBitVec_inj.mp
  show (am_lushr x (nI (4 * c))).toBitVec.signExtend 32 &&& 15#32 = (am_lshr x (nI (4 * c))).toBitVec.signExtend 32 &&& 15#32
  rw [lshr_bv x (by omega), lushr_bv x (by omega)]
  apply BitVec.eq_of_getLsbD_eq_iff.mpr
  intro i hi
  rw [BitVec.getLsbD_and, BitVec.getLsbD_and, BitVec.getLsbD_signExtend, BitVec.getLsbD_signExtend]
  by_cases h4 : i < 4
  · rw [BitVec.getLsbD_sshiftRight, BitVec.getLsbD_ushiftRight, if_pos (show i < 64 by omega), if_pos (show 4 * c + i < 64 by omega), if_pos (show i < 64 by omega), show decide (64 ≤ i) = false from decide_eq_false (by omega)]
    rfl
  · rw [f15 i hi (by omega), Bool.and_false, Bool.and_false]
/-- a choice's value -/
def chv (ch : Int64) (x : Nat) : Int32 := (am_lshr ch (4 * nI x)).toInt32 &&& 15
