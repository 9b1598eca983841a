/-! A byte of the packet, taken by either way. -/
theorem by_bit {x : Int64} {m : Int64} {n : Nat} (hn : n ≤ 56) (hm : (m.toBitVec.smod 64).toNat = n) : (((x.toUInt64 >>> UInt64.ofNat n).toInt64).toInt32) &&& (255 : Int32) = ((x >>> m) &&& (255 : Int64)).toInt32 := by
  apply bt_ext
  intro i hi
  rw [bt_and]
  unfold bt
  rw [Int64.toBitVec_toInt32, Int64.toBitVec_toInt32, BitVec.getLsbD_signExtend, BitVec.getLsbD_signExtend, if_pos (show i < 64 by omega), if_pos (show i < 64 by omega), Int64.toBitVec_and, BitVec.getLsbD_and, decide_eq_true hi, Bool.true_and, Bool.true_and]
  by_cases h8 : i < 8
  · have c1 : ∀ i, i < 8 → (255 : Int32).toBitVec.getLsbD i = true := by decide
    have c2 : ∀ i, i < 8 → (255 : Int64).toBitVec.getLsbD i = true := by decide
    rw [c1 i h8, c2 i h8, Bool.and_true, Bool.and_true]
    have e1 : ((x.toUInt64 >>> UInt64.ofNat n).toInt64).toBitVec.getLsbD i = x.toBitVec.getLsbD (n + i) := by
      show (x.toUInt64 >>> UInt64.ofNat n).toBitVec.getLsbD i = _
      rw [UInt64.toBitVec_shiftRight, BitVec.ushiftRight_eq', BitVec.getLsbD_ushiftRight, BitVec.toNat_umod]
      have : (UInt64.ofNat n).toBitVec.toNat % (64 : BitVec 64).toNat = n := by
        show (n % 2 ^ 64) % 64 = n
        omega
      rw [this]
      rfl
    have e2 : (x >>> m).toBitVec.getLsbD i = x.toBitVec.getLsbD (n + i) := by
      rw [Int64.toBitVec_shiftRight, BitVec.sshiftRight_eq', BitVec.getLsbD_sshiftRight, hm, if_pos (by omega), decide_eq_false (by omega)]
      rfl
    rw [e1, e2]
  · have c1 : ∀ i, i < 32 → ¬ i < 8 → (255 : Int32).toBitVec.getLsbD i = false := by decide
    have c2 : ∀ i, i < 32 → ¬ i < 8 → (255 : Int64).toBitVec.getLsbD i = false := by decide
    rw [c1 i hi h8, c2 i hi h8, Bool.and_false, Bool.and_false]
theorem by_s : ∀ i, i < 16 → (((8 : Int32) * (Int32.ofNat i - Int32.ofNat i / (8 : Int32) * (8 : Int32))).toInt64.toUInt64 &&& Int64.toUInt64 63) = UInt64.ofNat (8 * (i % 8)) := by decide
theorem by_r1 : ∀ i, i < 16 → (8 : Int32) ≤ Int32.ofNat i → ((((8 : Int32) * (Int32.ofNat i - (8 : Int32))).toInt64 &&& 63).toBitVec.smod 64).toNat = 8 * (i % 8) := by decide
theorem by_r2 : ∀ i, i < 16 → ¬ (8 : Int32) ≤ Int32.ofNat i → ((((8 : Int32) * Int32.ofNat i).toInt64 &&& 63).toBitVec.smod 64).toNat = 8 * (i % 8) := by decide
theorem by_eq {lo hi : Int64} {i : Nat} (h : i < 16) : byC lo hi i = byR lo hi i := by
  unfold byC byR
  rw [by_s i h]
  by_cases q : (8 : Int32) ≤ Int32.ofNat i
  · rw [if_pos q, if_pos q]
    exact by_bit (by omega) (by_r1 i h q)
  · rw [if_neg q, if_neg q]
    exact by_bit (by omega) (by_r2 i h q)
