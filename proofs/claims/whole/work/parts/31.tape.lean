/-! the tape -/
theorem bit255 (w i : Nat) (hw : 8 ≤ w) : (255#w).getLsbD i = decide (i < 8) := by
  rw [show (255#w) = BitVec.ofNat w (2 ^ 8 - 1) from rfl, BitVec.getLsbD_ofNat, Nat.testBit_two_pow_sub_one]
  by_cases h : i < 8
  · simp [h]; omega
  · simp [h]
theorem low8 (a : BitVec 64) : ((((a.setWidth 32).setWidth 8).signExtend 32).setWidth 8).signExtend 32 &&& 255#32 = (a &&& 255#64).setWidth 32 := by
  apply BitVec.eq_of_getLsbD_eq
  intro i hi
  simp only [BitVec.getLsbD_and, BitVec.getLsbD_setWidth, BitVec.getLsbD_signExtend, bit255 _ _ (show 8 ≤ 32 by decide), bit255 _ _ (show 8 ≤ 64 by decide)]
  by_cases h : i < 8
  · simp [h, hi, show i < 32 from hi]
  · simp [h]
theorem shr8 (a : BitVec 64) (k : Nat) (hk : k ≤ 56) : a.ushiftRight k &&& 255#64 = a.sshiftRight k &&& 255#64 := by
  apply BitVec.eq_of_getLsbD_eq
  intro i hi
  rw [BitVec.getLsbD_and, BitVec.getLsbD_and, bit255 _ _ (by decide)]
  by_cases h : i < 8
  · rw [BitVec.getLsbD_sshiftRight]
    have h1 : ¬ 64 ≤ i := by omega
    have h2 : k + i < 64 := by omega
    simp [h, h1, h2, BitVec.getLsbD_ushiftRight]
  · simp [h]
theorem byte_k (y : Int64) (k : Nat) (hk : k ≤ 56) : am_and (am_i2b (am_i2b (am_l2i (am_lushr y (k : Int))))) 255 = am_l2i ((am_lshr y (k : Int)) &&& (255 : Int64)) := by
  have hs : (((Int32.ofInt (k : Int)).toInt64 &&& 63).toBitVec.smod 64).toNat = k := by
    have : ∀ k : Fin 57, (((Int32.ofInt ((k : Nat) : Int)).toInt64 &&& 63).toBitVec.smod 64).toNat = (k : Nat) := by decide +kernel
    exact this ⟨k, by omega⟩
  have hu : (((Int32.ofInt (k : Int)).toInt64.toUInt64 &&& Int64.toUInt64 63).toBitVec % 64).toNat = k := by
    have : ∀ k : Fin 57, (((Int32.ofInt ((k : Nat) : Int)).toInt64.toUInt64 &&& Int64.toUInt64 63).toBitVec % 64).toNat = (k : Nat) := by decide +kernel
    exact this ⟨k, by omega⟩
  unfold am_and am_bit am_i2b am_l2i am_lushr am_lshr
  simp only [Int32.ofInt_toInt]
  congr 1
  apply Int32.toBitVec_inj.mp
  simp only [Int32.toBitVec_and, Int8.toBitVec_toInt32, Int32.toBitVec_toInt8, Int64.toBitVec_toInt32, Int64.toBitVec_and]
  have e1 : (y.toUInt64 >>> ((Int32.ofInt (k : Int)).toInt64.toUInt64 &&& Int64.toUInt64 63)).toInt64.toBitVec = y.toBitVec.ushiftRight k := by
    show y.toBitVec.ushiftRight (((Int32.ofInt (k : Int)).toInt64.toUInt64 &&& Int64.toUInt64 63).toBitVec % 64).toNat = _
    rw [hu]
  have e2 : (y >>> ((Int32.ofInt (k : Int)).toInt64 &&& 63)).toBitVec = y.toBitVec.sshiftRight k := by
    show y.toBitVec.sshiftRight (((Int32.ofInt (k : Int)).toInt64 &&& 63).toBitVec.smod 64).toNat = _
    rw [hs]
  rw [e1, e2, show (Int32.ofInt 255).toBitVec = 255#32 from rfl, show Int64.toBitVec 255 = 255#64 from rfl, BitVec.signExtend_eq_setWidth_of_le (y.toBitVec.ushiftRight k) (by decide), BitVec.signExtend_eq_setWidth_of_le ((y.toBitVec.ushiftRight k).setWidth 32) (by decide), BitVec.signExtend_eq_setWidth_of_le _ (show 8 ≤ 32 by decide), low8, shr8 _ _ hk, BitVec.signExtend_eq_setWidth_of_le _ (show 32 ≤ 64 by decide)]
theorem tape_byte (y : Int64) {x : Int} (h0 : 0 ≤ x) (h8 : x < 8) : am_and (am_i2b (am_i2b (am_l2i (am_lushr y (56 - 8 * x))))) 255 = am_l2i ((am_lshr y (56 - 8 * x)) &&& (255 : Int64)) := by
  have e : 56 - 8 * x = ((56 - 8 * x).toNat : Int) := by omega
  rw [e]
  exact byte_k y _ (by omega)
