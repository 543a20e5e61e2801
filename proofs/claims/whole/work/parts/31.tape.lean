/-! the tape -/
theorem bit255 (w i : Nat) (hw : 8 ≤ w) : (255#w).getLsbD i = decide (i < 8) := by
  rw [show (255#w) = BitVec.ofNat w (2 ^ 8 - 1) from rfl, BitVec.getLsbD_ofNat, Nat.testBit_two_pow_sub_one]
  by_cases h : i < 8
  · simp [h]; omega
  · simp [h]
theorem low8 (a : BitVec 64) : ((((a.setWidth 32).setWidth 8).signExtend 32).setWidth 8).signExtend 32 &&& 255#32 = (a &&& 255#64).setWidth 32 := by
  apply BitVec.eq_of_getLsbD_eq
  intro i hi
  simp only [BitVec.getLsbD_and, BitVec.getLsbD_setWidth, BitVec.getLsbD_signExtend, bit255 _ _ (show 8 ≤ 32 by decide), bit255 _ _ (show 8 ≤ 64 by decide)]
  by_cases h : i < 8
  · simp [h, hi, show i < 32 from hi]
  · simp [h]
theorem shr8 (a : BitVec 64) (k : Nat) (hk : k ≤ 56) : a.ushiftRight k &&& 255#64 = a.sshiftRight k &&& 255#64 := by
  apply BitVec.eq_of_getLsbD_eq
  intro i hi
  rw [BitVec.getLsbD_and, BitVec.getLsbD_and, bit255 _ _ (by decide)]
  by_cases h : i < 8
  · rw [BitVec.getLsbD_sshiftRight]
    have h1 : ¬ 64 ≤ i := by omega
    have h2 : k + i < 64 := by omega
    simp [h, h1, h2, BitVec.getLsbD_ushiftRight]
  · simp [h]
theorem byte_k (y : Int64) (k : Nat) (hk : k ≤ 56) : am_and (am_i2b (am_i2b (am_l2i (am_lushr y (k : Int))))) 255 = am_l2i ((am_lshr y (k : Int)) &&& (255 : Int64)) := by
  have hs : (((Int32.ofInt (k : Int)).toInt64 &&& 63).toBitVec.smod 64).toNat = k := by
    have : ∀ k : Fin 57, (((Int32.ofInt ((k : Nat) : Int)).toInt64 &&& 63).toBitVec.smod 64).toNat = (k : Nat) := by decide +kernel
    exact this ⟨k, by omega⟩
  have hu : (((Int32.ofInt (k : Int)).toInt64.toUInt64 &&& Int64.toUInt64 63).toBitVec % 64).toNat = k := by
    have : ∀ k : Fin 57, (((Int32.ofInt ((k : Nat) : Int)).toInt64.toUInt64 &&& Int64.toUInt64 63).toBitVec % 64).toNat = (k : Nat) := by decide +kernel
    exact this ⟨k, by omega⟩
  unfold am_and am_bit am_i2b am_l2i am_lushr am_lshr
  simp only [Int32.ofInt_toInt]
  congr 1
  apply Int32.toBitVec_inj.mp
  simp only [Int32.toBitVec_and, Int8.toBitVec_toInt32, Int32.toBitVec_toInt8, Int64.toBitVec_toInt32, Int64.toBitVec_and]
  have e1 : (y.toUInt64 >>> ((Int32.ofInt (k : Int)).toInt64.toUInt64 &&& Int64.toUInt64 63)).toInt64.toBitVec = y.toBitVec.ushiftRight k := by
    show y.toBitVec.ushiftRight (((Int32.ofInt (k : Int)).toInt64.toUInt64 &&& Int64.toUInt64 63).toBitVec % 64).toNat = _
    rw [hu]
  have e2 : (y >>> ((Int32.ofInt (k : Int)).toInt64 &&& 63)).toBitVec = y.toBitVec.sshiftRight k := by
    show y.toBitVec.sshiftRight (((Int32.ofInt (k : Int)).toInt64 &&& 63).toBitVec.smod 64).toNat = _
    rw [hs]
  rw [e1, e2, show (Int32.ofInt 255).toBitVec = 255#32 from rfl, show Int64.toBitVec 255 = 255#64 from rfl, BitVec.signExtend_eq_setWidth_of_le (y.toBitVec.ushiftRight k) (by decide), BitVec.signExtend_eq_setWidth_of_le ((y.toBitVec.ushiftRight k).setWidth 32) (by decide), BitVec.signExtend_eq_setWidth_of_le _ (show 8 ≤ 32 by decide), low8, shr8 _ _ hk, BitVec.signExtend_eq_setWidth_of_le _ (show 32 ≤ 64 by decide)]
theorem tape_byte (y : Int64) {x : Int} (h0 : 0 ≤ x) (h8 : x < 8) : am_and (am_i2b (am_i2b (am_l2i (am_lushr y (56 - 8 * x))))) 255 = am_l2i ((am_lshr y (56 - 8 * x)) &&& (255 : Int64)) := by
  have e : 56 - 8 * x = ((56 - 8 * x).toNat : Int) := by omega
  rw [e]
  exact byte_k y _ (by omega)
theorem byte_bd (z : Int64) : 0 ≤ am_l2i (z &&& (255 : Int64)) ∧ am_l2i (z &&& (255 : Int64)) ≤ 255 := by
  unfold am_l2i
  have e : (z &&& (255 : Int64)).toInt32.toBitVec = (z.toBitVec &&& 255#64).setWidth 32 := by
    rw [Int64.toBitVec_toInt32, Int64.toBitVec_and, show Int64.toBitVec 255 = 255#64 from rfl, BitVec.signExtend_eq_setWidth_of_le _ (show 32 ≤ 64 by decide)]
  have hn : ((z.toBitVec &&& 255#64).setWidth 32).toNat ≤ 255 := by
    rw [BitVec.toNat_setWidth, BitVec.toNat_and]
    exact Nat.le_trans (Nat.mod_le _ _) Nat.and_le_right
  have ht : (z &&& (255 : Int64)).toInt32.toInt = (((z.toBitVec &&& 255#64).setWidth 32).toNat : Int) := by
    show (z &&& (255 : Int64)).toInt32.toBitVec.toInt = _
    rw [e]
    exact BitVec.toInt_eq_toNat_of_lt (by omega)
  rw [ht]
  omega
def sT (J : am_J) : Prop := J 2 1 = J 65 8 ∧ 0 ≤ J 2 1 ∧ J 2 1 ≤ 400 ∧ ∀ j : Nat, (j : Int) < J 2 1 → am_and (J 3 j) 255 = J 71 j ∧ 0 ≤ J 71 j ∧ J 71 j ≤ 255
theorem app_loop {y : Int64} : ∀ (k n : Nat) (x : Int) (J : am_J), k < n → x + k = 8 → 0 ≤ x → 0 ≤ J 2 1 → J 2 1 + 8 ≤ 400 → ∃ J', f_Tape_append_L17 n y x J = some (1, J') ∧ J' 2 1 = J 2 1 + 8 ∧ (∀ i : Int, x ≤ i → i < 8 → J' 3 (J 2 1 + i).toNat = am_i2b (am_i2b (am_l2i (am_lushr y (56 - 8 * i))))) ∧ (∀ j : Nat, (j : Int) < J 2 1 + x → J' 3 j = J 3 j) := by
  intro k
  induction k with
  | zero =>
    intro n x J hn hx x0 h0 h4
    obtain ⟨n, rfl⟩ : ∃ m, n = m + 1 := ⟨n - 1, by omega⟩
    rw [f_Tape_append_L17.eq_2, if_pos (show am_i32 x from ⟨by omega, by omega⟩), if_neg (show ¬ x < 8 by omega)]
    refine ⟨_, rfl, up_at _ _ _ _, fun i i1 i2 => by omega, fun j _ => ?_⟩
    rw [up_row (by decide)]
  | succ k ih =>
    intro n x J hn hx x0 h0 h4
    obtain ⟨n, rfl⟩ : ∃ m, n = m + 1 := ⟨n - 1, by omega⟩
    rw [f_Tape_append_L17.eq_2, if_pos (show am_i32 x from ⟨by omega, by omega⟩), if_pos (show x < 8 by omega), if_pos (show 0 ≤ J 2 1 + x ∧ J 2 1 + x < 400 by omega)]
    obtain ⟨J', a1, a2, a3, a4⟩ := ih n (x + 1) (am_up J 3 (J 2 1 + x).toNat (am_i2b (am_i2b (am_l2i (am_lushr y (56 - 8 * x)))))) (by omega) (by omega) (by omega) (by rw [up_row (by decide)]; exact h0) (by rw [up_row (by decide)]; exact h4)
    rw [up_row (show 2 ≠ 3 by decide)] at a2 a3 a4
    refine ⟨J', a1, a2, fun i i1 i2 => ?_, fun j hj => ?_⟩
    · by_cases e : i = x
      · rw [e, a4 _ (by omega), up_at]
      · exact a3 i (by omega) i2
    · rw [a4 j (by omega), up_ne (by omega)]
theorem fee_loop {y : Int64} : ∀ (k n : Nat) (x : Int) (J : am_J), k < n → x + k = 8 → 0 ≤ x → 0 ≤ J 65 8 → J 65 8 + k ≤ 400 → ∃ J', f_UpRiverModel_feed_L19 n y (56 - 8 * x) J = some (J 65 8 + k, J') ∧ J' 65 8 = J 65 8 + k ∧ (∀ i : Int, 0 ≤ i → i < k → J' 71 (J 65 8 + i).toNat = am_l2i ((am_lshr y (56 - 8 * (x + i))) &&& (255 : Int64))) ∧ (∀ j : Nat, (j : Int) < J 65 8 → J' 71 j = J 71 j) := by
  intro k
  induction k with
  | zero =>
    intro n x J hn hx x0 h0 h4
    obtain ⟨n, rfl⟩ : ∃ m, n = m + 1 := ⟨n - 1, by omega⟩
    rw [f_UpRiverModel_feed_L19.eq_2, if_pos (show am_i32 (56 - 8 * x) from ⟨by omega, by omega⟩), if_pos (show 56 - 8 * x < 0 by omega)]
    exact ⟨J, by rw [show J 65 8 + ((0 : Nat) : Int) = J 65 8 by omega], by omega, fun i i1 i2 => by omega, fun j _ => rfl⟩
  | succ k ih =>
    intro n x J hn hx x0 h0 h4
    obtain ⟨n, rfl⟩ : ∃ m, n = m + 1 := ⟨n - 1, by omega⟩
    rw [f_UpRiverModel_feed_L19.eq_2, if_pos (show am_i32 (56 - 8 * x) from ⟨by omega, by omega⟩), if_neg (show ¬ 56 - 8 * x < 0 by omega), if_pos (show 0 ≤ J 65 8 ∧ J 65 8 < 400 by omega), show 56 - 8 * x + -8 = 56 - 8 * (x + 1) by omega]
    generalize hJ1 : am_up (am_up J 71 (J 65 8).toNat (am_l2i ((am_lshr y (56 - 8 * x)) &&& (255 : Int64)))) 65 8 (J 65 8 + 1) = J1
    have b8 : J1 65 8 = J 65 8 + 1 := by rw [← hJ1, up_at]
    have b71 : J1 71 (J 65 8).toNat = am_l2i ((am_lshr y (56 - 8 * x)) &&& (255 : Int64)) := by rw [← hJ1, up_row (by decide), up_at]
    have b71n : ∀ j, j ≠ (J 65 8).toNat → J1 71 j = J 71 j := fun j hj => by rw [← hJ1, up_row (by decide), up_ne hj]
    obtain ⟨J', a1, a2, a3, a4⟩ := ih n (x + 1) J1 (by omega) (by omega) (by omega) (by omega) (by omega)
    rw [b8] at a1 a2 a3 a4
    refine ⟨J', by rw [a1, show J 65 8 + 1 + (k : Int) = J 65 8 + ((k + 1 : Nat) : Int) by omega], by omega, fun i i1 i2 => ?_, fun j hj => ?_⟩
    · by_cases e : i = 0
      · rw [e, Int.add_zero, Int.add_zero, a4 _ (by omega), b71]
      · have := a3 (i - 1) (by omega) (by omega)
        rw [show J 65 8 + 1 + (i - 1) = J 65 8 + i by omega, show x + 1 + (i - 1) = x + i by omega] at this
        exact this
    · rw [a4 j (by omega), b71n j (by omega)]
theorem e_feed {J : am_J} {y : Int64} (h : sT J) : ∃ r J' J2, f_UpRiver_feed y J = some (r, J') ∧ f_UpRiverModel_feed y J' = some (r, J2) ∧ am_i32 r ∧ sT J2 := by
  have h' := h
  obtain ⟨e, t0, t4, ha⟩ := h'
  by_cases full : 400 < J 2 1 + 8
  · refine ⟨-3, J, J, ?_, ?_, by decide, h⟩
    · unfold f_UpRiver_feed f_Tape_append
      rw [if_pos (show am_i32 (J 2 1 + 8) from ⟨by omega, by omega⟩), if_pos full]
      rfl
    · unfold f_UpRiverModel_feed
      rw [← e, if_pos (show am_i32 (J 2 1 + 8) from ⟨by omega, by omega⟩), if_pos full]
  · obtain ⟨J', a1, a2, a3, a4⟩ := app_loop (y := y) 8 am_FU 0 J (by decide) (by omega) (by omega) t0 (by omega)
    have f65 : J' 65 8 = J 65 8 := frJ_Tape_append_L17 _ _ _ _ _ a1 rfl
    have f71 : ∀ j, J' 71 j = J 71 j := fun j => frJ_Tape_append_L17 _ _ _ _ _ a1 rfl
    obtain ⟨J2, b1, b2, b3, b4⟩ := fee_loop (y := y) 8 am_FU 0 J' (by decide) (by omega) (by omega) (by omega) (by omega)
    have g2 : J2 2 1 = J' 2 1 := frJ_UpRiverModel_feed_L19 _ _ _ _ _ b1 rfl
    have g3 : ∀ j, J2 3 j = J' 3 j := fun j => frJ_UpRiverModel_feed_L19 _ _ _ _ _ b1 rfl
    refine ⟨J 2 1 + 8, J', J2, ?_, ?_, ⟨by omega, by omega⟩, ?_⟩
    · unfold f_UpRiver_feed f_Tape_append
      rw [if_pos (show am_i32 (J 2 1 + 8) from ⟨by omega, by omega⟩), if_neg full, a1]
      simp only [Option.bind_some]
      rw [if_pos (show am_i32 1 by decide), if_neg (show ¬ (1 : Int) = 0 by decide), a2]
    · unfold f_UpRiverModel_feed
      rw [if_pos (show am_i32 (J' 65 8 + 8) from ⟨by omega, by omega⟩), if_neg (show ¬ 400 < J' 65 8 + 8 by omega)]
      rw [show (56 : Int) - 8 * 0 = 56 from rfl] at b1
      rw [b1, f65, ← e]
      rfl
    · refine ⟨by rw [g2, a2, b2, f65, e]; rfl, by omega, by omega, fun j hj => ?_⟩
      rw [g2, a2] at hj
      rw [g3]
      by_cases old : (j : Int) < J 2 1
      · rw [a4 j (by omega), b4 j (by omega), f71]
        exact ha j old
      · have c1 := a3 ((j : Int) - J 2 1) (by omega) (by omega)
        have c2 := b3 ((j : Int) - J 2 1) (by omega) (by omega)
        rw [show (J 2 1 + ((j : Int) - J 2 1)).toNat = j by omega] at c1
        rw [show (J' 65 8 + ((j : Int) - J 2 1)).toNat = j by omega, Int.zero_add] at c2
        rw [c1, c2, tape_byte y (by omega) (by omega)]
        exact ⟨rfl, byte_bd _⟩
theorem e_end {J : am_J} {x : Int} (h : sT J) (hx : am_i32 x) : ∃ r J' J2, f_UpRiver_end x J = some (r, J') ∧ f_UpRiverModel_end x J' = some (r, J2) ∧ am_i32 r ∧ sT J2 := by
  have h' := h
  obtain ⟨e, t0, t4, ha⟩ := h'
  by_cases c : 0 ≤ x ∧ x ≤ J 2 1
  · refine ⟨J 2 1, am_up J 2 1 x, am_up (am_up J 2 1 x) 65 8 x, ?_, ?_, ⟨by omega, by omega⟩, ?_⟩
    · unfold f_UpRiver_end
      rw [if_pos hx, if_neg (show ¬ x < 0 by omega), if_pos (show am_i32 (J 2 1) from ⟨by omega, by omega⟩), if_neg (show ¬ J 2 1 < x by omega)]
    · unfold f_UpRiverModel_end
      rw [up_row (show 65 ≠ 2 by decide), show (0 : Int64) = am_i2l 0 from rfl, m_in hx (by decide) ⟨by omega, by omega⟩]
      simp only [Option.bind_some, fl_32, if_true, fl_0]
      rw [if_neg (show ¬ ¬ (0 ≤ x ∧ x ≤ J 65 8) from fun z => z (by omega)), e]
    · refine ⟨?_, ?_, ?_, ?_⟩
      · rw [up_row (by decide), up_at, up_at]
      · rw [up_row (by decide), up_at]; exact c.1
      · rw [up_row (by decide), up_at]; omega
      · intro j hj
        rw [up_row (by decide), up_at] at hj
        rw [up_row (by decide), up_row (by decide), up_row (by decide), up_row (by decide)]
        exact ha j (by omega)
  · refine ⟨-1, J, J, ?_, ?_, by decide, h⟩
    · unfold f_UpRiver_end
      rw [if_pos hx, if_pos (show am_i32 (J 2 1) from ⟨by omega, by omega⟩)]
      by_cases a : x < 0
      · rw [if_pos a]
      · rw [if_neg a, if_pos (show J 2 1 < x by omega)]
    · unfold f_UpRiverModel_end
      rw [show (0 : Int64) = am_i2l 0 from rfl, m_in hx (by decide) ⟨by omega, by omega⟩]
      simp only [Option.bind_some, fl_32, if_true, fl_0]
      rw [if_pos (show ¬ (0 ≤ x ∧ x ≤ J 65 8) from fun z => c (by omega))]
