/-! bits of a long -/
def bt (y : Int64) (i : Nat) : Bool := y.toBitVec.getLsbD i
theorem bt_ge (y : Int64) {i : Nat} (h : 64 ≤ i) : bt y i = false := BitVec.getLsbD_of_ge _ _ h
theorem bt_0 (i : Nat) : bt 0 i = false := by
  show (0#64).getLsbD i = false
  exact BitVec.getLsbD_zero
theorem bt_or (y z : Int64) (i : Nat) : bt (y ||| z) i = (bt y i || bt z i) := by
  unfold bt
  rw [Int64.toBitVec_or, BitVec.getLsbD_or]
theorem bt_and (y z : Int64) (i : Nat) : bt (y &&& z) i = (bt y i && bt z i) := by
  unfold bt
  rw [Int64.toBitVec_and, BitVec.getLsbD_and]
theorem bt_eq0 (y : Int64) : y = 0 ↔ ∀ i, i < 64 → bt y i = false := by
  constructor
  · intro h i _
    rw [h, bt_0]
  · intro h
    apply Int64.toBitVec_inj.mp
    apply BitVec.eq_of_getLsbD_eq
    intro i hi
    have := h i hi
    unfold bt at this
    rw [this]
    exact BitVec.getLsbD_zero.symm
theorem bt_ne0 (y : Int64) : y ≠ 0 ↔ ∃ i, i < 64 ∧ bt y i = true := by
  rw [Ne, bt_eq0]
  constructor
  · intro h
    apply Classical.byContradiction
    intro n
    apply h
    intro i hi
    cases hb : bt y i with
    | false => rfl
    | true => exact absurd ⟨i, hi, hb⟩ n
  · intro ⟨i, hi, hb⟩ n
    rw [n i hi] at hb
    cases hb
theorem lcmp_0 (y : Int64) : am_lcmp y 0 = 0 ↔ y = 0 := by
  unfold am_lcmp
  by_cases h : (0 : Int64) < y
  · rw [if_pos h]
    constructor
    · intro z; cases z
    · intro z; rw [z] at h; exact absurd h (Int64.lt_irrefl)
  · rw [if_neg h]
    by_cases h2 : y = 0
    · rw [if_pos h2]; simp [h2]
    · rw [if_neg h2]; simp [h2]
theorem shl_k (y : Int64) (k : Nat) (hk : k < 64) : (am_lshl y (k : Int)).toBitVec = y.toBitVec <<< k := by
  have hs : (((Int32.ofInt (k : Int)).toInt64 &&& 63).toBitVec.smod 64).toNat = k := by
    have : ∀ k : Fin 64, (((Int32.ofInt ((k : Nat) : Int)).toInt64 &&& 63).toBitVec.smod 64).toNat = (k : Nat) := by decide +kernel
    exact this ⟨k, hk⟩
  unfold am_lshl
  show y.toBitVec <<< (((Int32.ofInt (k : Int)).toInt64 &&& 63).toBitVec.smod 64) = _
  rw [BitVec.shiftLeft_eq', hs]
theorem ushr_k (y : Int64) (k : Nat) (hk : k < 64) : (am_lushr y (k : Int)).toBitVec = y.toBitVec >>> k := by
  have hu : (((Int32.ofInt (k : Int)).toInt64.toUInt64 &&& Int64.toUInt64 63).toBitVec % 64).toNat = k := by
    have : ∀ k : Fin 64, (((Int32.ofInt ((k : Nat) : Int)).toInt64.toUInt64 &&& Int64.toUInt64 63).toBitVec % 64).toNat = (k : Nat) := by decide +kernel
    exact this ⟨k, hk⟩
  unfold am_lushr
  show y.toBitVec.ushiftRight (((Int32.ofInt (k : Int)).toInt64.toUInt64 &&& Int64.toUInt64 63).toBitVec % 64).toNat = _
  rw [hu]
  rfl
theorem bt_shl (y : Int64) {d : Int} (h0 : 0 ≤ d) (h1 : d < 64) (i : Nat) (hi : i < 64) : bt (am_lshl y d) i = (decide (d ≤ i) && bt y (i - d.toNat)) := by
  obtain ⟨k, rfl⟩ : ∃ k : Nat, d = k := ⟨d.toNat, by omega⟩
  unfold bt
  rw [shl_k y k (by omega), BitVec.getLsbD_shiftLeft]
  by_cases h : i < k
  · have : ¬ (k : Int) ≤ i := by omega
    simp [h, this]
  · have : (k : Int) ≤ i := by omega
    simp [h, this, hi]
theorem bt_ushr (y : Int64) {d : Int} (h0 : 0 ≤ d) (h1 : d < 64) (i : Nat) : bt (am_lushr y d) i = bt y (i + d.toNat) := by
  obtain ⟨k, rfl⟩ : ∃ k : Nat, d = k := ⟨d.toNat, by omega⟩
  unfold bt
  rw [ushr_k y k (by omega), BitVec.getLsbD_ushiftRight, Nat.add_comm]
  rfl
theorem bt_255 (i : Nat) : bt 255 i = decide (i < 8) := bit255 64 i (by decide)
theorem bt_1 (i : Nat) : bt 1 i = decide (i = 0) := by
  show (1#64).getLsbD i = _
  rw [BitVec.getLsbD_one]
  simp
theorem bt_reach {r : Int} (h0 : 0 ≤ r) (h8 : r < 8) (i : Nat) (hi : i < 64) : bt (am_lshl 255 (r * 8)) i = true ↔ (i : Int) / 8 = r := by
  rw [bt_shl _ (by omega) (by omega) i hi, bt_255, Bool.and_eq_true, decide_eq_true_eq, decide_eq_true_eq]
  omega
theorem bt_low {d : Int} (h0 : 1 ≤ d) (h1 : d < 64) (i : Nat) : bt (am_lshl 1 d - 1) i = true ↔ (i : Int) < d := by
  obtain ⟨k, rfl⟩ : ∃ k : Nat, d = k := ⟨d.toNat, by omega⟩
  unfold bt
  rw [Int64.toBitVec_sub, shl_k 1 k (by omega)]
  have e : (Int64.toBitVec 1 <<< k - Int64.toBitVec 1) = BitVec.ofNat 64 (2 ^ k - 1) := by
    have : ∀ k : Fin 64, (Int64.toBitVec 1 <<< (k : Nat) - Int64.toBitVec 1) = BitVec.ofNat 64 (2 ^ (k : Nat) - 1) := by decide +kernel
    exact this ⟨k, by omega⟩
  rw [e, BitVec.getLsbD_ofNat, Nat.testBit_two_pow_sub_one]
  simp only [Bool.and_eq_true, decide_eq_true_eq]
  omega
/-! the class's words on them -/
theorem c_bitsFrom (y : Int64) {d : Int} (hd : am_i32 d) : ∃ z, f_Search_bitsFrom y d = some z ∧ (z ≠ 0 ↔ ∃ f : Nat, f < 64 ∧ bt y f = true ∧ d ≤ f) ∧ (0 ≤ d → ∀ i, bt z i = bt y (i + d.toNat)) := by
  unfold f_Search_bitsFrom
  rw [if_pos hd]
  by_cases h : d < 64
  · rw [if_pos h, j_max (by decide) hd]
    simp only [Option.bind_some]
    by_cases h2 : (0 : Int) < d
    · rw [if_pos h2]
      refine ⟨_, rfl, ?_, fun _ i => bt_ushr y (by omega) h i⟩
      rw [bt_ne0]
      constructor
      · intro ⟨i, hi, hb⟩
        rw [bt_ushr y (by omega) h] at hb
        refine ⟨i + d.toNat, ?_, hb, by omega⟩
        apply Classical.byContradiction
        intro n
        rw [bt_ge y (by omega)] at hb
        cases hb
      · intro ⟨f, hf, hb, hd2⟩
        refine ⟨f - d.toNat, by omega, ?_⟩
        rw [bt_ushr y (by omega) h, show f - d.toNat + d.toNat = f by omega]
        exact hb
    · rw [if_neg h2]
      refine ⟨_, rfl, ?_, fun h0 i => by rw [bt_ushr y (by omega) (by omega), show d = 0 by omega]⟩
      rw [bt_ne0]
      constructor
      · intro ⟨i, hi, hb⟩
        rw [bt_ushr y (by omega) (by omega)] at hb
        exact ⟨i, hi, hb, by omega⟩
      · intro ⟨f, hf, hb, hd2⟩
        exact ⟨f, hf, by rw [bt_ushr y (by omega) (by omega)]; exact hb⟩
  · rw [if_neg h]
    refine ⟨_, rfl, ?_, fun _ i => by rw [bt_0, bt_ge y (by omega)]⟩
    constructor
    · intro n; exact absurd rfl n
    · intro ⟨f, hf, hb, hd2⟩; omega
theorem c_moved {y : Int64} (hy : y ≠ 0) {d : Int} (hd : -1000 ≤ d ∧ d ≤ 1000) : ∃ z, f_Search_moved y d = some z ∧ ∀ i : Nat, i < 64 → (bt z i = true ↔ ∃ f : Nat, f < 64 ∧ bt y f = true ∧ (i : Int) = (if (f : Int) + d < 0 then 0 else f + d)) := by
  unfold f_Search_moved
  rw [if_pos (show am_i32 d by omega)]
  by_cases h : d < 0
  · obtain ⟨z, e1, -, e3⟩ := c_bitsFrom y (d := -d) (by omega)
    have e3' := e3 (by omega)
    rw [if_pos h, e1]
    simp only [Option.bind_some]
    rw [if_pos (show am_i32 (-d) by omega)]
    have fin : ∀ p : Bool, (p = true ↔ ∃ f : Nat, f < 64 ∧ bt y f = true ∧ (f : Int) + d < 0) → ∀ i : Nat, i < 64 → (bt (if p then z ||| 1 else z) i = true ↔ ∃ f : Nat, f < 64 ∧ bt y f = true ∧ (i : Int) = (if (f : Int) + d < 0 then 0 else f + d)) := by
      intro p hp i hi
      have hz : bt z i = true ↔ ∃ f : Nat, f < 64 ∧ bt y f = true ∧ (i : Int) = f + d := by
        rw [e3']
        constructor
        · intro hb
          refine ⟨i + (-d).toNat, ?_, hb, by omega⟩
          apply Classical.byContradiction
          intro n
          rw [bt_ge y (by omega)] at hb
          cases hb
        · intro ⟨f, hf, hb, he⟩
          rw [show i + (-d).toNat = f by omega]
          exact hb
      have hr : (∃ f : Nat, f < 64 ∧ bt y f = true ∧ (i : Int) = (if (f : Int) + d < 0 then 0 else f + d)) ↔ bt z i = true ∨ (i = 0 ∧ p = true) := by
        rw [hz, hp]
        constructor
        · intro ⟨f, hf, hb, he⟩
          by_cases c : (f : Int) + d < 0
          · rw [if_pos c] at he
            exact Or.inr ⟨by omega, f, hf, hb, c⟩
          · rw [if_neg c] at he
            exact Or.inl ⟨f, hf, hb, he⟩
        · intro q
          rcases q with ⟨f, hf, hb, he⟩ | ⟨e0, f, hf, hb, he⟩
          · exact ⟨f, hf, hb, by rw [if_neg (by omega)]; exact he⟩
          · exact ⟨f, hf, hb, by rw [if_pos he, e0]; rfl⟩
      rw [hr]
      cases p with
      | false => simp
      | true =>
        rw [if_pos rfl, bt_or, bt_1, Bool.or_eq_true, decide_eq_true_eq]
        simp
    have L0 : f_Search_moved_L50 z 0 = some z := rfl
    have L1 : f_Search_moved_L50 z 1 = some (z ||| 1) := rfl
    rw [L0, L1]
    by_cases h2 : -d < 64
    · rw [if_pos h2, if_pos (am_lcmp32 _ _)]
      by_cases h3 : am_lcmp (y &&& (am_lshl 1 (-d) - 1)) 0 = 0
      · rw [if_pos h3]
        refine ⟨z, rfl, fin false ⟨fun n => (by cases n), fun ⟨f, hf, hb, he⟩ => ?_⟩⟩
        have := (bt_eq0 _).mp ((lcmp_0 _).mp h3) f hf
        rw [bt_and, hb, (bt_low (by omega) h2 f).mpr (by omega)] at this
        cases this
      · rw [if_neg h3]
        refine ⟨_, rfl, fin true ⟨fun _ => ?_, fun _ => rfl⟩⟩
        obtain ⟨i, hi, hb⟩ := (bt_ne0 _).mp (fun n => h3 ((lcmp_0 _).mpr n))
        rw [bt_and, Bool.and_eq_true] at hb
        exact ⟨i, hi, hb.1, by have := (bt_low (by omega) h2 i).mp hb.2; omega⟩
    · rw [if_neg h2]
      refine ⟨_, rfl, fin true ⟨fun _ => ?_, fun _ => rfl⟩⟩
      obtain ⟨i, hi, hb⟩ := (bt_ne0 _).mp hy
      exact ⟨i, hi, hb, by omega⟩
  · rw [if_neg h]
    by_cases h2 : d < 64
    · rw [if_pos h2]
      refine ⟨_, rfl, fun i hi => ?_⟩
      rw [bt_shl y (by omega) h2 i hi, Bool.and_eq_true, decide_eq_true_eq]
      constructor
      · intro ⟨a, hb⟩
        exact ⟨i - d.toNat, by omega, hb, by rw [if_neg (by omega)]; omega⟩
      · intro ⟨f, hf, hb, he⟩
        rw [if_neg (by omega)] at he
        exact ⟨by omega, by rw [show i - d.toNat = f by omega]; exact hb⟩
    · rw [if_neg h2]
      refine ⟨_, rfl, fun i hi => ?_⟩
      rw [bt_0]
      constructor
      · intro n; cases n
      · intro ⟨f, hf, hb, he⟩
        rw [if_neg (by omega)] at he
        omega
