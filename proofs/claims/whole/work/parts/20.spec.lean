/-! plain facts: flags, guards, division, words -/
def fl (p : Prop) [Decidable p] : Int := if p then 1 else 0
theorem fl_t {p : Prop} [Decidable p] (h : p) : fl p = 1 := if_pos h
theorem fl_f {p : Prop} [Decidable p] (h : ¬ p) : fl p = 0 := if_neg h
theorem fl_32 (p : Prop) [Decidable p] : am_i32 (fl p) ↔ True := by
  unfold fl
  split <;> decide
theorem fl_0 (p : Prop) [Decidable p] : fl p = 0 ↔ ¬ p := by
  unfold fl
  split <;> simp_all
theorem fl_1 (p : Prop) [Decidable p] : fl p = 1 ↔ p := by
  unfold fl
  split <;> simp_all
theorem fl_01 (p : Prop) [Decidable p] : (fl p = 0 ∨ fl p = 1) ↔ True := by
  unfold fl
  split <;> simp
theorem fl_c {p q : Prop} [Decidable p] [Decidable q] (h : p ↔ q) : fl p = fl q := by
  unfold fl
  by_cases hp : p
  · rw [if_pos hp, if_pos (h.mp hp)]
  · rw [if_neg hp, if_neg (fun z => hp (h.mpr z))]
theorem am_toInt32 (x : Int32) : am_i32 x.toInt := by
  have h1 := x.le_toInt
  have h2 := x.toInt_lt
  constructor <;> omega
theorem am_xor32 (x y : Int) : am_i32 (am_xor x y) := am_toInt32 _
theorem am_neg_msb (x : Int32) : x.toInt < 0 ↔ x.toBitVec.msb = true := by
  show x.toBitVec.toInt < 0 ↔ _
  rw [BitVec.toInt_neg_iff, BitVec.msb_eq_decide]
  simp
  omega
theorem am_xor_neg {x y : Int} (hx : am_i32 x) (hy : am_i32 y) (h0 : 0 ≤ y) : am_xor x y < 0 ↔ x < 0 := by
  unfold am_xor am_bit
  rw [am_neg_msb]
  show ((Int32.ofInt x).toBitVec ^^^ (Int32.ofInt y).toBitVec).msb = true ↔ _
  rw [BitVec.msb_xor]
  have e1 := am_neg_msb (Int32.ofInt x)
  have e2 := am_neg_msb (Int32.ofInt y)
  rw [am_ti hx] at e1
  rw [am_ti hy] at e2
  have e3 : (Int32.ofInt y).toBitVec.msb = false := by
    cases hb : (Int32.ofInt y).toBitVec.msb with
    | false => rfl
    | true => have := e2.mpr hb; omega
  rw [e3, e1]
  simp
theorem am_dv_pos {x y : Int} (h : 0 ≤ x) : am_dv x y = x / y := if_pos h
theorem am_rm_pos {x y : Int} (h : 0 ≤ x) : am_rm x y = x % y := if_pos h
/-- division down out of division cut -/
theorem dv_floor {x y : Int} (hx : x < 0) (hy : 0 < y) : x / y = if am_dv x y * y = x then am_dv x y else am_dv x y - 1 := by
  unfold am_dv
  rw [if_neg (show ¬ 0 ≤ x by omega)]
  have e1 := Int.emod_add_mul_ediv (-x) y
  have e2 := Int.emod_nonneg (-x) (show y ≠ 0 by omega)
  have e3 := Int.emod_lt_of_pos (-x) hy
  generalize hq : (-x) / y = q at *
  generalize hr : (-x) % y = r at *
  have ex : x = -(r + y * q) := by omega
  by_cases h0 : r = 0
  · rw [if_pos (show -q * y = x by rw [ex, h0, Int.neg_mul, Int.mul_comm]; omega)]
    rw [ex, h0, Int.zero_add, ← Int.mul_neg]
    exact Int.mul_ediv_cancel_left _ (show y ≠ 0 by omega)
  · rw [if_neg (show ¬ -q * y = x by rw [ex, Int.neg_mul, Int.mul_comm]; omega)]
    have e4 : x = y * (-q - 1) + (y - r) := by
      rw [ex, Int.mul_sub, Int.mul_neg]; omega
    rw [e4, Int.mul_add_ediv_left _ _ (by omega), Int.ediv_eq_zero_of_lt (by omega) (by omega)]
    omega
theorem rm_floor {x y : Int} (hx : x < 0) (hy : 0 < y) : x % y = if am_rm x y = 0 then 0 else am_rm x y + y := by
  unfold am_rm
  rw [if_neg (show ¬ 0 ≤ x by omega)]
  have e1 := Int.emod_add_mul_ediv (-x) y
  have e2 := Int.emod_nonneg (-x) (show y ≠ 0 by omega)
  have e3 := Int.emod_lt_of_pos (-x) hy
  generalize hq : (-x) / y = q at *
  generalize hr : (-x) % y = r at *
  have ex : x = -(r + y * q) := by omega
  by_cases h0 : r = 0
  · rw [if_pos (show -r = 0 by omega), ex, h0, Int.zero_add, ← Int.mul_neg]
    exact Int.mul_emod_right _ _
  · rw [if_neg (show ¬ -r = 0 by omega)]
    have e4 : x = (y - r) + y * (-q - 1) := by
      rw [ex, Int.mul_sub, Int.mul_neg]; omega
    rw [e4, Int.add_mul_emod_self_left, Int.emod_eq_of_lt (by omega) (by omega)]
    omega
theorem ediv_bd {x y : Int} (hy : 0 < y) (h : am_i32 x) : am_i32 (x / y) ∧ (0 ≤ x → 0 ≤ x / y ∧ x / y ≤ x) := by
  have e1 := Int.emod_add_mul_ediv x y
  have e2 := Int.emod_nonneg x (show y ≠ 0 by omega)
  have e3 := Int.emod_lt_of_pos x hy
  by_cases h0 : 0 ≤ x
  · have h1 := Int.ediv_nonneg h0 (Int.le_of_lt hy)
    have h2 := Int.ediv_le_self y h0
    exact ⟨⟨by omega, by omega⟩, fun _ => ⟨h1, h2⟩⟩
  · have h1 : x / y < 0 := Int.ediv_neg_of_neg_of_pos (by omega) hy
    have h2 : x ≤ x / y := by
      have e5 : 0 ≤ (y - 1) * (-(x / y) - 1) := Int.mul_nonneg (by omega) (by omega)
      rw [Int.sub_mul, Int.mul_sub, Int.mul_neg] at e5
      omega
    exact ⟨⟨by omega, by omega⟩, fun z => by omega⟩
theorem dv_bd {x y : Int} (hy : 0 < y) (h : am_i32 x) : am_i32 (am_dv x y * y) := by
  unfold am_dv
  split
  · rename_i h0
    have e1 := Int.emod_add_mul_ediv x y
    have e2 := Int.emod_nonneg x (show y ≠ 0 by omega)
    have h1 := Int.mul_nonneg (Int.ediv_nonneg h0 (Int.le_of_lt hy)) (Int.le_of_lt hy)
    rw [Int.mul_comm] at e1
    exact ⟨by omega, by omega⟩
  · rename_i h0
    have e1 := Int.emod_add_mul_ediv (-x) y
    have e2 := Int.emod_nonneg (-x) (show y ≠ 0 by omega)
    have h1 := Int.mul_nonneg (Int.ediv_nonneg (show 0 ≤ -x by omega) (Int.le_of_lt hy)) (Int.le_of_lt hy)
    rw [Int.mul_comm] at e1
    rw [Int.neg_mul]
    exact ⟨by omega, by omega⟩
theorem rm_bd {x y : Int} (hy : 0 < y) (hy2 : am_i32 y) : am_i32 (am_rm x y) := by
  unfold am_rm
  split
  · have e2 := Int.emod_nonneg x (show y ≠ 0 by omega)
    have e3 := Int.emod_lt_of_pos x hy
    exact ⟨by omega, by omega⟩
  · have e2 := Int.emod_nonneg (-x) (show y ≠ 0 by omega)
    have e3 := Int.emod_lt_of_pos (-x) hy
    exact ⟨by omega, by omega⟩
theorem j_floorDiv {x y : Int} (hx : am_i32 x) (hy : 0 < y) (hy2 : am_i32 y) : f_JMath_floorDiv x y = some (x / y) := by
  unfold f_JMath_floorDiv
  rw [if_pos ⟨hy, hy2⟩, if_pos hx, if_pos (am_xor32 x y)]
  by_cases h : x < 0
  · rw [if_pos ((am_xor_neg hx hy2 (by omega)).mpr h), if_pos (dv_bd hy hx), dv_floor h hy]
    split <;> rfl
  · rw [if_neg (fun z => h ((am_xor_neg hx hy2 (by omega)).mp z)), am_dv_pos (by omega)]
theorem j_floorMod {x y : Int} (hx : am_i32 x) (hy : 0 < y) (hy2 : am_i32 y) : f_JMath_floorMod x y = some (x % y) := by
  unfold f_JMath_floorMod
  rw [if_pos ⟨hy, hy2⟩, if_pos hx, if_pos (am_xor32 x y)]
  by_cases h : x < 0
  · rw [if_pos ((am_xor_neg hx hy2 (by omega)).mpr h), if_pos (rm_bd hy hy2), rm_floor h hy]
    split
    · rename_i h0; rw [h0]
    · rfl
  · rw [if_neg (fun z => h ((am_xor_neg hx hy2 (by omega)).mp z)), am_rm_pos (by omega)]
theorem j_max {x y : Int} (hx : am_i32 x) (hy : am_i32 y) : f_JMath_max x y = some (if x < y then y else x) := by
  unfold f_JMath_max
  rw [if_pos hy, if_pos hx]
  split <;> rfl
theorem j_min {x y : Int} (hx : am_i32 x) (hy : am_i32 y) : f_JMath_min x y = some (if y < x then y else x) := by
  unfold f_JMath_min
  rw [if_pos hy, if_pos hx]
  split <;> rfl
/-- an int as a long -/
theorem i2l_ti {x : Int} (h : am_i32 x) : (am_i2l x).toInt = x := by
  unfold am_i2l
  rw [Int32.toInt_toInt64, am_ti h]
theorem i2l_le {x y : Int} (hx : am_i32 x) (hy : am_i32 y) : am_i2l x ≤ am_i2l y ↔ x ≤ y := by
  rw [Int64.le_iff_toInt_le, i2l_ti hx, i2l_ti hy]
theorem i2l_lt {x y : Int} (hx : am_i32 x) (hy : am_i32 y) : am_i2l x < am_i2l y ↔ x < y := by
  rw [Int64.lt_iff_toInt_lt, i2l_ti hx, i2l_ti hy]
theorem am_lcmp32 (a b : Int64) : am_i32 (am_lcmp a b) := by
  unfold am_lcmp
  split
  · decide
  · split <;> decide
theorem lcmp_neg (a b : Int64) : am_lcmp a b < 0 ↔ a < b := by
  unfold am_lcmp
  by_cases h : b < a
  · rw [if_pos h]
    have : ¬ a < b := fun z => Int64.lt_asymm h z
    simp [this]
  · rw [if_neg h]
    by_cases h2 : a = b
    · rw [if_pos h2, h2]
      simp [Int64.lt_irrefl]
    · rw [if_neg h2]
      have : a < b := Int64.lt_of_le_of_ne (Int64.not_lt.mp h) h2
      simp [this]
theorem lcmp_pos (a b : Int64) : 0 < am_lcmp a b ↔ b < a := by
  unfold am_lcmp
  by_cases h : b < a
  · rw [if_pos h]; simp [h]
  · rw [if_neg h]
    by_cases h2 : a = b
    · rw [if_pos h2]; simp [h]
    · rw [if_neg h2]; simp [h]
theorem m_inL (a b c : Int64) : f_UpRiverModel_in a b c = some (fl (b ≤ a ∧ a ≤ c)) := by
  unfold f_UpRiverModel_in
  rw [if_pos (am_lcmp32 a b)]
  by_cases h : a < b
  · rw [if_pos ((lcmp_neg a b).mpr h), fl_f (fun z => absurd h (Int64.not_lt.mpr z.1))]
  · rw [if_neg (fun z => h ((lcmp_neg a b).mp z)), if_pos (am_lcmp32 a c)]
    by_cases h2 : c < a
    · rw [if_pos ((lcmp_pos a c).mpr h2), fl_f (fun z => absurd h2 (Int64.not_lt.mpr z.2))]
    · rw [if_neg (fun z => h2 ((lcmp_pos a c).mp z)), fl_t ⟨Int64.not_lt.mp h, Int64.not_lt.mp h2⟩]
theorem m_in {x lo hi : Int} (hx : am_i32 x) (hlo : am_i32 lo) (hhi : am_i32 hi) : f_UpRiverModel_in (am_i2l x) (am_i2l lo) (am_i2l hi) = some (fl (lo ≤ x ∧ x ≤ hi)) := by
  rw [m_inL]
  congr 1
  exact fl_c (by rw [i2l_le hlo hx, i2l_le hx hhi])
