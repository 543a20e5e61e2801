def am_W (p : Program) (l : Launch) (e : Env) (R : Room) (s : State) (m : MethodId) (args : Array Value) (below : List Frame) (meth : Method) (c : Code) (b : Nat) (ex : Nat → Nat) (aC : Nat → ClassId) (D : va_G) (M : am_Me) (n0 t0 : Nat) (Q : State → Prop) (σ : am_S) : Prop :=
  ∀ (H : Heap) (locs : List Loc) (ls : Array Slot), am_Rel b ex aC D M s σ.2.1 σ.2.2.2.1 σ.2.2.2.2 H locs ls → W p l e R s m args below meth c H locs (σ.2.2.2.1.length - n0) (am_tot σ.2.2.2.1 - t0) Q (F0 m σ.1 ls (σ.2.2.1.map (am_rn (am_ad b ex))))
theorem am_blt {a b : Nat} (h : Nat.blt a b = true) : a < b := Nat.le_of_ble_eq_true h
section AMI
variable {nx : Nat} {lv : am_L} {sh : am_Sh} {m : am_M} {st : List am_V} {σ' : am_S}
theorem am_ldI_inv {x : Nat} (h : am_go nx lv sh m (am_ldI lv x st) = some (true, .inl σ')) : ∃ v, am_get lv x = some (.inl v) ∧ σ' = (nx, lv, .inl v :: st, sh, m) := by
  unfold am_ldI at h
  split at h
  · rename_i v hg
    simp only [am_go, Option.some.injEq, Prod.mk.injEq, Sum.inl.injEq, true_and] at h
    exact ⟨v, hg, h.symm⟩
  · cases h
theorem am_ldL_inv {x : Nat} (h : am_go nx lv sh m (am_ldL lv x st) = some (true, .inl σ')) : ∃ v, am_get lv x = some (.inr (.inl v)) ∧ σ' = (nx, lv, .inr (.inl v) :: st, sh, m) := by
  unfold am_ldL at h
  split at h
  · rename_i v hg
    simp only [am_go, Option.some.injEq, Prod.mk.injEq, Sum.inl.injEq, true_and] at h
    exact ⟨v, hg, h.symm⟩
  · cases h
theorem am_ldA_inv {x : Nat} (h : am_go nx lv sh m (am_ldA lv x st) = some (true, .inl σ')) : ∃ v, am_get lv x = some (.inr (.inr (some v))) ∧ σ' = (nx, lv, .inr (.inr (some v)) :: st, sh, m) := by
  unfold am_ldA at h
  split at h
  · rename_i v hg
    simp only [am_go, Option.some.injEq, Prod.mk.injEq, Sum.inl.injEq, true_and] at h
    exact ⟨v, hg, h.symm⟩
  · cases h
theorem am_b2_inv {f : Int → Int → Int} (h : am_go nx lv sh m (am_b2 f st) = some (true, .inl σ')) : ∃ x y r, st = .inl y :: .inl x :: r ∧ σ' = (nx, lv, .inl (f x y) :: r, sh, m) := by
  unfold am_b2 at h
  split at h
  · simp only [am_go, Option.some.injEq, Prod.mk.injEq, Sum.inl.injEq, true_and] at h
    exact ⟨_, _, _, rfl, h.symm⟩
  · cases h
theorem am_d2_inv {f : Int → Int → Int} (h : am_go nx lv sh m (am_d2 f st) = some (true, .inl σ')) : ∃ x y r, st = .inl y :: .inl x :: r ∧ σ' = (nx, lv, .inl (f x y) :: r, sh, m) ∧ (0 < y ∧ am_i32 y) ∧ am_i32 x := by
  unfold am_d2 at h
  split at h
  · simp only [am_go, Option.some.injEq, Prod.mk.injEq, Sum.inl.injEq, Bool.and_eq_true] at h
    exact ⟨_, _, _, rfl, h.2.symm, of_decide_eq_true h.1.1, of_decide_eq_true h.1.2⟩
  · cases h
theorem am_u1_inv {f : Int → Int} (h : am_go nx lv sh m (am_u1 f st) = some (true, .inl σ')) : ∃ x r, st = .inl x :: r ∧ σ' = (nx, lv, .inl (f x) :: r, sh, m) := by
  unfold am_u1 at h
  split at h
  · simp only [am_go, Option.some.injEq, Prod.mk.injEq, Sum.inl.injEq, true_and] at h
    exact ⟨_, _, rfl, h.symm⟩
  · cases h
theorem am_bl_inv {f : Int64 → Int64 → Int64} (h : am_go nx lv sh m (am_bl f st) = some (true, .inl σ')) : ∃ x y r, st = .inr (.inl y) :: .inr (.inl x) :: r ∧ σ' = (nx, lv, .inr (.inl (f x y)) :: r, sh, m) := by
  unfold am_bl at h
  split at h
  · simp only [am_go, Option.some.injEq, Prod.mk.injEq, Sum.inl.injEq, true_and] at h
    exact ⟨_, _, _, rfl, h.symm⟩
  · cases h
theorem am_sl_inv {f : Int64 → Int → Int64} (h : am_go nx lv sh m (am_sl f st) = some (true, .inl σ')) : ∃ x y r, st = .inl y :: .inr (.inl x) :: r ∧ σ' = (nx, lv, .inr (.inl (f x y)) :: r, sh, m) := by
  unfold am_sl at h
  split at h
  · simp only [am_go, Option.some.injEq, Prod.mk.injEq, Sum.inl.injEq, true_and] at h
    exact ⟨_, _, _, rfl, h.symm⟩
  · cases h
theorem am_il_inv (h : am_go nx lv sh m (am_il st) = some (true, .inl σ')) : ∃ x r, st = .inl x :: r ∧ σ' = (nx, lv, .inr (.inl (am_i2l x)) :: r, sh, m) := by
  unfold am_il at h
  split at h
  · simp only [am_go, Option.some.injEq, Prod.mk.injEq, Sum.inl.injEq, true_and] at h
    exact ⟨_, _, rfl, h.symm⟩
  · cases h
theorem am_li_inv (h : am_go nx lv sh m (am_li st) = some (true, .inl σ')) : ∃ x r, st = .inr (.inl x) :: r ∧ σ' = (nx, lv, .inl (am_l2i x) :: r, sh, m) := by
  unfold am_li at h
  split at h
  · simp only [am_go, Option.some.injEq, Prod.mk.injEq, Sum.inl.injEq, true_and] at h
    exact ⟨_, _, rfl, h.symm⟩
  · cases h
theorem am_lc_inv (h : am_go nx lv sh m (am_lc st) = some (true, .inl σ')) : ∃ x y r, st = .inr (.inl y) :: .inr (.inl x) :: r ∧ σ' = (nx, lv, .inl (am_lcmp x y) :: r, sh, m) := by
  unfold am_lc at h
  split at h
  · simp only [am_go, Option.some.injEq, Prod.mk.injEq, Sum.inl.injEq, true_and] at h
    exact ⟨_, _, _, rfl, h.symm⟩
  · cases h
theorem am_dup_inv (h : am_go nx lv sh m (am_dup st) = some (true, .inl σ')) : ∃ v r, st = v :: r ∧ σ' = (nx, lv, v :: v :: r, sh, m) ∧ am_cat v = 1 := by
  unfold am_dup at h
  split at h
  · rename_i v r
    cases hb : Nat.beq (am_cat v) 1 with
    | true =>
      rw [hb] at h
      simp only [cond_true, am_go, Option.some.injEq, Prod.mk.injEq, Sum.inl.injEq, true_and] at h
      exact ⟨_, _, rfl, h.symm, Nat.eq_of_beq_eq_true hb⟩
    | false => rw [hb] at h; cases h
  · cases h
theorem am_dup2_inv (h : am_go nx lv sh m (am_dup2 st) = some (true, .inl σ')) : ∃ v w r, st = v :: w :: r ∧ σ' = (nx, lv, v :: w :: v :: w :: r, sh, m) ∧ am_cat v = 1 ∧ am_cat w = 1 := by
  unfold am_dup2 at h
  split at h
  · rename_i v w r
    cases hb : (Nat.beq (am_cat v) 1 && Nat.beq (am_cat w) 1) with
    | true =>
      rw [hb] at h
      rw [Bool.and_eq_true] at hb
      simp only [cond_true, am_go, Option.some.injEq, Prod.mk.injEq, Sum.inl.injEq, true_and] at h
      exact ⟨_, _, _, rfl, h.symm, Nat.eq_of_beq_eq_true hb.1, Nat.eq_of_beq_eq_true hb.2⟩
    | false => rw [hb] at h; cases h
  · cases h
theorem am_pop_inv (h : am_go nx lv sh m (am_pop st) = some (true, .inl σ')) : ∃ v r, st = v :: r ∧ σ' = (nx, lv, r, sh, m) ∧ am_cat v = 1 := by
  unfold am_pop at h
  split at h
  · rename_i v r
    cases hb : Nat.beq (am_cat v) 1 with
    | true =>
      rw [hb] at h
      simp only [cond_true, am_go, Option.some.injEq, Prod.mk.injEq, Sum.inl.injEq, true_and] at h
      exact ⟨_, _, rfl, h.symm, Nat.eq_of_beq_eq_true hb⟩
    | false => rw [hb] at h; cases h
  · cases h
theorem am_if_inv {f : Int → Nat} (h : (match st with | .inl a :: st => some (decide (am_i32 a), .inl (f a, lv, st, sh, m)) | _ => none : Option am_G) = some (true, .inl σ')) : ∃ x r, st = .inl x :: r ∧ σ' = (f x, lv, r, sh, m) ∧ am_i32 x := by
  split at h
  · simp only [Option.some.injEq, Prod.mk.injEq, Sum.inl.injEq] at h
    exact ⟨_, _, rfl, h.2.symm, of_decide_eq_true h.1⟩
  · cases h
theorem am_icmp_inv {f : Int → Int → Nat} (h : (match st with | .inl b :: .inl a :: st => some (decide (am_i32 b) && decide (am_i32 a), .inl (f a b, lv, st, sh, m)) | _ => none : Option am_G) = some (true, .inl σ')) : ∃ x y r, st = .inl y :: .inl x :: r ∧ σ' = (f x y, lv, r, sh, m) ∧ am_i32 y ∧ am_i32 x := by
  split at h
  · simp only [Option.some.injEq, Prod.mk.injEq, Sum.inl.injEq, Bool.and_eq_true] at h
    exact ⟨_, _, _, rfl, h.2.symm, of_decide_eq_true h.1.1, of_decide_eq_true h.1.2⟩
  · cases h
end AMI
theorem am_ti {x : Int} (h : am_i32 x) : (Int32.ofInt x).toInt = x := Int32.toInt_ofInt_of_le (by omega) (by omega)
theorem am_eq32 {x y : Int} (hx : am_i32 x) (hy : am_i32 y) : Int32.ofInt x = Int32.ofInt y ↔ x = y := by
  constructor
  · intro h
    have := congrArg Int32.toInt h
    rwa [am_ti hx, am_ti hy] at this
  · intro h; rw [h]
theorem am_lt32 {x y : Int} (hx : am_i32 x) (hy : am_i32 y) : Int32.ofInt x < Int32.ofInt y ↔ x < y := by
  rw [Int32.lt_iff_toInt_lt, am_ti hx, am_ti hy]
theorem am_ge32 {x y : Int} (hx : am_i32 x) (hy : am_i32 y) : Int32.ofInt y ≤ Int32.ofInt x ↔ ¬ x < y := by
  rw [Int32.le_iff_toInt_le, am_ti hx, am_ti hy]
  omega
theorem am_le32 {x y : Int} (hx : am_i32 x) (hy : am_i32 y) : Int32.ofInt x ≤ Int32.ofInt y ↔ ¬ y < x := am_ge32 hy hx
theorem am_ne0 {y : Int} (h0 : 0 < y) (hy : am_i32 y) : ¬ Int32.ofInt y = 0 := by
  intro h
  have := (am_eq32 hy (show am_i32 0 by decide)).mp h
  omega
theorem am_div {x y : Int} (hx : am_i32 x) (h0 : 0 < y) (hy : am_i32 y) : Int32.ofInt x / Int32.ofInt y = Int32.ofInt (am_dv x y) := by
  rw [← Int32.ofInt_toInt (Int32.ofInt x / Int32.ofInt y), Int32.toInt_div, am_ti hx, am_ti hy]
  have e : x.tdiv y = am_dv x y := by
    unfold am_dv
    split
    · rename_i h
      exact Int.tdiv_eq_ediv_of_nonneg h
    · rename_i h
      have h2 : x = -(-x) := by omega
      rw [h2, Int.neg_tdiv, Int.tdiv_eq_ediv_of_nonneg (by omega)]
      simp
  rw [e]
  have hb : am_i32 (am_dv x y) := by
    unfold am_dv
    split
    · rename_i h
      have h1 := Int.ediv_nonneg h (Int.le_of_lt h0)
      have h2 := Int.ediv_le_self y h
      constructor <;> omega
    · rename_i h
      have h1 := Int.ediv_nonneg (show 0 ≤ -x by omega) (Int.le_of_lt h0)
      have h2 := Int.ediv_le_self y (show 0 ≤ -x by omega)
      constructor <;> omega
  rw [Int.bmod_eq_of_le (by simp; omega) (by simp; omega)]
theorem am_rem {x y : Int} (hx : am_i32 x) (h0 : 0 < y) (hy : am_i32 y) : Int32.ofInt x - Int32.ofInt x / Int32.ofInt y * Int32.ofInt y = Int32.ofInt (am_rm x y) := by
  rw [am_div hx h0 hy, ← Int32.ofInt_mul, ← Int32.ofInt_sub]
  congr 1
  unfold am_dv am_rm
  split
  · have := Int.emod_add_mul_ediv x y
    rw [Int.mul_comm] at this
    omega
  · have := Int.emod_add_mul_ediv (-x) y
    rw [Int.mul_comm] at this
    rw [Int.neg_mul]
    omega
theorem am_lcmp_eq (x y : Int64) : Int32.ofInt (am_lcmp x y) = lg_cmp x y := by
  unfold am_lcmp lg_cmp
  by_cases h : y < x
  · rw [if_pos h, if_pos (show x > y from h)]; rfl
  · rw [if_neg h, if_neg (show ¬ x > y from h)]
    by_cases h2 : x = y
    · rw [if_pos h2, if_pos h2]; rfl
    · rw [if_neg h2, if_neg h2]; rfl
