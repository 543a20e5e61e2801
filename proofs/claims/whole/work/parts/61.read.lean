/-! read -/
theorem bm64 {x : Int} (h : -1000000000000 ≤ x ∧ x ≤ 1000000000000) : Int.bmod x (2 ^ 64) = x := Int.bmod_eq_of_le (by omega) (by omega)
theorem rd_add {a b : Int64} {x y : Int} (ha : a.toInt = x) (hb : b.toInt = y) (h : -1000000000000 ≤ x + y ∧ x + y ≤ 1000000000000) : (a + b).toInt = x + y := by
  rw [Int64.toInt_add, ha, hb, bm64 h]
theorem rd_mul2 {b : Int64} {y : Int} (hb : b.toInt = y) (h : -1000000000000 ≤ 2 * y ∧ 2 * y ≤ 1000000000000) : ((2 : Int64) * b).toInt = 2 * y := by
  rw [Int64.toInt_mul, hb, show (2 : Int64).toInt = 2 from rfl, bm64 h]
theorem rd_l2i {a : Int64} {x : Int} (ha : a.toInt = x) (h : am_i32 x) : am_l2i a = x := by
  unfold am_l2i
  rw [Int64.toInt_toInt32, ha]
  exact Int.bmod_eq_of_le (by omega) (by omega)
abbrev lgBad (top n R T x t : Int) : Prop := ¬ (0 ≤ x ∧ x ≤ top) ∨ ¬ (0 ≤ t ∧ t ≤ 300) ∨ (0 < n ∧ ¬ (R < x ∧ T < t))
def lgC (J : am_J) (n x t : Int) : am_J := am_up (am_up (am_up J 20 n.toNat x) 21 n.toNat t) 19 2 (n + 1)
def lgM (J : am_J) (n x t : Int) : am_J := am_up (am_up (am_up J 68 (7 + 2 * n).toNat x) 68 (7 + 2 * n + 1).toNat t) 68 6 (n + 1)
theorem c_logged {b : Bool} {J : am_J} {top n x t : Int} (e0 : J (am_rv b + 1) 0 = top) (en : J 19 2 = n) (ht0 : 0 ≤ top ∧ top ≤ 8) (hn : 0 ≤ n ∧ n ≤ 12) (hR : 0 < n → am_i32 (J 20 (n - 1).toNat) ∧ am_i32 (J 21 (n - 1).toNat)) (hx : am_i32 x) (ht : am_i32 t) : f_UpRiver_logged b x t J = if lgBad top n (J 20 (n - 1).toNat) (J 21 (n - 1).toNat) x t then some (-1, J) else if n < 12 then some (n + 1, lgC J n x t) else some (-3, J) := by
  have L57 : f_Log_add_L57 x t J = if n < 12 then some (n + 1, lgC J n x t) else some (-3, J) := by
    unfold f_Log_add_L57 lgC
    rw [en, if_pos (show am_i32 n by omega)]
    by_cases c0 : n < 12
    · rw [if_pos c0, if_pos c0, if_pos (show 0 ≤ n ∧ n < 12 by omega)]
    · rw [if_neg c0, if_neg c0]
  unfold f_UpRiver_logged f_Log_add
  rw [e0, if_pos hx, if_pos (show am_i32 top by omega), c_isMinute ht, en, if_pos (show am_i32 n by omega), L57]
  simp only [Option.bind_some, fl_32, if_true, fl_0]
  by_cases c1 : 0 ≤ x ∧ x ≤ top
  · rw [if_neg (show ¬ x < 0 by omega), if_neg (show ¬ top < x by omega)]
    by_cases c2 : 0 ≤ t ∧ t ≤ 300
    · rw [if_neg (show ¬ ¬ (0 ≤ t ∧ t ≤ 300) from fun z => z c2)]
      have tl : ((if n < 12 then some (n + 1, lgC J n x t) else some (-3, J)).bind fun q : Int × am_J => some (q.1, q.2)) = (if n < 12 then some (n + 1, lgC J n x t) else some (-3, J)) := by
        by_cases c5 : n < 12
        · rw [if_pos c5]; rfl
        · rw [if_neg c5]; rfl
      by_cases c3 : 0 < n
      · obtain ⟨g1, g2⟩ := hR c3
        rw [if_pos c3, if_pos (show 0 ≤ n - 1 ∧ n - 1 < 12 by omega), if_pos g1, if_pos g2, if_pos ht]
        by_cases c4 : J 20 (n - 1).toNat < x
        · rw [if_pos c4]
          by_cases c5 : J 21 (n - 1).toNat < t
          · rw [if_pos c5, tl, if_neg (show ¬ lgBad top n (J 20 (n - 1).toNat) (J 21 (n - 1).toNat) x t by omega)]
          · rw [if_neg c5, if_pos (show lgBad top n (J 20 (n - 1).toNat) (J 21 (n - 1).toNat) x t by omega)]; rfl
        · rw [if_neg c4, if_pos (show lgBad top n (J 20 (n - 1).toNat) (J 21 (n - 1).toNat) x t by omega)]; rfl
      · rw [if_neg c3, tl, if_neg (show ¬ lgBad top n (J 20 (n - 1).toNat) (J 21 (n - 1).toNat) x t by omega)]
    · rw [if_pos c2, if_pos (show lgBad top n (J 20 (n - 1).toNat) (J 21 (n - 1).toNat) x t by omega)]; rfl
  · rw [if_pos (show lgBad top n (J 20 (n - 1).toNat) (J 21 (n - 1).toNat) x t by omega)]
    by_cases c2 : x < 0
    · rw [if_pos c2]; rfl
    · rw [if_neg c2, if_pos (show top < x by omega)]; rfl
theorem m_logged {J : am_J} {top n x t : Int} (e0 : J 66 0 = top) (en : J 68 6 = n) (ht0 : 0 ≤ top ∧ top ≤ 8) (hn : 0 ≤ n ∧ n ≤ 12) (hR : 0 < n → am_i32 (J 68 (7 + 2 * (n - 1)).toNat) ∧ am_i32 (J 68 (7 + 2 * (n - 1) + 1).toNat)) (hx : am_i32 x) (ht : am_i32 t) : f_UpRiverModel_logged x t J = if lgBad top n (J 68 (7 + 2 * (n - 1)).toNat) (J 68 (7 + 2 * (n - 1) + 1).toNat) x t then some (-1, J) else if n < 12 then some (n + 1, lgM J n x t) else some (-3, J) := by
  have L61 : f_UpRiverModel_logged_L61 x t n J = if n < 12 then some (n + 1, lgM J n x t) else some (-3, J) := by
    unfold f_UpRiverModel_logged_L61 lgM
    rw [if_pos (show am_i32 n by omega)]
    by_cases c0 : n < 12
    · rw [if_pos c0, if_neg (show ¬ n = 12 by omega), if_pos (show 0 ≤ 7 + 2 * n ∧ 7 + 2 * n < 216 by omega), if_pos (show 0 ≤ 7 + 2 * n + 1 ∧ 7 + 2 * n + 1 < 216 by omega)]
    · rw [if_neg c0, if_pos (show n = 12 by omega)]
  unfold f_UpRiverModel_logged
  rw [show (0 : Int64) = am_i2l 0 from rfl, e0, m_in hx (by decide) (by omega), m_isMinute ht, en, L61]
  simp only [Option.bind_some, fl_32, if_true, fl_0]
  by_cases c1 : 0 ≤ x ∧ x ≤ top
  · rw [if_neg (show ¬ ¬ (0 ≤ x ∧ x ≤ top) from fun z => z c1)]
    by_cases c2 : 0 ≤ t ∧ t ≤ 300
    · rw [if_neg (show ¬ ¬ (0 ≤ t ∧ t ≤ 300) from fun z => z c2), if_pos (show am_i32 n by omega)]
      by_cases c3 : 0 < n
      · obtain ⟨g1, g2⟩ := hR c3
        unfold f_UpRiverModel_logOf
        rw [if_pos c3, if_pos (show 0 ≤ 7 + 2 * (n - 1) + 0 ∧ 7 + 2 * (n - 1) + 0 < 216 by omega), if_pos (show 0 ≤ 7 + 2 * (n - 1) + 1 ∧ 7 + 2 * (n - 1) + 1 < 216 by omega), Int.add_zero]
        simp only [Option.bind_some]
        rw [if_pos g1, if_pos hx, if_pos g2, if_pos ht]
        by_cases c4 : J 68 (7 + 2 * (n - 1)).toNat < x
        · rw [if_pos c4]
          by_cases c5 : J 68 (7 + 2 * (n - 1) + 1).toNat < t
          · rw [if_pos c5, if_neg (show ¬ lgBad top n (J 68 (7 + 2 * (n - 1)).toNat) (J 68 (7 + 2 * (n - 1) + 1).toNat) x t by omega)]
          · rw [if_neg c5, if_pos (show lgBad top n (J 68 (7 + 2 * (n - 1)).toNat) (J 68 (7 + 2 * (n - 1) + 1).toNat) x t by omega)]
        · rw [if_neg c4, if_pos (show lgBad top n (J 68 (7 + 2 * (n - 1)).toNat) (J 68 (7 + 2 * (n - 1) + 1).toNat) x t by omega)]
      · rw [if_neg c3, if_neg (show ¬ lgBad top n (J 68 (7 + 2 * (n - 1)).toNat) (J 68 (7 + 2 * (n - 1) + 1).toNat) x t by omega)]
    · rw [if_pos c2, if_pos (show lgBad top n (J 68 (7 + 2 * (n - 1)).toNat) (J 68 (7 + 2 * (n - 1) + 1).toNat) x t by omega)]
  · rw [if_pos c1, if_pos (show lgBad top n (J 68 (7 + 2 * (n - 1)).toNat) (J 68 (7 + 2 * (n - 1) + 1).toNat) x t by omega)]
/-- the two logs hold the same n entries -/
def lg2 (J J2 : am_J) (top n : Int) : Prop := (0 ≤ n ∧ n ≤ 12) ∧ (∀ i : Nat, (i : Int) < n → J 20 i = J2 68 (7 + 2 * i) ∧ J 21 i = J2 68 (8 + 2 * i) ∧ 0 ≤ J 20 i ∧ J 20 i ≤ top ∧ 0 ≤ J 21 i ∧ J 21 i ≤ 300) ∧ (∀ i : Nat, (i : Int) + 1 < n → J 20 i < J 20 (i + 1) ∧ J 21 i < J 21 (i + 1))
theorem lg2_less {J J2 : am_J} {top n m : Int} (h : lg2 J J2 top n) (h0 : 0 ≤ m) (hm : m ≤ n) : lg2 J J2 top m := ⟨by have := h.1; omega, fun i hi => h.2.1 i (by omega), fun i hi => h.2.2 i (by omega)⟩
theorem lg2_cong {J J' J2 J2' : am_J} {top n : Int} (h : lg2 J J2 top n) (e1 : J' 20 = J 20) (e2 : J' 21 = J 21) (e3 : ∀ j : Nat, 7 ≤ j → j < 31 → J2' 68 j = J2 68 j) : lg2 J' J2' top n := by
  refine ⟨h.1, fun i hi => ?_, fun i hi => ?_⟩
  · have h1 := h.1
    rw [e1, e2, e3 _ (by omega) (by omega), e3 _ (by omega) (by omega)]
    exact h.2.1 i hi
  · rw [e1, e2]
    exact h.2.2 i hi
theorem lg2_put {J J2 : am_J} {top n x t : Int} (h : lg2 J J2 top n) (hn : n < 12) (hb : ¬ lgBad top n (J 20 (n - 1).toNat) (J 21 (n - 1).toNat) x t) : lg2 (lgC J n x t) (lgM J2 n x t) top (n + 1) := by
  obtain ⟨h1, h2, h3⟩ := h
  have c20 : lgC J n x t 20 n.toNat = x := by unfold lgC; rw [up_row (by decide), up_row (by decide), up_at]
  have c21 : lgC J n x t 21 n.toNat = t := by unfold lgC; rw [up_row (by decide), up_at]
  have c20n : ∀ i, i ≠ n.toNat → lgC J n x t 20 i = J 20 i := fun i hi => by unfold lgC; rw [up_row (by decide), up_row (by decide), up_ne hi]
  have c21n : ∀ i, i ≠ n.toNat → lgC J n x t 21 i = J 21 i := fun i hi => by unfold lgC; rw [up_row (by decide), up_ne hi, up_row (by decide)]
  have mx : lgM J2 n x t 68 (7 + 2 * n).toNat = x := by unfold lgM; rw [up_ne (by omega), up_ne (by omega), up_at]
  have mt : lgM J2 n x t 68 (7 + 2 * n + 1).toNat = t := by unfold lgM; rw [up_ne (by omega), up_at]
  have mn : ∀ j, j ≠ 6 → j ≠ (7 + 2 * n).toNat → j ≠ (7 + 2 * n + 1).toNat → lgM J2 n x t 68 j = J2 68 j := fun j j1 j2 j3 => by unfold lgM; rw [up_ne j1, up_ne j3, up_ne j2]
  refine ⟨by omega, fun i hi => ?_, fun i hi => ?_⟩
  · by_cases e : i = n.toNat
    · rw [e, c20, c21, show 7 + 2 * n.toNat = (7 + 2 * n).toNat by omega, show 8 + 2 * n.toNat = (7 + 2 * n + 1).toNat by omega, mx, mt]
      exact ⟨rfl, rfl, by omega, by omega, by omega, by omega⟩
    · rw [c20n i e, c21n i e, mn _ (by omega) (by omega) (by omega), mn _ (by omega) (by omega) (by omega)]
      exact h2 i (by omega)
  · rw [c20n i (by omega), c21n i (by omega)]
    by_cases e : i + 1 = n.toNat
    · rw [e, c20, c21, show i = (n - 1).toNat by omega]
      omega
    · rw [c20n _ e, c21n _ e]
      exact h3 i (by omega)
