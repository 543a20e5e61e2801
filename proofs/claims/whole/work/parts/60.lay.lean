/-! lay, torn, count -/
theorem l_lt (a b : Int64) : am_lcmp a b < 0 ↔ a.toInt < b.toInt := by
  rw [lcmp_neg, Int64.lt_iff_toInt_lt]
theorem c_hasCell {o : Nat} {J : am_J} (h : -4 ≤ J o 2 ∧ J o 2 ≤ 40) (y : Int64) : f_Sheet_hasCell o J y = some (fl (0 ≤ y.toInt ∧ y.toInt < J o 2)) := by
  unfold f_Sheet_hasCell
  rw [if_pos (am_lcmp32 _ _), if_pos (am_lcmp32 _ _), if_pos (am_lcmp32 _ _)]
  have e0 : am_lcmp y 0 < 0 ↔ y.toInt < 0 := l_lt y 0
  have e1 : am_lcmp y (am_i2l (J o 2)) < 0 ↔ y.toInt < J o 2 := by rw [l_lt, i2l_ti (by omega)]
  have e2 : am_lcmp y 40 < 0 ↔ y.toInt < 40 := l_lt y 40
  by_cases c0 : y.toInt < 0
  · rw [if_pos (e0.mpr c0), fl_f (by omega)]
  · rw [if_neg (fun z => c0 (e0.mp z))]
    by_cases c1 : y.toInt < J o 2
    · rw [if_pos (e1.mpr c1), if_pos (e2.mpr (by omega)), fl_t (by omega)]
    · rw [if_neg (fun z => c1 (e1.mp z)), fl_f (by omega)]
theorem i2b_32 (x : Int) : am_i32 (am_i2b x) := am_toInt32 _
theorem i2s_32 (x : Int) : am_i32 (am_i2s x) := am_toInt32 _
theorem sh1_b {J : am_J} {k : Nat} (h : sh1 J k) : -4 ≤ J (57 + 2 * k) 2 ∧ J (57 + 2 * k) 2 ≤ 40 := by
  rcases h with h | h <;> omega
def layV (kd z : Int) : Int := if kd = 0 then am_i2b z else if kd = 1 then am_i2s z else z
theorem layV_32 {kd z : Int} (hz : am_i32 z) : am_i32 (layV kd z) := by
  unfold layV
  split
  · exact i2b_32 z
  · split
    · exact i2s_32 z
    · exact hz
theorem e_lay {J : am_J} {x y z : Int} (h : sS J) (hx : am_i32 x) (hy : am_i32 y) (hz : am_i32 z) : ∃ r J' J2, f_UpRiver_lay x y z J = some (r, J') ∧ f_UpRiverModel_lay x y z J' = some (r, J2) ∧ am_i32 r ∧ sS J2 := by
  by_cases c0 : 0 ≤ x ∧ x ≤ 3
  · have hk := h x.toNat (by omega)
    have hb := sh1_b hk
    have cl : f_UpRiver_lay x y z J = if am_i32 (J (57 + 2 * x.toNat) 2) then (if (J (57 + 2 * x.toNat) 2) = (-4) then (some ((-11), J)) else ((f_Sheet_put (57 + 2 * x.toNat) y z J).bind fun q => if am_i32 q.1 then (if q.1 = 0 then (some ((-12), q.2)) else (some (1, q.2))) else none)) else none := by
      unfold f_UpRiver_lay
      rw [c_isSheet hx]
      simp only [Option.bind_some, fl_32, if_true, fl_0]
      rw [if_neg (show ¬ ¬ (0 ≤ x ∧ x ≤ 3) from fun w => w c0)]
      have hc : x = 0 ∨ x = 1 ∨ x = 2 ∨ x = 3 := by omega
      rcases hc with rfl | rfl | rfl | rfl <;> rfl
    have ml : ∀ A : am_J, f_UpRiverModel_lay x y z A = if am_i32 (A 75 x.toNat) then (if (A 75 x.toNat) = (-4) then (some ((-11), A)) else ((f_UpRiverModel_in (am_i2l y) (0 : Int64) (am_i2l ((A 76 x.toNat) - 1))).bind fun q2873 => if am_i32 q2873 then (if q2873 = 0 then (some ((-12), A)) else (if (A 75 x.toNat) = 0 then (if 0 ≤ ((40 * x) + y) ∧ ((40 * x) + y) < 160 then (some (1, (am_up A 77 (((40 * x) + y).toNat) (am_i2b z)))) else none) else (if (A 75 x.toNat) = 1 then (if 0 ≤ ((40 * x) + y) ∧ ((40 * x) + y) < 160 then (some (1, (am_up A 77 (((40 * x) + y).toNat) (am_i2s z)))) else none) else (if 0 ≤ ((40 * x) + y) ∧ ((40 * x) + y) < 160 then (some (1, (am_up A 77 (((40 * x) + y).toNat) z))) else none)))) else none)) else none := by
      intro A
      unfold f_UpRiverModel_lay
      rw [m_isSheet hx (by decide)]
      simp only [Option.bind_some, fl_32, if_true, fl_0]
      rw [if_neg (show ¬ ¬ ((0 ≤ x ∧ x ≤ 3) ∧ ((0 : Int) ≤ 0 ∧ (0 : Int) ≤ 2)) from fun w => w ⟨c0, by decide⟩), if_pos (show 0 ≤ x ∧ x < 4 by omega)]
    rw [if_pos (show am_i32 (J (57 + 2 * x.toNat) 2) by omega)] at cl
    rcases hk with ⟨k1, k2⟩ | ⟨k1, k2, k3, k4, k5⟩
    · rw [if_pos k1] at cl
      exact ⟨-11, J, J, cl, by rw [ml, k2, if_pos (show am_i32 (-4) by decide), if_pos rfl], by decide, h⟩
    · rw [if_neg (show ¬ J (57 + 2 * x.toNat) 2 = -4 by omega)] at cl
      have pt : f_Sheet_put (57 + 2 * x.toNat) y z J = if 0 ≤ y ∧ y < J (57 + 2 * x.toNat) 2 then some (1, am_up J (57 + 2 * x.toNat + 1) y.toNat (layV (J (57 + 2 * x.toNat) 1) z)) else some (0, J) := by
        unfold f_Sheet_put layV
        rw [c_hasCell hb, i2l_ti hy]
        simp only [Option.bind_some, fl_32, if_true, fl_0]
        by_cases c1 : 0 ≤ y ∧ y < J (57 + 2 * x.toNat) 2
        · rw [if_neg (show ¬ ¬ (0 ≤ y ∧ y < J (57 + 2 * x.toNat) 2) from fun w => w c1), if_pos c1, if_pos (show am_i32 (J (57 + 2 * x.toNat) 1) by omega), if_pos (show 0 ≤ y ∧ y < 40 by omega), if_pos (show 0 ≤ y ∧ y < 40 by omega), if_pos (show 0 ≤ y ∧ y < 40 by omega)]
          by_cases c2 : J (57 + 2 * x.toNat) 1 = 0
          · rw [if_pos c2, if_pos c2]
          · rw [if_neg c2, if_neg c2]
            by_cases c3 : J (57 + 2 * x.toNat) 1 = 1
            · rw [if_pos c3, if_pos c3]
            · rw [if_neg c3, if_neg c3]
        · rw [if_pos c1, if_neg c1]
      have mi1 : ∀ A : am_J, A 75 = J 75 → A 76 = J 76 → f_UpRiverModel_lay x y z A = if 0 ≤ y ∧ y < J (57 + 2 * x.toNat) 2 then some (1, am_up A 77 (40 * x.toNat + y.toNat) (layV (J (57 + 2 * x.toNat) 1) z)) else some (-12, A) := by
        intro A a75 a76
        unfold layV
        rw [ml, a75, a76, k3, k4, if_pos (show am_i32 (J (57 + 2 * x.toNat) 1) by omega), if_neg (show ¬ J (57 + 2 * x.toNat) 1 = -4 by omega), show (0 : Int64) = am_i2l 0 from rfl, m_in hy (by decide) (by omega)]
        simp only [Option.bind_some, fl_32, if_true, fl_0]
        by_cases c1 : 0 ≤ y ∧ y < J (57 + 2 * x.toNat) 2
        · rw [if_neg (show ¬ ¬ (0 ≤ y ∧ y ≤ J (57 + 2 * x.toNat) 2 - 1) from fun w => w (by omega)), if_pos c1, if_pos (show 0 ≤ 40 * x + y ∧ 40 * x + y < 160 by omega), if_pos (show 0 ≤ 40 * x + y ∧ 40 * x + y < 160 by omega), if_pos (show 0 ≤ 40 * x + y ∧ 40 * x + y < 160 by omega), show (40 * x + y).toNat = 40 * x.toNat + y.toNat by omega]
          by_cases c2 : J (57 + 2 * x.toNat) 1 = 0
          · rw [if_pos c2, if_pos c2]
          · rw [if_neg c2, if_neg c2]
            by_cases c3 : J (57 + 2 * x.toNat) 1 = 1
            · rw [if_pos c3, if_pos c3]
            · rw [if_neg c3, if_neg c3]
        · rw [if_pos (show ¬ (0 ≤ y ∧ y ≤ J (57 + 2 * x.toNat) 2 - 1) by omega), if_neg c1]
      rw [pt] at cl
      by_cases c1 : 0 ≤ y ∧ y < J (57 + 2 * x.toNat) 2
      · rw [if_pos c1] at cl
        have cl2 : f_UpRiver_lay x y z J = some (1, am_up J (57 + 2 * x.toNat + 1) y.toNat (layV (J (57 + 2 * x.toNat) 1) z)) := cl
        have m2 := mi1 (am_up J (57 + 2 * x.toNat + 1) y.toNat (layV (J (57 + 2 * x.toNat) 1) z)) (up_row (by omega)) (up_row (by omega))
        rw [if_pos c1] at m2
        refine ⟨1, _, _, cl2, m2, by decide, fun i hi => ?_⟩
        have v32 := layV_32 (kd := J (57 + 2 * x.toNat) 1) hz
        generalize layV (J (57 + 2 * x.toNat) 1) z = w at v32
        by_cases e : i = x.toNat
        · refine Or.inr ?_
          rw [e, up_row (show 57 + 2 * x.toNat ≠ 77 by omega), up_row (show 57 + 2 * x.toNat ≠ 57 + 2 * x.toNat + 1 by omega), up_row (show 75 ≠ 77 by decide), up_row (show 75 ≠ 57 + 2 * x.toNat + 1 by omega), up_row (show 76 ≠ 77 by decide), up_row (show 76 ≠ 57 + 2 * x.toNat + 1 by omega)]
          refine ⟨k1, k2, k3, k4, fun j hj => ?_⟩
          rw [up_row (show 57 + 2 * x.toNat + 1 ≠ 77 by omega)]
          by_cases f : j = y.toNat
          · rw [f, up_at, up_at]
            exact ⟨rfl, v32⟩
          · rw [up_ne f, up_ne (by omega), up_row (by omega)]
            exact k5 j hj
        · refine sh1_cong (h i hi) ?_ ?_ ?_ ?_ fun j hj => ?_
          · rw [up_row (by omega), up_row (by omega)]
          · rw [up_row (by omega), up_row (by omega)]
          · rw [up_row (by omega), up_row (by omega)]
          · rw [up_row (by omega), up_row (by omega)]
          · rw [up_ne (by omega), up_row (by omega)]
      · rw [if_neg c1] at cl
        have m2 := mi1 J rfl rfl
        rw [if_neg c1] at m2
        exact ⟨-12, J, J, cl, m2, by decide, h⟩
  · refine ⟨-1, J, J, ?_, ?_, by decide, h⟩
    · unfold f_UpRiver_lay
      rw [c_isSheet hx]
      simp only [Option.bind_some, fl_32, if_true, fl_0]
      rw [if_pos c0]
    · unfold f_UpRiverModel_lay
      rw [m_isSheet hx (by decide)]
      simp only [Option.bind_some, fl_32, if_true, fl_0]
      rw [if_pos (show ¬ ((0 ≤ x ∧ x ≤ 3) ∧ ((0 : Int) ≤ 0 ∧ (0 : Int) ≤ 2)) from fun w => c0 w.1)]
/-! count -/
def sumN (f : Nat → Int) : Nat → Int
  | 0 => 0
  | n + 1 => sumN f n + f n
theorem sumN_bd {f : Nat → Int} : ∀ n : Nat, (∀ i, i < n → f i = 0 ∨ f i = 1) → 0 ≤ sumN f n ∧ sumN f n ≤ n := by
  intro n
  induction n with
  | zero => intro _; exact ⟨by unfold sumN; omega, by unfold sumN; omega⟩
  | succ n ih =>
    intro h
    have h1 := ih fun i hi => h i (by omega)
    have h2 := h n (by omega)
    unfold sumN
    omega
theorem sumN_cong {f g : Nat → Int} : ∀ n : Nat, (∀ i, i < n → f i = g i) → sumN f n = sumN g n := by
  intro n
  induction n with
  | zero => intro _; rfl
  | succ n ih =>
    intro h
    unfold sumN
    rw [ih fun i hi => h i (by omega), h n (by omega)]
theorem sumN_tail {f : Nat → Int} {m : Nat} : ∀ n : Nat, m ≤ n → (∀ i, m ≤ i → i < n → f i = 0) → sumN f n = sumN f m := by
  intro n
  induction n with
  | zero => intro h _; rw [show m = 0 by omega]
  | succ n ih =>
    intro h hz
    by_cases e : m = n + 1
    · rw [e]
    · show sumN f n + f n = sumN f m
      rw [hz n (by omega) (by omega), ih (by omega) fun i h1 h2 => hz i h1 (by omega)]
      omega
theorem how_loop {o : Nat} {J : am_J} {N : Nat} (hN : am_ln o = N) (hN2 : N ≤ 100) (h : ∀ i, i < N → J o i = 0 ∨ J o i = 1) : ∀ (k n i : Nat), k < n → i + k = N → f_UpRiver_howMany_L10 o J n (sumN (J o) i) (N : Int) (i : Int) = some (sumN (J o) N) := by
  intro k
  induction k with
  | zero =>
    intro n i hn hi
    obtain ⟨n, rfl⟩ : ∃ m, n = m + 1 := ⟨n - 1, by omega⟩
    rw [f_UpRiver_howMany_L10.eq_2, if_pos (show am_i32 (N : Int) by omega), if_pos (show am_i32 (i : Int) by omega), if_neg (show ¬ (i : Int) < N by omega), show i = N by omega]
  | succ k ih =>
    intro n i hn hi
    obtain ⟨n, rfl⟩ : ∃ m, n = m + 1 := ⟨n - 1, by omega⟩
    rw [f_UpRiver_howMany_L10.eq_2, if_pos (show am_i32 (N : Int) by omega), if_pos (show am_i32 (i : Int) by omega), if_pos (show (i : Int) < N by omega), hN, if_pos (show 0 ≤ (i : Int) ∧ (i : Int) < N by omega), show ((i : Int)).toNat = i from rfl, c_asInt (h i (by omega))]
    simp only [Option.bind_some]
    exact ih n (i + 1) (by omega) (by omega)
/-- nothing is told of reaches that aren't -/
def sV (v : Nat → Int) : Prop := (∀ r : Nat, v 0 ≤ (r : Int) → r < 8 → v (31 + r) = 0) ∧ (∀ k : Nat, 9 * v 0 ≤ (k : Int) → k < 72 → v (163 + k) = 0)
theorem cnt41 {J : am_J} (hv : rv_ok (J 66)) {x e : Int} : ∀ (k n i : Nat), k < n → (J 66 0).toNat = i + k → f_UpRiverModel_count_L41 J n x e (sumN (fun r => J 66 (31 + r)) i) (i : Int) = f_UpRiverModel_count_L41 J (n - k) x e (sumN (fun r => J 66 (31 + r)) (J 66 0).toNat) (((J 66 0).toNat : Nat) : Int) := by
  have hm := hv.1.1
  intro k
  induction k with
  | zero =>
    intro n i hn hi
    rw [show i = (J 66 0).toNat by omega, Nat.sub_zero]
  | succ k ih =>
    intro n i hn hi
    obtain ⟨n, rfl⟩ : ∃ m, n = m + 1 := ⟨n - 1, by omega⟩
    rw [f_UpRiverModel_count_L41.eq_2, if_pos (show am_i32 (J 66 0) by omega), if_pos (show am_i32 (i : Int) by omega), if_pos (show (i : Int) < J 66 0 by omega), if_pos (show 0 ≤ 31 + (i : Int) ∧ 31 + (i : Int) < 295 by omega), show (31 + (i : Int)).toNat = 31 + i by omega, show n + 1 - (k + 1) = n - k by omega]
    exact ih n (i + 1) (by omega) (by omega)
theorem cnt4 {J : am_J} (hv : rv_ok (J 66)) {x : Int} : ∀ (k n i : Nat), k < n → (9 * J 66 0).toNat = i + k → f_UpRiverModel_count_L4 J n x (sumN (fun r => J 66 (163 + r)) i) (i : Int) = f_UpRiverModel_count_L41 J am_FU x (sumN (fun r => J 66 (163 + r)) (9 * J 66 0).toNat) 0 0 := by
  have hm := hv.1.1
  intro k
  induction k with
  | zero =>
    intro n i hn hi
    obtain ⟨n, rfl⟩ : ∃ m, n = m + 1 := ⟨n - 1, by omega⟩
    rw [f_UpRiverModel_count_L4.eq_2, if_pos (show am_i32 (9 * J 66 0) by omega), if_pos (show am_i32 (i : Int) by omega), if_neg (show ¬ (i : Int) < 9 * J 66 0 by omega), show i = (9 * J 66 0).toNat by omega]
  | succ k ih =>
    intro n i hn hi
    obtain ⟨n, rfl⟩ : ∃ m, n = m + 1 := ⟨n - 1, by omega⟩
    rw [f_UpRiverModel_count_L4.eq_2, if_pos (show am_i32 (9 * J 66 0) by omega), if_pos (show am_i32 (i : Int) by omega), if_pos (show (i : Int) < 9 * J 66 0 by omega), if_pos (show 0 ≤ 163 + (i : Int) ∧ 163 + (i : Int) < 295 by omega), show (163 + (i : Int)).toNat = 163 + i by omega]
    exact ih n (i + 1) (by omega) (by omega)
theorem e_count {b : Bool} {J : am_J} {x : Int} (hr : sR b J) (hV : sV (J 66)) (hl : sLg J) (hw : sW J) (hi : sI J) (ht : sT J) (hs : sS J) (hx : am_i32 x) : ∃ r, f_UpRiver_count b J x = some r ∧ f_UpRiverModel_count J x = some r ∧ am_i32 r := by
  obtain ⟨h, q, e15⟩ := hr
  have hm := h.1.1
  have l9 : am_ln (am_rv b + 9) = 72 := by cases b <;> rfl
  have l7 : am_ln (am_rv b + 7) = 8 := by cases b <;> rfl
  have s9 : ∀ i, i < 72 → J (am_rv b + 9) i = 0 ∨ J (am_rv b + 9) i = 1 := by
    intro i hi
    rw [(q.2.2.2 i hi).2]
    exact (h.2.2.1 i hi).2.2
  have s7 : ∀ i, i < 8 → J (am_rv b + 7) i = 0 ∨ J (am_rv b + 7) i = 1 := by
    intro i hi
    rw [(q.2.2.1 i hi).2.2.2]
    exact (h.2.1 i hi).2.2.2.1
  have h9 : f_UpRiver_howMany (am_rv b + 9) J = some (sumN (J (am_rv b + 9)) 72) := by
    unfold f_UpRiver_howMany
    rw [l9]
    exact how_loop l9 (by omega) s9 72 am_FU 0 (by decide) (by omega)
  have h7 : f_UpRiver_howMany (am_rv b + 7) J = some (sumN (J (am_rv b + 7)) 8) := by
    unfold f_UpRiver_howMany
    rw [l7]
    exact how_loop l7 (by omega) s7 8 am_FU 0 (by decide) (by omega)
  have e9 : sumN (fun r => J 66 (163 + r)) (9 * J 66 0).toNat = sumN (J (am_rv b + 9)) 72 := by
    rw [← sumN_tail (m := (9 * J 66 0).toNat) 72 (by omega) (fun i i1 i2 => hV.2 i (by omega) i2)]
    exact sumN_cong 72 fun i hi => ((q.2.2.2 i hi).2).symm
  have e7 : sumN (fun r => J 66 (31 + r)) (J 66 0).toNat = sumN (J (am_rv b + 7)) 8 := by
    rw [← sumN_tail (m := (J 66 0).toNat) 8 (by omega) (fun i i1 i2 => hV.1 i (by omega) i2)]
    exact sumN_cong 8 fun i hi => ((q.2.2.1 i hi).2.2.2).symm
  have b9 := sumN_bd (f := J (am_rv b + 9)) 72 s9
  have b7 := sumN_bd (f := J (am_rv b + 7)) 8 s7
  have mdl : f_UpRiverModel_count J x = (if x = 0 then (some (J 68 6)) else (if x = 1 then (some (J 68 31)) else (if x = 2 then (some (sumN (J (am_rv b + 9)) 72)) else (if x = 3 then (some (sumN (J (am_rv b + 7)) 8)) else (if x = 4 then ((f_UpRiverModel_flag (J 69 0)).bind fun q2926 => (f_UpRiverModel_flag (J 69 1)).bind fun q2928 => some (q2926 + q2928)) else (if x = 5 then (some (J 65 8)) else (if x = 6 then (if am_i32 (J 75 0) then (if (J 75 0) = (-4) then (some (-4)) else (some (J 76 0))) else none) else (some (-1))))))))) := by
    unfold f_UpRiverModel_count
    have a1 := cnt4 h (x := x) (9 * J 66 0).toNat am_FU 0 (by have : am_FU = 20000 := rfl; omega) (by omega)
    have a2 := cnt41 h (x := x) (e := sumN (fun r => J 66 (163 + r)) (9 * J 66 0).toNat) (J 66 0).toNat am_FU 0 (by have : am_FU = 20000 := rfl; omega) (by omega)
    have a3 := a1.trans a2
    refine a3.trans ?_
    rw [e9, e7]
    obtain ⟨n, hn⟩ : ∃ m, am_FU - (J 66 0).toNat = m + 1 := ⟨am_FU - (J 66 0).toNat - 1, by have : am_FU = 20000 := rfl; omega⟩
    rw [hn, f_UpRiverModel_count_L41.eq_2, if_pos (show am_i32 (J 66 0) by omega), if_pos (show am_i32 (((J 66 0).toNat : Nat) : Int) by omega), if_neg (show ¬ (((J 66 0).toNat : Nat) : Int) < J 66 0 by omega), if_pos hx]
  obtain ⟨⟨i1, i2, -⟩, k1, k2, -⟩ := hi
  rw [mdl]
  unfold f_UpRiver_count
  rw [if_pos hx, h9, h7, c_asInt i1, c_asInt k1, m_flag (by rw [← i2]; exact i1), m_flag (by rw [← k2]; exact k1), ← i2, ← k2, hl.1, hw.1, ht.1]
  simp only [Option.bind_some]
  have n1 := hl.2.1
  have n2 := hl.2.2.1
  have n3 := hw.2.1
  have n4 := hw.2.2.1
  have n5 := ht.2.1
  have n6 := ht.2.2.1
  rw [hl.1] at n1 n2
  rw [hw.1] at n3 n4
  rw [ht.1] at n5 n6
  by_cases c0 : x = 0
  · rw [if_pos c0, if_pos c0]; exact ⟨_, rfl, rfl, by omega⟩
  rw [if_neg c0, if_neg c0]
  by_cases c1 : x = 1
  · rw [if_pos c1, if_pos c1]; exact ⟨_, rfl, rfl, by omega⟩
  rw [if_neg c1, if_neg c1]
  by_cases c2 : x = 2
  · rw [if_pos c2, if_pos c2]; exact ⟨_, rfl, rfl, by omega⟩
  rw [if_neg c2, if_neg c2]
  by_cases c3 : x = 3
  · rw [if_pos c3, if_pos c3]; exact ⟨_, rfl, rfl, by omega⟩
  rw [if_neg c3, if_neg c3]
  by_cases c4 : x = 4
  · rw [if_pos c4, if_pos c4]; exact ⟨_, rfl, rfl, by omega⟩
  rw [if_neg c4, if_neg c4]
  by_cases c5 : x = 5
  · rw [if_pos c5, if_pos c5]; exact ⟨_, rfl, rfl, by omega⟩
  rw [if_neg c5, if_neg c5]
  by_cases c6 : x = 6
  · rw [if_pos c6, if_pos c6]
    have hs0 := hs 0 (by omega)
    unfold sh1 at hs0
    simp only [Nat.mul_zero, Nat.add_zero] at hs0
    rcases hs0 with ⟨k1, k2⟩ | ⟨k1, k2, k3, k4, -⟩
    · rw [k2, if_pos (show am_i32 (-4) by decide), if_pos rfl]
      exact ⟨_, rfl, by rw [k1], by omega⟩
    · rw [if_pos (show am_i32 (J 75 0) by omega), if_neg (show ¬ J 75 0 = -4 by omega)]
      exact ⟨_, rfl, by rw [k4], by omega⟩
  rw [if_neg c6, if_neg c6]
  exact ⟨_, rfl, rfl, by decide⟩
