/-! sheets -/
def sh1 (J : am_J) (k : Nat) : Prop := (J (57 + 2 * k) 2 = -4 ∧ J 75 k = -4) ∨ ((0 ≤ J (57 + 2 * k) 2 ∧ J (57 + 2 * k) 2 ≤ 40) ∧ (0 ≤ J (57 + 2 * k) 1 ∧ J (57 + 2 * k) 1 ≤ 2) ∧ J 75 k = J (57 + 2 * k) 1 ∧ J 76 k = J (57 + 2 * k) 2 ∧ ∀ i, i < 40 → J (57 + 2 * k + 1) i = J 77 (40 * k + i) ∧ am_i32 (J (57 + 2 * k + 1) i))
def sS (J : am_J) : Prop := ∀ k, k < 4 → sh1 J k
theorem sh1_cong {J J' : am_J} {k : Nat} (h : sh1 J k) (e1 : J' (57 + 2 * k) = J (57 + 2 * k)) (e2 : J' (57 + 2 * k + 1) = J (57 + 2 * k + 1)) (e3 : J' 75 k = J 75 k) (e4 : J' 76 k = J 76 k) (e5 : ∀ i, i < 40 → J' 77 (40 * k + i) = J 77 (40 * k + i)) : sh1 J' k := by
  unfold sh1
  rw [e1, e2, e3, e4]
  rcases h with h | ⟨a, b, c, d, f⟩
  · exact Or.inl h
  · refine Or.inr ⟨a, b, c, d, fun i hi => ?_⟩
    rw [e5 i hi]
    exact f i hi
theorem c_isSheet {x : Int} (hx : am_i32 x) : f_UpRiver_isSheet x = some (fl (0 ≤ x ∧ x ≤ 3)) := by
  unfold f_UpRiver_isSheet
  rw [if_pos hx]
  by_cases a : x < 0
  · rw [if_pos a, fl_f (by omega)]
  · rw [if_neg a]
    by_cases c : x < 4
    · rw [if_pos c, fl_t (by omega)]
    · rw [if_neg c, fl_f (by omega)]
theorem c_isKind {x : Int} (hx : am_i32 x) : f_Sheet_isKind x = some (fl (0 ≤ x ∧ x ≤ 2)) := by
  unfold f_Sheet_isKind
  rw [if_pos hx]
  by_cases a : x < 0
  · rw [if_pos a, fl_f (by omega)]
  · rw [if_neg a]
    by_cases c : 2 < x
    · rw [if_pos c, fl_f (by omega)]
    · rw [if_neg c, fl_t (by omega)]
theorem m_isSheet {x y : Int} (hx : am_i32 x) (hy : am_i32 y) : f_UpRiverModel_isSheet x y = some (fl ((0 ≤ x ∧ x ≤ 3) ∧ (0 ≤ y ∧ y ≤ 2))) := by
  unfold f_UpRiverModel_isSheet
  rw [show (0 : Int64) = am_i2l 0 from rfl, show (3 : Int64) = am_i2l 3 from rfl, show (2 : Int64) = am_i2l 2 from rfl, m_in hx (by decide) (by decide), m_in hy (by decide) (by decide)]
  simp only [Option.bind_some, fl_32, if_true, fl_0]
  by_cases a : 0 ≤ x ∧ x ≤ 3
  · rw [if_neg (show ¬ ¬ (0 ≤ x ∧ x ≤ 3) from fun z => z a)]
    by_cases b : 0 ≤ y ∧ y ≤ 2
    · rw [if_neg (show ¬ ¬ (0 ≤ y ∧ y ≤ 2) from fun z => z b), fl_t ⟨a, b⟩]
    · rw [if_pos b, fl_f (fun z => b z.2)]
  · rw [if_pos a, fl_f (fun z => a z.1)]
theorem renew_loop {o : Nat} : ∀ (k n x : Nat) (J : am_J), k < n → x + k = 40 → ∃ J', f_Sheet_renew_L12 o n (x : Int) J = some J' ∧ (∀ j, x ≤ j → j < 40 → J' (o + 1) j = 0) ∧ (∀ j, j < x → J' (o + 1) j = J (o + 1) j) ∧ (∀ a, a ≠ o + 1 → J' a = J a) := by
  intro k
  induction k with
  | zero =>
    intro n x J hn hx
    obtain ⟨n, rfl⟩ : ∃ m, n = m + 1 := ⟨n - 1, by omega⟩
    rw [f_Sheet_renew_L12.eq_2, if_pos (show am_i32 (x : Int) from ⟨by omega, by omega⟩), if_neg (show ¬ (x : Int) < 40 by omega)]
    exact ⟨J, rfl, fun j j1 j2 => by omega, fun _ _ => rfl, fun _ _ => rfl⟩
  | succ k ih =>
    intro n x J hn hx
    obtain ⟨n, rfl⟩ : ∃ m, n = m + 1 := ⟨n - 1, by omega⟩
    rw [f_Sheet_renew_L12.eq_2, if_pos (show am_i32 (x : Int) from ⟨by omega, by omega⟩), if_pos (show (x : Int) < 40 by omega), if_pos (show 0 ≤ (x : Int) ∧ (x : Int) < 40 by omega), show ((x : Int)).toNat = x from rfl]
    obtain ⟨J', a1, a2, a3, a4⟩ := ih n (x + 1) (am_up J (o + 1) x 0) (by omega) (by omega)
    refine ⟨J', a1, fun j j1 j2 => ?_, fun j hj => ?_, fun a ha => ?_⟩
    · by_cases e : j = x
      · rw [e, a3 _ (by omega), up_at]
      · exact a2 j (by omega) j2
    · rw [a3 j (by omega), up_ne (by omega)]
    · rw [a4 a ha, up_row ha]
theorem shm_loop {k : Nat} (hk : k < 4) : ∀ (m n x : Nat) (J : am_J), m < n → x + m = 40 → ∃ J', f_UpRiverModel_sheet_L40 n (k : Int) (x : Int) J = some (1, J') ∧ (∀ j, x ≤ j → j < 40 → J' 77 (40 * k + j) = 0) ∧ (∀ j, j < 40 * k + x ∨ 40 * k + 40 ≤ j → J' 77 j = J 77 j) ∧ (∀ a, a ≠ 77 → J' a = J a) := by
  intro m
  induction m with
  | zero =>
    intro n x J hn hx
    obtain ⟨n, rfl⟩ : ∃ m, n = m + 1 := ⟨n - 1, by omega⟩
    rw [f_UpRiverModel_sheet_L40.eq_2, if_pos (show am_i32 (x : Int) from ⟨by omega, by omega⟩), if_neg (show ¬ (x : Int) < 40 by omega)]
    exact ⟨J, rfl, fun j j1 j2 => by omega, fun _ _ => rfl, fun _ _ => rfl⟩
  | succ m ih =>
    intro n x J hn hx
    obtain ⟨n, rfl⟩ : ∃ m, n = m + 1 := ⟨n - 1, by omega⟩
    rw [f_UpRiverModel_sheet_L40.eq_2, if_pos (show am_i32 (x : Int) from ⟨by omega, by omega⟩), if_pos (show (x : Int) < 40 by omega), if_pos (show 0 ≤ 40 * (k : Int) + x ∧ 40 * (k : Int) + x < 160 by omega), show (40 * (k : Int) + x).toNat = 40 * k + x by omega]
    obtain ⟨J', a1, a2, a3, a4⟩ := ih n (x + 1) (am_up J 77 (40 * k + x) 0) (by omega) (by omega)
    refine ⟨J', a1, fun j j1 j2 => ?_, fun j hj => ?_, fun a ha => ?_⟩
    · by_cases e : j = x
      · rw [e, a3 _ (by omega), up_at]
      · exact a2 j (by omega) j2
    · rw [a3 j (by omega), up_ne (by omega)]
    · rw [a4 a ha, up_row ha]
