/-! sheets -/
def sh1 (J : am_J) (k : Nat) : Prop := (J (57 + 2 * k) 2 = -4 ∧ J 75 k = -4) ∨ ((0 ≤ J (57 + 2 * k) 2 ∧ J (57 + 2 * k) 2 ≤ 40) ∧ (0 ≤ J (57 + 2 * k) 1 ∧ J (57 + 2 * k) 1 ≤ 2) ∧ J 75 k = J (57 + 2 * k) 1 ∧ J 76 k = J (57 + 2 * k) 2 ∧ ∀ i, i < 40 → J (57 + 2 * k + 1) i = J 77 (40 * k + i) ∧ am_i32 (J (57 + 2 * k + 1) i))
def sS (J : am_J) : Prop := ∀ k, k < 4 → sh1 J k
theorem sh1_cong {J J' : am_J} {k : Nat} (h : sh1 J k) (e1 : J' (57 + 2 * k) = J (57 + 2 * k)) (e2 : J' (57 + 2 * k + 1) = J (57 + 2 * k + 1)) (e3 : J' 75 k = J 75 k) (e4 : J' 76 k = J 76 k) (e5 : ∀ i, i < 40 → J' 77 (40 * k + i) = J 77 (40 * k + i)) : sh1 J' k := by
  unfold sh1
  rw [e1, e2, e3, e4]
  rcases h with h | ⟨a, b, c, d, f⟩
  · exact Or.inl h
  · refine Or.inr ⟨a, b, c, d, fun i hi => ?_⟩
    rw [e5 i hi]
    exact f i hi
theorem c_isSheet {x : Int} (hx : am_i32 x) : f_UpRiver_isSheet x = some (fl (0 ≤ x ∧ x ≤ 3)) := by
  unfold f_UpRiver_isSheet
  rw [if_pos hx]
  by_cases a : x < 0
  · rw [if_pos a, fl_f (by omega)]
  · rw [if_neg a]
    by_cases c : x < 4
    · rw [if_pos c, fl_t (by omega)]
    · rw [if_neg c, fl_f (by omega)]
theorem c_isKind {x : Int} (hx : am_i32 x) : f_Sheet_isKind x = some (fl (0 ≤ x ∧ x ≤ 2)) := by
  unfold f_Sheet_isKind
  rw [if_pos hx]
  by_cases a : x < 0
  · rw [if_pos a, fl_f (by omega)]
  · rw [if_neg a]
    by_cases c : 2 < x
    · rw [if_pos c, fl_f (by omega)]
    · rw [if_neg c, fl_t (by omega)]
theorem m_isSheet {x y : Int} (hx : am_i32 x) (hy : am_i32 y) : f_UpRiverModel_isSheet x y = some (fl ((0 ≤ x ∧ x ≤ 3) ∧ (0 ≤ y ∧ y ≤ 2))) := by
  unfold f_UpRiverModel_isSheet
  rw [show (0 : Int64) = am_i2l 0 from rfl, show (3 : Int64) = am_i2l 3 from rfl, show (2 : Int64) = am_i2l 2 from rfl, m_in hx (by decide) (by decide), m_in hy (by decide) (by decide)]
  simp only [Option.bind_some, fl_32, if_true, fl_0]
  by_cases a : 0 ≤ x ∧ x ≤ 3
  · rw [if_neg (show ¬ ¬ (0 ≤ x ∧ x ≤ 3) from fun z => z a)]
    by_cases b : 0 ≤ y ∧ y ≤ 2
    · rw [if_neg (show ¬ ¬ (0 ≤ y ∧ y ≤ 2) from fun z => z b), fl_t ⟨a, b⟩]
    · rw [if_pos b, fl_f (fun z => b z.2)]
  · rw [if_pos a, fl_f (fun z => a z.1)]
theorem renew_loop {o : Nat} : ∀ (k n x : Nat) (J : am_J), k < n → x + k = 40 → ∃ J', f_Sheet_renew_L12 o n (x : Int) J = some J' ∧ (∀ j, x ≤ j → j < 40 → J' (o + 1) j = 0) ∧ (∀ j, j < x → J' (o + 1) j = J (o + 1) j) ∧ (∀ a, a ≠ o + 1 → J' a = J a) := by
  intro k
  induction k with
  | zero =>
    intro n x J hn hx
    obtain ⟨n, rfl⟩ : ∃ m, n = m + 1 := ⟨n - 1, by omega⟩
    rw [f_Sheet_renew_L12.eq_2, if_pos (show am_i32 (x : Int) from ⟨by omega, by omega⟩), if_neg (show ¬ (x : Int) < 40 by omega)]
    exact ⟨J, rfl, fun j j1 j2 => by omega, fun _ _ => rfl, fun _ _ => rfl⟩
  | succ k ih =>
    intro n x J hn hx
    obtain ⟨n, rfl⟩ : ∃ m, n = m + 1 := ⟨n - 1, by omega⟩
    rw [f_Sheet_renew_L12.eq_2, if_pos (show am_i32 (x : Int) from ⟨by omega, by omega⟩), if_pos (show (x : Int) < 40 by omega), if_pos (show 0 ≤ (x : Int) ∧ (x : Int) < 40 by omega), show ((x : Int)).toNat = x from rfl]
    obtain ⟨J', a1, a2, a3, a4⟩ := ih n (x + 1) (am_up J (o + 1) x 0) (by omega) (by omega)
    refine ⟨J', a1, fun j j1 j2 => ?_, fun j hj => ?_, fun a ha => ?_⟩
    · by_cases e : j = x
      · rw [e, a3 _ (by omega), up_at]
      · exact a2 j (by omega) j2
    · rw [a3 j (by omega), up_ne (by omega)]
    · rw [a4 a ha, up_row ha]
theorem shm_loop {k : Nat} (hk : k < 4) : ∀ (m n x : Nat) (J : am_J), m < n → x + m = 40 → ∃ J', f_UpRiverModel_sheet_L40 n (k : Int) (x : Int) J = some (1, J') ∧ (∀ j, x ≤ j → j < 40 → J' 77 (40 * k + j) = 0) ∧ (∀ j, j < 40 * k + x ∨ 40 * k + 40 ≤ j → J' 77 j = J 77 j) ∧ (∀ a, a ≠ 77 → J' a = J a) := by
  intro m
  induction m with
  | zero =>
    intro n x J hn hx
    obtain ⟨n, rfl⟩ : ∃ m, n = m + 1 := ⟨n - 1, by omega⟩
    rw [f_UpRiverModel_sheet_L40.eq_2, if_pos (show am_i32 (x : Int) from ⟨by omega, by omega⟩), if_neg (show ¬ (x : Int) < 40 by omega)]
    exact ⟨J, rfl, fun j j1 j2 => by omega, fun _ _ => rfl, fun _ _ => rfl⟩
  | succ m ih =>
    intro n x J hn hx
    obtain ⟨n, rfl⟩ : ∃ m, n = m + 1 := ⟨n - 1, by omega⟩
    rw [f_UpRiverModel_sheet_L40.eq_2, if_pos (show am_i32 (x : Int) from ⟨by omega, by omega⟩), if_pos (show (x : Int) < 40 by omega), if_pos (show 0 ≤ 40 * (k : Int) + x ∧ 40 * (k : Int) + x < 160 by omega), show (40 * (k : Int) + x).toNat = 40 * k + x by omega]
    obtain ⟨J', a1, a2, a3, a4⟩ := ih n (x + 1) (am_up J 77 (40 * k + x) 0) (by omega) (by omega)
    refine ⟨J', a1, fun j j1 j2 => ?_, fun j hj => ?_, fun a ha => ?_⟩
    · by_cases e : j = x
      · rw [e, a3 _ (by omega), up_at]
      · exact a2 j (by omega) j2
    · rw [a3 j (by omega), up_ne (by omega)]
    · rw [a4 a ha, up_row ha]
theorem sheet_core {J : am_J} {k : Nat} {y n : Int} (h : sS J) (hk : k < 4) (hy : 0 ≤ y ∧ y ≤ 2) (hn : 0 ≤ n ∧ n ≤ 40) : ∃ A D, f_Sheet_renew (57 + 2 * k) y n J = some A ∧ f_UpRiverModel_sheet_L40 am_FU (k : Int) 0 (am_up (am_up A 75 k y) 76 k n) = some (1, D) ∧ sS D := by
  unfold f_Sheet_renew
  generalize hB : am_up (am_up J (57 + 2 * k) 1 y) (57 + 2 * k) 2 n = B
  have B1 : B (57 + 2 * k) 1 = y := by rw [← hB, up_ne (by decide), up_at]
  have B2 : B (57 + 2 * k) 2 = n := by rw [← hB, up_at]
  have rB : ∀ a, a ≠ 57 + 2 * k → B a = J a := fun a ha => by rw [← hB, up_row ha, up_row ha]
  clear hB
  obtain ⟨A, a1, a2, -, a4⟩ := renew_loop (o := 57 + 2 * k) 40 am_FU 0 B (by decide) (by omega)
  generalize hC : am_up (am_up A 75 k y) 76 k n = C
  have C75 : C 75 k = y := by rw [← hC, up_row (by decide), up_at]
  have C76 : C 76 k = n := by rw [← hC, up_at]
  have C75n : ∀ j, j ≠ k → C 75 j = A 75 j := fun j hj => by rw [← hC, up_row (by decide), up_ne hj]
  have C76n : ∀ j, j ≠ k → C 76 j = A 76 j := fun j hj => by rw [← hC, up_ne hj, up_row (by decide)]
  have rC : ∀ a, a ≠ 75 → a ≠ 76 → C a = A a := fun a h1 h2 => by rw [← hC, up_row h2, up_row h1]
  obtain ⟨D, d1, d2, d3, d4⟩ := shm_loop hk 40 am_FU 0 C (by decide) (by omega)
  refine ⟨A, D, a1, by rw [hC]; exact d1, fun i hi => ?_⟩
  by_cases e : i = k
  · subst e
    refine Or.inr ?_
    rw [d4 (57 + 2 * i) (by omega), d4 75 (by omega), d4 76 (by omega), d4 (57 + 2 * i + 1) (by omega), rC (57 + 2 * i) (by omega) (by omega), rC (57 + 2 * i + 1) (by omega) (by omega), C75, C76, a4 (57 + 2 * i) (by omega), B1, B2]
    refine ⟨hn, hy, rfl, rfl, fun j hj => ?_⟩
    rw [d2 j (by omega) hj, a2 j (by omega) hj]
    exact ⟨rfl, by decide⟩
  · refine sh1_cong (h i hi) ?_ ?_ ?_ ?_ fun j hj => ?_
    · rw [d4 _ (by omega), rC _ (by omega) (by omega), a4 _ (by omega), rB _ (by omega)]
    · rw [d4 _ (by omega), rC _ (by omega) (by omega), a4 _ (by omega), rB _ (by omega)]
    · rw [d4 _ (by omega), C75n i e, a4 _ (by omega), rB _ (by omega)]
    · rw [d4 _ (by omega), C76n i e, a4 _ (by omega), rB _ (by omega)]
    · rw [d3 _ (by omega), rC _ (by omega) (by omega), a4 _ (by omega), rB _ (by omega)]
theorem e_sheet {J : am_J} {x y n : Int} (h : sS J) (hx : am_i32 x) (hy : am_i32 y) (hn : am_i32 n) : ∃ r J' J2, f_UpRiver_sheet x y n J = some (r, J') ∧ f_UpRiverModel_sheet x y n J' = some (r, J2) ∧ am_i32 r ∧ sS J2 := by
  by_cases c1 : (0 ≤ x ∧ x ≤ 3) ∧ (0 ≤ y ∧ y ≤ 2)
  · have cl : f_UpRiver_sheet x y n J = if 40 < n then some (-1, J) else if n < 0 then some (-14, J) else (f_Sheet_renew (57 + 2 * x.toNat) y n J).bind fun q => some (1, q) := by
      unfold f_UpRiver_sheet
      rw [c_isSheet hx, c_isKind hy]
      simp only [Option.bind_some, fl_32, if_true, fl_0]
      rw [if_neg (show ¬ ¬ (0 ≤ x ∧ x ≤ 3) from fun z => z c1.1), if_neg (show ¬ ¬ (0 ≤ y ∧ y ≤ 2) from fun z => z c1.2), if_pos hn]
      have hc : x = 0 ∨ x = 1 ∨ x = 2 ∨ x = 3 := by omega
      rcases hc with rfl | rfl | rfl | rfl <;> rfl
    have ml : ∀ A : am_J, f_UpRiverModel_sheet x y n A = if 40 < n then some (-1, A) else if n < 0 then some (-14, A) else f_UpRiverModel_sheet_L40 am_FU x 0 (am_up (am_up A 75 x.toNat y) 76 x.toNat n) := by
      intro A
      unfold f_UpRiverModel_sheet
      rw [m_isSheet hx hy]
      simp only [Option.bind_some, fl_32, if_true, fl_0]
      rw [if_neg (show ¬ ¬ ((0 ≤ x ∧ x ≤ 3) ∧ (0 ≤ y ∧ y ≤ 2)) from fun z => z c1), if_pos hn, if_pos (show 0 ≤ x ∧ x < 4 by omega)]
    by_cases b1 : 40 < n
    · rw [if_pos b1] at cl
      exact ⟨-1, J, J, cl, by rw [ml, if_pos b1], by decide, h⟩
    · by_cases b2 : n < 0
      · rw [if_neg b1, if_pos b2] at cl
        exact ⟨-14, J, J, cl, by rw [ml, if_neg b1, if_pos b2], by decide, h⟩
      · obtain ⟨A, D, u1, u2, u3⟩ := sheet_core (k := x.toNat) h (by omega) c1.2 (show 0 ≤ n ∧ n ≤ 40 by omega)
        rw [if_neg b1, if_neg b2, u1] at cl
        rw [show ((x.toNat : Nat) : Int) = x by omega] at u2
        exact ⟨1, A, D, cl, by rw [ml, if_neg b1, if_neg b2]; exact u2, by decide, u3⟩
  · refine ⟨-1, J, J, ?_, ?_, by decide, h⟩
    · unfold f_UpRiver_sheet
      rw [c_isSheet hx, c_isKind hy]
      simp only [Option.bind_some, fl_32, if_true, fl_0]
      by_cases a : 0 ≤ x ∧ x ≤ 3
      · rw [if_neg (show ¬ ¬ (0 ≤ x ∧ x ≤ 3) from fun z => z a), if_pos (show ¬ (0 ≤ y ∧ y ≤ 2) from fun z => c1 ⟨a, z⟩)]
      · rw [if_pos a]
    · unfold f_UpRiverModel_sheet
      rw [m_isSheet hx hy]
      simp only [Option.bind_some, fl_32, if_true, fl_0]
      rw [if_pos c1]
