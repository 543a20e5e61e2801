/-! keep, back -/
def sI (J : am_J) : Prop := ((J 43 3 = 0 ∨ J 43 3 = 1) ∧ J 43 3 = J 69 0 ∧ (J 43 3 = 1 → vo (cv J 43) (mv J 72) (J 66 0))) ∧ ((J 50 3 = 0 ∨ J 50 3 = 1) ∧ J 50 3 = J 69 1 ∧ (J 50 3 = 1 → vo (cv J 50) (mv J 144) (J 66 0)))
theorem vo_rows {J J' : am_J} {o d : Nat} (h : vo (cv J o) (mv J d) (J 66 0)) (e : ∀ k, k ≤ 6 → J' (o + k) = J (o + k)) (e6 : J' 66 = J 66) (e8 : ∀ j, j < 72 → J' 68 (d + j) = J 68 (d + j)) : vo (cv J' o) (mv J' d) (J' 66 0) := by
  rw [e6]
  refine vo_cong h ⟨fun j _ => ?_, ?_, ?_, fun i _ => ⟨?_, ?_⟩, fun i _ => ?_⟩ e8
  · show J' (o + 1) j = J (o + 1) j
    rw [e 1 (by omega)]
  · show J' (o + 2) 2 = J (o + 2) 2
    rw [e 2 (by omega)]
  · show J' (o + 5) 1 = J (o + 5) 1
    rw [e 5 (by omega)]
  · show J' (o + 3) i = J (o + 3) i
    rw [e 3 (by omega)]
  · show J' (o + 4) i = J (o + 4) i
    rw [e 4 (by omega)]
  · show J' (o + 6) i = J (o + 6) i
    rw [e 6 (by omega)]
theorem keep_core {J : am_J} {o d i : Nat} (ho : o = 43 ∧ d = 72 ∧ i = 0 ∨ o = 50 ∧ d = 144 ∧ i = 1) (hv : vo (cv J 17) (mv J 0) (J 66 0)) : ∃ A D, f_Voyage_take o 17 J = some A ∧ f_UpRiverModel_copies (d : Int) 0 (am_up (am_up A o 3 1) 69 i 1) = some D ∧ vo (cv D 17) (mv D 0) (D 66 0) ∧ vo (cv D o) (mv D d) (D 66 0) ∧ D o 3 = 1 ∧ D 69 i = 1 ∧ (∀ j, j ≠ i → D 69 j = J 69 j) ∧ A 69 = J 69 ∧ (∀ a, a ≠ 68 → a ≠ 69 → (a < o ∨ o + 6 < a) → D a = J a) ∧ (∀ j, j < d ∨ d + 72 ≤ j → D 68 j = J 68 j) := by
  have hl : 0 ≤ J 19 2 ∧ J 19 2 ≤ 12 := ⟨hv.2.2.1.2.1, hv.2.2.1.2.2.1⟩
  have hs : 0 ≤ J 22 1 ∧ J 22 1 ≤ 40 := ⟨hv.2.2.2.2.1, hv.2.2.2.2.2.1⟩
  obtain ⟨A, a1, a2, a3⟩ := c_take (o1 := o) (o2 := 17) (J := J) (by omega) hl hs
  have hA69 : A 69 = J 69 := a3 69 (by omega)
  obtain ⟨D, d1, d2, d3, d4⟩ := m_copies (J := am_up (am_up A o 3 1) 69 i 1) (d1 := d) (d2 := 0) (by omega) (by omega) (by omega)
  have row : ∀ a, a ≠ 68 → a ≠ 69 → a ≠ o → D a = A a := fun a h1 h2 h3 => by rw [d4 a h1, up_row h2, up_row h3]
  have rowJ : ∀ a, a ≠ 68 → a ≠ 69 → (a < o ∨ o + 6 < a) → D a = J a := fun a h1 h2 h3 => by rw [row a h1 h2 (by omega), a3 a (by omega)]
  have r68 : ∀ j, j < d ∨ d + 72 ≤ j → D 68 j = J 68 j := fun j hj => by rw [d3 j hj, up_row (by decide), up_row (by omega), a3 68 (by omega)]
  refine ⟨A, D, a1, d1, ?_, ?_, ?_, ?_, ?_, hA69, rowJ, r68⟩
  · exact vo_rows hv (fun k hk => rowJ _ (by omega) (by omega) (by omega)) (rowJ _ (by decide) (by decide) (by omega)) (fun j hj => r68 _ (by omega))
  · rw [rowJ 66 (by decide) (by decide) (by omega)]
    refine vo_cong hv ?_ fun j hj => ?_
    · obtain ⟨e1, e2, e3, e4, e5⟩ := a2
      refine ⟨fun j hj => ?_, ?_, ?_, fun k hk => ?_, fun k hk => ?_⟩
      · show D (o + 1) j = _
        rw [row _ (by omega) (by omega) (by omega)]; exact e1 j hj
      · show D (o + 2) 2 = _
        rw [row _ (by omega) (by omega) (by omega)]; exact e2
      · show D (o + 5) 1 = _
        rw [row _ (by omega) (by omega) (by omega)]; exact e3
      · show D (o + 3) k = _ ∧ D (o + 4) k = _
        rw [row _ (by omega) (by omega) (by omega), row _ (by omega) (by omega) (by omega)]; exact e4 k hk
      · show D (o + 6) k = _
        rw [row _ (by omega) (by omega) (by omega)]; exact e5 k hk
    · rw [d2 j hj]
      show am_up (am_up A o 3 1) 69 i 1 68 (0 + j) = J 68 (0 + j)
      rw [up_row (by decide), up_row (by omega), a3 68 (by omega)]
  · rw [d4 o (by omega), up_row (by omega), up_at]
  · rw [d4 69 (by decide), up_at]
  · intro j hj
    rw [d4 69 (by decide), up_ne hj, up_row (by omega), hA69]
theorem e_keep {J : am_J} {x : Int} (hv : vo (cv J 17) (mv J 0) (J 66 0)) (hi : sI J) (hx : am_i32 x) : ∃ r J' J2, f_UpRiver_keep x J = some (r, J') ∧ f_UpRiverModel_keep x J' = some (r, J2) ∧ am_i32 r ∧ vo (cv J2 17) (mv J2 0) (J2 66 0) ∧ sI J2 := by
  obtain ⟨⟨i1, i2, i3⟩, k1, k2, k3⟩ := hi
  by_cases c0 : x = 0
  · subst c0
    obtain ⟨A, D, u1, u2, u3, u4, u5, u6, u7, u8, u9, u10⟩ := keep_core (o := 43) (d := 72) (i := 0) (Or.inl ⟨rfl, rfl, rfl⟩) hv
    refine ⟨J 43 3, am_up A 43 3 1, D, ?_, ?_, ?_, u3, ?_⟩
    · unfold f_UpRiver_keep
      rw [if_pos (show am_i32 0 by decide), if_neg (show ¬ (0 : Int) < 0 by decide), if_pos (show (0 : Int) < 2 by decide), if_pos (show (0 : Int) = 0 from rfl), c_asInt i1, u1]
      rfl
    · unfold f_UpRiverModel_keep
      rw [m_in3 hx]
      simp only [Option.bind_some, fl_32, if_true, fl_0]
      rw [if_neg (show ¬ ¬ ((0 : Int) ≤ 0 ∧ (0 : Int) ≤ 1) by decide), if_pos (show (0 : Int) ≤ 0 ∧ (0 : Int) < 2 by decide), show ((0 : Int)).toNat = 0 from rfl, show (72 : Int) * (0 + 1) = ((72 : Nat) : Int) from rfl, u2, up_row (show 69 ≠ 43 by decide), u8, m_flag (by rw [← i2]; exact i1), i2]
      rfl
    · rcases i1 with e | e <;> rw [e] <;> decide
    · have e50 : D 50 3 = J 50 3 := by rw [u9 50 (by decide) (by decide) (by omega)]
      refine ⟨⟨Or.inr u5, by rw [u5, u6], fun _ => u4⟩, by rw [e50]; exact k1, by rw [e50, u7 1 (by decide)]; exact k2, fun z => ?_⟩
      exact vo_rows (k3 (by rw [← e50]; exact z)) (fun k hk => u9 _ (by omega) (by omega) (by omega)) (u9 _ (by decide) (by decide) (by omega)) (fun j hj => u10 _ (by omega))
  by_cases c1 : x = 1
  · subst c1
    obtain ⟨A, D, u1, u2, u3, u4, u5, u6, u7, u8, u9, u10⟩ := keep_core (o := 50) (d := 144) (i := 1) (Or.inr ⟨rfl, rfl, rfl⟩) hv
    refine ⟨J 50 3, am_up A 50 3 1, D, ?_, ?_, ?_, u3, ?_⟩
    · unfold f_UpRiver_keep
      rw [if_pos (show am_i32 1 by decide), if_neg (show ¬ (1 : Int) < 0 by decide), if_pos (show (1 : Int) < 2 by decide), if_neg (show ¬ (1 : Int) = 0 by decide), if_pos (show (1 : Int) = 1 from rfl), c_asInt k1, u1]
      rfl
    · unfold f_UpRiverModel_keep
      rw [m_in3 hx]
      simp only [Option.bind_some, fl_32, if_true, fl_0]
      rw [if_neg (show ¬ ¬ ((0 : Int) ≤ 1 ∧ (1 : Int) ≤ 1) by decide), if_pos (show (0 : Int) ≤ 1 ∧ (1 : Int) < 2 by decide), show ((1 : Int)).toNat = 1 from rfl, show (72 : Int) * (1 + 1) = ((144 : Nat) : Int) from rfl, u2, up_row (show 69 ≠ 50 by decide), u8, m_flag (by rw [← k2]; exact k1), k2]
      rfl
    · rcases k1 with e | e <;> rw [e] <;> decide
    · have e43 : D 43 3 = J 43 3 := by rw [u9 43 (by decide) (by decide) (by omega)]
      refine ⟨⟨by rw [e43]; exact i1, by rw [e43, u7 0 (by decide)]; exact i2, fun z => ?_⟩, Or.inr u5, by rw [u5, u6], fun _ => u4⟩
      exact vo_rows (i3 (by rw [← e43]; exact z)) (fun k hk => u9 _ (by omega) (by omega) (by omega)) (u9 _ (by decide) (by decide) (by omega)) (fun j hj => u10 _ (by omega))
  · refine ⟨-1, J, J, ?_, ?_, by decide, hv, ⟨i1, i2, i3⟩, k1, k2, k3⟩
    · unfold f_UpRiver_keep
      rw [if_pos hx]
      by_cases a : x < 0
      · rw [if_pos a]
      · rw [if_neg a, if_neg (show ¬ x < 2 by omega)]
    · unfold f_UpRiverModel_keep
      rw [m_in3 hx]
      simp only [Option.bind_some, fl_32, if_true, fl_0]
      rw [if_pos (show ¬ (0 ≤ x ∧ x ≤ 1) by omega)]
theorem back_core {J : am_J} {o d i : Nat} (ho : o = 43 ∧ d = 72 ∧ i = 0 ∨ o = 50 ∧ d = 144 ∧ i = 1) (hv : vo (cv J o) (mv J d) (J 66 0)) : ∃ A D, f_Voyage_take 17 o J = some A ∧ f_UpRiverModel_copies 0 (d : Int) A = some D ∧ A 69 = J 69 ∧ A 18 3 = D 68 0 ∧ (0 ≤ A 18 3 ∧ A 18 3 ≤ 300) ∧ vo (cv D 17) (mv D 0) (D 66 0) ∧ (∀ a, a ≠ 68 → (a < 18 ∨ 23 < a) → D a = J a) ∧ (∀ j, 72 ≤ j → D 68 j = J 68 j) := by
  have hl : 0 ≤ J (o + 2) 2 ∧ J (o + 2) 2 ≤ 12 := ⟨hv.2.2.1.2.1, hv.2.2.1.2.2.1⟩
  have hs : 0 ≤ J (o + 5) 1 ∧ J (o + 5) 1 ≤ 40 := ⟨hv.2.2.2.2.1, hv.2.2.2.2.2.1⟩
  obtain ⟨A, a1, a2, a3⟩ := c_take (o1 := 17) (o2 := o) (J := J) (by omega) hl hs
  obtain ⟨D, d1, d2, d3, d4⟩ := m_copies (J := A) (d1 := 0) (d2 := d) (by omega) (by omega) (by omega)
  have rowJ : ∀ a, a ≠ 68 → (a < 18 ∨ 23 < a) → D a = J a := fun a h1 h3 => by rw [d4 a h1, a3 a (by omega)]
  have r68 : ∀ j, 72 ≤ j → D 68 j = J 68 j := fun j hj => by rw [d3 j (by omega), a3 68 (by omega)]
  have m68 : ∀ j, j < 72 → mv D 0 j = mv J d j := fun j hj => by
    rw [d2 j hj]
    show A 68 (d + j) = J 68 (d + j)
    rw [a3 68 (by omega)]
  have e3 : A 18 3 = J (o + 1) 3 := a2.1 3 (by omega)
  have e0 : D 68 0 = J 68 (d + 0) := m68 0 (by omega)
  refine ⟨A, D, a1, d1, a3 69 (by omega), ?_, ?_, ?_, rowJ, r68⟩
  · rw [e3, e0]; exact hv.2.1.2.2.2.1
  · rw [e3]; exact hv.1.2.2.2.1
  · rw [rowJ 66 (by decide) (by omega)]
    refine vo_cong hv ?_ m68
    obtain ⟨e1, e2, e3, e4, e5⟩ := a2
    refine ⟨fun j hj => ?_, ?_, ?_, fun k hk => ?_, fun k hk => ?_⟩
    · show D 18 j = _
      rw [d4 _ (by omega)]; exact e1 j hj
    · show D 19 2 = _
      rw [d4 _ (by omega)]; exact e2
    · show D 22 1 = _
      rw [d4 _ (by omega)]; exact e3
    · show D 20 k = _ ∧ D 21 k = _
      rw [d4 _ (by omega), d4 _ (by omega)]; exact e4 k hk
    · show D 23 k = _
      rw [d4 _ (by omega)]; exact e5 k hk
theorem e_back {J : am_J} {x : Int} (hv : vo (cv J 17) (mv J 0) (J 66 0)) (hi : sI J) (hx : am_i32 x) : ∃ r J' J2, f_UpRiver_back x J = some (r, J') ∧ f_UpRiverModel_back x J' = some (r, J2) ∧ am_i32 r ∧ vo (cv J2 17) (mv J2 0) (J2 66 0) ∧ sI J2 := by
  have hi' := hi
  obtain ⟨⟨i1, i2, i3⟩, k1, k2, k3⟩ := hi'
  have img : ∀ D : am_J, (∀ a, a ≠ 68 → (a < 18 ∨ 23 < a) → D a = J a) → (∀ j, 72 ≤ j → D 68 j = J 68 j) → sI D := by
    intro D u9 u10
    have e43 : D 43 = J 43 := u9 43 (by decide) (by omega)
    have e50 : D 50 = J 50 := u9 50 (by decide) (by omega)
    have e69 : D 69 = J 69 := u9 69 (by decide) (by omega)
    refine ⟨⟨by rw [e43]; exact i1, by rw [e43, e69]; exact i2, fun z => ?_⟩, by rw [e50]; exact k1, by rw [e50, e69]; exact k2, fun z => ?_⟩
    · exact vo_rows (i3 (by rw [← e43]; exact z)) (fun k hk => u9 _ (by omega) (by omega)) (u9 _ (by decide) (by omega)) (fun j hj => u10 _ (by omega))
    · exact vo_rows (k3 (by rw [← e50]; exact z)) (fun k hk => u9 _ (by omega) (by omega)) (u9 _ (by decide) (by omega)) (fun j hj => u10 _ (by omega))
  by_cases c0 : x = 0
  · subst c0
    by_cases kept : J 43 3 = 0
    · refine ⟨-2, J, J, ?_, ?_, by decide, hv, hi⟩
      · unfold f_UpRiver_back
        rw [if_pos (show am_i32 0 by decide), if_neg (show ¬ (0 : Int) < 0 by decide), if_pos (show (0 : Int) < 2 by decide), if_pos (show (0 : Int) = 0 from rfl), if_pos (show am_i32 (J 43 3) from ⟨by omega, by omega⟩), if_pos kept]
      · unfold f_UpRiverModel_back
        rw [m_in3 hx]
        simp only [Option.bind_some, fl_32, if_true, fl_0]
        rw [if_neg (show ¬ ¬ ((0 : Int) ≤ 0 ∧ (0 : Int) ≤ 1) by decide), if_pos (show (0 : Int) ≤ 0 ∧ (0 : Int) < 2 by decide), show ((0 : Int)).toNat = 0 from rfl, ← i2, if_pos (show am_i32 (J 43 3) from ⟨by omega, by omega⟩), if_pos kept]
    · obtain ⟨A, D, u1, u2, u3, u4, u5, u6, u9, u10⟩ := back_core (o := 43) (d := 72) (i := 0) (Or.inl ⟨rfl, rfl, rfl⟩) (i3 (by omega))
      refine ⟨A 18 3, A, D, ?_, ?_, ⟨by omega, by omega⟩, u6, img D u9 u10⟩
      · unfold f_UpRiver_back
        rw [if_pos (show am_i32 0 by decide), if_neg (show ¬ (0 : Int) < 0 by decide), if_pos (show (0 : Int) < 2 by decide), if_pos (show (0 : Int) = 0 from rfl), if_pos (show am_i32 (J 43 3) from ⟨by omega, by omega⟩), if_neg kept, u1]
        rfl
      · unfold f_UpRiverModel_back
        rw [m_in3 hx]
        simp only [Option.bind_some, fl_32, if_true, fl_0]
        rw [if_neg (show ¬ ¬ ((0 : Int) ≤ 0 ∧ (0 : Int) ≤ 1) by decide), if_pos (show (0 : Int) ≤ 0 ∧ (0 : Int) < 2 by decide), show ((0 : Int)).toNat = 0 from rfl, u3, ← i2, if_pos (show am_i32 (J 43 3) from ⟨by omega, by omega⟩), if_neg kept, show (72 : Int) * (0 + 1) = ((72 : Nat) : Int) from rfl, u2, u4]
        rfl
  by_cases c1 : x = 1
  · subst c1
    by_cases kept : J 50 3 = 0
    · refine ⟨-2, J, J, ?_, ?_, by decide, hv, hi⟩
      · unfold f_UpRiver_back
        rw [if_pos (show am_i32 1 by decide), if_neg (show ¬ (1 : Int) < 0 by decide), if_pos (show (1 : Int) < 2 by decide), if_neg (show ¬ (1 : Int) = 0 by decide), if_pos (show (1 : Int) = 1 from rfl), if_pos (show am_i32 (J 50 3) from ⟨by omega, by omega⟩), if_pos kept]
      · unfold f_UpRiverModel_back
        rw [m_in3 hx]
        simp only [Option.bind_some, fl_32, if_true, fl_0]
        rw [if_neg (show ¬ ¬ ((0 : Int) ≤ 1 ∧ (1 : Int) ≤ 1) by decide), if_pos (show (0 : Int) ≤ 1 ∧ (1 : Int) < 2 by decide), show ((1 : Int)).toNat = 1 from rfl, ← k2, if_pos (show am_i32 (J 50 3) from ⟨by omega, by omega⟩), if_pos kept]
    · obtain ⟨A, D, u1, u2, u3, u4, u5, u6, u9, u10⟩ := back_core (o := 50) (d := 144) (i := 1) (Or.inr ⟨rfl, rfl, rfl⟩) (k3 (by omega))
      refine ⟨A 18 3, A, D, ?_, ?_, ⟨by omega, by omega⟩, u6, img D u9 u10⟩
      · unfold f_UpRiver_back
        rw [if_pos (show am_i32 1 by decide), if_neg (show ¬ (1 : Int) < 0 by decide), if_pos (show (1 : Int) < 2 by decide), if_neg (show ¬ (1 : Int) = 0 by decide), if_pos (show (1 : Int) = 1 from rfl), if_pos (show am_i32 (J 50 3) from ⟨by omega, by omega⟩), if_neg kept, u1]
        rfl
      · unfold f_UpRiverModel_back
        rw [m_in3 hx]
        simp only [Option.bind_some, fl_32, if_true, fl_0]
        rw [if_neg (show ¬ ¬ ((0 : Int) ≤ 1 ∧ (1 : Int) ≤ 1) by decide), if_pos (show (0 : Int) ≤ 1 ∧ (1 : Int) < 2 by decide), show ((1 : Int)).toNat = 1 from rfl, u3, ← k2, if_pos (show am_i32 (J 50 3) from ⟨by omega, by omega⟩), if_neg kept, show (72 : Int) * (1 + 1) = ((144 : Nat) : Int) from rfl, u2, u4]
        rfl
  · refine ⟨-1, J, J, ?_, ?_, by decide, hv, hi⟩
    · unfold f_UpRiver_back
      rw [if_pos hx]
      by_cases a : x < 0
      · rw [if_pos a]
      · rw [if_neg a, if_neg (show ¬ x < 2 by omega)]
    · unfold f_UpRiverModel_back
      rw [m_in3 hx]
      simp only [Option.bind_some, fl_32, if_true, fl_0]
      rw [if_pos (show ¬ (0 ≤ x ∧ x ≤ 1) by omega)]
