/-! keep, back -/
def sI (J : am_J) : Prop := ((J 43 3 = 0 ∨ J 43 3 = 1) ∧ J 43 3 = J 69 0 ∧ (J 43 3 = 1 → vo (cv J 43) (mv J 72) (J 66 0))) ∧ ((J 50 3 = 0 ∨ J 50 3 = 1) ∧ J 50 3 = J 69 1 ∧ (J 50 3 = 1 → vo (cv J 50) (mv J 144) (J 66 0)))
theorem vo_rows {J J' : am_J} {o d : Nat} (h : vo (cv J o) (mv J d) (J 66 0)) (e : ∀ k, k ≤ 6 → J' (o + k) = J (o + k)) (e6 : J' 66 = J 66) (e8 : ∀ j, j < 72 → J' 68 (d + j) = J 68 (d + j)) : vo (cv J' o) (mv J' d) (J' 66 0) := by
  rw [e6]
  refine vo_cong h ⟨fun j _ => ?_, ?_, ?_, fun i _ => ⟨?_, ?_⟩, fun i _ => ?_⟩ e8
  · show J' (o + 1) j = J (o + 1) j
    rw [e 1 (by omega)]
  · show J' (o + 2) 2 = J (o + 2) 2
    rw [e 2 (by omega)]
  · show J' (o + 5) 1 = J (o + 5) 1
    rw [e 5 (by omega)]
  · show J' (o + 3) i = J (o + 3) i
    rw [e 3 (by omega)]
  · show J' (o + 4) i = J (o + 4) i
    rw [e 4 (by omega)]
  · show J' (o + 6) i = J (o + 6) i
    rw [e 6 (by omega)]
theorem keep_core {J : am_J} {o d i : Nat} (ho : o = 43 ∧ d = 72 ∧ i = 0 ∨ o = 50 ∧ d = 144 ∧ i = 1) (hv : vo (cv J 17) (mv J 0) (J 66 0)) : ∃ A D, f_Voyage_take o 17 J = some A ∧ f_UpRiverModel_copies (d : Int) 0 (am_up (am_up A o 3 1) 69 i 1) = some D ∧ vo (cv D 17) (mv D 0) (D 66 0) ∧ vo (cv D o) (mv D d) (D 66 0) ∧ D o 3 = 1 ∧ D 69 i = 1 ∧ (∀ j, j ≠ i → D 69 j = J 69 j) ∧ A 69 = J 69 ∧ (∀ a, a ≠ 68 → a ≠ 69 → (a < o ∨ o + 6 < a) → D a = J a) ∧ (∀ j, j < d ∨ d + 72 ≤ j → D 68 j = J 68 j) := by
  have hl : 0 ≤ J 19 2 ∧ J 19 2 ≤ 12 := ⟨hv.2.2.1.2.1, hv.2.2.1.2.2.1⟩
  have hs : 0 ≤ J 22 1 ∧ J 22 1 ≤ 40 := ⟨hv.2.2.2.2.1, hv.2.2.2.2.2.1⟩
  obtain ⟨A, a1, a2, a3⟩ := c_take (o1 := o) (o2 := 17) (J := J) (by omega) hl hs
  have hA69 : A 69 = J 69 := a3 69 (by omega)
  obtain ⟨D, d1, d2, d3, d4⟩ := m_copies (J := am_up (am_up A o 3 1) 69 i 1) (d1 := d) (d2 := 0) (by omega) (by omega) (by omega)
  have row : ∀ a, a ≠ 68 → a ≠ 69 → a ≠ o → D a = A a := fun a h1 h2 h3 => by rw [d4 a h1, up_row h2, up_row h3]
  have rowJ : ∀ a, a ≠ 68 → a ≠ 69 → (a < o ∨ o + 6 < a) → D a = J a := fun a h1 h2 h3 => by rw [row a h1 h2 (by omega), a3 a (by omega)]
  have r68 : ∀ j, j < d ∨ d + 72 ≤ j → D 68 j = J 68 j := fun j hj => by rw [d3 j hj, up_row (by decide), up_row (by omega), a3 68 (by omega)]
  refine ⟨A, D, a1, d1, ?_, ?_, ?_, ?_, ?_, hA69, rowJ, r68⟩
  · exact vo_rows hv (fun k hk => rowJ _ (by omega) (by omega) (by omega)) (rowJ _ (by decide) (by decide) (by omega)) (fun j hj => r68 _ (by omega))
  · rw [rowJ 66 (by decide) (by decide) (by omega)]
    refine vo_cong hv ?_ fun j hj => ?_
    · obtain ⟨e1, e2, e3, e4, e5⟩ := a2
      refine ⟨fun j hj => ?_, ?_, ?_, fun k hk => ?_, fun k hk => ?_⟩
      · show D (o + 1) j = _
        rw [row _ (by omega) (by omega) (by omega)]; exact e1 j hj
      · show D (o + 2) 2 = _
        rw [row _ (by omega) (by omega) (by omega)]; exact e2
      · show D (o + 5) 1 = _
        rw [row _ (by omega) (by omega) (by omega)]; exact e3
      · show D (o + 3) k = _ ∧ D (o + 4) k = _
        rw [row _ (by omega) (by omega) (by omega), row _ (by omega) (by omega) (by omega)]; exact e4 k hk
      · show D (o + 6) k = _
        rw [row _ (by omega) (by omega) (by omega)]; exact e5 k hk
    · rw [d2 j hj]
      show am_up (am_up A o 3 1) 69 i 1 68 (0 + j) = J 68 (0 + j)
      rw [up_row (by decide), up_row (by omega), a3 68 (by omega)]
  · rw [d4 o (by omega), up_row (by omega), up_at]
  · rw [d4 69 (by decide), up_at]
  · intro j hj
    rw [d4 69 (by decide), up_ne hj, up_row (by omega), hA69]
