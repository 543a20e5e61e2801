/-! a voyage, wherever it lies: c k j is the class's cell j of the object k behind the voyage, m j the reference's cell j; images -/
def vo (c : Nat → Nat → Int) (m : Nat → Int) (top : Int) : Prop :=
  ((0 ≤ c 1 0 ∧ c 1 0 ≤ 200) ∧ (0 ≤ c 1 1 ∧ c 1 1 ≤ 8) ∧ (c 1 2 = 0 ∨ c 1 2 = 1) ∧ (0 ≤ c 1 3 ∧ c 1 3 ≤ 300) ∧ 0 ≤ c 1 4 ∧ 0 ≤ c 1 5 ∧ c 1 4 + c 1 5 ≤ c 1 3)
  ∧ (c 1 0 = m 1 ∧ c 1 1 = m 2 ∧ c 1 2 = m 3 ∧ c 1 3 = m 0 ∧ c 1 4 = m 4 ∧ c 1 5 = m 5)
  ∧ (c 2 2 = m 6 ∧ 0 ≤ c 2 2 ∧ c 2 2 ≤ 12 ∧ (∀ i : Nat, (i : Int) < c 2 2 → c 3 i = m (7 + 2 * i) ∧ c 4 i = m (8 + 2 * i) ∧ 0 ≤ c 3 i ∧ c 3 i ≤ top ∧ 0 ≤ c 4 i ∧ c 4 i ≤ 300) ∧ (∀ i : Nat, (i : Int) + 1 < c 2 2 → c 3 i < c 3 (i + 1) ∧ c 4 i < c 4 (i + 1)))
  ∧ (c 5 1 = m 31 ∧ 0 ≤ c 5 1 ∧ c 5 1 ≤ 40 ∧ ∀ i : Nat, (i : Int) < c 5 1 → c 6 i = m (32 + i) ∧ 0 ≤ c 6 i ∧ c 6 i ≤ 2)
/-- as much of it as counts -/
def voE (c c' : Nat → Nat → Int) : Prop := (∀ j, j < 6 → c' 1 j = c 1 j) ∧ c' 2 2 = c 2 2 ∧ c' 5 1 = c 5 1 ∧ (∀ i : Nat, (i : Int) < c 2 2 → c' 3 i = c 3 i ∧ c' 4 i = c 4 i) ∧ (∀ i : Nat, (i : Int) < c 5 1 → c' 6 i = c 6 i)
theorem vo_cong {c c' : Nat → Nat → Int} {m m' : Nat → Int} {top : Int} (h : vo c m top) (hc : voE c c') (hm : ∀ j, j < 72 → m' j = m j) : vo c' m' top := by
  obtain ⟨h1, h2, h3, h4⟩ := h
  obtain ⟨c1, c2, c5, c3, c6⟩ := hc
  unfold vo
  rw [c1 0 (by omega), c1 1 (by omega), c1 2 (by omega), c1 3 (by omega), c1 4 (by omega), c1 5 (by omega), c2, c5, hm 0 (by omega), hm 1 (by omega), hm 2 (by omega), hm 3 (by omega), hm 4 (by omega), hm 5 (by omega), hm 6 (by omega), hm 31 (by omega)]
  refine ⟨h1, h2, ⟨h3.1, h3.2.1, h3.2.2.1, fun i hi => ?_, fun i hi => ?_⟩, h4.1, h4.2.1, h4.2.2.1, fun i hi => ?_⟩
  · have h12 := h3.2.2.1
    rw [(c3 i hi).1, (c3 i hi).2, hm _ (by omega), hm _ (by omega)]
    exact h3.2.2.2.1 i hi
  · rw [(c3 i (by omega)).1, (c3 i (by omega)).2, (c3 (i + 1) (by omega)).1, (c3 (i + 1) (by omega)).2]
    exact h3.2.2.2.2 i hi
  · have h40 := h4.2.2.1
    rw [c6 i hi, hm _ (by omega)]
    exact h4.2.2.2 i hi
def cv (J : am_J) (o : Nat) : Nat → Nat → Int := fun k j => J (o + k) j
def mv (J : am_J) (d : Nat) : Nat → Int := fun j => J 68 (d + j)
theorem vo_pieces {J : am_J} : vo (cv J 17) (mv J 0) (J 66 0) ↔ sB J ∧ sLg J ∧ sW J := by
  unfold vo sB bR bm sLg sW cv mv
  simp only [Nat.zero_add, Nat.reduceAdd, Int.add_zero]
  constructor
  · rintro ⟨a, b, c, d⟩
    exact ⟨⟨a, b⟩, c, d⟩
  · rintro ⟨⟨a, b⟩, c, d⟩
    exact ⟨a, b, c, d⟩
