/-! a voyage, wherever it lies: c k j is the class's cell j of the object k behind the voyage, m j the reference's cell j; images -/
def vo (c : Nat → Nat → Int) (m : Nat → Int) (top : Int) : Prop :=
  ((0 ≤ c 1 0 ∧ c 1 0 ≤ 200) ∧ (0 ≤ c 1 1 ∧ c 1 1 ≤ 8) ∧ (c 1 2 = 0 ∨ c 1 2 = 1) ∧ (0 ≤ c 1 3 ∧ c 1 3 ≤ 300) ∧ 0 ≤ c 1 4 ∧ 0 ≤ c 1 5 ∧ c 1 4 + c 1 5 ≤ c 1 3)
  ∧ (c 1 0 = m 1 ∧ c 1 1 = m 2 ∧ c 1 2 = m 3 ∧ c 1 3 = m 0 ∧ c 1 4 = m 4 ∧ c 1 5 = m 5)
  ∧ (c 2 2 = m 6 ∧ 0 ≤ c 2 2 ∧ c 2 2 ≤ 12 ∧ (∀ i : Nat, (i : Int) < c 2 2 → c 3 i = m (7 + 2 * i) ∧ c 4 i = m (8 + 2 * i) ∧ 0 ≤ c 3 i ∧ c 3 i ≤ top ∧ 0 ≤ c 4 i ∧ c 4 i ≤ 300) ∧ (∀ i : Nat, (i : Int) + 1 < c 2 2 → c 3 i < c 3 (i + 1) ∧ c 4 i < c 4 (i + 1)))
  ∧ (c 5 1 = m 31 ∧ 0 ≤ c 5 1 ∧ c 5 1 ≤ 40 ∧ ∀ i : Nat, (i : Int) < c 5 1 → c 6 i = m (32 + i) ∧ 0 ≤ c 6 i ∧ c 6 i ≤ 2)
/-- as much of it as counts -/
def voE (c c' : Nat → Nat → Int) : Prop := (∀ j, j < 6 → c' 1 j = c 1 j) ∧ c' 2 2 = c 2 2 ∧ c' 5 1 = c 5 1 ∧ (∀ i : Nat, (i : Int) < c 2 2 → c' 3 i = c 3 i ∧ c' 4 i = c 4 i) ∧ (∀ i : Nat, (i : Int) < c 5 1 → c' 6 i = c 6 i)
theorem vo_cong {c c' : Nat → Nat → Int} {m m' : Nat → Int} {top : Int} (h : vo c m top) (hc : voE c c') (hm : ∀ j, j < 72 → m' j = m j) : vo c' m' top := by
  obtain ⟨h1, h2, h3, h4⟩ := h
  obtain ⟨c1, c2, c5, c3, c6⟩ := hc
  unfold vo
  rw [c1 0 (by omega), c1 1 (by omega), c1 2 (by omega), c1 3 (by omega), c1 4 (by omega), c1 5 (by omega), c2, c5, hm 0 (by omega), hm 1 (by omega), hm 2 (by omega), hm 3 (by omega), hm 4 (by omega), hm 5 (by omega), hm 6 (by omega), hm 31 (by omega)]
  refine ⟨h1, h2, ⟨h3.1, h3.2.1, h3.2.2.1, fun i hi => ?_, fun i hi => ?_⟩, h4.1, h4.2.1, h4.2.2.1, fun i hi => ?_⟩
  · have h12 := h3.2.2.1
    rw [(c3 i hi).1, (c3 i hi).2, hm _ (by omega), hm _ (by omega)]
    exact h3.2.2.2.1 i hi
  · rw [(c3 i (by omega)).1, (c3 i (by omega)).2, (c3 (i + 1) (by omega)).1, (c3 (i + 1) (by omega)).2]
    exact h3.2.2.2.2 i hi
  · have h40 := h4.2.2.1
    rw [c6 i hi, hm _ (by omega)]
    exact h4.2.2.2 i hi
def cv (J : am_J) (o : Nat) : Nat → Nat → Int := fun k j => J (o + k) j
def mv (J : am_J) (d : Nat) : Nat → Int := fun j => J 68 (d + j)
theorem vo_pieces {J : am_J} : vo (cv J 17) (mv J 0) (J 66 0) ↔ sB J ∧ sLg J ∧ sW J := by
  unfold vo sB bR bm sLg sW cv mv
  simp only [Nat.zero_add, Nat.reduceAdd, Int.add_zero]
  constructor
  · rintro ⟨a, b, c, d⟩
    exact ⟨⟨a, b⟩, c, d⟩
  · rintro ⟨⟨a, b⟩, c, d⟩
    exact ⟨a, b, c, d⟩
theorem copy_loop {d1 d2 : Nat} (hd : d1 + 72 ≤ d2 ∨ d2 + 72 ≤ d1) (h1 : d1 + 72 ≤ 216) (h2 : d2 + 72 ≤ 216) : ∀ (k n x : Nat) (J : am_J), k < n → x + k = 72 → ∃ J', f_UpRiverModel_copies_L2 n (d1 : Int) (d2 : Int) (x : Int) J = some J' ∧ (∀ j, x ≤ j → j < 72 → J' 68 (d1 + j) = J 68 (d2 + j)) ∧ (∀ j, j < d1 + x ∨ d1 + 72 ≤ j → J' 68 j = J 68 j) ∧ (∀ a, a ≠ 68 → J' a = J a) := by
  intro k
  induction k with
  | zero =>
    intro n x J hn hx
    obtain ⟨n, rfl⟩ : ∃ m, n = m + 1 := ⟨n - 1, by omega⟩
    rw [f_UpRiverModel_copies_L2.eq_2, if_pos (show am_i32 (x : Int) from ⟨by omega, by omega⟩), if_neg (show ¬ (x : Int) < 72 by omega)]
    exact ⟨J, rfl, fun j j1 j2 => by omega, fun _ _ => rfl, fun _ _ => rfl⟩
  | succ k ih =>
    intro n x J hn hx
    obtain ⟨n, rfl⟩ : ∃ m, n = m + 1 := ⟨n - 1, by omega⟩
    rw [f_UpRiverModel_copies_L2.eq_2, if_pos (show am_i32 (x : Int) from ⟨by omega, by omega⟩), if_pos (show (x : Int) < 72 by omega), if_pos (show 0 ≤ (d2 : Int) + x ∧ (d2 : Int) + x < 216 by omega), if_pos (show 0 ≤ (d1 : Int) + x ∧ (d1 : Int) + x < 216 by omega), show ((d1 : Int) + x).toNat = d1 + x by omega, show ((d2 : Int) + x).toNat = d2 + x by omega]
    obtain ⟨J', a1, a2, a3, a4⟩ := ih n (x + 1) (am_up J 68 (d1 + x) (J 68 (d2 + x))) (by omega) (by omega)
    refine ⟨J', a1, fun j j1 j2 => ?_, fun j hj => ?_, fun a ha => ?_⟩
    · by_cases e : j = x
      · rw [e, a3 _ (by omega), up_at]
      · rw [a2 j (by omega) j2, up_ne (by omega)]
    · rw [a3 j (by omega), up_ne (by omega)]
    · rw [a4 a ha, up_row ha]
theorem m_copies {J : am_J} {d1 d2 : Nat} (hd : d1 + 72 ≤ d2 ∨ d2 + 72 ≤ d1) (h1 : d1 + 72 ≤ 216) (h2 : d2 + 72 ≤ 216) : ∃ J', f_UpRiverModel_copies (d1 : Int) (d2 : Int) J = some J' ∧ (∀ j, j < 72 → mv J' d1 j = mv J d2 j) ∧ (∀ j, j < d1 ∨ d1 + 72 ≤ j → J' 68 j = J 68 j) ∧ (∀ a, a ≠ 68 → J' a = J a) := by
  obtain ⟨J', a1, a2, a3, a4⟩ := copy_loop hd h1 h2 72 am_FU 0 J (by decide) (by omega)
  exact ⟨J', a1, fun j hj => a2 j (by omega) hj, fun j hj => a3 j (by omega), a4⟩
theorem log_take_loop {o1 o2 : Nat} (ho : o1 + 2 < o2 ∨ o2 + 2 < o1) : ∀ (k n : Nat) (x : Nat) (J : am_J), k < n → (J o1 2 - x).toNat = k → J o1 2 ≤ 12 → 0 ≤ J o1 2 → (x : Int) ≤ J o1 2 → ∃ J', f_Log_take_L10 o1 o2 n (x : Int) J = some J' ∧ (∀ j : Nat, x ≤ j → (j : Int) < J o1 2 → J' (o1 + 1) j = J (o2 + 1) j ∧ J' (o1 + 2) j = J (o2 + 2) j) ∧ (∀ j : Nat, j < x → J' (o1 + 1) j = J (o1 + 1) j ∧ J' (o1 + 2) j = J (o1 + 2) j) ∧ (∀ a, a ≠ o1 + 1 → a ≠ o1 + 2 → J' a = J a) := by
  intro k
  induction k with
  | zero =>
    intro n x J hn hk h12 h0 hx
    obtain ⟨n, rfl⟩ : ∃ m, n = m + 1 := ⟨n - 1, by omega⟩
    rw [f_Log_take_L10.eq_2, if_pos (show am_i32 (J o1 2) from ⟨by omega, by omega⟩), if_pos (show am_i32 (x : Int) from ⟨by omega, by omega⟩), if_neg (show ¬ (x : Int) < J o1 2 by omega)]
    exact ⟨J, rfl, fun j j1 j2 => by omega, fun _ _ => ⟨rfl, rfl⟩, fun _ _ _ => rfl⟩
  | succ k ih =>
    intro n x J hn hk h12 h0 hx
    obtain ⟨n, rfl⟩ : ∃ m, n = m + 1 := ⟨n - 1, by omega⟩
    rw [f_Log_take_L10.eq_2, if_pos (show am_i32 (J o1 2) from ⟨by omega, by omega⟩), if_pos (show am_i32 (x : Int) from ⟨by omega, by omega⟩), if_pos (show (x : Int) < J o1 2 by omega), if_pos (show 0 ≤ (x : Int) ∧ (x : Int) < 12 by omega), show ((x : Int)).toNat = x from rfl]
    generalize hJ1 : am_up (am_up J (o1 + 1) x (J (o2 + 1) x)) (o1 + 2) x (J (o2 + 2) x) = J1
    have r1 : ∀ a, a ≠ o1 + 1 → a ≠ o1 + 2 → J1 a = J a := fun a ha hb => by rw [← hJ1, up_row hb, up_row ha]
    have s1 : J1 (o1 + 1) x = J (o2 + 1) x := by rw [← hJ1, up_row (by omega), up_at]
    have s2 : J1 (o1 + 2) x = J (o2 + 2) x := by rw [← hJ1, up_at]
    have n1 : ∀ j, j ≠ x → J1 (o1 + 1) j = J (o1 + 1) j := fun j hj => by rw [← hJ1, up_row (by omega), up_ne hj]
    have n2 : ∀ j, j ≠ x → J1 (o1 + 2) j = J (o1 + 2) j := fun j hj => by rw [← hJ1, up_ne hj, up_row (by omega)]
    have ro : J1 o1 = J o1 := r1 _ (by omega) (by omega)
    obtain ⟨J', a1, a2, a3, a4⟩ := ih n (x + 1) J1 (by omega) (by rw [ro]; omega) (by rw [ro]; exact h12) (by rw [ro]; exact h0) (by rw [ro]; omega)
    rw [ro, r1 (o2 + 1) (by omega) (by omega), r1 (o2 + 2) (by omega) (by omega)] at a2
    refine ⟨J', a1, fun j j1 j2 => ?_, fun j hj => ?_, fun a ha hb => ?_⟩
    · by_cases e : j = x
      · rw [e, (a3 x (by omega)).1, (a3 x (by omega)).2, s1, s2]
        exact ⟨rfl, rfl⟩
      · exact a2 j (by omega) j2
    · rw [(a3 j (by omega)).1, (a3 j (by omega)).2, n1 j (by omega), n2 j (by omega)]
      exact ⟨rfl, rfl⟩
    · rw [a4 a ha hb, r1 a ha hb]
theorem sw_take_loop {o1 o2 : Nat} (ho : o1 + 1 < o2 ∨ o2 + 1 < o1) : ∀ (k n : Nat) (x : Nat) (J : am_J), k < n → (J o1 1 - x).toNat = k → J o1 1 ≤ 40 → 0 ≤ J o1 1 → (x : Int) ≤ J o1 1 → ∃ J', f_Swings_take_L10 o1 o2 n (x : Int) J = some J' ∧ (∀ j : Nat, x ≤ j → (j : Int) < J o1 1 → J' (o1 + 1) j = J (o2 + 1) j) ∧ (∀ j : Nat, j < x → J' (o1 + 1) j = J (o1 + 1) j) ∧ (∀ a, a ≠ o1 + 1 → J' a = J a) := by
  intro k
  induction k with
  | zero =>
    intro n x J hn hk h12 h0 hx
    obtain ⟨n, rfl⟩ : ∃ m, n = m + 1 := ⟨n - 1, by omega⟩
    rw [f_Swings_take_L10.eq_2, if_pos (show am_i32 (J o1 1) from ⟨by omega, by omega⟩), if_pos (show am_i32 (x : Int) from ⟨by omega, by omega⟩), if_neg (show ¬ (x : Int) < J o1 1 by omega)]
    exact ⟨J, rfl, fun j j1 j2 => by omega, fun _ _ => rfl, fun _ _ => rfl⟩
  | succ k ih =>
    intro n x J hn hk h12 h0 hx
    obtain ⟨n, rfl⟩ : ∃ m, n = m + 1 := ⟨n - 1, by omega⟩
    rw [f_Swings_take_L10.eq_2, if_pos (show am_i32 (J o1 1) from ⟨by omega, by omega⟩), if_pos (show am_i32 (x : Int) from ⟨by omega, by omega⟩), if_pos (show (x : Int) < J o1 1 by omega), if_pos (show 0 ≤ (x : Int) ∧ (x : Int) < 40 by omega), show ((x : Int)).toNat = x from rfl]
    generalize hJ1 : am_up J (o1 + 1) x (J (o2 + 1) x) = J1
    have r1 : ∀ a, a ≠ o1 + 1 → J1 a = J a := fun a ha => by rw [← hJ1, up_row ha]
    have s1 : J1 (o1 + 1) x = J (o2 + 1) x := by rw [← hJ1, up_at]
    have n1 : ∀ j, j ≠ x → J1 (o1 + 1) j = J (o1 + 1) j := fun j hj => by rw [← hJ1, up_ne hj]
    have ro : J1 o1 = J o1 := r1 _ (by omega)
    obtain ⟨J', a1, a2, a3, a4⟩ := ih n (x + 1) J1 (by omega) (by rw [ro]; omega) (by rw [ro]; exact h12) (by rw [ro]; exact h0) (by rw [ro]; omega)
    rw [ro, r1 (o2 + 1) (by omega)] at a2
    refine ⟨J', a1, fun j j1 j2 => ?_, fun j hj => ?_, fun a ha => ?_⟩
    · by_cases e : j = x
      · rw [e, a3 x (by omega), s1]
      · exact a2 j (by omega) j2
    · rw [a3 j (by omega), n1 j (by omega)]
    · rw [a4 a ha, r1 a ha]
theorem c_take {o1 o2 : Nat} {J : am_J} (ho : o1 + 6 < o2 ∨ o2 + 6 < o1) (hl : 0 ≤ J (o2 + 2) 2 ∧ J (o2 + 2) 2 ≤ 12) (hs : 0 ≤ J (o2 + 5) 1 ∧ J (o2 + 5) 1 ≤ 40) : ∃ J', f_Voyage_take o1 o2 J = some J' ∧ voE (cv J o2) (cv J' o1) ∧ (∀ a, a < o1 + 1 ∨ o1 + 6 < a → J' a = J a) := by
  unfold f_Voyage_take f_Boat_take f_Boat_lieAt
  simp only [Option.bind_some]
  generalize hA : am_up (am_up (am_up (am_up (am_up (am_up (am_up (am_up J (o1 + 1) 0 (J (o2 + 1) 0)) (o1 + 1) 1 (J (o2 + 1) 1)) (o1 + 1) 2 (J (o2 + 1) 2)) (o1 + 1) 3 (J (o2 + 1) 3)) (o1 + 1) 4 0) (o1 + 1) 5 0) (o1 + 1) 4 ((am_up (am_up (am_up (am_up (am_up (am_up J (o1 + 1) 0 (J (o2 + 1) 0)) (o1 + 1) 1 (J (o2 + 1) 1)) (o1 + 1) 2 (J (o2 + 1) 2)) (o1 + 1) 3 (J (o2 + 1) 3)) (o1 + 1) 4 0) (o1 + 1) 5 0) (o2 + 1) 4)) (o1 + 1) 5 ((am_up (am_up (am_up (am_up (am_up (am_up J (o1 + 1) 0 (J (o2 + 1) 0)) (o1 + 1) 1 (J (o2 + 1) 1)) (o1 + 1) 2 (J (o2 + 1) 2)) (o1 + 1) 3 (J (o2 + 1) 3)) (o1 + 1) 4 0) (o1 + 1) 5 0) (o2 + 1) 5) = A
  have hne : o2 + 1 ≠ o1 + 1 := by omega
  have rA : ∀ a, a ≠ o1 + 1 → A a = J a := fun a ha => by
    rw [← hA, up_row ha, up_row ha, up_row ha, up_row ha, up_row ha, up_row ha, up_row ha, up_row ha]
  have A0 : A (o1 + 1) 0 = J (o2 + 1) 0 := by rw [← hA, up_ne (by decide), up_ne (by decide), up_ne (by decide), up_ne (by decide), up_ne (by decide), up_ne (by decide), up_ne (by decide), up_at]
  have A1 : A (o1 + 1) 1 = J (o2 + 1) 1 := by rw [← hA, up_ne (by decide), up_ne (by decide), up_ne (by decide), up_ne (by decide), up_ne (by decide), up_ne (by decide), up_at]
  have A2 : A (o1 + 1) 2 = J (o2 + 1) 2 := by rw [← hA, up_ne (by decide), up_ne (by decide), up_ne (by decide), up_ne (by decide), up_ne (by decide), up_at]
  have A3 : A (o1 + 1) 3 = J (o2 + 1) 3 := by rw [← hA, up_ne (by decide), up_ne (by decide), up_ne (by decide), up_ne (by decide), up_at]
  have A4 : A (o1 + 1) 4 = J (o2 + 1) 4 := by rw [← hA, up_ne (by decide), up_at, up_row hne, up_row hne, up_row hne, up_row hne, up_row hne, up_row hne]
  have A5 : A (o1 + 1) 5 = J (o2 + 1) 5 := by rw [← hA, up_at, up_row hne, up_row hne, up_row hne, up_row hne, up_row hne, up_row hne]
  clear hA
  unfold f_Log_take
  generalize hB : am_up A (o1 + 2) 2 (A (o2 + 2) 2) = B
  have rB : ∀ a, a ≠ o1 + 2 → B a = A a := fun a ha => by rw [← hB, up_row ha]
  have B2 : B (o1 + 2) 2 = J (o2 + 2) 2 := by rw [← hB, up_at, rA _ (by omega)]
  clear hB
  obtain ⟨C, l1, l2, -, l4⟩ := log_take_loop (o1 := o1 + 2) (o2 := o2 + 2) (by omega) (J (o2 + 2) 2).toNat am_FU 0 B (by have : am_FU = 20000 := rfl; omega) (by rw [B2]; omega) (by rw [B2]; omega) (by rw [B2]; omega) (by rw [B2]; omega)
  rw [show ((0 : Nat) : Int) = 0 from rfl] at l1
  rw [l1]
  simp only [Option.bind_some]
  unfold f_Swings_take
  generalize hD : am_up C (o1 + 5) 1 (C (o2 + 5) 1) = D
  have rD : ∀ a, a ≠ o1 + 5 → D a = C a := fun a ha => by rw [← hD, up_row ha]
  have D1 : D (o1 + 5) 1 = J (o2 + 5) 1 := by rw [← hD, up_at, l4 _ (by omega) (by omega), rB _ (by omega), rA _ (by omega)]
  clear hD
  obtain ⟨E, w1, w2, -, w4⟩ := sw_take_loop (o1 := o1 + 5) (o2 := o2 + 5) (by omega) (J (o2 + 5) 1).toNat am_FU 0 D (by have : am_FU = 20000 := rfl; omega) (by rw [D1]; omega) (by rw [D1]; omega) (by rw [D1]; omega) (by rw [D1]; omega)
  rw [show ((0 : Nat) : Int) = 0 from rfl] at w1
  rw [w1]
  simp only [Option.bind_some]
  have eRow : ∀ a, a ≠ o1 + 2 + 1 → a ≠ o1 + 2 + 2 → a ≠ o1 + 5 → a ≠ o1 + 5 + 1 → E a = B a := fun a h1 h2 h3 h4 => by rw [w4 a h4, rD a h3, l4 a h1 h2]
  refine ⟨E, rfl, ⟨fun j hj => ?_, ?_, ?_, fun i hi => ?_, fun i hi => ?_⟩, fun a ha => ?_⟩
  · show E (o1 + 1) j = J (o2 + 1) j
    rw [eRow _ (by omega) (by omega) (by omega) (by omega), rB _ (by omega)]
    have hc : j = 0 ∨ j = 1 ∨ j = 2 ∨ j = 3 ∨ j = 4 ∨ j = 5 := by omega
    rcases hc with rfl | rfl | rfl | rfl | rfl | rfl
    · exact A0
    · exact A1
    · exact A2
    · exact A3
    · exact A4
    · exact A5
  · show E (o1 + 2) 2 = J (o2 + 2) 2
    rw [eRow _ (by omega) (by omega) (by omega) (by omega), B2]
  · show E (o1 + 5) 1 = J (o2 + 5) 1
    rw [w4 _ (by omega), D1]
  · have hi' : (i : Int) < J (o2 + 2) 2 := hi
    have := l2 i (by omega) (by rw [B2]; exact hi')
    show E (o1 + 3) i = J (o2 + 3) i ∧ E (o1 + 4) i = J (o2 + 4) i
    rw [show o1 + 3 = o1 + 2 + 1 from rfl, show o1 + 4 = o1 + 2 + 2 from rfl, w4 _ (by omega), w4 _ (by omega), rD _ (by omega), rD _ (by omega), this.1, this.2, rB _ (by omega), rB _ (by omega), rA _ (by omega), rA _ (by omega)]
    exact ⟨rfl, rfl⟩
  · have hi' : (i : Int) < J (o2 + 5) 1 := hi
    have := w2 i (by omega) (by rw [D1]; exact hi')
    show E (o1 + 6) i = J (o2 + 6) i
    rw [show o1 + 6 = o1 + 5 + 1 from rfl, this, rD _ (by omega), l4 _ (by omega) (by omega), rB _ (by omega), rA _ (by omega)]
  · rw [eRow _ (by omega) (by omega) (by omega) (by omega), rB _ (by omega), rA _ (by omega)]
