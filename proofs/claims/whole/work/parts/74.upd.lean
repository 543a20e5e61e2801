/-! what a line changes in a river -/
def vu (v : Nat → Int) (k : Nat) (w : Int) : Nat → Int := fun j => if j = k then w else v j
theorem vu_at (v : Nat → Int) (k : Nat) (w : Int) : vu v k w k = w := if_pos rfl
theorem vu_ne {v : Nat → Int} {k j : Nat} {w : Int} (h : j ≠ k) : vu v k w j = v j := if_neg h
theorem up_vu (J : am_J) (a k : Nat) (w : Int) : (am_up J a k w) a = vu (J a) k w := by
  funext j
  by_cases e : j = k
  · rw [e, up_at, vu_at]
  · rw [up_ne e, vu_ne e]
theorem dr_o (b : Bool) : am_dr b = 6 ∨ am_dr b = 32 := by
  cases b
  · exact Or.inl rfl
  · exact Or.inr rfl
abbrev rlB (k : Nat) (w : Int) : Prop := (k = 0 ∧ 2 ≤ w ∧ w ≤ 8) ∨ (k = 1 ∧ 5 ≤ w ∧ w ≤ 120) ∨ (k = 2 ∧ 1 ≤ w ∧ w ≤ 20) ∨ (k = 3 ∧ 1 ≤ w ∧ w ≤ 8) ∨ (k = 4 ∧ 0 ≤ w ∧ w ≤ 8) ∨ (k = 5 ∧ 1 ≤ w ∧ w ≤ 9) ∨ (k = 6 ∧ 1 ≤ w ∧ w ≤ 300)
theorem rv_rule {v : Nat → Int} (h : rv_ok v) {k : Nat} {w : Int} (hw : rlB k w) : rv_ok (vu v k w) := by
  have hk : k < 7 := by omega
  refine ⟨?_, fun r hr => ?_, fun i hi => ?_, fun p hp => ?_⟩
  · obtain ⟨h0, h1, h2, h3, h4, h5, h6⟩ := h.1
    unfold vu
    refine ⟨?_, ?_, ?_, ?_, ?_, ?_, ?_⟩ <;> split <;> omega
  · rw [vu_ne (by omega), vu_ne (by omega), vu_ne (by omega), vu_ne (by omega)]; exact h.2.1 r hr
  · rw [vu_ne (by omega), vu_ne (by omega)]; exact h.2.2.1 i hi
  · rw [vu_ne (by omega), vu_ne (by omega)]; exact h.2.2.2 p hp
theorem rq_rule {o : Nat} {J : am_J} {v : Nat → Int} (h : rq o J v) {k : Nat} (hk : k < 7) (w : Int) : rq o (am_up J (o + 1) k w) (vu v k w) := by
  refine ⟨fun i hi => ?_, fun p hp => ?_, fun r hr => ?_, fun i hi => ?_⟩
  · by_cases e : i = k
    · rw [e, up_at, vu_at]
    · rw [up_ne e, vu_ne e]; exact h.1 i hi
  · rw [up_row (by omega), up_row (by omega), vu_ne (by omega), vu_ne (by omega)]; exact h.2.1 p hp
  · rw [up_row (by omega), up_row (by omega), up_row (by omega), up_row (by omega), vu_ne (by omega), vu_ne (by omega), vu_ne (by omega), vu_ne (by omega)]; exact h.2.2.1 r hr
  · rw [up_row (by omega), up_row (by omega), vu_ne (by omega), vu_ne (by omega)]; exact h.2.2.2 i hi
theorem rv_bank {v : Nat → Int} (h : rv_ok v) {r : Nat} (hr : r < 8) {x y : Int} (hx : 0 ≤ x ∧ x ≤ y ∧ y ≤ 8) : rv_ok (vu (vu v (7 + r) x) (19 + r) y) := by
  refine ⟨?_, fun r' hr' => ?_, fun i hi => ?_, fun p hp => ?_⟩
  · rw [vu_ne (by omega), vu_ne (by omega), vu_ne (by omega), vu_ne (by omega), vu_ne (by omega), vu_ne (by omega), vu_ne (by omega), vu_ne (by omega), vu_ne (by omega), vu_ne (by omega), vu_ne (by omega), vu_ne (by omega), vu_ne (by omega), vu_ne (by omega)]
    exact h.1
  · have h1 := h.2.1 r' hr'
    rw [vu_ne (show 31 + r' ≠ 19 + r by omega), vu_ne (show 31 + r' ≠ 7 + r by omega), vu_ne (show 43 + r' ≠ 19 + r by omega), vu_ne (show 43 + r' ≠ 7 + r by omega), vu_ne (show 7 + r' ≠ 19 + r by omega)]
    by_cases e : r' = r
    · rw [e, vu_at, vu_at]
      rw [e] at h1
      exact ⟨hx.1, hx.2.1, hx.2.2, h1.2.2.2⟩
    · rw [vu_ne (show 7 + r' ≠ 7 + r by omega), vu_ne (show 19 + r' ≠ 19 + r by omega), vu_ne (show 19 + r' ≠ 7 + r by omega)]
      exact h1
  · rw [vu_ne (by omega), vu_ne (by omega), vu_ne (by omega), vu_ne (by omega)]; exact h.2.2.1 i hi
  · rw [vu_ne (by omega), vu_ne (by omega), vu_ne (by omega), vu_ne (by omega)]; exact h.2.2.2 p hp
theorem rq_bank {o : Nat} {J : am_J} {v : Nat → Int} (h : rq o J v) {r : Nat} (hr : r < 8) (x y : Int) : rq o (am_up (am_up J (o + 4) r x) (o + 5) r y) (vu (vu v (7 + r) x) (19 + r) y) := by
  refine ⟨fun i hi => ?_, fun p hp => ?_, fun r' hr' => ?_, fun i hi => ?_⟩
  · rw [up_row (by omega), up_row (by omega), vu_ne (by omega), vu_ne (by omega)]; exact h.1 i hi
  · rw [up_row (by omega), up_row (by omega), up_row (by omega), up_row (by omega), vu_ne (by omega), vu_ne (by omega), vu_ne (by omega), vu_ne (by omega)]; exact h.2.1 p hp
  · rw [up_row (show o + 4 ≠ o + 5 by omega), up_row (show o + 6 ≠ o + 5 by omega), up_row (show o + 6 ≠ o + 4 by omega), up_row (show o + 7 ≠ o + 5 by omega), up_row (show o + 7 ≠ o + 4 by omega), vu_ne (show 31 + r' ≠ 19 + r by omega), vu_ne (show 31 + r' ≠ 7 + r by omega), vu_ne (show 43 + r' ≠ 19 + r by omega), vu_ne (show 43 + r' ≠ 7 + r by omega), vu_ne (show 7 + r' ≠ 19 + r by omega)]
    have h1 := h.2.2.1 r' hr'
    by_cases e : r' = r
    · rw [e, up_at, up_at, vu_at, vu_at]
      rw [e] at h1
      exact ⟨rfl, rfl, h1.2.2⟩
    · rw [up_ne e, up_ne e, up_row (show o + 5 ≠ o + 4 by omega), vu_ne (show 7 + r' ≠ 7 + r by omega), vu_ne (show 19 + r' ≠ 19 + r by omega), vu_ne (show 19 + r' ≠ 7 + r by omega)]
      exact h1
  · rw [up_row (by omega), up_row (by omega), up_row (by omega), up_row (by omega), vu_ne (by omega), vu_ne (by omega), vu_ne (by omega), vu_ne (by omega)]; exact h.2.2.2 i hi
theorem rv_lee {v : Nat → Int} (h : rv_ok v) {r : Nat} (hr : r < 8) : rv_ok (vu v (31 + r) 1) := by
  refine ⟨?_, fun r' hr' => ?_, fun i hi => ?_, fun p hp => ?_⟩
  · rw [vu_ne (by omega), vu_ne (by omega), vu_ne (by omega), vu_ne (by omega), vu_ne (by omega), vu_ne (by omega), vu_ne (by omega)]
    exact h.1
  · have h1 := h.2.1 r' hr'
    rw [vu_ne (show 7 + r' ≠ 31 + r by omega), vu_ne (show 19 + r' ≠ 31 + r by omega), vu_ne (show 43 + r' ≠ 31 + r by omega)]
    by_cases e : r' = r
    · rw [e, vu_at]
      rw [e] at h1
      exact ⟨h1.1, h1.2.1, h1.2.2.1, Or.inr rfl, h1.2.2.2.2⟩
    · rw [vu_ne (by omega)]
      exact h1
  · rw [vu_ne (by omega), vu_ne (by omega)]; exact h.2.2.1 i hi
  · rw [vu_ne (by omega), vu_ne (by omega)]; exact h.2.2.2 p hp
theorem rq_lee {o : Nat} {J : am_J} {v : Nat → Int} (h : rq o J v) {r : Nat} (hr : r < 8) : rq o (am_up J (o + 7) r 1) (vu v (31 + r) 1) := by
  refine ⟨fun i hi => ?_, fun p hp => ?_, fun r' hr' => ?_, fun i hi => ?_⟩
  · rw [up_row (by omega), vu_ne (by omega)]; exact h.1 i hi
  · rw [up_row (by omega), up_row (by omega), vu_ne (by omega), vu_ne (by omega)]; exact h.2.1 p hp
  · rw [up_row (show o + 4 ≠ o + 7 by omega), up_row (show o + 5 ≠ o + 7 by omega), up_row (show o + 6 ≠ o + 7 by omega), vu_ne (show 7 + r' ≠ 31 + r by omega), vu_ne (show 19 + r' ≠ 31 + r by omega), vu_ne (show 43 + r' ≠ 31 + r by omega)]
    have h1 := h.2.2.1 r' hr'
    by_cases e : r' = r
    · rw [e, up_at, vu_at]
      rw [e] at h1
      exact ⟨h1.1, h1.2.1, h1.2.2.1, rfl⟩
    · rw [up_ne e, vu_ne (by omega)]
      exact h1
  · rw [up_row (by omega), up_row (by omega), vu_ne (by omega), vu_ne (by omega)]; exact h.2.2.2 i hi
theorem rv_wind {v : Nat → Int} (h : rv_ok v) {r : Nat} (hr : r < 8) {w : Int} (hw : 0 ≤ w ∧ w ≤ 2) : rv_ok (vu v (43 + r) w) := by
  refine ⟨?_, fun r' hr' => ?_, fun i hi => ?_, fun p hp => ?_⟩
  · rw [vu_ne (by omega), vu_ne (by omega), vu_ne (by omega), vu_ne (by omega), vu_ne (by omega), vu_ne (by omega), vu_ne (by omega)]
    exact h.1
  · have h1 := h.2.1 r' hr'
    rw [vu_ne (show 7 + r' ≠ 43 + r by omega), vu_ne (show 19 + r' ≠ 43 + r by omega), vu_ne (show 31 + r' ≠ 43 + r by omega)]
    by_cases e : r' = r
    · rw [e, vu_at]
      rw [e] at h1
      exact ⟨h1.1, h1.2.1, h1.2.2.1, h1.2.2.2.1, hw⟩
    · rw [vu_ne (by omega)]
      exact h1
  · rw [vu_ne (by omega), vu_ne (by omega)]; exact h.2.2.1 i hi
  · rw [vu_ne (by omega), vu_ne (by omega)]; exact h.2.2.2 p hp
theorem rq_wind {o : Nat} {J : am_J} {v : Nat → Int} (h : rq o J v) {r : Nat} (hr : r < 8) (w : Int) : rq o (am_up J (o + 6) r w) (vu v (43 + r) w) := by
  refine ⟨fun i hi => ?_, fun p hp => ?_, fun r' hr' => ?_, fun i hi => ?_⟩
  · rw [up_row (by omega), vu_ne (by omega)]; exact h.1 i hi
  · rw [up_row (by omega), up_row (by omega), vu_ne (by omega), vu_ne (by omega)]; exact h.2.1 p hp
  · rw [up_row (show o + 4 ≠ o + 6 by omega), up_row (show o + 5 ≠ o + 6 by omega), up_row (show o + 7 ≠ o + 6 by omega), vu_ne (show 7 + r' ≠ 43 + r by omega), vu_ne (show 19 + r' ≠ 43 + r by omega), vu_ne (show 31 + r' ≠ 43 + r by omega)]
    have h1 := h.2.2.1 r' hr'
    by_cases e : r' = r
    · rw [e, up_at, vu_at]
      rw [e] at h1
      exact ⟨h1.1, h1.2.1, rfl, h1.2.2.2⟩
    · rw [up_ne e, vu_ne (by omega)]
      exact h1
  · rw [up_row (by omega), up_row (by omega), vu_ne (by omega), vu_ne (by omega)]; exact h.2.2.2 i hi
theorem rv_deep {v : Nat → Int} (h : rv_ok v) {k : Nat} (hk : k < 72) {w : Int} (hw : 0 ≤ w ∧ w ≤ 30) : rv_ok (vu v (55 + k) w) := by
  refine ⟨?_, fun r hr => ?_, fun i hi => ?_, fun p hp => ?_⟩
  · rw [vu_ne (by omega), vu_ne (by omega), vu_ne (by omega), vu_ne (by omega), vu_ne (by omega), vu_ne (by omega), vu_ne (by omega)]
    exact h.1
  · rw [vu_ne (by omega), vu_ne (by omega), vu_ne (by omega), vu_ne (by omega)]; exact h.2.1 r hr
  · have h1 := h.2.2.1 i hi
    rw [vu_ne (show 163 + i ≠ 55 + k by omega)]
    by_cases e : i = k
    · rw [e, vu_at]
      rw [e] at h1
      exact ⟨hw.1, hw.2, h1.2.2⟩
    · rw [vu_ne (by omega)]
      exact h1
  · rw [vu_ne (by omega), vu_ne (by omega)]; exact h.2.2.2 p hp
theorem rq_deep {o : Nat} {J : am_J} {v : Nat → Int} (h : rq o J v) {k : Nat} (hk : k < 72) (w : Int) : rq o (am_up J (o + 8) k w) (vu v (55 + k) w) := by
  refine ⟨fun i hi => ?_, fun p hp => ?_, fun r hr => ?_, fun i hi => ?_⟩
  · rw [up_row (by omega), vu_ne (by omega)]; exact h.1 i hi
  · rw [up_row (by omega), up_row (by omega), vu_ne (by omega), vu_ne (by omega)]; exact h.2.1 p hp
  · rw [up_row (by omega), up_row (by omega), up_row (by omega), up_row (by omega), vu_ne (by omega), vu_ne (by omega), vu_ne (by omega), vu_ne (by omega)]; exact h.2.2.1 r hr
  · have h1 := h.2.2.2 i hi
    rw [up_row (show o + 9 ≠ o + 8 by omega), vu_ne (show 163 + i ≠ 55 + k by omega)]
    by_cases e : i = k
    · rw [e, up_at, vu_at]
      rw [e] at h1
      exact ⟨rfl, h1.2⟩
    · rw [up_ne e, vu_ne (by omega)]
      exact h1
theorem rv_eddy {v : Nat → Int} (h : rv_ok v) {k : Nat} (hk : k < 72) : rv_ok (vu v (163 + k) 1) := by
  refine ⟨?_, fun r hr => ?_, fun i hi => ?_, fun p hp => ?_⟩
  · rw [vu_ne (by omega), vu_ne (by omega), vu_ne (by omega), vu_ne (by omega), vu_ne (by omega), vu_ne (by omega), vu_ne (by omega)]
    exact h.1
  · rw [vu_ne (by omega), vu_ne (by omega), vu_ne (by omega), vu_ne (by omega)]; exact h.2.1 r hr
  · have h1 := h.2.2.1 i hi
    rw [vu_ne (show 55 + i ≠ 163 + k by omega)]
    by_cases e : i = k
    · rw [e, vu_at]
      rw [e] at h1
      exact ⟨h1.1, h1.2.1, Or.inr rfl⟩
    · rw [vu_ne (by omega)]
      exact h1
  · rw [vu_ne (by omega), vu_ne (by omega)]; exact h.2.2.2 p hp
theorem rq_eddy {o : Nat} {J : am_J} {v : Nat → Int} (h : rq o J v) {k : Nat} (hk : k < 72) : rq o (am_up J (o + 9) k 1) (vu v (163 + k) 1) := by
  refine ⟨fun i hi => ?_, fun p hp => ?_, fun r hr => ?_, fun i hi => ?_⟩
  · rw [up_row (by omega), vu_ne (by omega)]; exact h.1 i hi
  · rw [up_row (by omega), up_row (by omega), vu_ne (by omega), vu_ne (by omega)]; exact h.2.1 p hp
  · rw [up_row (by omega), up_row (by omega), up_row (by omega), up_row (by omega), vu_ne (by omega), vu_ne (by omega), vu_ne (by omega), vu_ne (by omega)]; exact h.2.2.1 r hr
  · have h1 := h.2.2.2 i hi
    rw [up_row (show o + 8 ≠ o + 9 by omega), vu_ne (show 55 + i ≠ 163 + k by omega)]
    by_cases e : i = k
    · rw [e, up_at, vu_at]
      rw [e] at h1
      exact ⟨h1.1, rfl⟩
    · rw [up_ne e, vu_ne (by omega)]
      exact h1
