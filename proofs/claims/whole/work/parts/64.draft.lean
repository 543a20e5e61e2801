/-! a new draft, by the class and by the reference -/
/-- a river of which nothing is told -/
def rv0 (k : Nat) : Int := if k = 0 then 6 else if k = 1 then 30 else if k = 2 then 6 else if k = 3 then 4 else if k = 4 then 2 else if k = 5 then 2 else if k = 6 then 300 else if 19 ≤ k ∧ k ≤ 30 then 8 else if 43 ≤ k ∧ k ≤ 54 then 1 else if 55 ≤ k ∧ k ≤ 162 then 20 else if 271 ≤ k ∧ k ≤ 282 then 9 else 0
theorem rv0_ok : rv_ok rv0 := by
  refine ⟨by decide, ?_, ?_, ?_⟩
  · intro r hr
    have : ∀ r : Fin 8, 0 ≤ rv0 (7 + r) ∧ rv0 (7 + r) ≤ rv0 (19 + r) ∧ rv0 (19 + r) ≤ 8 ∧ (rv0 (31 + r) = 0 ∨ rv0 (31 + r) = 1) ∧ 0 ≤ rv0 (43 + r) ∧ rv0 (43 + r) ≤ 2 := by decide
    exact this ⟨r, hr⟩
  · intro k hk
    have : ∀ k : Fin 72, 0 ≤ rv0 (55 + k) ∧ rv0 (55 + k) ≤ 30 ∧ (rv0 (163 + k) = 0 ∨ rv0 (163 + k) = 1) := by decide +kernel
    exact this ⟨k, hk⟩
  · intro p hp
    have : ∀ p : Fin 12, 0 ≤ rv0 (271 + p) ∧ rv0 (271 + p) ≤ 18 ∧ 0 ≤ rv0 (283 + p) ∧ rv0 (283 + p) ≤ 15 := by decide
    exact this ⟨p, hp⟩
theorem rv_ok_c {v w : Nat → Int} (h : rv_ok v) (e : ∀ k, k < 295 → w k = v k) : rv_ok w := by
  refine ⟨?_, fun r hr => ?_, fun k hk => ?_, fun p hp => ?_⟩
  · rw [e 0 (by omega), e 1 (by omega), e 2 (by omega), e 3 (by omega), e 4 (by omega), e 5 (by omega), e 6 (by omega)]
    exact h.1
  · rw [e _ (by omega), e _ (by omega), e _ (by omega), e _ (by omega)]
    exact h.2.1 r hr
  · rw [e _ (by omega), e _ (by omega)]
    exact h.2.2.1 k hk
  · rw [e _ (by omega), e _ (by omega)]
    exact h.2.2.2 p hp
theorem rq_c {o : Nat} {J : am_J} {v w : Nat → Int} (h : rq o J v) (e : ∀ k, k < 295 → w k = v k) : rq o J w := by
  refine ⟨fun i hi => ?_, fun p hp => ?_, fun r hr => ?_, fun k hk => ?_⟩
  · rw [e i (by omega)]; exact h.1 i hi
  · rw [e _ (by omega), e _ (by omega)]; exact h.2.1 p hp
  · rw [e _ (by omega), e _ (by omega), e _ (by omega), e _ (by omega)]; exact h.2.2.1 r hr
  · rw [e _ (by omega), e _ (by omega)]; exact h.2.2.2 k hk
theorem fg98 {o : Nat} : ∀ (k n x : Nat) (J : am_J), k < n → x + k = 72 → ∃ J', f_River_forget_L98 o n (x : Int) J = some J' ∧ (∀ j, x ≤ j → j < 72 → J' (o + 8) j = 20 ∧ J' (o + 9) j = 0) ∧ (∀ a, a ≠ o + 8 → a ≠ o + 9 → J' a = J a) ∧ (∀ j, j < x → J' (o + 8) j = J (o + 8) j ∧ J' (o + 9) j = J (o + 9) j) := by
  intro k
  induction k with
  | zero =>
    intro n x J hn hx
    obtain ⟨n, rfl⟩ : ∃ m, n = m + 1 := ⟨n - 1, by omega⟩
    rw [f_River_forget_L98.eq_2, if_pos (show am_i32 (x : Int) by omega), if_neg (show ¬ (x : Int) < 72 by omega)]
    exact ⟨J, rfl, fun j j1 j2 => by omega, fun _ _ _ => rfl, fun _ _ => ⟨rfl, rfl⟩⟩
  | succ k ih =>
    intro n x J hn hx
    obtain ⟨n, rfl⟩ : ∃ m, n = m + 1 := ⟨n - 1, by omega⟩
    rw [f_River_forget_L98.eq_2, if_pos (show am_i32 (x : Int) by omega), if_pos (show (x : Int) < 72 by omega), if_pos (show 0 ≤ (x : Int) ∧ (x : Int) < 72 by omega), show ((x : Int)).toNat = x from rfl]
    obtain ⟨J', a1, a2, a3, a4⟩ := ih n (x + 1) (am_up (am_up J (o + 8) x 20) (o + 9) x 0) (by omega) (by omega)
    refine ⟨J', a1, fun j j1 j2 => ?_, fun a h8 h9 => ?_, fun j hj => ?_⟩
    · by_cases e : j = x
      · rw [e, (a4 x (by omega)).1, (a4 x (by omega)).2, up_at, up_row (by omega), up_at]
        exact ⟨rfl, rfl⟩
      · exact a2 j (by omega) j2
    · rw [a3 a h8 h9, up_row h9, up_row h8]
    · rw [(a4 j (by omega)).1, (a4 j (by omega)).2, up_ne (by omega), up_row (by omega), up_ne (by omega), up_row (by omega)]
      exact ⟨rfl, rfl⟩
theorem fg55 {o : Nat} : ∀ (k n x : Nat) (J : am_J), k < n → x + k = 8 → ∃ J1 J', f_River_forget_L55 o n (x : Int) J = some J' ∧ f_River_forget_L98 o am_FU 0 J1 = some J' ∧ (∀ j, x ≤ j → j < 8 → J1 (o + 4) j = 0 ∧ J1 (o + 5) j = 8 ∧ J1 (o + 6) j = 1 ∧ J1 (o + 7) j = 0) ∧ (∀ a, a ≠ o + 4 → a ≠ o + 5 → a ≠ o + 6 → a ≠ o + 7 → J1 a = J a) ∧ (∀ j, j < x → J1 (o + 4) j = J (o + 4) j ∧ J1 (o + 5) j = J (o + 5) j ∧ J1 (o + 6) j = J (o + 6) j ∧ J1 (o + 7) j = J (o + 7) j) := by
  intro k
  induction k with
  | zero =>
    intro n x J hn hx
    obtain ⟨n, rfl⟩ : ∃ m, n = m + 1 := ⟨n - 1, by omega⟩
    obtain ⟨J', a1, -⟩ := fg98 (o := o) 72 am_FU 0 J (by decide) (by omega)
    rw [f_River_forget_L55.eq_2, if_pos (show am_i32 (x : Int) by omega), if_neg (show ¬ (x : Int) < 8 by omega)]
    exact ⟨J, J', a1, a1, fun j j1 j2 => by omega, fun _ _ _ _ _ => rfl, fun _ _ => ⟨rfl, rfl, rfl, rfl⟩⟩
  | succ k ih =>
    intro n x J hn hx
    obtain ⟨n, rfl⟩ : ∃ m, n = m + 1 := ⟨n - 1, by omega⟩
    rw [f_River_forget_L55.eq_2, if_pos (show am_i32 (x : Int) by omega), if_pos (show (x : Int) < 8 by omega), if_pos (show 0 ≤ (x : Int) ∧ (x : Int) < 8 by omega), show ((x : Int)).toNat = x from rfl]
    obtain ⟨J1, J', a1, a2, a3, a4, a5⟩ := ih n (x + 1) (am_up (am_up (am_up (am_up J (o + 4) x 0) (o + 5) x 8) (o + 6) x 1) (o + 7) x 0) (by omega) (by omega)
    refine ⟨J1, J', a1, a2, fun j j1 j2 => ?_, fun a h4 h5 h6 h7 => ?_, fun j hj => ?_⟩
    · by_cases e : j = x
      · obtain ⟨b1, b2, b3, b4⟩ := a5 x (by omega)
        rw [e, b1, b2, b3, b4, up_at, up_row (show o + 4 ≠ o + 7 by omega), up_row (show o + 4 ≠ o + 6 by omega), up_row (show o + 4 ≠ o + 5 by omega), up_at, up_row (show o + 5 ≠ o + 7 by omega), up_row (show o + 5 ≠ o + 6 by omega), up_at, up_row (show o + 6 ≠ o + 7 by omega), up_at]
        exact ⟨rfl, rfl, rfl, rfl⟩
      · exact a3 j (by omega) j2
    · rw [a4 a h4 h5 h6 h7, up_row h7, up_row h6, up_row h5, up_row h4]
    · obtain ⟨b1, b2, b3, b4⟩ := a5 j (by omega)
      rw [b1, b2, b3, b4, up_row (show o + 4 ≠ o + 7 by omega), up_row (show o + 4 ≠ o + 6 by omega), up_row (show o + 4 ≠ o + 5 by omega), up_ne (by omega), up_row (show o + 5 ≠ o + 7 by omega), up_row (show o + 5 ≠ o + 6 by omega), up_ne (by omega), up_row (show o + 5 ≠ o + 4 by omega), up_row (show o + 6 ≠ o + 7 by omega), up_ne (by omega), up_row (show o + 6 ≠ o + 5 by omega), up_row (show o + 6 ≠ o + 4 by omega), up_ne (by omega), up_row (show o + 7 ≠ o + 6 by omega), up_row (show o + 7 ≠ o + 5 by omega), up_row (show o + 7 ≠ o + 4 by omega)]
      exact ⟨rfl, rfl, rfl, rfl⟩
theorem fg27 {o : Nat} : ∀ (k n x : Nat) (J : am_J), k < n → x + k = 12 → ∃ J1 J', f_River_forget_L27 o n (x : Int) J = some J' ∧ f_River_forget_L55 o am_FU 0 J1 = some J' ∧ (∀ j, x ≤ j → j < 12 → J1 (o + 2) j = 0 ∧ J1 (o + 3) j = 0) ∧ (∀ a, a ≠ o + 2 → a ≠ o + 3 → J1 a = J a) ∧ (∀ j, j < x → J1 (o + 2) j = J (o + 2) j ∧ J1 (o + 3) j = J (o + 3) j) := by
  intro k
  induction k with
  | zero =>
    intro n x J hn hx
    obtain ⟨n, rfl⟩ : ∃ m, n = m + 1 := ⟨n - 1, by omega⟩
    obtain ⟨-, J', a1, -⟩ := fg55 (o := o) 8 am_FU 0 J (by decide) (by omega)
    rw [f_River_forget_L27.eq_2, if_pos (show am_i32 (x : Int) by omega), if_neg (show ¬ (x : Int) < 12 by omega)]
    exact ⟨J, J', a1, a1, fun j j1 j2 => by omega, fun _ _ _ => rfl, fun _ _ => ⟨rfl, rfl⟩⟩
  | succ k ih =>
    intro n x J hn hx
    obtain ⟨n, rfl⟩ : ∃ m, n = m + 1 := ⟨n - 1, by omega⟩
    rw [f_River_forget_L27.eq_2, if_pos (show am_i32 (x : Int) by omega), if_pos (show (x : Int) < 12 by omega), if_pos (show 0 ≤ (x : Int) ∧ (x : Int) < 12 by omega), show ((x : Int)).toNat = x from rfl]
    obtain ⟨J1, J', a1, a2, a3, a4, a5⟩ := ih n (x + 1) (am_up (am_up J (o + 2) x 0) (o + 3) x 0) (by omega) (by omega)
    refine ⟨J1, J', a1, a2, fun j j1 j2 => ?_, fun a h4 h5 => ?_, fun j hj => ?_⟩
    · by_cases e : j = x
      · rw [e, (a5 x (by omega)).1, (a5 x (by omega)).2, up_at, up_row (by omega), up_at]
        exact ⟨rfl, rfl⟩
      · exact a3 j (by omega) j2
    · rw [a4 a h4 h5, up_row h5, up_row h4]
    · rw [(a5 j (by omega)).1, (a5 j (by omega)).2, up_ne (by omega), up_row (by omega), up_ne (by omega), up_row (by omega)]
      exact ⟨rfl, rfl⟩
theorem fg2 {o : Nat} : ∀ (k n x : Nat) (J : am_J), k < n → x + k = 7 → ∃ J1 J', f_River_forget_L2 o n (x : Int) J = some J' ∧ f_River_forget_L27 o am_FU 0 J1 = some J' ∧ (∀ j, x ≤ j → j < 7 → J1 (o + 1) j = am_first.getD j 0) ∧ (∀ a, a ≠ o + 1 → J1 a = J a) ∧ (∀ j, j < x → J1 (o + 1) j = J (o + 1) j) := by
  intro k
  induction k with
  | zero =>
    intro n x J hn hx
    obtain ⟨n, rfl⟩ : ∃ m, n = m + 1 := ⟨n - 1, by omega⟩
    obtain ⟨-, J', a1, -⟩ := fg27 (o := o) 12 am_FU 0 J (by decide) (by omega)
    rw [f_River_forget_L2.eq_2, if_pos (show am_i32 (x : Int) by omega), if_neg (show ¬ (x : Int) < 7 by omega)]
    exact ⟨J, J', a1, a1, fun j j1 j2 => by omega, fun _ _ => rfl, fun _ _ => rfl⟩
  | succ k ih =>
    intro n x J hn hx
    obtain ⟨n, rfl⟩ : ∃ m, n = m + 1 := ⟨n - 1, by omega⟩
    rw [f_River_forget_L2.eq_2, if_pos (show am_i32 (x : Int) by omega), if_pos (show (x : Int) < 7 by omega), if_pos (show 0 ≤ (x : Int) ∧ (x : Int) < 7 by omega), show ((x : Int)).toNat = x from rfl]
    obtain ⟨J1, J', a1, a2, a3, a4, a5⟩ := ih n (x + 1) (am_up J (o + 1) x (am_first.getD x 0)) (by omega) (by omega)
    refine ⟨J1, J', a1, a2, fun j j1 j2 => ?_, fun a h => ?_, fun j hj => ?_⟩
    · by_cases e : j = x
      · rw [e, a5 x (by omega), up_at]
      · exact a3 j (by omega) j2
    · rw [a4 a h, up_row h]
    · rw [a5 j (by omega), up_ne (by omega)]
theorem c_forget {o : Nat} {J : am_J} : ∃ J', f_River_forget o J = some J' ∧ rq o J' rv0 := by
  obtain ⟨J1, J', a1, a2, a3, a4, -⟩ := fg2 (o := o) 7 am_FU 0 J (by decide) (by omega)
  obtain ⟨J2, J'', b1, b2, b3, b4, -⟩ := fg27 (o := o) 12 am_FU 0 J1 (by decide) (by omega)
  obtain rfl := Option.some.inj (a2.symm.trans b1)
  obtain ⟨J3, J'', c1, c2, c3, c4, -⟩ := fg55 (o := o) 8 am_FU 0 J2 (by decide) (by omega)
  obtain rfl := Option.some.inj (b2.symm.trans c1)
  obtain ⟨J'', d1, d2, d3, -⟩ := fg98 (o := o) 72 am_FU 0 J3 (by decide) (by omega)
  obtain rfl := Option.some.inj (c2.symm.trans d1)
  refine ⟨J', a1, fun i hi => ?_, fun p hp => ?_, fun r hr => ?_, fun k hk => ?_⟩
  · rw [d3 _ (by omega) (by omega), c4 _ (by omega) (by omega) (by omega) (by omega), b4 _ (by omega) (by omega), a3 i (by omega) hi]
    have : ∀ i : Fin 7, am_first.getD (i : Nat) 0 = rv0 i := by decide
    exact this ⟨i, hi⟩
  · rw [d3 _ (by omega) (by omega), d3 _ (by omega) (by omega), c4 _ (by omega) (by omega) (by omega) (by omega), c4 _ (by omega) (by omega) (by omega) (by omega), (b3 p (by omega) hp).1, (b3 p (by omega) hp).2]
    have : ∀ p : Fin 12, (0 : Int) = rv0 (271 + p) - 9 ∧ (0 : Int) = rv0 (283 + p) := by decide
    exact this ⟨p, hp⟩
  · rw [d3 _ (by omega) (by omega), d3 _ (by omega) (by omega), d3 _ (by omega) (by omega), d3 _ (by omega) (by omega), (c3 r (by omega) hr).1, (c3 r (by omega) hr).2.1, (c3 r (by omega) hr).2.2.1, (c3 r (by omega) hr).2.2.2]
    have : ∀ r : Fin 8, (0 : Int) = rv0 (7 + r) ∧ (8 : Int) = rv0 (19 + r) ∧ (1 : Int) = rv0 (43 + r) ∧ (0 : Int) = rv0 (31 + r) := by decide
    exact this ⟨r, hr⟩
  · rw [(d2 k (by omega) hk).1, (d2 k (by omega) hk).2]
    have : ∀ k : Fin 72, (20 : Int) = rv0 (55 + k) ∧ (0 : Int) = rv0 (163 + k) := by decide +kernel
    exact this ⟨k, hk⟩
/-! the reference's -/
def rv0' (k : Nat) : Int := if 19 ≤ k ∧ k ≤ 30 then 8 else if 43 ≤ k ∧ k ≤ 54 then 1 else if 55 ≤ k ∧ k ≤ 162 then 20 else if 271 ≤ k ∧ k ≤ 282 then 9 else 0
theorem fd99 : ∀ (k n x : Nat) (J : am_J), k < n → x + k = 252 → ∃ J', f_UpRiverModel_firstDraft_L99 n (x : Int) J = some J' ∧ (∀ j, x ≤ j → j < 252 → J' 70 j = 0) ∧ (∀ j, j < x → J' 70 j = J 70 j) ∧ J' 65 5 = 0 ∧ J' 65 6 = 0 ∧ (∀ j, 7 ≤ j → J' 67 j = J 67 j) ∧ (∀ j, j < 7 → J' 67 j = rv0 j) := by
  intro k
  induction k with
  | zero =>
    intro n x J hn hx
    obtain ⟨n, rfl⟩ : ∃ m, n = m + 1 := ⟨n - 1, by omega⟩
    rw [f_UpRiverModel_firstDraft_L99.eq_2, if_pos (show am_i32 (x : Int) by omega), if_neg (show ¬ (x : Int) < 252 by omega)]
    refine ⟨_, rfl, fun j j1 j2 => by omega, fun j _ => rfl, rfl, rfl, fun j hj => ?_, fun j hj => ?_⟩
    · rw [up_row (by decide), up_row (by decide), up_ne (by omega), up_ne (by omega), up_ne (by omega), up_ne (by omega), up_ne (by omega), up_ne (by omega), up_ne (by omega)]
    · have hc : j = 0 ∨ j = 1 ∨ j = 2 ∨ j = 3 ∨ j = 4 ∨ j = 5 ∨ j = 6 := by omega
      rcases hc with rfl | rfl | rfl | rfl | rfl | rfl | rfl <;> rfl
  | succ k ih =>
    intro n x J hn hx
    obtain ⟨n, rfl⟩ : ∃ m, n = m + 1 := ⟨n - 1, by omega⟩
    rw [f_UpRiverModel_firstDraft_L99.eq_2, if_pos (show am_i32 (x : Int) by omega), if_pos (show (x : Int) < 252 by omega), if_pos (show 0 ≤ (x : Int) ∧ (x : Int) < 252 by omega), show ((x : Int)).toNat = x from rfl]
    obtain ⟨J', a1, a2, a3, a4, a5, a6, a7⟩ := ih n (x + 1) (am_up J 70 x 0) (by omega) (by omega)
    refine ⟨J', a1, fun j j1 j2 => ?_, fun j hj => ?_, a4, a5, fun j hj => ?_, a7⟩
    · by_cases e : j = x
      · rw [e, a3 x (by omega), up_at]
      · exact a2 j (by omega) j2
    · rw [a3 j (by omega), up_ne (by omega)]
    · rw [a6 j hj, up_row (by decide)]
theorem fd2 : ∀ (k n x : Nat) (J : am_J), k < n → x + k = 295 → ∃ J1 J', f_UpRiverModel_firstDraft_L2 n (x : Int) J = some J' ∧ f_UpRiverModel_firstDraft_L99 am_FU 0 J1 = some J' ∧ (∀ j, x ≤ j → j < 295 → J1 67 j = rv0' j) ∧ (∀ j, j < x → J1 67 j = J 67 j) := by
  intro k
  induction k with
  | zero =>
    intro n x J hn hx
    obtain ⟨n, rfl⟩ : ∃ m, n = m + 1 := ⟨n - 1, by omega⟩
    obtain ⟨J', a1, -⟩ := fd99 252 am_FU 0 J (by decide) (by omega)
    rw [f_UpRiverModel_firstDraft_L2.eq_2, if_pos (show am_i32 (x : Int) by omega), if_neg (show ¬ (x : Int) < 295 by omega)]
    exact ⟨J, J', a1, a1, fun j j1 j2 => by omega, fun j _ => rfl⟩
  | succ k ih =>
    intro n x J hn hx
    obtain ⟨n, rfl⟩ : ∃ m, n = m + 1 := ⟨n - 1, by omega⟩
    have main : f_UpRiverModel_firstDraft_L2 (n + 1) (x : Int) J = f_UpRiverModel_firstDraft_L2 n ((x : Int) + 1) (am_up J 67 x (rv0' x)) := by
      rw [f_UpRiverModel_firstDraft_L2.eq_2, if_pos (show am_i32 (x : Int) by omega), if_pos (show (x : Int) < 295 by omega), show (19 : Int64) = am_i2l 19 from rfl, show (30 : Int64) = am_i2l 30 from rfl, show (43 : Int64) = am_i2l 43 from rfl, show (54 : Int64) = am_i2l 54 from rfl, show (55 : Int64) = am_i2l 55 from rfl, show (162 : Int64) = am_i2l 162 from rfl, show (271 : Int64) = am_i2l 271 from rfl, show (282 : Int64) = am_i2l 282 from rfl, m_in (by omega) (by decide) (by decide), m_in (by omega) (by decide) (by decide), m_in (by omega) (by decide) (by decide), m_in (by omega) (by decide) (by decide)]
      simp only [Option.bind_some, fl_32, if_true, fl_0]
      unfold rv0'
      rw [show ((x : Int)).toNat = x from rfl]
      have g : 0 ≤ (x : Int) ∧ (x : Int) < 295 := by omega
      simp only [if_pos g]
      by_cases c0 : 19 ≤ x ∧ x ≤ 30
      · rw [if_neg (show ¬ ¬ ((19 : Int) ≤ (x : Int) ∧ (x : Int) ≤ 30) from fun z => z (by omega)), if_pos c0]
      · rw [if_pos (show ¬ ((19 : Int) ≤ (x : Int) ∧ (x : Int) ≤ 30) by omega), if_neg c0]
        by_cases c1 : 43 ≤ x ∧ x ≤ 54
        · rw [if_neg (show ¬ ¬ ((43 : Int) ≤ (x : Int) ∧ (x : Int) ≤ 54) from fun z => z (by omega)), if_pos c1]
        · rw [if_pos (show ¬ ((43 : Int) ≤ (x : Int) ∧ (x : Int) ≤ 54) by omega), if_neg c1]
          by_cases c2 : 55 ≤ x ∧ x ≤ 162
          · rw [if_neg (show ¬ ¬ ((55 : Int) ≤ (x : Int) ∧ (x : Int) ≤ 162) from fun z => z (by omega)), if_pos c2]
          · rw [if_pos (show ¬ ((55 : Int) ≤ (x : Int) ∧ (x : Int) ≤ 162) by omega), if_neg c2]
            by_cases c3 : 271 ≤ x ∧ x ≤ 282
            · rw [if_neg (show ¬ ¬ ((271 : Int) ≤ (x : Int) ∧ (x : Int) ≤ 282) from fun z => z (by omega)), if_pos c3]
            · rw [if_pos (show ¬ ((271 : Int) ≤ (x : Int) ∧ (x : Int) ≤ 282) by omega), if_neg c3]
    obtain ⟨J1, J', a1, a2, a3, a4⟩ := ih n (x + 1) (am_up J 67 x (rv0' x)) (by omega) (by omega)
    refine ⟨J1, J', main.trans a1, a2, fun j j1 j2 => ?_, fun j hj => ?_⟩
    · by_cases e : j = x
      · rw [e, a4 x (by omega), up_at]
      · exact a3 j (by omega) j2
    · rw [a4 j (by omega), up_ne (by omega)]
theorem m_firstDraft {J : am_J} : ∃ J', f_UpRiverModel_firstDraft J = some J' ∧ (∀ k, k < 295 → J' 67 k = rv0 k) ∧ (∀ j, j < 252 → J' 70 j = 0) ∧ J' 65 5 = 0 ∧ J' 65 6 = 0 := by
  obtain ⟨J1, J', a1, a2, a3, -⟩ := fd2 295 am_FU 0 J (by decide) (by omega)
  obtain ⟨J'', b1, b2, -, b4, b5, b6, b7⟩ := fd99 252 am_FU 0 J1 (by decide) (by omega)
  obtain rfl := Option.some.inj (a2.symm.trans b1)
  refine ⟨J', a1, fun k hk => ?_, fun j hj => b2 j (by omega) hj, b4, b5⟩
  by_cases c : k < 7
  · exact b7 k c
  · rw [b6 k (by omega), a3 k (by omega) hk]
    unfold rv0 rv0'
    rw [if_neg (show ¬ k = 0 by omega), if_neg (show ¬ k = 1 by omega), if_neg (show ¬ k = 2 by omega), if_neg (show ¬ k = 3 by omega), if_neg (show ¬ k = 4 by omega), if_neg (show ¬ k = 5 by omega), if_neg (show ¬ k = 6 by omega)]
