/-! a lead -/
abbrev chOk (x y z : Int) : Prop := (0 ≤ x ∧ x ≤ 9) ∧ (0 ≤ y ∧ y ≤ 9) ∧ (0 ≤ z ∧ z ≤ 9) ∧ 0 < x + y + z
theorem c_areChances {x y z : Int} (hx : am_i32 x) (hy : am_i32 y) (hz : am_i32 z) : f_UpRiver_areChances x y z = some (fl (chOk x y z)) := by
  unfold f_UpRiver_areChances
  rw [if_pos hx, if_pos hy, if_pos hz]
  by_cases a1 : x < 0
  · rw [if_pos a1, fl_f (fun z => by have := z.1; omega)]
  rw [if_neg a1]
  by_cases a2 : 9 < x
  · rw [if_pos a2, fl_f (fun z => by have := z.1; omega)]
  rw [if_neg a2]
  by_cases b1 : y < 0
  · rw [if_pos b1, fl_f (fun z => by have := z.2.1; omega)]
  rw [if_neg b1]
  by_cases b2 : 9 < y
  · rw [if_pos b2, fl_f (fun z => by have := z.2.1; omega)]
  rw [if_neg b2]
  by_cases c1 : z < 0
  · rw [if_pos c1, fl_f (fun z => by have := z.2.2.1; omega)]
  rw [if_neg c1]
  by_cases c2 : 9 < z
  · rw [if_pos c2, fl_f (fun z => by have := z.2.2.1; omega)]
  rw [if_neg c2, if_pos (show am_i32 (x + y + z) from ⟨by omega, by omega⟩)]
  by_cases d : 0 < x + y + z
  · rw [if_pos d, fl_t ⟨by omega, by omega, by omega, d⟩]
  · rw [if_neg d, fl_f (fun z => d z.2.2.2)]
theorem m_isLead {x y z : Int} (hx : am_i32 x) (hy : am_i32 y) (hz : am_i32 z) : f_UpRiverModel_isLead x y z = some (fl (chOk x y z)) := by
  unfold f_UpRiverModel_isLead
  rw [show (0 : Int64) = am_i2l 0 from rfl, show (9 : Int64) = am_i2l 9 from rfl, m_in hx (by decide) (by decide), m_in hy (by decide) (by decide), m_in hz (by decide) (by decide)]
  simp only [Option.bind_some, fl_32, if_true, fl_0]
  by_cases a : 0 ≤ x ∧ x ≤ 9
  · rw [if_neg (show ¬ ¬ (0 ≤ x ∧ x ≤ 9) from fun z => z a)]
    by_cases b : 0 ≤ y ∧ y ≤ 9
    · rw [if_neg (show ¬ ¬ (0 ≤ y ∧ y ≤ 9) from fun z => z b)]
      by_cases c : 0 ≤ z ∧ z ≤ 9
      · rw [if_neg (show ¬ ¬ (0 ≤ z ∧ z ≤ 9) from fun z => z c), if_pos (show am_i32 (x + y + z) from ⟨by omega, by omega⟩)]
        by_cases d : 0 < x + y + z
        · rw [if_pos d, fl_t ⟨a, b, c, d⟩]
        · rw [if_neg d, fl_f (fun z => d z.2.2.2)]
      · rw [if_pos c, fl_f (fun z => c z.2.2.1)]
    · rw [if_pos b, fl_f (fun z => b z.2.1)]
  · rw [if_pos a, fl_f (fun z => a z.1)]
def shN (d r x y z : Int) : Int := (if r + 1 < d then x else 0) + (if r < d then y else 0) + (if r - 1 < d then z else 0)
theorem shN_bd {d r x y z : Int} (h : chOk x y z) : 0 ≤ shN d r x y z ∧ shN d r x y z ≤ x + y + z := by
  obtain ⟨a, b, c, -⟩ := h
  unfold shN
  split <;> split <;> split <;> omega
theorem c_shallow {b : Bool} {J : am_J} {r x y z : Int} (hr : sR b J) (h0 : 0 ≤ r) (h3 : r ≤ 30) : f_UpRiver_shallowChances b J r x y z = some (shN (J 66 2) r x y z) := by
  obtain ⟨h, q, -⟩ := hr
  have h2 := h.1.2.2.1
  have e2 := q.1 2 (by omega)
  unfold f_UpRiver_shallowChances f_UpRiver_shallowChances_L24 f_UpRiver_shallowChances_L35 shN
  rw [e2, if_pos (show am_i32 (J 66 2) from ⟨by omega, by omega⟩), if_pos (show am_i32 (r + 1) from ⟨by omega, by omega⟩), if_pos (show am_i32 (J 66 2) from ⟨by omega, by omega⟩), if_pos (show am_i32 (J 66 2) from ⟨by omega, by omega⟩), if_pos (show am_i32 (r - 1) from ⟨by omega, by omega⟩), if_pos (show am_i32 r from ⟨by omega, by omega⟩), if_pos (show am_i32 r from ⟨by omega, by omega⟩)]
  simp only [if_pos (show am_i32 (J 66 2) from ⟨by omega, by omega⟩), if_pos (show am_i32 (r - 1) from ⟨by omega, by omega⟩)]
  by_cases a1 : r + 1 < J 66 2 <;> by_cases a2 : r < J 66 2 <;> by_cases a3 : r - 1 < J 66 2 <;> simp [a1, a2, a3]
theorem m_shallow {J : am_J} {r x y z : Int} (h : rv_ok (J 66)) (h0 : 0 ≤ r) (h3 : r ≤ 30) : f_UpRiverModel_shallows J r x y z = some (shN (J 66 2) r x y z) := by
  have h2 := h.1.2.2.1
  unfold f_UpRiverModel_shallows f_UpRiverModel_shallows_L21 f_UpRiverModel_shallows_L32 shN
  simp only [if_pos (show am_i32 (J 66 2) from ⟨by omega, by omega⟩), if_pos (show am_i32 (r - 1) from ⟨by omega, by omega⟩), if_pos (show am_i32 (r + 1) from ⟨by omega, by omega⟩), if_pos (show am_i32 r from ⟨by omega, by omega⟩)]
  by_cases a1 : r + 1 < J 66 2 <;> by_cases a2 : r < J 66 2 <;> by_cases a3 : r - 1 < J 66 2 <;> simp [a1, a2, a3]
theorem lead_loop {J : am_J} {x y z c p : Int} (hs : 0 < x + y + z ∧ x + y + z ≤ 27) (hc : am_i32 c) (hp : 0 ≤ p ∧ p ≤ 27) : ∀ (m n a e : Nat), e ≤ m → m < n → (1 ≤ a ∨ 1 ≤ e) → a ≤ 27 → e ≤ 27 → f_UpRiverModel_lead_L58 J n x y z c p (a : Int) (e : Int) = some (if c = 0 then p / (Nat.gcd a e : Int) else (x + y + z) / (Nat.gcd a e : Int)) := by
  intro m
  induction m with
  | zero =>
    intro n a e he hn h1 ha hee
    obtain ⟨n, rfl⟩ : ∃ k, n = k + 1 := ⟨n - 1, by omega⟩
    have e0 : e = 0 := by omega
    subst e0
    rw [f_UpRiverModel_lead_L58.eq_2, Nat.gcd_zero_right, if_pos (show am_i32 ((0 : Nat) : Int) by decide), if_pos (show ((0 : Nat) : Int) = 0 from rfl), if_pos hc]
    have g : 0 < (a : Int) ∧ am_i32 (a : Int) := ⟨by omega, by omega, by omega⟩
    rw [if_pos g, if_pos g, if_pos (show am_i32 p from ⟨by omega, by omega⟩), if_pos (show am_i32 (x + y + z) from ⟨by omega, by omega⟩), am_dv_pos hp.1, am_dv_pos (by omega)]
    split <;> rfl
  | succ m ih =>
    intro n a e he hn h1 ha hee
    obtain ⟨n, rfl⟩ : ∃ k, n = k + 1 := ⟨n - 1, by omega⟩
    by_cases e0 : e = 0
    · exact ih (n + 1) a e (by omega) (by omega) h1 ha hee
    · have g : 0 < (e : Int) ∧ am_i32 (e : Int) := ⟨by omega, by omega, by omega⟩
      have hlt := Nat.mod_lt a (show e > 0 by omega)
      rw [f_UpRiverModel_lead_L58.eq_2, if_pos g.2, if_neg (show ¬ (e : Int) = 0 by omega), if_pos g, if_pos (show am_i32 (a : Int) from ⟨by omega, by omega⟩), am_rm_pos (by omega), show (a : Int) % (e : Int) = ((a % e : Nat) : Int) from rfl, ih n e (a % e) (by omega) (by omega) (Or.inl (by omega)) hee (by omega)]
      rw [show Nat.gcd e (a % e) = Nat.gcd a e by rw [Nat.gcd_comm a e, Nat.gcd_rec e a, Nat.gcd_comm]]
theorem div_loop {p w : Nat} (hw : 1 ≤ w) (hw2 : w ≤ 27) (hp : p ≤ w) : ∀ (d n : Nat), d < n → d ≤ w → 1 ≤ d → (∀ k, d < k → k ≤ w → ¬ (k ∣ p ∧ k ∣ w)) → f_UpRiver_commonDivisor_L2 n (p : Int) (w : Int) (d : Int) = some (Nat.gcd p w : Int) := by
  intro d
  induction d with
  | zero => intro n _ _ h; omega
  | succ d ih =>
    intro n hn hd h1 hk
    obtain ⟨n, rfl⟩ : ∃ k, n = k + 1 := ⟨n - 1, by omega⟩
    have gp := Nat.gcd_dvd_left p w
    have gw := Nat.gcd_dvd_right p w
    have gpos := Nat.gcd_pos_of_pos_right p (show 0 < w by omega)
    have gle := Nat.le_of_dvd (by omega) gw
    have gd : Nat.gcd p w ≤ d + 1 := by
      by_cases c : d + 1 < Nat.gcd p w
      · exact absurd ⟨gp, gw⟩ (hk _ c gle)
      · omega
    have g : 0 < ((d + 1 : Nat) : Int) ∧ am_i32 ((d + 1 : Nat) : Int) := ⟨by omega, by omega, by omega⟩
    rw [f_UpRiver_commonDivisor_L2.eq_2, if_pos g.2]
    by_cases c1 : (1 : Int) < ((d + 1 : Nat) : Int)
    · have l1 := Nat.mod_lt p (show d + 1 > 0 by omega)
      have l2 := Nat.mod_lt w (show d + 1 > 0 by omega)
      rw [if_pos c1, if_pos g, if_pos (show am_i32 (p : Int) from ⟨by omega, by omega⟩), am_rm_pos (by omega), am_rm_pos (by omega), show (p : Int) % ((d + 1 : Nat) : Int) = ((p % (d + 1) : Nat) : Int) from rfl, show (w : Int) % ((d + 1 : Nat) : Int) = ((w % (d + 1) : Nat) : Int) from rfl, if_pos (show am_i32 ((p % (d + 1) : Nat) : Int) from ⟨by omega, by omega⟩), if_pos (show am_i32 (w : Int) from ⟨by omega, by omega⟩), if_pos (show am_i32 ((w % (d + 1) : Nat) : Int) from ⟨by omega, by omega⟩)]
      have next : ¬ (d + 1 ∣ p ∧ d + 1 ∣ w) → f_UpRiver_commonDivisor_L2 n (p : Int) (w : Int) (((d + 1 : Nat) : Int) + -1) = some (Nat.gcd p w : Int) := by
        intro hnd
        rw [show ((d + 1 : Nat) : Int) + -1 = (d : Int) by omega]
        refine ih n (by omega) (by omega) (by omega) fun k k1 k2 => ?_
        by_cases ek : k = d + 1
        · rw [ek]; exact hnd
        · exact hk k (by omega) k2
      by_cases m1 : ((p % (d + 1) : Nat) : Int) = 0
      · rw [if_pos m1]
        by_cases m2 : ((w % (d + 1) : Nat) : Int) = 0
        · rw [if_pos m2]
          have dv := Nat.dvd_gcd (Nat.dvd_of_mod_eq_zero (show p % (d + 1) = 0 by omega)) (Nat.dvd_of_mod_eq_zero (show w % (d + 1) = 0 by omega))
          have := Nat.le_of_dvd gpos dv
          congr 1
          omega
        · rw [if_neg m2]
          exact next fun z => m2 (by have := Nat.mod_eq_zero_of_dvd z.2; omega)
      · rw [if_neg m1]
        exact next fun z => m1 (by have := Nat.mod_eq_zero_of_dvd z.1; omega)
    · rw [if_neg c1]
      congr 1
      omega
