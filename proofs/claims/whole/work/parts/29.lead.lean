/-! a lead -/
abbrev chOk (x y z : Int) : Prop := (0 ≤ x ∧ x ≤ 9) ∧ (0 ≤ y ∧ y ≤ 9) ∧ (0 ≤ z ∧ z ≤ 9) ∧ 0 < x + y + z
theorem c_areChances {x y z : Int} (hx : am_i32 x) (hy : am_i32 y) (hz : am_i32 z) : f_UpRiver_areChances x y z = some (fl (chOk x y z)) := by
  unfold f_UpRiver_areChances
  rw [if_pos hx, if_pos hy, if_pos hz]
  by_cases a1 : x < 0
  · rw [if_pos a1, fl_f (fun z => by have := z.1; omega)]
  rw [if_neg a1]
  by_cases a2 : 9 < x
  · rw [if_pos a2, fl_f (fun z => by have := z.1; omega)]
  rw [if_neg a2]
  by_cases b1 : y < 0
  · rw [if_pos b1, fl_f (fun z => by have := z.2.1; omega)]
  rw [if_neg b1]
  by_cases b2 : 9 < y
  · rw [if_pos b2, fl_f (fun z => by have := z.2.1; omega)]
  rw [if_neg b2]
  by_cases c1 : z < 0
  · rw [if_pos c1, fl_f (fun z => by have := z.2.2.1; omega)]
  rw [if_neg c1]
  by_cases c2 : 9 < z
  · rw [if_pos c2, fl_f (fun z => by have := z.2.2.1; omega)]
  rw [if_neg c2, if_pos (show am_i32 (x + y + z) from ⟨by omega, by omega⟩)]
  by_cases d : 0 < x + y + z
  · rw [if_pos d, fl_t ⟨by omega, by omega, by omega, d⟩]
  · rw [if_neg d, fl_f (fun z => d z.2.2.2)]
theorem m_isLead {x y z : Int} (hx : am_i32 x) (hy : am_i32 y) (hz : am_i32 z) : f_UpRiverModel_isLead x y z = some (fl (chOk x y z)) := by
  unfold f_UpRiverModel_isLead
  rw [show (0 : Int64) = am_i2l 0 from rfl, show (9 : Int64) = am_i2l 9 from rfl, m_in hx (by decide) (by decide), m_in hy (by decide) (by decide), m_in hz (by decide) (by decide)]
  simp only [Option.bind_some, fl_32, if_true, fl_0]
  by_cases a : 0 ≤ x ∧ x ≤ 9
  · rw [if_neg (show ¬ ¬ (0 ≤ x ∧ x ≤ 9) from fun z => z a)]
    by_cases b : 0 ≤ y ∧ y ≤ 9
    · rw [if_neg (show ¬ ¬ (0 ≤ y ∧ y ≤ 9) from fun z => z b)]
      by_cases c : 0 ≤ z ∧ z ≤ 9
      · rw [if_neg (show ¬ ¬ (0 ≤ z ∧ z ≤ 9) from fun z => z c), if_pos (show am_i32 (x + y + z) from ⟨by omega, by omega⟩)]
        by_cases d : 0 < x + y + z
        · rw [if_pos d, fl_t ⟨a, b, c, d⟩]
        · rw [if_neg d, fl_f (fun z => d z.2.2.2)]
      · rw [if_pos c, fl_f (fun z => c z.2.2.1)]
    · rw [if_pos b, fl_f (fun z => b z.2.1)]
  · rw [if_pos a, fl_f (fun z => a z.1)]
def shN (d r x y z : Int) : Int := (if r + 1 < d then x else 0) + (if r < d then y else 0) + (if r - 1 < d then z else 0)
theorem shN_bd {d r x y z : Int} (h : chOk x y z) : 0 ≤ shN d r x y z ∧ shN d r x y z ≤ x + y + z := by
  obtain ⟨a, b, c, -⟩ := h
  unfold shN
  split <;> split <;> split <;> omega
theorem c_shallow {b : Bool} {J : am_J} {r x y z : Int} (hr : sR b J) (h0 : 0 ≤ r) (h3 : r ≤ 30) : f_UpRiver_shallowChances b J r x y z = some (shN (J 66 2) r x y z) := by
  obtain ⟨h, q, -⟩ := hr
  have h2 := h.1.2.2.1
  have e2 := q.1 2 (by omega)
  unfold f_UpRiver_shallowChances f_UpRiver_shallowChances_L24 f_UpRiver_shallowChances_L35 shN
  rw [e2, if_pos (show am_i32 (J 66 2) from ⟨by omega, by omega⟩), if_pos (show am_i32 (r + 1) from ⟨by omega, by omega⟩), if_pos (show am_i32 (J 66 2) from ⟨by omega, by omega⟩), if_pos (show am_i32 (J 66 2) from ⟨by omega, by omega⟩), if_pos (show am_i32 (r - 1) from ⟨by omega, by omega⟩), if_pos (show am_i32 r from ⟨by omega, by omega⟩), if_pos (show am_i32 r from ⟨by omega, by omega⟩)]
  simp only [if_pos (show am_i32 (J 66 2) from ⟨by omega, by omega⟩), if_pos (show am_i32 (r - 1) from ⟨by omega, by omega⟩)]
  by_cases a1 : r + 1 < J 66 2 <;> by_cases a2 : r < J 66 2 <;> by_cases a3 : r - 1 < J 66 2 <;> simp [a1, a2, a3]
theorem m_shallow {J : am_J} {r x y z : Int} (h : rv_ok (J 66)) (h0 : 0 ≤ r) (h3 : r ≤ 30) : f_UpRiverModel_shallows J r x y z = some (shN (J 66 2) r x y z) := by
  have h2 := h.1.2.2.1
  unfold f_UpRiverModel_shallows f_UpRiverModel_shallows_L21 f_UpRiverModel_shallows_L32 shN
  simp only [if_pos (show am_i32 (J 66 2) from ⟨by omega, by omega⟩), if_pos (show am_i32 (r - 1) from ⟨by omega, by omega⟩), if_pos (show am_i32 (r + 1) from ⟨by omega, by omega⟩), if_pos (show am_i32 r from ⟨by omega, by omega⟩)]
  by_cases a1 : r + 1 < J 66 2 <;> by_cases a2 : r < J 66 2 <;> by_cases a3 : r - 1 < J 66 2 <;> simp [a1, a2, a3]
theorem lead_loop {J : am_J} {x y z c p : Int} (hs : 0 < x + y + z ∧ x + y + z ≤ 27) (hc : am_i32 c) (hp : 0 ≤ p ∧ p ≤ 27) : ∀ (m n a e : Nat), e ≤ m → m < n → (1 ≤ a ∨ 1 ≤ e) → a ≤ 27 → e ≤ 27 → f_UpRiverModel_lead_L58 J n x y z c p (a : Int) (e : Int) = some (if c = 0 then p / (Nat.gcd a e : Int) else (x + y + z) / (Nat.gcd a e : Int)) := by
  intro m
  induction m with
  | zero =>
    intro n a e he hn h1 ha hee
    obtain ⟨n, rfl⟩ : ∃ k, n = k + 1 := ⟨n - 1, by omega⟩
    have e0 : e = 0 := by omega
    subst e0
    rw [f_UpRiverModel_lead_L58.eq_2, Nat.gcd_zero_right, if_pos (show am_i32 ((0 : Nat) : Int) by decide), if_pos (show ((0 : Nat) : Int) = 0 from rfl), if_pos hc]
    have g : 0 < (a : Int) ∧ am_i32 (a : Int) := ⟨by omega, by omega, by omega⟩
    rw [if_pos g, if_pos g, if_pos (show am_i32 p from ⟨by omega, by omega⟩), if_pos (show am_i32 (x + y + z) from ⟨by omega, by omega⟩), am_dv_pos hp.1, am_dv_pos (by omega)]
    split <;> rfl
  | succ m ih =>
    intro n a e he hn h1 ha hee
    obtain ⟨n, rfl⟩ : ∃ k, n = k + 1 := ⟨n - 1, by omega⟩
    by_cases e0 : e = 0
    · exact ih (n + 1) a e (by omega) (by omega) h1 ha hee
    · have g : 0 < (e : Int) ∧ am_i32 (e : Int) := ⟨by omega, by omega, by omega⟩
      have hlt := Nat.mod_lt a (show e > 0 by omega)
      rw [f_UpRiverModel_lead_L58.eq_2, if_pos g.2, if_neg (show ¬ (e : Int) = 0 by omega), if_pos g, if_pos (show am_i32 (a : Int) from ⟨by omega, by omega⟩), am_rm_pos (by omega), show (a : Int) % (e : Int) = ((a % e : Nat) : Int) from rfl, ih n e (a % e) (by omega) (by omega) (Or.inl (by omega)) hee (by omega)]
      rw [show Nat.gcd e (a % e) = Nat.gcd a e by rw [Nat.gcd_comm a e, Nat.gcd_rec e a, Nat.gcd_comm]]
theorem div_loop {p w : Nat} (hw : 1 ≤ w) (hw2 : w ≤ 27) (hp : p ≤ w) : ∀ (d n : Nat), d < n → d ≤ w → 1 ≤ d → (∀ k, d < k → k ≤ w → ¬ (k ∣ p ∧ k ∣ w)) → f_UpRiver_commonDivisor_L2 n (p : Int) (w : Int) (d : Int) = some (Nat.gcd p w : Int) := by
  intro d
  induction d with
  | zero => intro n _ _ h; omega
  | succ d ih =>
    intro n hn hd h1 hk
    obtain ⟨n, rfl⟩ : ∃ k, n = k + 1 := ⟨n - 1, by omega⟩
    have gp := Nat.gcd_dvd_left p w
    have gw := Nat.gcd_dvd_right p w
    have gpos := Nat.gcd_pos_of_pos_right p (show 0 < w by omega)
    have gle := Nat.le_of_dvd (by omega) gw
    have gd : Nat.gcd p w ≤ d + 1 := by
      by_cases c : d + 1 < Nat.gcd p w
      · exact absurd ⟨gp, gw⟩ (hk _ c gle)
      · omega
    have g : 0 < ((d + 1 : Nat) : Int) ∧ am_i32 ((d + 1 : Nat) : Int) := ⟨by omega, by omega, by omega⟩
    rw [f_UpRiver_commonDivisor_L2.eq_2, if_pos g.2]
    by_cases c1 : (1 : Int) < ((d + 1 : Nat) : Int)
    · have l1 := Nat.mod_lt p (show d + 1 > 0 by omega)
      have l2 := Nat.mod_lt w (show d + 1 > 0 by omega)
      rw [if_pos c1, if_pos g, if_pos (show am_i32 (p : Int) from ⟨by omega, by omega⟩), am_rm_pos (by omega), am_rm_pos (by omega), show (p : Int) % ((d + 1 : Nat) : Int) = ((p % (d + 1) : Nat) : Int) from rfl, show (w : Int) % ((d + 1 : Nat) : Int) = ((w % (d + 1) : Nat) : Int) from rfl, if_pos (show am_i32 ((p % (d + 1) : Nat) : Int) from ⟨by omega, by omega⟩), if_pos (show am_i32 (w : Int) from ⟨by omega, by omega⟩), if_pos (show am_i32 ((w % (d + 1) : Nat) : Int) from ⟨by omega, by omega⟩)]
      have next : ¬ (d + 1 ∣ p ∧ d + 1 ∣ w) → f_UpRiver_commonDivisor_L2 n (p : Int) (w : Int) (((d + 1 : Nat) : Int) + -1) = some (Nat.gcd p w : Int) := by
        intro hnd
        rw [show ((d + 1 : Nat) : Int) + -1 = (d : Int) by omega]
        refine ih n (by omega) (by omega) (by omega) fun k k1 k2 => ?_
        by_cases ek : k = d + 1
        · rw [ek]; exact hnd
        · exact hk k (by omega) k2
      by_cases m1 : ((p % (d + 1) : Nat) : Int) = 0
      · rw [if_pos m1]
        by_cases m2 : ((w % (d + 1) : Nat) : Int) = 0
        · rw [if_pos m2]
          have dv := Nat.dvd_gcd (Nat.dvd_of_mod_eq_zero (show p % (d + 1) = 0 by omega)) (Nat.dvd_of_mod_eq_zero (show w % (d + 1) = 0 by omega))
          have := Nat.le_of_dvd gpos dv
          congr 1
          omega
        · rw [if_neg m2]
          exact next fun z => m2 (by have := Nat.mod_eq_zero_of_dvd z.2; omega)
      · rw [if_neg m1]
        exact next fun z => m1 (by have := Nat.mod_eq_zero_of_dvd z.1; omega)
    · rw [if_neg c1]
      congr 1
      omega
theorem e_lead {b : Bool} {J : am_J} {r x y z c : Int} (hr : sR b J) (h1 : am_i32 r) (hx : am_i32 x) (hy : am_i32 y) (hz : am_i32 z) (hc : am_i32 c) : ∃ q, f_UpRiver_lead b J r x y z c = some q ∧ f_UpRiverModel_lead J r x y z c = some q ∧ am_i32 q := by
  have hr' := hr
  obtain ⟨h, -, -⟩ := hr'
  unfold f_UpRiver_lead f_UpRiverModel_lead
  rw [if_pos h1, c_areChances hx hy hz, m_isLead hx hy hz, c_isYesOrNo hc, m_in3 hc, show (0 : Int64) = am_i2l 0 from rfl, show (30 : Int64) = am_i2l 30 from rfl, m_in h1 (by decide) (by decide)]
  simp only [Option.bind_some, fl_32, if_true, fl_0]
  by_cases a : 0 ≤ r ∧ r ≤ 30
  · rw [if_neg (show ¬ r < 0 by omega), if_neg (show ¬ 30 < r by omega), if_neg (show ¬ ¬ (0 ≤ r ∧ r ≤ 30) from fun z => z a)]
    by_cases o : chOk x y z
    · have n1 : ¬ ¬ chOk x y z := fun z => z o
      rw [if_neg n1, if_neg n1]
      by_cases d : 0 ≤ c ∧ c ≤ 1
      · have n2 : ¬ ¬ (0 ≤ c ∧ c ≤ 1) := fun z => z d
        have sb := shN_bd (d := J 66 2) (r := r) o
        have hs : 0 < x + y + z ∧ x + y + z ≤ 27 := by obtain ⟨o1, o2, o3, o4⟩ := o; omega
        rw [if_neg n2, if_neg n2, c_shallow hr a.1 a.2, m_shallow h a.1 a.2]
        simp only [Option.bind_some]
        obtain ⟨p, ep⟩ : ∃ p : Nat, shN (J 66 2) r x y z = (p : Int) := ⟨(shN (J 66 2) r x y z).toNat, by omega⟩
        obtain ⟨w, ew⟩ : ∃ w : Nat, x + y + z = (w : Int) := ⟨(x + y + z).toNat, by omega⟩
        have gpos := Nat.gcd_pos_of_pos_right p (show 0 < w by omega)
        have gle := Nat.le_of_dvd (show 0 < w by omega) (Nat.gcd_dvd_right p w)
        have eg : Nat.gcd w p = Nat.gcd p w := Nat.gcd_comm w p
        have el := lead_loop (J := J) (c := c) (p := (p : Int)) hs hc ⟨by omega, by omega⟩ p am_FU w p (by omega) (by have : am_FU = 20000 := rfl; omega) (Or.inl (by omega)) (by omega) (by omega)
        unfold f_UpRiver_commonDivisor
        rw [ep, ew, div_loop (p := p) (w := w) (by omega) (by omega) (by omega) w am_FU (by have : am_FU = 20000 := rfl; omega) (by omega) (by omega) (fun k k1 k2 => by omega)]
        rw [ew] at el
        rw [el, eg]
        simp only [Option.bind_some]
        have g : 0 < (Nat.gcd p w : Int) ∧ am_i32 (Nat.gcd p w : Int) := ⟨by omega, by omega, by omega⟩
        rw [if_pos g.2, if_neg (show ¬ (Nat.gcd p w : Int) < 1 by omega), if_pos hc, if_pos g, if_pos g, if_pos (show am_i32 (p : Int) from ⟨by omega, by omega⟩), if_pos (show am_i32 (w : Int) from ⟨by omega, by omega⟩), am_dv_pos (by omega), am_dv_pos (by omega)]
        have i1 := Int.ediv_nonneg (show 0 ≤ (p : Int) by omega) (show 0 ≤ (Nat.gcd p w : Int) by omega)
        have i2 := Int.ediv_le_self (Nat.gcd p w : Int) (show 0 ≤ (p : Int) by omega)
        have i3 := Int.ediv_nonneg (show 0 ≤ (w : Int) by omega) (show 0 ≤ (Nat.gcd p w : Int) by omega)
        have i4 := Int.ediv_le_self (Nat.gcd p w : Int) (show 0 ≤ (w : Int) by omega)
        by_cases c0 : c = 0
        · rw [if_pos c0, if_pos c0]
          exact ⟨_, rfl, rfl, ⟨by omega, by omega⟩⟩
        · rw [if_neg c0, if_neg c0]
          exact ⟨_, rfl, rfl, ⟨by omega, by omega⟩⟩
      · rw [if_pos d, if_pos d]
        exact ⟨-1, rfl, rfl, by decide⟩
    · rw [if_pos o, if_pos o]
      exact ⟨-1, rfl, rfl, by decide⟩
  · rw [if_pos a]
    refine ⟨-1, ?_, rfl, by decide⟩
    by_cases d : r < 0
    · rw [if_pos d]
    · rw [if_neg d, if_pos (by omega)]
theorem near_loop {b : Bool} {J : am_J} {x y z u v : Int} (hr : sR b J) (o : chOk x y z) (hu : 0 ≤ u ∧ u ≤ 99) (hv : 1 ≤ v ∧ v ≤ 99) : ∀ (k n : Nat) (l : Int), k < n → k ≤ 31 → (k = 31 ∧ l = -4 ∨ k < 31 ∧ l = (k : Int)) → ∃ q, f_UpRiver_near_L44 b J n x y z u v l ((k : Int) - 1) = some q ∧ f_UpRiverModel_near_L41 J n x y z u v (k : Int) = some q ∧ am_i32 q := by
  have hr' := hr
  obtain ⟨h, -, -⟩ := hr'
  have hs : 0 < x + y + z ∧ x + y + z ≤ 27 := by obtain ⟨o1, o2, o3, o4⟩ := o; omega
  have fin : ∀ (k : Nat) (l : Int), k ≤ 31 → (k = 31 ∧ l = -4 ∨ k < 31 ∧ l = (k : Int)) → f_UpRiverModel_near_L77 J (k : Int) = some l := by
    intro k l hk hl
    unfold f_UpRiverModel_near_L77
    rw [if_pos (show am_i32 (k : Int) from ⟨by omega, by omega⟩)]
    rcases hl with ⟨rfl, rfl⟩ | ⟨h1, rfl⟩
    · rfl
    · rw [if_neg (by omega)]
  intro k
  induction k with
  | zero =>
    intro n l hn hk hl
    obtain ⟨n, rfl⟩ : ∃ k, n = k + 1 := ⟨n - 1, by omega⟩
    rw [f_UpRiver_near_L44.eq_2, f_UpRiverModel_near_L41.eq_2, if_pos (show am_i32 (((0 : Nat) : Int) - 1) by decide), if_pos (show am_i32 ((0 : Nat) : Int) by decide), if_pos (show ((0 : Nat) : Int) - 1 < 0 by decide), if_neg (show ¬ 0 < ((0 : Nat) : Int) by decide), fin 0 l hk hl]
    exact ⟨l, rfl, rfl, ⟨by omega, by omega⟩⟩
  | succ k ih =>
    intro n l hn hk hl
    obtain ⟨n, rfl⟩ : ∃ k, n = k + 1 := ⟨n - 1, by omega⟩
    have sb := shN_bd (d := J 66 2) (r := (k : Int)) o
    rw [f_UpRiver_near_L44.eq_2, f_UpRiverModel_near_L41.eq_2, show ((k + 1 : Nat) : Int) - 1 = (k : Int) by omega, if_pos (show am_i32 (k : Int) from ⟨by omega, by omega⟩), if_pos (show am_i32 ((k + 1 : Nat) : Int) from ⟨by omega, by omega⟩), if_neg (show ¬ (k : Int) < 0 by omega), if_pos (show 0 < ((k + 1 : Nat) : Int) by omega), c_shallow hr (by omega) (by omega), m_shallow h (by omega) (by omega)]
    simp only [Option.bind_some]
    have p1 : am_i32 (u * (x + y + z)) := by
      have q1 := Int.mul_nonneg hu.1 (show 0 ≤ x + y + z by omega)
      have q2 := Int.mul_le_mul hu.2 hs.2 (show 0 ≤ x + y + z by omega) (show (0 : Int) ≤ 99 by omega)
      exact ⟨by omega, by omega⟩
    have p2 : am_i32 (shN (J 66 2) (k : Int) x y z * v) := by
      have q1 := Int.mul_nonneg sb.1 (show 0 ≤ v by omega)
      have q2 := Int.mul_le_mul (show shN (J 66 2) (k : Int) x y z ≤ 27 by omega) hv.2 (show 0 ≤ v by omega) (show (0 : Int) ≤ 27 by omega)
      exact ⟨by omega, by omega⟩
    rw [if_pos p1, if_pos p1, if_pos p2, if_pos p2]
    by_cases g : u * (x + y + z) < shN (J 66 2) (k : Int) x y z * v
    · rw [if_pos g, if_pos g, fin (k + 1) l hk hl]
      exact ⟨l, rfl, rfl, ⟨by omega, by omega⟩⟩
    · rw [if_neg g, if_neg g, show ((k + 1 : Nat) : Int) + -1 = (k : Int) by omega, show (k : Int) + -1 = (k : Int) - 1 by omega]
      exact ih n (k : Int) (by omega) (by omega) (Or.inr ⟨by omega, rfl⟩)
theorem e_near {b : Bool} {J : am_J} {x y z u v : Int} (hr : sR b J) (hx : am_i32 x) (hy : am_i32 y) (hz : am_i32 z) (hu : am_i32 u) (hv : am_i32 v) : ∃ q, f_UpRiver_near b J x y z u v = some q ∧ f_UpRiverModel_near J x y z u v = some q ∧ am_i32 q := by
  unfold f_UpRiver_near f_UpRiverModel_near
  rw [c_areChances hx hy hz, m_isLead hx hy hz, show (0 : Int64) = am_i2l 0 from rfl, show (99 : Int64) = am_i2l 99 from rfl, show (1 : Int64) = am_i2l 1 from rfl, m_in hu (by decide) (by decide), m_in hv (by decide) (by decide)]
  simp only [Option.bind_some, fl_32, if_true, fl_0]
  by_cases o : chOk x y z
  · have n1 : ¬ ¬ chOk x y z := fun z => z o
    rw [if_neg n1, if_neg n1, if_pos hu, if_pos hv]
    by_cases a : 0 ≤ u ∧ u ≤ 99
    · rw [if_neg (show ¬ u < 0 by omega), if_neg (show ¬ 99 < u by omega), if_neg (show ¬ ¬ (0 ≤ u ∧ u ≤ 99) from fun z => z a)]
      by_cases c : 1 ≤ v ∧ v ≤ 99
      · rw [if_neg (show ¬ v < 1 by omega), if_neg (show ¬ 99 < v by omega), if_neg (show ¬ ¬ (1 ≤ v ∧ v ≤ 99) from fun z => z c)]
        exact near_loop hr o a c 31 am_FU (-4) (by decide) (by decide) (Or.inl ⟨rfl, rfl⟩)
      · rw [if_pos c]
        refine ⟨-1, ?_, rfl, by decide⟩
        by_cases d : v < 1
        · rw [if_pos d]
        · rw [if_neg d, if_pos (by omega)]
    · rw [if_pos a]
      refine ⟨-1, ?_, rfl, by decide⟩
      by_cases d : u < 0
      · rw [if_pos d]
      · rw [if_neg d, if_pos (by omega)]
  · rw [if_pos o, if_pos o]
    exact ⟨-1, rfl, rfl, by decide⟩
