/-! settle: the bits of a river -/
abbrev flB (v : Nat → Int) (h l : Int) (f : Nat) : Prop := (f : Int) / 8 < v 0 ∧ rOp v ((f : Int) / 8) l ∧ v 2 ≤ v (55 + 9 * ((f : Int) / 8) + l).toNat + h
theorem bits_loop {o : Nat} {v : Nat → Int} (hv : rv_ok v) {J : am_J} (q : rq o J v) {h l : Int} (hh : 0 ≤ h ∧ h ≤ 15) (hl : 0 ≤ l ∧ l ≤ 8) : ∀ (k n : Nat) (y : Int64) (r : Int), k < n → 8 - r = (k : Int) → 0 ≤ r → (∀ f : Nat, f < 64 → (bt y f = true ↔ (f : Int) / 8 < r ∧ flB v h l f)) → ∃ z, f_River_bitsAfloat_L5 o J n h l y r = some z ∧ ∀ f : Nat, f < 64 → (bt z f = true ↔ flB v h l f) := by
  have hm := hv.1.1
  have h2 := hv.1.2.2.1
  intro k
  induction k with
  | zero =>
    intro n y r hn hk r0 hy
    obtain ⟨n, rfl⟩ : ∃ m, n = m + 1 := ⟨n - 1, by omega⟩
    rw [f_River_bitsAfloat_L5.eq_2, if_pos (show am_i32 r by omega), if_neg (show ¬ r < 8 by omega)]
    refine ⟨y, rfl, fun f hf => ?_⟩
    rw [hy f hf]
    exact ⟨fun z => z.2, fun z => ⟨by omega, z⟩⟩
  | succ k ih =>
    intro n y r hn hk r0 hy
    obtain ⟨n, rfl⟩ : ∃ m, n = m + 1 := ⟨n - 1, by omega⟩
    rw [f_River_bitsAfloat_L5.eq_2, if_pos (show am_i32 r by omega), if_pos (show r < 8 by omega), c_isOpen hv q (by omega) (by omega)]
    simp only [Option.bind_some, fl_32, if_true, fl_0]
    have skip : (¬ ∃ f : Nat, f < 64 ∧ (f : Int) / 8 = r ∧ flB v h l f) → ∃ z, f_River_bitsAfloat_L5 o J n h l y (r + 1) = some z ∧ ∀ f : Nat, f < 64 → (bt z f = true ↔ flB v h l f) := by
      intro no
      refine ih n y (r + 1) (by omega) (by omega) (by omega) fun f hf => ?_
      rw [hy f hf]
      constructor
      · exact fun z => ⟨by omega, z.2⟩
      · intro z
        refine ⟨?_, z.2⟩
        apply Classical.byContradiction
        intro nn
        exact no ⟨f, hf, by omega, z.2⟩
    by_cases c0 : 0 ≤ r ∧ r < v 0 ∧ rOp v r l
    · have qk := (rq_k q r0 (show r < 8 by omega) hl.1 hl.2).1
      have bk := rv_k hv r0 (show r < 8 by omega) hl.1 hl.2
      rw [if_neg (show ¬ ¬ (0 ≤ r ∧ r < v 0 ∧ rOp v r l) from fun z => z c0), if_pos (show 0 ≤ r * 9 + l ∧ r * 9 + l < 72 by omega), q.1 2 (by omega), qk, if_pos (show am_i32 (v 2) by omega), if_pos (show am_i32 (v (55 + 9 * r + l).toNat + h) by omega)]
      by_cases c1 : v (55 + 9 * r + l).toNat + h < v 2
      · rw [if_pos c1]
        refine skip ?_
        rintro ⟨f, f1, f2, f3⟩
        have := f3.2.2
        rw [f2] at this
        omega
      · rw [if_neg c1]
        refine ih n _ (r + 1) (by omega) (by omega) (by omega) fun f hf => ?_
        rw [bt_or, Bool.or_eq_true, hy f hf, bt_reach r0 (by omega) f hf]
        constructor
        · rintro (z | z)
          · exact ⟨by omega, z.2⟩
          · refine ⟨by omega, ?_⟩
            unfold flB
            rw [z]
            exact ⟨c0.2.1, c0.2.2, by omega⟩
        · intro z
          by_cases e : (f : Int) / 8 = r
          · exact Or.inr e
          · exact Or.inl ⟨by omega, z.2⟩
    · rw [if_pos c0]
      refine skip ?_
      rintro ⟨f, f1, f2, f3⟩
      apply c0
      have g1 := f3.1
      have g2 := f3.2.1
      rw [f2] at g1 g2
      exact ⟨r0, g1, g2⟩
theorem settle_in {o : Nat} {v : Nat → Int} (hv : rv_ok v) {J : am_J} (q : rq o J v) {kb : Int → am_K → Option am_K} {h : Nat} (hh : h < 16) : ∀ (k n l : Nat) (K : am_K), k < n → l + k = 9 → ∃ K', f_River_settle_L10 o J kb n (h : Int) (l : Int) K = kb ((h : Int) + 1) K' ∧ (∀ i f : Nat, l ≤ i → i < 9 → f < 64 → (bt (K' (o + 10) (h * 9 + i)) f = true ↔ flB v h i f)) ∧ (∀ j, j < h * 9 + l ∨ h * 9 + 9 ≤ j → K' (o + 10) j = K (o + 10) j) := by
  intro k
  induction k with
  | zero =>
    intro n l K hn hk
    obtain ⟨n, rfl⟩ : ∃ m, n = m + 1 := ⟨n - 1, by omega⟩
    rw [f_River_settle_L10.eq_2, if_pos (show am_i32 (l : Int) by omega), if_neg (show ¬ (l : Int) < 9 by omega)]
    exact ⟨K, rfl, fun i f i1 i2 => by omega, fun _ _ => rfl⟩
  | succ k ih =>
    intro n l K hn hk
    obtain ⟨n, rfl⟩ : ∃ m, n = m + 1 := ⟨n - 1, by omega⟩
    obtain ⟨y, y1, y2⟩ := bits_loop hv q (h := h) (l := l) (by omega) (by omega) 8 am_FU 0 0 (by decide) (by omega) (by omega) (fun f hf => by rw [bt_0]; exact ⟨fun z => (by cases z), fun z => by omega⟩)
    have y1' : f_River_bitsAfloat o J (h : Int) (l : Int) = some y := y1
    rw [f_River_settle_L10.eq_2, if_pos (show am_i32 (l : Int) by omega), if_pos (show (l : Int) < 9 by omega), y1']
    simp only [Option.bind_some]
    rw [if_pos (show 0 ≤ (h : Int) * 9 + l ∧ (h : Int) * 9 + l < 144 by omega), show ((h : Int) * 9 + l).toNat = h * 9 + l by omega]
    obtain ⟨K', a1, a2, a3⟩ := ih n (l + 1) (am_ul K (o + 10) (h * 9 + l) y) (by omega) (by omega)
    refine ⟨K', a1, fun i f i1 i2 hf => ?_, fun j hj => ?_⟩
    · by_cases e : i = l
      · rw [e, a3 _ (by omega), ul_at]
        exact y2 f hf
      · exact a2 i f (by omega) i2 hf
    · rw [a3 j (by omega), ul_ne (by omega)]
theorem settle_out {o : Nat} {v : Nat → Int} (hv : rv_ok v) {J : am_J} (q : rq o J v) : ∀ (k n h : Nat) (K : am_K), k < n → h + k = 16 → (∀ i l f : Nat, i < h → l < 9 → f < 64 → (bt (K (o + 10) (i * 9 + l)) f = true ↔ flB v i l f)) → ∃ K', f_River_settle_L2 o J n (h : Int) K = some K' ∧ rK o K' v := by
  intro k
  induction k with
  | zero =>
    intro n h K hn hk hK
    obtain ⟨n, rfl⟩ : ∃ m, n = m + 1 := ⟨n - 1, by omega⟩
    rw [f_River_settle_L2.eq_2, if_pos (show am_i32 (h : Int) by omega), if_neg (show ¬ (h : Int) < 16 by omega)]
    exact ⟨K, rfl, fun i l f h1 h2 h3 => hK i l f (by omega) h2 h3⟩
  | succ k ih =>
    intro n h K hn hk hK
    obtain ⟨n, rfl⟩ : ∃ m, n = m + 1 := ⟨n - 1, by omega⟩
    rw [f_River_settle_L2.eq_2, if_pos (show am_i32 (h : Int) by omega), if_pos (show (h : Int) < 16 by omega)]
    obtain ⟨K', a1, a2, a3⟩ := settle_in hv q (kb := f_River_settle_L2 o J n) (h := h) (by omega) 9 am_FU 0 K (by decide) (by omega)
    have a1' : f_River_settle_L10 o J (f_River_settle_L2 o J n) am_FU (h : Int) 0 K = f_River_settle_L2 o J n ((h : Int) + 1) K' := a1
    rw [a1']
    refine ih n (h + 1) K' (by omega) (by omega) fun i l f i1 l1 f1 => ?_
    by_cases e : i = h
    · rw [e]
      exact a2 l f (by omega) l1 f1
    · rw [a3 _ (by omega)]
      exact hK i l f (by omega) l1 f1
theorem c_settle {o : Nat} {v : Nat → Int} (hv : rv_ok v) {J : am_J} (q : rq o J v) (K : am_K) : ∃ K', f_River_settle o J K = some K' ∧ rK o K' v :=
  settle_out hv q 16 am_FU 0 K (by decide) (by omega) fun i l f h => by omega
/-! what a text begins anew -/
theorem kd29 : ∀ (k n x : Nat) (J : am_J), k < n → x + k = 72 → ∃ J', f_UpRiverModel_keepDraft_L29 n (x : Int) J = some J' ∧ (∀ j, x ≤ j → j < 72 → j ≠ 2 → J' 68 j = 0) ∧ (∀ j, j < x → j ≠ 2 → J' 68 j = J 68 j) ∧ J' 68 2 = J 66 7 ∧ J' 69 0 = 0 ∧ J' 69 1 = 0 ∧ (∀ j, J' 66 j = J 66 j) := by
  intro k
  induction k with
  | zero =>
    intro n x J hn hx
    obtain ⟨n, rfl⟩ : ∃ m, n = m + 1 := ⟨n - 1, by omega⟩
    rw [f_UpRiverModel_keepDraft_L29.eq_2, if_pos (show am_i32 (x : Int) by omega), if_neg (show ¬ (x : Int) < 72 by omega)]
    refine ⟨_, rfl, fun j j1 j2 => by omega, fun j j1 j2 => ?_, rfl, rfl, rfl, fun j => rfl⟩
    rw [up_row (by decide), up_row (by decide), up_ne j2]
  | succ k ih =>
    intro n x J hn hx
    obtain ⟨n, rfl⟩ : ∃ m, n = m + 1 := ⟨n - 1, by omega⟩
    rw [f_UpRiverModel_keepDraft_L29.eq_2, if_pos (show am_i32 (x : Int) by omega), if_pos (show (x : Int) < 72 by omega), if_pos (show 0 ≤ (x : Int) ∧ (x : Int) < 216 by omega), show ((x : Int)).toNat = x from rfl]
    obtain ⟨J', a1, a2, a3, a4, a5, a6, a7⟩ := ih n (x + 1) (am_up J 68 x 0) (by omega) (by omega)
    refine ⟨J', a1, fun j j1 j2 j3 => ?_, fun j hj j3 => ?_, by rw [a4, up_row (by decide)], a5, a6, fun j => by rw [a7, up_row (by decide)]⟩
    · by_cases e : j = x
      · rw [e, a3 x (by omega) (by omega), up_at]
      · exact a2 j (by omega) j2 j3
    · rw [a3 j (by omega) j3, up_ne (by omega)]
theorem kd2 : ∀ (k n x : Nat) (J : am_J), k < n → x + k = 295 → ∃ J1 J', f_UpRiverModel_keepDraft_L2 n (x : Int) J = some J' ∧ f_UpRiverModel_keepDraft_L29 am_FU 0 J1 = some J' ∧ (∀ j, x ≤ j → j < 295 → J1 66 j = J 67 j) ∧ (∀ j, j < x → J1 66 j = J 66 j) ∧ (∀ j, J1 67 j = J 67 j) := by
  intro k
  induction k with
  | zero =>
    intro n x J hn hx
    obtain ⟨n, rfl⟩ : ∃ m, n = m + 1 := ⟨n - 1, by omega⟩
    obtain ⟨J', a1, -⟩ := kd29 72 am_FU 0 J (by decide) (by omega)
    rw [f_UpRiverModel_keepDraft_L2.eq_2, if_pos (show am_i32 (x : Int) by omega), if_neg (show ¬ (x : Int) < 295 by omega)]
    exact ⟨J, J', a1, a1, fun j j1 j2 => by omega, fun j _ => rfl, fun j => rfl⟩
  | succ k ih =>
    intro n x J hn hx
    obtain ⟨n, rfl⟩ : ∃ m, n = m + 1 := ⟨n - 1, by omega⟩
    rw [f_UpRiverModel_keepDraft_L2.eq_2, if_pos (show am_i32 (x : Int) by omega), if_pos (show (x : Int) < 295 by omega), if_pos (show 0 ≤ (x : Int) ∧ (x : Int) < 295 by omega), show ((x : Int)).toNat = x from rfl]
    obtain ⟨J1, J', a1, a2, a3, a4, a5⟩ := ih n (x + 1) (am_up J 66 x (J 67 x)) (by omega) (by omega)
    refine ⟨J1, J', a1, a2, fun j j1 j2 => ?_, fun j hj => ?_, fun j => by rw [a5, up_row (by decide)]⟩
    · by_cases e : j = x
      · rw [e, a4 x (by omega), up_at]
      · rw [a3 j (by omega) j2, up_row (by decide)]
    · rw [a4 j (by omega), up_ne (by omega)]
theorem m_keepDraft {J : am_J} : ∃ J', f_UpRiverModel_keepDraft J = some J' ∧ (∀ k, k < 295 → J' 66 k = J 67 k) ∧ (∀ j, j < 72 → j ≠ 2 → J' 68 j = 0) ∧ J' 68 2 = J 67 7 ∧ J' 69 0 = 0 ∧ J' 69 1 = 0 := by
  obtain ⟨J1, J', a1, a2, a3, -, a5⟩ := kd2 295 am_FU 0 J (by decide) (by omega)
  obtain ⟨J'', b1, b2, -, b4, b5, b6, b7⟩ := kd29 72 am_FU 0 J1 (by decide) (by omega)
  obtain rfl := Option.some.inj (a2.symm.trans b1)
  exact ⟨J', a1, fun k hk => by rw [b7, a3 k (by omega) hk], fun j hj j2 => b2 j (by omega) hj j2, by rw [b4, a3 7 (by omega) (by omega)], b5, b6⟩
theorem ba61 {b : Bool} {J : am_J} : ∃ J', f_UpRiver_beginAnew_L61 b am_FU 0 J = some J' ∧ J' 43 3 = 0 ∧ J' 50 3 = 0 ∧ (∀ a, a ≠ 43 → a ≠ 50 → J' a = J a) := by
  refine ⟨am_up (am_up J 43 3 0) 50 3 0, ?_, ?_, up_at _ _ _ _, fun a h1 h2 => by rw [up_row h2, up_row h1]⟩
  · obtain ⟨N, hN⟩ : ∃ N, am_FU = N + 3 := ⟨19997, rfl⟩
    rw [hN, f_UpRiver_beginAnew_L61.eq_2, if_pos (show am_i32 0 by decide), if_pos (show (0 : Int) < 2 by decide), if_pos (show (0 : Int) = 0 from rfl), f_UpRiver_beginAnew_L61.eq_2, if_pos (show am_i32 (0 + 1) by decide), if_pos (show (0 + 1 : Int) < 2 by decide), if_neg (show ¬ (0 + 1 : Int) = 0 by decide), if_pos (show (0 + 1 : Int) = 1 by decide), f_UpRiver_beginAnew_L61.eq_2, if_pos (show am_i32 (1 + 1) by decide), if_neg (show ¬ (1 + 1 : Int) < 2 by decide)]
  · rw [up_row (by decide), up_at]
theorem ba2 {b : Bool} {v : Nat → Int} : ∀ (k n x : Nat) (J : am_J), k < n → x + k = 301 → rq (am_rv b) J v → ∃ J', f_UpRiver_beginAnew_L2 b n (x : Int) J = some J' ∧ (∀ j, x ≤ j → j < 301 → J' 31 j = 0) ∧ (∀ j, j < x → J' 31 j = J 31 j) ∧ J' 18 0 = 0 ∧ J' 18 1 = v 7 ∧ J' 18 2 = 0 ∧ J' 18 3 = 0 ∧ J' 18 4 = 0 ∧ J' 18 5 = 0 ∧ J' 19 2 = 0 ∧ J' 22 1 = 0 ∧ J' 43 3 = 0 ∧ J' 50 3 = 0 := by
  intro k
  induction k with
  | zero =>
    intro n x J hn hx q
    obtain ⟨n, rfl⟩ : ∃ m, n = m + 1 := ⟨n - 1, by omega⟩
    rw [f_UpRiver_beginAnew_L2.eq_2, if_pos (show am_i32 (x : Int) by omega), if_pos (show 300 < (x : Int) by omega)]
    unfold f_Boat_lieAtStart f_Boat_lieAt
    simp only [Option.bind_some]
    obtain ⟨J', a1, a2, a3, a4⟩ := ba61 (b := b) (J := am_up (am_up (am_up (am_up (am_up (am_up (am_up (am_up J 18 0 0) 18 1 (J (am_rv b + 4) 0)) 18 2 0) 18 3 0) 18 4 0) 18 5 0) 19 2 0) 22 1 0)
    refine ⟨J', a1, fun j j1 j2 => by omega, fun j _ => by rw [a4 31 (by decide) (by decide)]; rfl, by rw [a4 18 (by decide) (by decide)]; rfl, ?_, by rw [a4 18 (by decide) (by decide)]; rfl, by rw [a4 18 (by decide) (by decide)]; rfl, by rw [a4 18 (by decide) (by decide)]; rfl, by rw [a4 18 (by decide) (by decide)]; rfl, by rw [a4 19 (by decide) (by decide)]; rfl, by rw [a4 22 (by decide) (by decide)]; rfl, a2, a3⟩
    rw [a4 18 (by decide) (by decide), ← (q.2.2.1 0 (by omega)).1]
    rfl
  | succ k ih =>
    intro n x J hn hx q
    obtain ⟨n, rfl⟩ : ∃ m, n = m + 1 := ⟨n - 1, by omega⟩
    rw [f_UpRiver_beginAnew_L2.eq_2, if_pos (show am_i32 (x : Int) by omega), if_neg (show ¬ 300 < (x : Int) by omega), if_pos (show 0 ≤ (x : Int) ∧ (x : Int) < 301 by omega), show ((x : Int)).toNat = x from rfl]
    obtain ⟨J', a1, a2, a3, a4⟩ := ih n (x + 1) (am_up J 31 x 0) (by omega) (by omega) (rq_cong q rfl fun a ha j => by rw [up_row (by omega)])
    refine ⟨J', a1, fun j j1 j2 => ?_, fun j hj => ?_, a4⟩
    · by_cases e : j = x
      · rw [e, a3 x (by omega), up_at]
      · exact a2 j (by omega) j2
    · rw [a3 j (by omega), up_ne (by omega)]
theorem c_rforget {J : am_J} : ∃ J', f_Reader_forget J = some J' ∧ J' 1 4 = 0 ∧ J' 1 8 = 0 ∧ J' 1 9 = -1 ∧ J' 1 10 = 0 ∧ J' 1 11 = 0 ∧ (∀ j, j < 182 → J' 4 j = 0) ∧ (∀ a, a ≠ 1 → a ≠ 4 → J' a = J a) := by
  have loop : ∀ (k n x : Nat) (J : am_J), k < n → x + k = 182 → ∃ J', f_Reader_forget_L27 n (x : Int) J = some J' ∧ (∀ j, x ≤ j → j < 182 → J' 4 j = 0) ∧ (∀ j, j < x → J' 4 j = J 4 j) ∧ (∀ a, a ≠ 4 → J' a = J a) := by
    intro k
    induction k with
    | zero =>
      intro n x J hn hx
      obtain ⟨n, rfl⟩ : ∃ m, n = m + 1 := ⟨n - 1, by omega⟩
      rw [f_Reader_forget_L27.eq_2, if_pos (show am_i32 (x : Int) by omega), if_neg (show ¬ (x : Int) < 182 by omega)]
      exact ⟨J, rfl, fun j j1 j2 => by omega, fun _ _ => rfl, fun _ _ => rfl⟩
    | succ k ih =>
      intro n x J hn hx
      obtain ⟨n, rfl⟩ : ∃ m, n = m + 1 := ⟨n - 1, by omega⟩
      rw [f_Reader_forget_L27.eq_2, if_pos (show am_i32 (x : Int) by omega), if_pos (show (x : Int) < 182 by omega), if_pos (show 0 ≤ (x : Int) ∧ (x : Int) < 182 by omega), show ((x : Int)).toNat = x from rfl]
      obtain ⟨J', a1, a2, a3, a4⟩ := ih n (x + 1) (am_up J 4 x 0) (by omega) (by omega)
      refine ⟨J', a1, fun j j1 j2 => ?_, fun j hj => ?_, fun a ha => ?_⟩
      · by_cases e : j = x
        · rw [e, a3 x (by omega), up_at]
        · exact a2 j (by omega) j2
      · rw [a3 j (by omega), up_ne (by omega)]
      · rw [a4 a ha, up_row ha]
  obtain ⟨J', a1, a2, -, a4⟩ := loop 182 am_FU 0 (am_up (am_up (am_up (am_up (am_up J 1 4 0) 1 8 0) 1 9 (-1)) 1 10 0) 1 11 0) (by decide) (by omega)
  refine ⟨J', a1, ?_, ?_, ?_, ?_, ?_, fun j hj => a2 j (by omega) hj, fun a h1 h4 => ?_⟩
  · rw [a4 1 (by decide)]; rfl
  · rw [a4 1 (by decide)]; rfl
  · rw [a4 1 (by decide)]; rfl
  · rw [a4 1 (by decide)]; rfl
  · rw [a4 1 (by decide)]; rfl
  · rw [a4 a h4, up_row h1, up_row h1, up_row h1, up_row h1, up_row h1]
