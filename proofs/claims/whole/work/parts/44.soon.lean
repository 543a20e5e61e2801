/-! the reference: the soonest from a spot; the soonest of a stretch -/
theorem clr_loop {g a c : Int} : ∀ (k n x : Nat) (J : am_J), k < n → x + k = 11520 → ∃ J', f_UpRiverModel_clears_L3 n g a c (x : Int) J = some J' ∧ (∀ j, x ≤ j → j < 11520 → J' 72 j = 0) ∧ (∀ j, j < x → J' 72 j = J 72 j) ∧ J' 65 22 = g ∧ J' 65 23 = a ∧ J' 65 24 = c ∧ J' 65 21 = -4 := by
  intro k
  induction k with
  | zero =>
    intro n x J hn hx
    obtain ⟨n, rfl⟩ : ∃ m, n = m + 1 := ⟨n - 1, by omega⟩
    rw [f_UpRiverModel_clears_L3.eq_2, if_pos (show am_i32 (x : Int) by omega), if_neg (show ¬ (x : Int) < 11520 by omega)]
    exact ⟨_, rfl, fun j j1 j2 => by omega, fun j _ => rfl, rfl, rfl, rfl, rfl⟩
  | succ k ih =>
    intro n x J hn hx
    obtain ⟨n, rfl⟩ : ∃ m, n = m + 1 := ⟨n - 1, by omega⟩
    rw [f_UpRiverModel_clears_L3.eq_2, if_pos (show am_i32 (x : Int) by omega), if_pos (show (x : Int) < 11520 by omega), if_pos (show 0 ≤ (x : Int) ∧ (x : Int) < 11520 by omega), show ((x : Int)).toNat = x from rfl]
    obtain ⟨J', a1, a2, a3, a4⟩ := ih n (x + 1) (am_up J 72 x 0) (by omega) (by omega)
    refine ⟨J', a1, fun j j1 j2 => ?_, fun j hj => ?_, a4⟩
    · by_cases e : j = x
      · rw [e, a3 _ (by omega), up_at]
      · exact a2 j (by omega) j2
    · rw [a3 j (by omega), up_ne (by omega)]
theorem m_clears {J : am_J} {g a c : Int} : ∃ J', f_UpRiverModel_clears g a c J = some J' ∧ (∀ j, j < 11520 → J' 72 j = 0) ∧ Em J' (J 66) (J 65 15) g a c ∧ J' 65 21 = -4 := by
  obtain ⟨J', a1, a2, -, a4, a5, a6, a7⟩ := clr_loop (g := g) (a := a) (c := c) 11520 am_FU 0 J (by decide) (by omega)
  have a1' : f_UpRiverModel_clears g a c J = some J' := a1
  exact ⟨J', a1', fun j hj => a2 j (by omega) hj, ⟨by funext j; exact frJ_UpRiverModel_clears a1' rfl, frJ_UpRiverModel_clears a1' rfl, a4, a5, a6⟩, a7⟩
theorem clr_Dm {v : Nat → Int} {a c : Int} {J : am_J} (h : ∀ j, j < 11520 → J 72 j = 0) (h2 : J 65 21 = -4) : Dm v a c J := by
  refine ⟨fun k hk => Or.inl (h k hk), fun t f l b hd hm => ?_, Or.inl h2⟩
  rw [h _ (by unfold mi; omega)] at hm
  cases hm
theorem clr_Ph {v : Nat → Int} {lt g a c : Int} {J : am_J} (h : ∀ j, j < 11520 → J 72 j = 0) (h2 : J 65 21 = -4) (t x : Int) : ¬ PhM v lt g a c J t x := by
  rintro (z | ⟨t', f, l, b, ⟨-, hd, z⟩, -⟩)
  · exact z.1 h2
  · rw [h _ (by unfold mi; omega)] at z
    cases z
theorem m_soonestFrom {J : am_J} {f l b t a c : Int} (hv : rv_ok (J 66)) (hlt : -10 ≤ J 65 15 ∧ J 65 15 ≤ 2000) (hf : 0 ≤ f ∧ f ≤ 1000) (hl : 0 ≤ l ∧ l ≤ 8) (hb : b = 0 ∨ b = 1) (ht : 0 ≤ t ∧ t ≤ 300) (ha : 0 ≤ a ∧ a ≤ 8) (hc : 0 ≤ c ∧ c ≤ 8) : ∃ r J', f_UpRiverModel_soonestFrom f l b t a c J = some (r, J') ∧ (f < 8 * J 66 0 → arr (fun x => a ≤ l ∧ l ≤ c ∧ Cn (J 66) (J 65 15) (8 * J 66 0) a c x t f l b) r) ∧ (8 * J 66 0 ≤ f → r = t) := by
  have hm := hv.1.1
  have hp : prm (J 65 15) (8 * J 66 0) a c := ⟨hlt, by omega, ha, hc⟩
  unfold f_UpRiverModel_soonestFrom f_UpRiverModel_top
  simp only [Option.bind_some]
  rw [if_pos (show am_i32 (8 * J 66 0) by omega), if_pos (show am_i32 f by omega)]
  by_cases c0 : f < 8 * J 66 0
  · obtain ⟨J1, u1, u2, u3, u4⟩ := m_clears (J := J) (g := 8 * J 66 0) (a := a) (c := c)
    have hd : dmn f l b := ⟨by omega, hl, by omega⟩
    rw [if_pos c0, u1]
    simp only [Option.bind_some]
    rw [m_in (by omega) (by omega) (by omega)]
    simp only [Option.bind_some, fl_32, if_true, fl_0]
    by_cases c1 : a ≤ l ∧ l ≤ c
    · rw [if_neg (show ¬ ¬ (a ≤ l ∧ l ≤ c) from fun z => z c1), m_marks (by omega) hd]
      have E2 : Em (am_up J1 72 (mi t f l b) 1) (J 66) (J 65 15) (8 * J 66 0) a c := by
        obtain ⟨q1, q2, q3, q4, q5⟩ := u3
        exact ⟨by rw [up_row (by decide)]; exact q1, by rw [up_row (by decide)]; exact q2, by rw [up_row (by decide)]; exact q3, by rw [up_row (by decide)]; exact q4, by rw [up_row (by decide)]; exact q5⟩
      obtain ⟨r, J2, w1, w2⟩ := m_spread hv hp (Q := fun x => a ≤ l ∧ l ≤ c ∧ Cn (J 66) (J 65 15) (8 * J 66 0) a c x t f l b) (301 - t).toNat am_FU t _ (by have : am_FU = 20000 := rfl; omega) (by omega) ht.1 E2 (Dm_add (clr_Dm u2 u4) hd c0 c1) (fun x hx => by
        unfold PhM
        rw [Phi_add (S := Sm J1 t) (t1 := t) (f1 := f) (l1 := l) (b1 := b) (fun t' f' l' b' => Sm_add (by omega) hd t' f' l' b')]
        have eF : Fm (am_up J1 72 (mi t f l b) 1) x ↔ Fm J1 x := by unfold Fm; rw [up_row (by decide)]
        rw [Phi_cong (S' := Sm J1 t) (F' := Fm J1) (fun _ _ _ _ => Iff.rfl) eF]
        constructor
        · rintro (z | z)
          · exact absurd z (clr_Ph u2 u4 t x)
          · exact ⟨c1.1, c1.2, z⟩
        · exact fun z => Or.inr z.2.2)
      refine ⟨r, J2, ?_, fun _ => w2, fun z => by omega⟩
      simp only [Option.bind_some]
      unfold f_UpRiverModel_soonestFrom_L46 f_UpRiverModel_spreads
      rw [w1]
      rfl
    · rw [if_pos c1]
      obtain ⟨r, J2, w1, w2⟩ := m_spread hv hp (Q := fun x => a ≤ l ∧ l ≤ c ∧ Cn (J 66) (J 65 15) (8 * J 66 0) a c x t f l b) (301 - t).toNat am_FU t J1 (by have : am_FU = 20000 := rfl; omega) (by omega) ht.1 u3 (clr_Dm u2 u4) (fun x hx => ⟨fun z => absurd z (clr_Ph u2 u4 t x), fun z => absurd ⟨z.1, z.2.1⟩ c1⟩)
      refine ⟨r, J2, ?_, fun _ => w2, fun z => by omega⟩
      unfold f_UpRiverModel_soonestFrom_L46 f_UpRiverModel_spreads
      rw [w1]
      rfl
  · rw [if_neg c0]
    exact ⟨t, J, rfl, fun z => absurd z c0, fun _ => rfl⟩
/-- the stretch from reach r at t to the goal g: both boards, every lane in which she is afloat -/
def strQ (v : Nat → Int) (g r t : Int) (n : Int) (x : Int) : Prop := ∃ l b, (0 ≤ l ∧ l < n) ∧ (b = 0 ∨ b = 1) ∧ rAf v 0 r l t ∧ Cn v 0 g 0 8 x t (8 * r) l b
theorem strQ_succ (v : Nat → Int) (g r t n x : Int) (hn : 0 ≤ n) : strQ v g r t (n + 1) x ↔ strQ v g r t n x ∨ (rAf v 0 r n t ∧ (Cn v 0 g 0 8 x t (8 * r) n 0 ∨ Cn v 0 g 0 8 x t (8 * r) n 1)) := by
  constructor
  · rintro ⟨l, b, h1, h2, h3, h4⟩
    by_cases e : l = n
    · subst e
      rcases h2 with rfl | rfl
      · exact Or.inr ⟨h3, Or.inl h4⟩
      · exact Or.inr ⟨h3, Or.inr h4⟩
    · exact Or.inl ⟨l, b, by omega, h2, h3, h4⟩
  · rintro (⟨l, b, h1, h2, h3, h4⟩ | ⟨h1, h2 | h2⟩)
    · exact ⟨l, b, by omega, h2, h3, h4⟩
    · exact ⟨n, 0, by omega, Or.inl rfl, h1, h2⟩
    · exact ⟨n, 1, by omega, Or.inr rfl, h1, h2⟩
theorem m_str_loop {v : Nat → Int} (hv : rv_ok v) {g r t : Int} (hg : 0 ≤ g ∧ g ≤ 64) (hr : 0 ≤ r ∧ r < v 0) (ht : 0 ≤ t ∧ t ≤ 300) : ∀ (k n : Nat) (l : Int) (J : am_J), k < n → 9 - l = (k : Int) → 0 ≤ l → Em J v 0 g 0 8 → Dm v 0 8 J → (∀ x, x ≤ 300 → (PhM v 0 g 0 8 J t x ↔ strQ v g r t l x)) → ∃ q J', f_UpRiverModel_stretch_L35 n r t l J = some (q, J') ∧ arr (strQ v g r t 9) q := by
  have hm := hv.1.1
  have hp : prm 0 g 0 8 := ⟨by omega, hg, by omega, by omega⟩
  intro k
  induction k with
  | zero =>
    intro n l J hn hk l0 hE hD hQ
    obtain ⟨n, rfl⟩ : ∃ m, n = m + 1 := ⟨n - 1, by omega⟩
    rw [f_UpRiverModel_stretch_L35.eq_2, if_pos (show am_i32 l by omega), if_neg (show ¬ l < 9 by omega)]
    have e9 : l = 9 := by omega
    rw [e9] at hQ
    obtain ⟨q, J2, w1, w2⟩ := m_spread hv hp (301 - t).toNat am_FU t J (by have : am_FU = 20000 := rfl; omega) (by omega) ht.1 hE hD hQ
    refine ⟨q, J2, ?_, w2⟩
    unfold f_UpRiverModel_spreads
    rw [w1]
    rfl
  | succ k ih =>
    intro n l J hn hk l0 hE hD hQ
    obtain ⟨n, rfl⟩ : ∃ m, n = m + 1 := ⟨n - 1, by omega⟩
    have hE' := hE
    obtain ⟨q1, q2, q3, q4, q5⟩ := hE'
    rw [f_UpRiverModel_stretch_L35.eq_2, if_pos (show am_i32 l by omega), if_pos (show l < 9 by omega), m_isAfloat (J := J) (by rw [q1]; exact hv) (by omega) (by omega) (by omega) (by rw [q2]; omega), q1, q2]
    simp only [Option.bind_some, fl_32, if_true, fl_0]
    by_cases af : rAf v 0 r l t
    · have hd0 : dmn (8 * r) l 0 := ⟨by omega, by omega, by omega⟩
      have hd1 : dmn (8 * r) l 1 := ⟨by omega, by omega, by omega⟩
      rw [if_neg (show ¬ ¬ rAf v 0 r l t from fun z => z af), m_marks (by omega) hd0]
      simp only [Option.bind_some]
      rw [m_marks (by omega) hd1]
      simp only [Option.bind_some]
      refine ih n (l + 1) _ (by omega) (by omega) (by omega) ?_ (Dm_add (Dm_add hD hd0 (by omega) (by omega)) hd1 (by omega) (by omega)) fun x hx => ?_
      · exact ⟨by rw [up_row (by decide), up_row (by decide)]; exact q1, by rw [up_row (by decide), up_row (by decide)]; exact q2, by rw [up_row (by decide), up_row (by decide)]; exact q3, by rw [up_row (by decide), up_row (by decide)]; exact q4, by rw [up_row (by decide), up_row (by decide)]; exact q5⟩
      · unfold PhM
        rw [Phi_add (S := Sm (am_up J 72 (mi t (8 * r) l 0) 1) t) (t1 := t) (f1 := 8 * r) (l1 := l) (b1 := 1) (fun t' f' l' b' => Sm_add (by omega) hd1 t' f' l' b')]
        rw [Phi_add (S := Sm J t) (t1 := t) (f1 := 8 * r) (l1 := l) (b1 := 0) (fun t' f' l' b' => Sm_add (by omega) hd0 t' f' l' b')]
        have eF : Fm (am_up (am_up J 72 (mi t (8 * r) l 0) 1) 72 (mi t (8 * r) l 1) 1) x ↔ Fm J x := by unfold Fm; rw [up_row (by decide), up_row (by decide)]
        rw [Phi_cong (S' := Sm J t) (F' := Fm J) (fun _ _ _ _ => Iff.rfl) eF, strQ_succ v g r t l x l0, ← hQ x hx, or_assoc]
        constructor
        · rintro (z | z)
          · exact Or.inl z
          · exact Or.inr ⟨af, z⟩
        · rintro (z | z)
          · exact Or.inl z
          · exact Or.inr z.2
    · rw [if_pos af]
      refine ih n (l + 1) J (by omega) (by omega) (by omega) hE hD fun x hx => ?_
      rw [hQ x hx, strQ_succ v g r t l x l0]
      constructor
      · exact Or.inl
      · rintro (z | z)
        · exact z
        · exact absurd z.1 af
theorem m_stretch {J : am_J} {i : Int} (hv : rv_ok (J 66)) (h0 : J 65 15 = 0) (hi : 0 ≤ i ∧ i < 11) (hr : 0 ≤ J 68 (7 + 2 * i).toNat ∧ J 68 (7 + 2 * i).toNat < J 66 0) (ht : 0 ≤ J 68 (7 + 2 * i + 1).toNat ∧ J 68 (7 + 2 * i + 1).toNat ≤ 300) (hg : 0 ≤ J 68 (7 + 2 * (i + 1)).toNat ∧ J 68 (7 + 2 * (i + 1)).toNat ≤ J 66 0) : ∃ q J', f_UpRiverModel_stretch i J = some (q, J') ∧ arr (strQ (J 66) (8 * J 68 (7 + 2 * (i + 1)).toNat) (J 68 (7 + 2 * i).toNat) (J 68 (7 + 2 * i + 1).toNat) 9) q := by
  have hm := hv.1.1
  unfold f_UpRiverModel_stretch f_UpRiverModel_logOf
  rw [if_pos (show 0 ≤ 7 + 2 * i + 0 ∧ 7 + 2 * i + 0 < 216 by omega), if_pos (show 0 ≤ 7 + 2 * i + 1 ∧ 7 + 2 * i + 1 < 216 by omega), if_pos (show 0 ≤ 7 + 2 * (i + 1) + 0 ∧ 7 + 2 * (i + 1) + 0 < 216 by omega), Int.add_zero, Int.add_zero]
  simp only [Option.bind_some]
  obtain ⟨J1, u1, u2, u3, u4⟩ := m_clears (J := J) (g := 8 * J 68 (7 + 2 * (i + 1)).toNat) (a := 0) (c := 8)
  rw [u1]
  simp only [Option.bind_some]
  rw [h0] at u3
  exact m_str_loop hv (by omega) hr ht 9 am_FU 0 J1 (by decide) (by omega) (by omega) u3 (clr_Dm u2 u4) fun x hx => ⟨fun z => absurd z (clr_Ph u2 u4 _ x), fun ⟨l, b, z, _⟩ => by omega⟩
