theorem PhM_row {v : Nat → Int} {lt g a c : Int} {J J' : am_J} (e : J' 72 = J 72) (e2 : J' 65 21 = J 65 21) (t0 x : Int) : PhM v lt g a c J' t0 x ↔ PhM v lt g a c J t0 x :=
  Phi_cong (fun t f l b => by unfold Sm; rw [e]) (by unfold Fm; rw [e2])
theorem Lay_tr {t0 : Int} {J J1 J2 : am_J} (h : Lay t0 J J1) (h' : Lay t0 J1 J2) : Lay t0 J J2 := fun k k0 k1 => (h' k k0 k1).trans (h k k0 k1)
theorem Lay_row {t0 : Int} {J J1 : am_J} (e : J1 72 = J 72) : Lay t0 J J1 := fun k _ _ => by rw [e]
theorem m_L71 {v : Nat → Int} (hv : rv_ok v) {lt g a c : Int} (hp : prm lt g a c) {J : am_J} (hE : Em J v lt g a c) (hD : Dm v a c J) {t f l b : Int} (ht : 0 ≤ t ∧ t ≤ 300) (hd : dmn f l b) (hf : f < 8 * v 0) : ∃ J', f_UpRiverModel_goesOn_L71 t b l f J = some J' ∧ (∀ x, x ≤ 300 → (PhM v lt g a c J' t x ↔ PhM v lt g a c J t x ∨ (tOk v lt f l t ∧ goW v g a c x (Cn v lt g a c x) (t + v 5) (tF v lt f l t) l (1 - b)))) ∧ Dm v a c J' ∧ Lay t J J' := by
  obtain ⟨q1, q2, q3, q4, q5⟩ := hE
  have h5 := hv.1.2.2.2.2.2.1
  have hp' := hp
  obtain ⟨p1, p2, p3, p4⟩ := hp'
  obtain ⟨d1, d2, d3⟩ := hd
  obtain ⟨J1, s1, s2⟩ := m_turns (J := J) (by rw [q1]; exact hv) (f := f) (l := l) (b := b) (t := t) d1.1 (by rw [q1]; exact hf) d2.1 d2.2 (by rw [q2]; omega)
  rw [q1, q2] at s1 s2
  have f72 : J1 72 = J 72 := by funext j; exact frJ_UpRiverModel_turns s1 rfl
  have f21 : J1 65 21 = J 65 21 := frJ_UpRiverModel_turns s1 rfl
  have hb := tF_bd hv d1.1 lt l t
  unfold f_UpRiverModel_goesOn_L71
  rw [s1]
  simp only [Option.bind_some, fl_32, if_true, fl_0]
  by_cases ok : tOk v lt f l t
  · rw [if_neg (show ¬ ¬ tOk v lt f l t from fun z => z ok)]
    have E1 : Em J1 v lt g a c := ⟨by rw [← q1]; funext j; exact frJ_UpRiverModel_turns s1 rfl, by rw [← q2]; exact frJ_UpRiverModel_turns s1 rfl, by rw [← q3]; exact frJ_UpRiverModel_turns s1 rfl, by rw [← q4]; exact frJ_UpRiverModel_turns s1 rfl, by rw [← q5]; exact frJ_UpRiverModel_turns s1 rfl⟩
    obtain ⟨J2, u1, u2, u3, u4⟩ := m_comes hv hp E1 (Dm_row hD f72 f21) s2 ht (by omega) (by omega) (by omega) (by omega)
    refine ⟨J2, by rw [u1]; rfl, fun x hx => ?_, u3, Lay_tr (Lay_row f72) u4⟩
    rw [u2 x hx, PhM_row f72 f21]
    constructor
    · rintro (z | z)
      · exact Or.inl z
      · exact Or.inr ⟨ok, z⟩
    · rintro (z | z)
      · exact Or.inl z
      · exact Or.inr z.2
  · rw [if_pos ok]
    refine ⟨J1, rfl, fun x hx => ?_, Dm_row hD f72 f21, Lay_row f72⟩
    rw [PhM_row f72 f21]
    constructor
    · exact Or.inl
    · rintro (z | z)
      · exact z
      · exact absurd z.1 ok
theorem m_L39 {v : Nat → Int} (hv : rv_ok v) {lt g a c : Int} (hp : prm lt g a c) {J : am_J} (hE : Em J v lt g a c) (hD : Dm v a c J) {t f l b : Int} (ht : 0 ≤ t ∧ t ≤ 300) (hd : dmn f l b) (hf : f < 8 * v 0) : ∃ J', f_UpRiverModel_goesOn_L39 t b l f J = some J' ∧ (∀ x, x ≤ 300 → (PhM v lt g a c J' t x ↔ PhM v lt g a c J t x ∨ Go v lt g a c x t f l b)) ∧ Dm v a c J' ∧ Lay t J J' := by
  have hE' := hE
  obtain ⟨q1, q2, q3, q4, q5⟩ := hE'
  have hm := hv.1.1
  have h5 := hv.1.2.2.2.2.2.1
  have hp' := hp
  obtain ⟨p1, p2, p3, p4⟩ := hp'
  have hd' := hd
  obtain ⟨d1, d2, d3⟩ := hd'
  unfold f_UpRiverModel_goesOn_L39
  rw [if_pos (show am_i32 f by omega), am_dv_pos d1.1, m_isAfloat (J := J) (by rw [q1]; exact hv) (by omega) (by omega) (by omega) (by rw [q2]; omega), q1, q2]
  simp only [Option.bind_some, fl_32, if_true, fl_0]
  by_cases af : rAf v lt (f / 8) l t
  · rw [if_neg (show ¬ ¬ rAf v lt (f / 8) l t from fun z => z af)]
    obtain ⟨J1, s1, s2⟩ := m_sails (J := J) (by rw [q1]; exact hv) (f := f) (l := l) (b := b) (t := t) d1.1 (by rw [q1]; exact hf) d2.1 d2.2 (by omega) (by rw [q2]; omega)
    rw [q1, q2] at s1 s2
    have f72 : J1 72 = J 72 := by funext j; exact frJ_UpRiverModel_sails s1 rfl
    have f21 : J1 65 21 = J 65 21 := frJ_UpRiverModel_sails s1 rfl
    have E1 : Em J1 v lt g a c := ⟨by rw [← q1]; funext j; exact frJ_UpRiverModel_sails s1 rfl, by rw [← q2]; exact frJ_UpRiverModel_sails s1 rfl, by rw [← q3]; exact frJ_UpRiverModel_sails s1 rfl, by rw [← q4]; exact frJ_UpRiverModel_sails s1 rfl, by rw [← q5]; exact frJ_UpRiverModel_sails s1 rfl⟩
    have hb := sF_bd hv d1.1 hf lt l b t
    have hL : am_i32 (sL v lt f l b t) := by unfold sL; split <;> (try split) <;> exact ⟨by omega, by omega⟩
    rw [s1]
    simp only [Option.bind_some, fl_32, if_true, fl_0]
    by_cases ok : sOk v lt f l b t
    · rw [if_neg (show ¬ ¬ sOk v lt f l b t from fun z => z ok)]
      obtain ⟨J2, u1, u2, u3, u4⟩ := m_comes hv hp E1 (Dm_row hD f72 f21) s2 ht (by omega) (by omega) hL (by omega)
      have E2 : Em J2 v lt g a c := by
        obtain ⟨r1, r2, r3, r4, r5⟩ := E1
        exact ⟨by rw [← r1]; funext j; exact frJ_UpRiverModel_comesThere u1 rfl, by rw [← r2]; exact frJ_UpRiverModel_comesThere u1 rfl, by rw [← r3]; exact frJ_UpRiverModel_comesThere u1 rfl, by rw [← r4]; exact frJ_UpRiverModel_comesThere u1 rfl, by rw [← r5]; exact frJ_UpRiverModel_comesThere u1 rfl⟩
      obtain ⟨J3, w1, w2, w3, w4⟩ := m_L71 hv hp E2 u3 ht hd hf (b := b)
      refine ⟨J3, by rw [u1]; exact w1, fun x hx => ?_, w3, Lay_tr (Lay_row f72) (Lay_tr u4 w4)⟩
      rw [w2 x hx, u2 x hx, PhM_row f72 f21]
      unfold Go
      constructor
      · rintro ((z | z) | z)
        · exact Or.inl z
        · exact Or.inr ⟨af, Or.inl ⟨ok, z⟩⟩
        · exact Or.inr ⟨af, Or.inr z⟩
      · rintro (z | ⟨-, z | z⟩)
        · exact Or.inl (Or.inl z)
        · exact Or.inl (Or.inr z.2)
        · exact Or.inr z
    · rw [if_pos ok]
      obtain ⟨J3, w1, w2, w3, w4⟩ := m_L71 hv hp E1 (Dm_row hD f72 f21) ht hd hf (b := b)
      refine ⟨J3, w1, fun x hx => ?_, w3, Lay_tr (Lay_row f72) w4⟩
      rw [w2 x hx, PhM_row f72 f21]
      unfold Go
      constructor
      · rintro (z | z)
        · exact Or.inl z
        · exact Or.inr ⟨af, Or.inr z⟩
      · rintro (z | ⟨-, z | z⟩)
        · exact Or.inl z
        · exact absurd z.1 ok
        · exact Or.inr z
  · rw [if_pos af]
    exact ⟨J, rfl, fun x hx => ⟨Or.inl, fun z => by rcases z with z | z; exact z; exact absurd z.1 af⟩, hD, fun _ _ _ => rfl⟩
theorem m_goesOn {v : Nat → Int} (hv : rv_ok v) {lt g a c : Int} (hp : prm lt g a c) {J : am_J} (hE : Em J v lt g a c) (hD : Dm v a c J) {t f l b : Int} (ht : 0 ≤ t ∧ t ≤ 300) (hd : dmn f l b) (hf : f < 8 * v 0) (hl : a ≤ l ∧ l ≤ c) : ∃ J', f_UpRiverModel_goesOn t (2 * (9 * f + l) + b) J = some J' ∧ (∀ x, x ≤ 300 → (PhM v lt g a c J' t x ↔ PhM v lt g a c J t x ∨ Cn v lt g a c x t f l b)) ∧ Dm v a c J' ∧ Lay t J J' ∧ Em J' v lt g a c := by
  have h5 := hv.1.2.2.2.2.2.1
  have hd' := hd
  obtain ⟨d1, d2, d3⟩ := hd'
  have e1 : (2 * (9 * f + l) + b) % 2 = b := by omega
  have e2 : (2 * (9 * f + l) + b) / 2 = 9 * f + l := by omega
  have e3 : (9 * f + l) % 9 = l := by omega
  have e4 : (9 * f + l) / 9 = f := by omega
  have fin : ∀ J', f_UpRiverModel_goesOn t (2 * (9 * f + l) + b) J = some J' → Em J' v lt g a c := by
    intro J' u
    obtain ⟨q1, q2, q3, q4, q5⟩ := hE
    exact ⟨by rw [← q1]; funext j; exact frJ_UpRiverModel_goesOn u rfl, by rw [← q2]; exact frJ_UpRiverModel_goesOn u rfl, by rw [← q3]; exact frJ_UpRiverModel_goesOn u rfl, by rw [← q4]; exact frJ_UpRiverModel_goesOn u rfl, by rw [← q5]; exact frJ_UpRiverModel_goesOn u rfl⟩
  have red : f_UpRiverModel_goesOn t (2 * (9 * f + l) + b) J = if t < 300 then f_UpRiverModel_goesOn_L39 t b l f (am_up J 72 (mi (t + 1) f l b) 1) else f_UpRiverModel_goesOn_L39 t b l f J := by
    unfold f_UpRiverModel_goesOn
    rw [am_rm_pos (show 0 ≤ 2 * (9 * f + l) + b by omega), am_dv_pos (show 0 ≤ 2 * (9 * f + l) + b by omega), e1, e2, am_rm_pos (show 0 ≤ 9 * f + l by omega), am_dv_pos (show 0 ≤ 9 * f + l by omega), e3, e4, m_marks (by omega) hd, if_pos (show am_i32 (2 * (9 * f + l) + b) by omega), if_pos (show am_i32 (9 * f + l) by omega), if_pos (show am_i32 t by omega)]
    rfl
  by_cases c1 : t < 300
  · have E1 : Em (am_up J 72 (mi (t + 1) f l b) 1) v lt g a c := by
      obtain ⟨q1, q2, q3, q4, q5⟩ := hE
      exact ⟨by rw [up_row (by decide)]; exact q1, by rw [up_row (by decide)]; exact q2, by rw [up_row (by decide)]; exact q3, by rw [up_row (by decide)]; exact q4, by rw [up_row (by decide)]; exact q5⟩
    obtain ⟨J', w1, w2, w3, w4⟩ := m_L39 hv hp E1 (Dm_add hD hd hf hl) ht hd hf (b := b)
    rw [if_pos c1] at red
    have r2 := red.trans w1
    refine ⟨J', r2, fun x hx => ?_, w3, Lay_tr ?_ w4, fin J' r2⟩
    · rw [w2 x hx, Cn_eq]
      have : PhM v lt g a c (am_up J 72 (mi (t + 1) f l b) 1) t x ↔ PhM v lt g a c J t x ∨ Cn v lt g a c x (t + 1) f l b := by
        unfold PhM
        rw [Phi_add (S := Sm J t) (t1 := t + 1) (f1 := f) (l1 := l) (b1 := b) (fun t' f' l' b' => Sm_add (by omega) hd t' f' l' b')]
        have eF : Fm (am_up J 72 (mi (t + 1) f l b) 1) x ↔ Fm J x := by unfold Fm; rw [up_row (by decide)]
        rw [Phi_cong (S' := Sm J t) (F' := Fm J) (fun _ _ _ _ => Iff.rfl) eF]
      rw [this, or_assoc]
    · intro k k0 k1
      refine up_ne ?_
      unfold mi
      omega
  · obtain ⟨J', w1, w2, w3, w4⟩ := m_L39 hv hp hE hD ht hd hf (b := b)
    rw [if_neg c1] at red
    have r2 := red.trans w1
    refine ⟨J', r2, fun x hx => ?_, w3, w4, fin J' r2⟩
    rw [w2 x hx, Cn_eq]
    constructor
    · rintro (z | z)
      · exact Or.inl z
      · exact Or.inr (Or.inr z)
    · rintro (z | z | z)
      · exact Or.inl z
      · have := Cn_lt h5.1 z; omega
      · exact Or.inr z
/-- one minute of it -/
theorem m_minute {v : Nat → Int} (hv : rv_ok v) {lt g a c : Int} (hp : prm lt g a c) {Q : Int → Prop} {kb : Int → am_J → Option (Int × am_J)} {t : Int} (ht : 0 ≤ t ∧ t ≤ 300) : ∀ (k n : Nat) (s : Int) (J : am_J), k < n → 1152 - s = (k : Int) → 0 ≤ s → Em J v lt g a c → Dm v a c J → (∀ x, x ≤ 300 → (PhM v lt g a c J t x ↔ Q x)) → (∀ i : Int, 0 ≤ i → i < s → J 72 (1152 * (t % 10) + i).toNat = 0) → ∃ J', f_UpRiverModel_spreads_L38 kb n t (1152 * (t % 10)) s J = kb (t + 1) J' ∧ Em J' v lt g a c ∧ Dm v a c J' ∧ (∀ x, x ≤ 300 → (PhM v lt g a c J' t x ↔ Q x)) ∧ (∀ i : Int, 0 ≤ i → i < 1152 → J' 72 (1152 * (t % 10) + i).toNat = 0) := by
  intro k
  induction k with
  | zero =>
    intro n s J hn hk s0 hE hD hQ hz
    obtain ⟨n, rfl⟩ : ∃ m, n = m + 1 := ⟨n - 1, by omega⟩
    rw [f_UpRiverModel_spreads_L38.eq_2, if_pos (show am_i32 s by omega), if_neg (show ¬ s < 1152 by omega)]
    exact ⟨J, rfl, hE, hD, hQ, fun i i0 i1 => hz i i0 (by omega)⟩
  | succ k ih =>
    intro n s J hn hk s0 hE hD hQ hz
    obtain ⟨n, rfl⟩ : ∃ m, n = m + 1 := ⟨n - 1, by omega⟩
    have h01 := hD.1 (1152 * (t % 10) + s).toNat (by omega)
    rw [f_UpRiverModel_spreads_L38.eq_2, if_pos (show am_i32 s by omega), if_pos (show s < 1152 by omega), if_pos (show 0 ≤ 1152 * (t % 10) + s ∧ 1152 * (t % 10) + s < 11520 by omega), if_pos (show am_i32 (J 72 (1152 * (t % 10) + s).toNat) by omega)]
    by_cases c0 : J 72 (1152 * (t % 10) + s).toNat = 0
    · rw [if_pos c0]
      refine ih n (s + 1) J (by omega) (by omega) (by omega) hE hD hQ fun i i0 i1 => ?_
      by_cases e : i = s
      · rw [e]; exact c0
      · exact hz i i0 (by omega)
    · rw [if_neg c0]
      have hs : s = 2 * (9 * (s / 18) + s % 18 / 2) + s % 2 := by omega
      have hd : dmn (s / 18) (s % 18 / 2) (s % 2) := ⟨by omega, by omega, by omega⟩
      have em : (1152 * (t % 10) + s).toNat = mi t (s / 18) (s % 18 / 2) (s % 2) := by unfold mi; omega
      have h1 : J 72 (mi t (s / 18) (s % 18 / 2) (s % 2)) = 1 := by rw [← em]; omega
      obtain ⟨g1, g2⟩ := hD.2.1 t _ _ _ hd h1
      generalize s / 18 = f at *
      generalize s % 18 / 2 = l at *
      generalize s % 2 = b at *
      have E1 : Em (am_up J 72 (1152 * (t % 10) + s).toNat 0) v lt g a c := by
        obtain ⟨q1, q2, q3, q4, q5⟩ := hE
        exact ⟨by rw [up_row (by decide)]; exact q1, by rw [up_row (by decide)]; exact q2, by rw [up_row (by decide)]; exact q3, by rw [up_row (by decide)]; exact q4, by rw [up_row (by decide)]; exact q5⟩
      obtain ⟨J', u1, u2, u3, u4, u5⟩ := m_goesOn hv hp E1 (Dm_del hD _) ht hd g1 g2
      rw [← hs] at u1
      rw [u1]
      simp only [Option.bind_some]
      refine ih n (s + 1) J' (by omega) (by omega) (by omega) u5 u3 (fun x hx => ?_) fun i i0 i1 => ?_
      · rw [u2 x hx, ← hQ x hx, em]
        unfold PhM
        rw [Phi_add (S := Sm (am_up J 72 (mi t f l b) 0) t) (S' := Sm J t) (t1 := t) (f1 := f) (l1 := l) (b1 := b) (fun t' f' l' b' => Sm_del (by omega) hd h1 t' f' l' b')]
        have eF : Fm (am_up J 72 (mi t f l b) 0) x ↔ Fm J x := by unfold Fm; rw [up_row (by decide)]
        rw [Phi_cong (S' := Sm (am_up J 72 (mi t f l b) 0) t) (F' := Fm J) (fun _ _ _ _ => Iff.rfl) eF]
      · rw [u4 i i0 (by omega)]
        by_cases e : i = s
        · rw [e, up_at]
        · rw [up_ne (by omega)]
          exact hz i i0 (by omega)
theorem m_end {v : Nat → Int} (hv : rv_ok v) {lt g a c : Int} {Q : Int → Prop} {J : am_J} {t : Int} (hD : Dm v a c J) (hQ : ∀ x, x ≤ 300 → (PhM v lt g a c J t x ↔ Q x)) (h : 300 < t ∨ (J 65 21 ≠ -4 ∧ J 65 21 ≤ t)) : arr Q (J 65 21) := by
  have h5 := hv.1.2.2.2.2.2.1
  refine ⟨hD.2.2, fun x hx => ?_⟩
  rw [← hQ x hx]
  constructor
  · exact Or.inl
  · rintro (z | ⟨t', f, l, b, ⟨z1, -⟩, z2⟩)
    · exact z
    · have := Cn_lt h5.1 z2
      rcases h with h | h
      · omega
      · exact ⟨h.1, by omega⟩
theorem m_spread {v : Nat → Int} (hv : rv_ok v) {lt g a c : Int} (hp : prm lt g a c) {Q : Int → Prop} : ∀ (k n : Nat) (t : Int) (J : am_J), k < n → 301 - t = (k : Int) → 0 ≤ t → Em J v lt g a c → Dm v a c J → (∀ x, x ≤ 300 → (PhM v lt g a c J t x ↔ Q x)) → ∃ r J', f_UpRiverModel_spreads_L2 n t J = some (r, J') ∧ arr Q r := by
  intro k
  induction k with
  | zero =>
    intro n t J hn hk t0 hE hD hQ
    obtain ⟨n, rfl⟩ : ∃ m, n = m + 1 := ⟨n - 1, by omega⟩
    rw [f_UpRiverModel_spreads_L2.eq_2, if_pos (show am_i32 t by omega), if_pos (show 300 < t by omega)]
    exact ⟨_, _, rfl, m_end hv hD hQ (Or.inl (by omega))⟩
  | succ k ih =>
    intro n t J hn hk t0 hE hD hQ
    obtain ⟨n, rfl⟩ : ∃ m, n = m + 1 := ⟨n - 1, by omega⟩
    have h21 := hD.2.2
    have go : ∃ r J', f_UpRiverModel_spreads_L38 (f_UpRiverModel_spreads_L2 n) am_FU t (1152 * am_rm t 10) 0 J = some (r, J') ∧ arr Q r := by
      rw [am_rm_pos t0]
      obtain ⟨J', w1, w2, w3, w4, w5⟩ := m_minute hv hp (kb := f_UpRiverModel_spreads_L2 n) (t := t) (by omega) 1152 am_FU 0 J (by decide) (by omega) (by omega) hE hD hQ (fun i i0 i1 => by omega)
      rw [w1]
      refine ih n (t + 1) J' (by omega) (by omega) (by omega) w2 w3 fun x hx => ?_
      rw [← w4 x hx]
      refine Phi_cong (fun t' f l b => ?_) Iff.rfl
      unfold Sm
      constructor
      · rintro ⟨z1, z2, z3⟩
        refine ⟨?_, z2, z3⟩
        by_cases e : t' = t + 10
        · have := w5 (2 * (9 * f + l) + b) (by omega) (by omega)
          unfold mi at z3
          rw [show t' % 10 = t % 10 by omega] at z3
          rw [z3] at this
          cases this
        · omega
      · rintro ⟨z1, z2, z3⟩
        refine ⟨?_, z2, z3⟩
        by_cases e : t' = t
        · have := w5 (2 * (9 * f + l) + b) (by omega) (by omega)
          unfold mi at z3
          rw [e] at z3
          rw [z3] at this
          cases this
        · omega
    rw [f_UpRiverModel_spreads_L2.eq_2, if_pos (show am_i32 t by omega), if_neg (show ¬ 300 < t by omega), if_pos (show am_i32 (J 65 21) by omega)]
    by_cases c0 : J 65 21 = -4
    · rw [if_pos c0]; exact go
    · rw [if_neg c0]
      by_cases c1 : t < J 65 21
      · rw [if_pos c1]; exact go
      · rw [if_neg c1]
        exact ⟨_, _, rfl, m_end hv hD hQ (Or.inr ⟨c0, by omega⟩)⟩
