/-! tide, high -/
abbrev phK (kc km : Int) (base : Nat) (hi : Int) : Prop := (kc = 12 ∧ km = 7 ∧ base = 271 ∧ hi = 18) ∨ (kc = 13 ∧ km = 8 ∧ base = 283 ∧ hi = 15)
theorem rv_ph {v w : Nat → Int} (h : rv_ok v) {base : Nat} {hi : Int} (hb : (base = 271 ∧ hi = 18) ∨ (base = 283 ∧ hi = 15)) (e : ∀ k, k < base ∨ base + 12 ≤ k → w k = v k) (hw : ∀ j, j < 12 → 0 ≤ w (base + j) ∧ w (base + j) ≤ hi) : rv_ok w := by
  refine ⟨?_, fun r hr => ?_, fun k hk => ?_, fun p hp => ?_⟩
  · rw [e 0 (by omega), e 1 (by omega), e 2 (by omega), e 3 (by omega), e 4 (by omega), e 5 (by omega), e 6 (by omega)]
    exact h.1
  · rw [e _ (by omega), e _ (by omega), e _ (by omega), e _ (by omega)]
    exact h.2.1 r hr
  · rw [e _ (by omega), e _ (by omega)]
    exact h.2.2.1 k hk
  · have h1 := h.2.2.2 p hp
    have h2 := hw p hp
    rcases hb with ⟨rfl, rfl⟩ | ⟨rfl, rfl⟩
    · rw [e (283 + p) (by omega)]
      omega
    · rw [e (271 + p) (by omega)]
      omega
theorem m_L41 {kc km : Int} {base : Nat} {hi : Int} (hk : phK kc km base hi) {n i : Nat} (hi12 : i < 12) {J : am_J} : f_UpRiverModel_readLineOf_L41 (n + 1) km (i : Int) J = (f_UpRiverModel_readNumber 0 hi J).bind fun q => f_UpRiverModel_readLineOf_L41 n km ((i : Int) + 1) (am_up q.2 67 (base + i) q.1) := by
  rw [f_UpRiverModel_readLineOf_L41.eq_2, if_pos (show am_i32 (i : Int) by omega), if_pos (show (i : Int) < 12 by omega)]
  unfold f_UpRiverModel_readLineOf_L66 f_UpRiverModel_readLineOf_L83
  rcases hk with ⟨rfl, rfl, rfl, rfl⟩ | ⟨rfl, rfl, rfl, rfl⟩
  · rw [if_pos (show am_i32 7 by decide), if_pos (show (7 : Int) = 7 from rfl), if_pos (show am_i32 7 by decide), if_pos (show (7 : Int) = 7 from rfl)]
    have g : 0 ≤ (271 : Int) + i ∧ (271 : Int) + i < 295 := by omega
    simp only [if_pos g, show ((271 : Int) + i).toNat = 271 + i by omega]
  · rw [if_pos (show am_i32 8 by decide), if_neg (show ¬ (8 : Int) = 7 by decide), if_pos (show am_i32 8 by decide), if_neg (show ¬ (8 : Int) = 7 by decide)]
    have g : 0 ≤ (283 : Int) + i ∧ (283 : Int) + i < 295 := by omega
    simp only [if_pos g, show ((283 : Int) + i).toNat = 283 + i by omega]
theorem ph_f {kc km : Int} {base : Nat} {hi : Int} (hk : phK kc km base hi) {J' : am_J} : ∀ (d n i : Nat) (J2 : am_J), d < n → i + d = 12 → FL J' J2 → ∃ J3, f_UpRiverModel_readLineOf_L41 n km (i : Int) J2 = some J3 ∧ FL J' J3 := by
  intro d
  induction d with
  | zero =>
    intro n i J2 hn hi hF
    obtain ⟨n, rfl⟩ : ∃ m, n = m + 1 := ⟨n - 1, by omega⟩
    rw [f_UpRiverModel_readLineOf_L41.eq_2, if_pos (show am_i32 (i : Int) by omega), if_neg (show ¬ (i : Int) < 12 by omega)]
    exact ⟨J2, rfl, hF⟩
  | succ d ih =>
    intro n i J2 hn hi hF
    obtain ⟨n, rfl⟩ : ∃ m, n = m + 1 := ⟨n - 1, by omega⟩
    have h12 := hF.2.1
    rw [m_L41 hk (by omega), m_readN_f hF.1.2.2.1]
    exact ih n (i + 1) _ (by omega) (by omega) (FL_67 hF _ (by omega))
theorem tph {b : Bool} {kc km : Int} {base : Nat} {hi : Int} (hk : phK kc km base hi) : ∀ (d n i : Nat) (J : am_J), d < n → i + d = 12 → ∃ J', f_Reader_tellPhases_L2 b n kc (i : Int) J = some J' ∧ (kc = 12 → (∀ j, i ≤ j → j < 12 → J' (am_dr b + 2) j = J 5 j - 9) ∧ (∀ j, j < i → J' (am_dr b + 2) j = J (am_dr b + 2) j) ∧ (∀ a, a ≠ am_dr b + 2 → J' a = J a)) ∧ (kc = 13 → (∀ j, i ≤ j → j < 12 → J' (am_dr b + 3) j = J 5 j) ∧ (∀ j, j < i → J' (am_dr b + 3) j = J (am_dr b + 3) j) ∧ (∀ a, a ≠ am_dr b + 3 → J' a = J a)) := by
  have od := dr_o b
  intro d
  induction d with
  | zero =>
    intro n i J hn hi
    obtain ⟨n, rfl⟩ : ∃ m, n = m + 1 := ⟨n - 1, by omega⟩
    rw [f_Reader_tellPhases_L2.eq_2, if_pos (show am_i32 (i : Int) by omega), if_neg (show ¬ (i : Int) < 12 by omega)]
    exact ⟨J, rfl, fun _ => ⟨fun j j1 j2 => by omega, fun _ _ => rfl, fun _ _ => rfl⟩, fun _ => ⟨fun j j1 j2 => by omega, fun _ _ => rfl, fun _ _ => rfl⟩⟩
  | succ d ih =>
    intro n i J hn hi
    obtain ⟨n, rfl⟩ : ∃ m, n = m + 1 := ⟨n - 1, by omega⟩
    rw [f_Reader_tellPhases_L2.eq_2, if_pos (show am_i32 (i : Int) by omega), if_pos (show (i : Int) < 12 by omega), if_pos (show am_i32 kc by omega), if_pos (show 0 ≤ (i : Int) ∧ (i : Int) < 12 by omega), if_pos (show 0 ≤ (i : Int) ∧ (i : Int) < 12 by omega), show ((i : Int)).toNat = i from rfl]
    by_cases c : kc = 12
    · rw [if_pos c]
      obtain ⟨J', a1, a2, -⟩ := ih n (i + 1) (am_up J (am_dr b + 2) i (J 5 i - 9)) (by omega) (by omega)
      obtain ⟨a2, a3, a4⟩ := a2 c
      refine ⟨J', a1, fun _ => ⟨fun j j1 j2 => ?_, fun j hj => ?_, fun a ha => ?_⟩, fun z => by omega⟩
      · by_cases e : j = i
        · rw [e, a3 i (by omega), up_at]
        · rw [a2 j (by omega) j2, up_row (by omega)]
      · rw [a3 j (by omega), up_ne (by omega)]
      · rw [a4 a ha, up_row ha]
    · rw [if_neg c]
      obtain ⟨J', a1, -, a2⟩ := ih n (i + 1) (am_up J (am_dr b + 3) i (J 5 i)) (by omega) (by omega)
      obtain ⟨a2, a3, a4⟩ := a2 (by omega)
      refine ⟨J', a1, fun z => absurd z c, fun _ => ⟨fun j j1 j2 => ?_, fun j hj => ?_, fun a ha => ?_⟩⟩
      · by_cases e : j = i
        · rw [e, a3 i (by omega), up_at]
        · rw [a2 j (by omega) j2, up_row (by omega)]
      · rw [a3 j (by omega), up_ne (by omega)]
      · rw [a4 a ha, up_row ha]
theorem ph_loop {N : Nat} {T : Nat → Int} (hT : tpO N T) {b : Bool} {kc km : Int} {base : Nat} {hi : Int} (hk : phK kc km base hi) {J0 J20 : am_J} (hL : LB b J0 J20) {p0 : Nat} : ∀ (d n n' i p : Nat) (J J2 : am_J), d < n → d < n' → i + d = 12 → p0 ≤ p → PRE N T p J J2 → (∀ a, a ≠ 1 → a ≠ 5 → J a = J0 a) → J 1 9 = J0 1 9 → (∀ j, j < i → J2 67 (base + j) = J 5 j ∧ 0 ≤ J 5 j ∧ J 5 j ≤ hi) → (∀ k, k < base ∨ base + i ≤ k → J2 67 k = J20 67 k) → J2 70 = J20 70 → J2 65 5 = J20 65 5 → J2 65 6 = J20 65 6 → LR b N T p0 (f_Reader_readLine_L74 b n kc (i : Int) J) ((f_UpRiverModel_readLineOf_L41 n' km (i : Int) J2).bind rfE) := by
  have h6 := HT_6 hL.2.2.2
  have h70 := hL.1.1.1.1
  have od := dr_o b
  have c0 : f_Reader_numbersOf kc = some 12 := by rcases hk with ⟨rfl, -⟩ | ⟨rfl, -⟩ <;> rfl
  intro d
  induction d with
  | zero =>
    intro n n' i p J J2 hn hn' hi12 hpp h e1 e9 hw hv e70 e5 e6
    obtain ⟨n, rfl⟩ : ∃ m, n = m + 1 := ⟨n - 1, by omega⟩
    obtain ⟨n', rfl⟩ : ∃ m, n' = m + 1 := ⟨n' - 1, by omega⟩
    rw [L74_end c0 (by decide) (by omega), f_UpRiverModel_readLineOf_L41.eq_2, if_pos (show am_i32 (i : Int) by omega), if_neg (show ¬ (i : Int) < 12 by omega)]
    simp only [Option.bind_some]
    refine endL hT hpp h (by rw [hv 0 (by omega)]; omega) (by rw [e6]; exact h6) fun J1 u1 u2 => ?_
    obtain ⟨J'', t1, t2, t3⟩ := tph (b := b) hk 12 am_FU 0 J1 (by decide) (by omega)
    have tl : f_Reader_tell b kc J1 = some J'' := by
      unfold f_Reader_tell f_Reader_tell_L36 f_Reader_tellPhases
      have t1' : f_Reader_tellPhases_L2 b am_FU kc 0 J1 = some J'' := t1
      rw [if_pos (show am_i32 kc by omega), if_neg (show ¬ kc < 7 by omega), t1']
      rcases hk with ⟨rfl, -⟩ | ⟨rfl, -⟩ <;> rfl
    refine ⟨J'', tl, fun J2'' v1 v2 v3 => ?_⟩
    have e67 : ∀ k, k < base ∨ base + 12 ≤ k → J2'' 67 k = J20 67 k := fun k hk' => by rw [v1 67 (by decide)]; exact hv k (by omega)
    have w67 : ∀ j, j < 12 → J2'' 67 (base + j) = J1 5 j ∧ 0 ≤ J1 5 j ∧ J1 5 j ≤ hi := fun j hj => by rw [v1 67 (by decide), u1 5 (by decide)]; exact hw j (by omega)
    have base_c : (base = 271 ∧ hi = 18) ∨ (base = 283 ∧ hi = 15) := by omega
    have rows : ∀ a, a ≠ 1 → a ≠ 5 → a ≠ am_dr b + 2 → a ≠ am_dr b + 3 → J'' a = J0 a := by
      intro a a1 a5 a2 a3
      rcases hk with ⟨rfl, -⟩ | ⟨rfl, -⟩
      · rw [(t2 rfl).2.2 a a2, u1 a a1, e1 a a1 a5]
      · rw [(t3 rfl).2.2 a a3, u1 a a1, e1 a a1 a5]
    have row1 : J'' 1 = J1 1 := by
      rcases hk with ⟨rfl, -⟩ | ⟨rfl, -⟩
      · exact (t2 rfl).2.2 1 (by omega)
      · exact (t3 rfl).2.2 1 (by omega)
    refine LB_of hL ⟨rv_ph hL.1.1 base_c e67 (fun j hj => by rw [(w67 j hj).1]; exact (w67 j hj).2), ?_⟩ (rows 4 (by decide) (by decide) (by omega) (by omega)) (by rw [v1 70 (by decide)]; exact e70) (by rw [v2]; exact e5) (by rw [row1, u2]; exact e9) (by rw [v3]; exact e6) (fun r hr => e67 _ (by omega)) (fun r hr => e67 _ (by omega))
    have q0 := hL.1.2
    refine ⟨fun i hi' => ?_, fun pp hp => ?_, fun r hr => ?_, fun k hk' => ?_⟩
    · rw [rows _ (by omega) (by omega) (by omega) (by omega), e67 _ (by omega)]; exact q0.1 i hi'
    · rcases hk with ⟨rfl, rfl, rfl, rfl⟩ | ⟨rfl, rfl, rfl, rfl⟩
      · obtain ⟨a2, -, a4⟩ := t2 rfl
        rw [a2 pp (by omega) hp, (w67 pp hp).1, a4 (am_dr b + 3) (by omega), u1 (am_dr b + 3) (by omega), e1 (am_dr b + 3) (by omega) (by omega), e67 _ (by omega)]
        exact ⟨rfl, (q0.2.1 pp hp).2⟩
      · obtain ⟨a2, -, a4⟩ := t3 rfl
        rw [a2 pp (by omega) hp, (w67 pp hp).1, a4 (am_dr b + 2) (by omega), u1 (am_dr b + 2) (by omega), e1 (am_dr b + 2) (by omega) (by omega), e67 _ (by omega)]
        exact ⟨(q0.2.1 pp hp).1, rfl⟩
    · rw [rows _ (by omega) (by omega) (by omega) (by omega), rows _ (by omega) (by omega) (by omega) (by omega), rows _ (by omega) (by omega) (by omega) (by omega), rows _ (by omega) (by omega) (by omega) (by omega), e67 _ (by omega), e67 _ (by omega), e67 _ (by omega), e67 _ (by omega)]
      exact q0.2.2.1 r hr
    · rw [rows _ (by omega) (by omega) (by omega) (by omega), rows _ (by omega) (by omega) (by omega) (by omega), e67 _ (by omega), e67 _ (by omega)]
      exact q0.2.2.2 k hk'
  | succ d ih =>
    intro n n' i p J J2 hn hn' hi12 hpp h e1 e9 hw hv e70 e5 e6
    obtain ⟨n, rfl⟩ : ∃ m, n = m + 1 := ⟨n - 1, by omega⟩
    obtain ⟨n', rfl⟩ : ∃ m, n' = m + 1 := ⟨n' - 1, by omega⟩
    have c1 : f_Reader_leastOf J kc (i : Int) = some 0 := by rcases hk with ⟨rfl, -⟩ | ⟨rfl, -⟩ <;> rfl
    have c2 : f_Reader_mostOf J kc (i : Int) = some hi := by rcases hk with ⟨rfl, -, -, rfl⟩ | ⟨rfl, -, -, rfl⟩ <;> rfl
    have c3 : ∀ A, f_Reader_markOf A kc (i : Int) = some (-4) := by
      intro A
      unfold f_Reader_markOf
      rw [if_pos (show am_i32 (i : Int) by omega), if_pos (show am_i32 kc by omega)]
      by_cases a : (i : Int) = 0
      · rw [if_pos a, if_neg (show ¬ kc = 7 by omega), if_neg (show ¬ kc = 10 by omega), if_neg (show ¬ kc = 11 by omega)]
      · rw [if_neg a]
        by_cases a' : (i : Int) = 1
        · rw [if_pos a', if_pos (show am_i32 kc by omega), if_neg (show ¬ kc = 8 by omega), if_neg (show ¬ kc = 9 by omega)]
        · rw [if_neg a']
    obtain ⟨w, J2', x1, x2, x3, x4, x5, x6⟩ := lnN hT (b := b) (n := n) (kc := kc) (i := (i : Int)) (lo := 0) (hi := hi) h c0 (by decide) (by omega) c1 c2 c3 (by decide) (by omega)
    rw [m_L41 hk (by omega), x1]
    simp only [Option.bind_some]
    rcases x6 with ⟨J'', p', y1, y2, y3, y4, y5, y6⟩ | ⟨J', y1, y2, y3⟩
    · rw [y2]
      rw [show ((i : Int)).toNat = i from rfl] at y5
      refine ih n n' (i + 1) p' J'' (am_up J2' 67 (base + i) w) (by omega) (by omega) (by omega) (by omega) (PRE_67 y3 _ _) (fun a a1 a5 => ?_) (by rw [y5.2.2.2]; exact e9) (fun j hj => ?_) (fun k hk' => ?_) (by rw [up_row (by decide), x4]; exact e70) (by rw [up_row (by decide), x3.2]; exact e5) (by rw [up_row (by decide), x5]; exact e6)
      · by_cases a4 : a = 4
        · rw [a4, y6, e1 4 (by decide) (by decide)]
        · rw [y5.2.2.1 a a1 a4 a5, e1 a a1 a5]
      · by_cases e : j = i
        · rw [e, up_at, y5.1]
          exact ⟨rfl, y4⟩
        · rw [up_ne (by omega), y5.2.1 j e, x3.1 67 (by decide) (by decide)]
          exact hw j (by omega)
      · rw [up_ne (by omega), x3.1 67 (by decide) (by decide)]
        exact hv k (by omega)
    · have h12 := h.2.2.1.1
      have F : FL J' (am_up J2' 67 (base + i) w) := FL_67 ⟨y2, by rw [y3]; exact h12, by rw [x5, e6]; exact h6, by rw [x3.1 67 (by decide) (by decide), hv 0 (by omega)]; omega⟩ _ (by omega)
      obtain ⟨J3, z1, z2⟩ := ph_f hk d n' (i + 1) _ (by omega) (by omega) F
      have z1' : f_UpRiverModel_readLineOf_L41 n' km ((i : Int) + 1) (am_up J2' 67 (base + i) w) = some J3 := z1
      rw [z1']
      exact LR_f y1 z2 rfl
theorem line_ph {N : Nat} {T : Nat → Int} (hT : tpO N T) {b : Bool} {kc km : Int} {base : Nat} {hi : Int} (hk : phK kc km base hi) {p : Nat} {J J2 : am_J} (h : PRE N T p J J2) (hL : LB b J J2) : LR b N T p (f_Reader_readLine_L74 b am_FU kc 0 J) ((f_UpRiverModel_readLineOf km J2).bind rfE) := by
  have ml : f_UpRiverModel_readLineOf km J2 = f_UpRiverModel_readLineOf_L41 am_FU km 0 J2 := by
    unfold f_UpRiverModel_readLineOf
    rw [if_pos (show am_i32 km by omega), if_neg (show ¬ km < 7 by omega)]
    rcases hk with ⟨-, rfl, -⟩ | ⟨-, rfl, -⟩
    · rw [if_pos (show (7 : Int) = 7 from rfl)]
    · rw [if_neg (show ¬ (8 : Int) = 7 by decide), if_pos (show (8 : Int) = 8 from rfl)]
  rw [ml]
  exact ph_loop hT hk hL 12 am_FU am_FU 0 p J J2 (by decide) (by decide) (by omega) (Nat.le_refl _) h (fun _ _ _ => rfl) rfl (fun j hj => by omega) (fun _ _ => rfl) rfl rfl rfl
