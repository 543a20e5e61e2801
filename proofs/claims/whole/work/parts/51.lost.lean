/-! lost -/
theorem c_str_loop {b : Bool} {v : Nat → Int} (hv : rv_ok v) {g r t : Int} (hg : 0 ≤ g ∧ g ≤ 64) (hr : 0 ≤ r ∧ r < v 0) (ht : 0 ≤ t ∧ t ≤ 300) : ∀ (k n : Nat) (l : Int) (J : am_J) (K : am_K), k < n → 9 - l = (k : Int) → 0 ≤ l → Eb (am_rv b) J K v 0 g 0 8 → Dc v 0 8 K → (∀ x, x ≤ 300 → (PhS v 0 g 0 8 K t x ↔ strQ v g r t l x)) → ∃ q J' K', f_UpRiver_stretchArrival_L56 b n r t l J K = some (q, J', K') ∧ arr (strQ v g r t 9) q := by
  have hm := hv.1.1
  have ob := rv_o b
  have hp : prm 0 g 0 8 := ⟨by omega, hg, by omega, by omega⟩
  intro k
  induction k with
  | zero =>
    intro n l J K hn hk l0 hE hD hQ
    obtain ⟨n, rfl⟩ : ∃ m, n = m + 1 := ⟨n - 1, by omega⟩
    rw [f_UpRiver_stretchArrival_L56.eq_2, if_pos (show am_i32 l by omega), if_neg (show ¬ l < 9 by omega)]
    have e9 : l = 9 := by omega
    rw [e9] at hQ
    obtain ⟨q, J2, K2, w1, w2⟩ := c_arrive ob hv hp (by omega) (Q := strQ v g r t 9) (L := 300) (t := t) (by omega) ht hE hD hQ
    rw [w1]
    exact ⟨q, J2, K2, rfl, w2⟩
  | succ k ih =>
    intro n l J K hn hk l0 hE hD hQ
    obtain ⟨n, rfl⟩ : ∃ m, n = m + 1 := ⟨n - 1, by omega⟩
    have hE' := hE
    obtain ⟨q1, q2, q3, q4, q5, q6, q7⟩ := hE'
    rw [f_UpRiver_stretchArrival_L56.eq_2, if_pos (show am_i32 l by omega), if_pos (show l < 9 by omega), c_carries hv q1 (by omega) (by omega) (by omega)]
    simp only [Option.bind_some, fl_32, if_true, fl_0]
    by_cases af : rAf v 0 r l t
    · rw [if_neg (show ¬ ¬ (0 ≤ r ∧ r < v 0 ∧ rAf v 0 r l t) from fun z => z ⟨hr.1, hr.2, af⟩)]
      unfold f_Boat_lieAt
      simp only [Option.bind_some]
      generalize hJ1 : am_up (am_up (am_up (am_up (am_up (am_up J 30 0 (r * 8)) 30 1 l) 30 2 0) 30 3 t) 30 4 0) 30 5 0 = J1
      have a0 : J1 30 0 = r * 8 := by rw [← hJ1]; rfl
      have a1 : J1 30 1 = l := by rw [← hJ1]; rfl
      have a2 : J1 30 2 = 0 := by rw [← hJ1]; rfl
      have a3 : J1 30 3 = t := by rw [← hJ1]; rfl
      have ar : ∀ a, a ≠ 30 → J1 a = J a := fun a ha => by rw [← hJ1, up_row ha, up_row ha, up_row ha, up_row ha, up_row ha, up_row ha]
      have E1 : Eb (am_rv b) J1 K v 0 g 0 8 := ⟨rq_cong q1 rfl fun a ha j => by rw [ar a (by omega)], q2, by rw [ar 26 (by decide)]; exact q3, by rw [ar 26 (by decide)]; exact q4, by rw [ar 26 (by decide)]; exact q5, by rw [ar 26 (by decide)]; exact q6, by rw [ar 26 (by decide)]; exact q7⟩
      obtain ⟨K1, d1, d2, d3, d4⟩ := c_add (o1 := 30) hv ⟨by omega, by omega⟩ E1 hD (f := r * 8) (l := l) (b := 0) (t := t) a0 a1 a2 a3 (by omega) (by omega) (Or.inl rfl) ht
      rw [d1]
      simp only [Option.bind_some]
      have br : ∀ a, a ≠ 30 → am_up J1 30 2 1 a = J a := fun a ha => by rw [up_row ha, ar a ha]
      have E2 : Eb (am_rv b) (am_up J1 30 2 1) K1 v 0 g 0 8 := ⟨rq_cong q1 rfl fun a ha j => by rw [br a (by omega)], rK_row q2 (d3 _ (by omega)), by rw [br 26 (by decide)]; exact q3, by rw [br 26 (by decide)]; exact q4, by rw [br 26 (by decide)]; exact q5, by rw [br 26 (by decide)]; exact q6, by rw [br 26 (by decide)]; exact q7⟩
      obtain ⟨K2, e1, e2, e3, e4⟩ := c_add (o1 := 30) hv ⟨by omega, by omega⟩ E2 d2 (f := r * 8) (l := l) (b := 1) (t := t) (by rw [up_ne (by decide)]; exact a0) (by rw [up_ne (by decide)]; exact a1) (up_at _ _ _ _) (by rw [up_ne (by decide)]; exact a3) (by omega) (by omega) (Or.inr rfl) ht
      rw [e1]
      simp only [Option.bind_some]
      refine ih n (l + 1) _ K2 (by omega) (by omega) (by omega) ⟨E2.1, rK_row E2.2.1 (e3 _ (by omega)), E2.2.2⟩ e2 fun x hx => ?_
      rw [e4 x, d4 x, hQ x hx, strQ_succ v g r t l x l0, Int.mul_comm r 8, or_assoc]
      refine or_congr Iff.rfl ?_
      constructor
      · rintro (z | z)
        · exact ⟨af, Or.inl z.2.2.2⟩
        · exact ⟨af, Or.inr z.2.2.2⟩
      · rintro ⟨-, z | z⟩
        · exact Or.inl ⟨by omega, by omega, by omega, z⟩
        · exact Or.inr ⟨by omega, by omega, by omega, z⟩
    · rw [if_pos (show ¬ (0 ≤ r ∧ r < v 0 ∧ rAf v 0 r l t) from fun z => af z.2.2)]
      refine ih n (l + 1) J K (by omega) (by omega) (by omega) hE hD fun x hx => ?_
      rw [hQ x hx, strQ_succ v g r t l x l0]
      constructor
      · exact Or.inl
      · rintro (z | z)
        · exact z
        · exact absurd z.1 af
theorem c_stretch {b : Bool} {v : Nat → Int} (hv : rv_ok v) {J : am_J} {K : am_K} (q : rq (am_rv b) J v) (k : rK (am_rv b) K v) {i : Int} (hi : 0 ≤ i ∧ i < 11) (hr : 0 ≤ J 20 i.toNat ∧ J 20 i.toNat < v 0) (ht : 0 ≤ J 21 i.toNat ∧ J 21 i.toNat ≤ 300) (hg : 0 ≤ J 20 (i + 1).toNat ∧ J 20 (i + 1).toNat ≤ v 0) : ∃ p J' K', f_UpRiver_stretchArrival b i J K = some (p, J', K') ∧ arr (strQ v (8 * J 20 (i + 1).toNat) (J 20 i.toNat) (J 21 i.toNat) 9) p := by
  have hm := hv.1.1
  have ob := rv_o b
  unfold f_UpRiver_stretchArrival
  obtain ⟨J1, K1, b1, b2, b3, b4⟩ := c_begin ob (lt := 0) q k
  rw [if_pos (show 0 ≤ i ∧ i < 12 by omega), b1]
  simp only [Option.bind_some]
  rw [if_pos (show 0 ≤ i + 1 ∧ i + 1 < 12 by omega), b4 20 (by decide), Int.mul_comm (J 20 (i + 1).toNat) 8]
  obtain ⟨q1, q2, q3, q4, q5, q6, q7⟩ := b2
  exact c_str_loop hv (by omega) hr ht 9 am_FU 0 _ K1 (by decide) (by omega) (by omega) ⟨rq_cong q1 rfl fun a ha j => by rw [up_row (by omega)], q2, by rw [up_ne (by decide)]; exact q3, by rw [up_ne (by decide)]; exact q4, by rw [up_ne (by decide)]; exact q5, by rw [up_ne (by decide)]; exact q6, up_at _ _ _ _⟩ (clr_Dc b3) fun x hx => ⟨fun z => absurd z (clr_PhS b3 _ x), fun ⟨l, b, z, _⟩ => by omega⟩
theorem lost_loop {b : Bool} {J0 : am_J} (hv : rv_ok (J0 66)) (hl : sLg J0) {x : Int} (hx : x = 0 ∨ x = 1) : ∀ (k n : Nat) (m w m' w' i : Int) (J : am_J) (K : am_K) (J2 : am_J), k < n → (J0 19 2 - i).toNat = k → 0 ≤ i → i ≤ 12 → (w = -1001 ∧ m = -1001 ∧ w' = -4) ∨ ((0 ≤ w ∧ w ≤ 11) ∧ w' = w ∧ m' = m ∧ (-300 ≤ m ∧ m ≤ 300)) → rq (am_rv b) J (J0 66) → rK (am_rv b) K (J0 66) → (J 19 = J0 19 ∧ J 20 = J0 20 ∧ J 21 = J0 21) → J2 66 = J0 66 → J2 65 15 = 0 → J2 68 = J0 68 → ∃ r J' K' J2', f_UpRiver_lost_L22 b n x m w i J K = some (r, J', K') ∧ f_UpRiverModel_lost_L22 n x w' m' i J2 = some (r, J2') ∧ am_i32 r := by
  have hm := hv.1.1
  have hl' := hl
  obtain ⟨e, s0, s4, ha, hi⟩ := hl'
  intro k
  induction k with
  | zero =>
    intro n m w m' w' i J K J2 hn hk i0 i1 rel q kk eJ e66 e15 e68
    obtain ⟨n, rfl⟩ : ∃ m, n = m + 1 := ⟨n - 1, by omega⟩
    rw [f_UpRiver_lost_L22.eq_2, f_UpRiverModel_lost_L22.eq_2, eJ.1, e68, ← e, if_pos (show am_i32 (J0 19 2) by omega), if_pos (show am_i32 (i + 1) by omega), if_neg (show ¬ i + 1 < J0 19 2 by omega), if_pos (show am_i32 x by omega), if_pos (show am_i32 (J0 19 2) by omega), if_pos (show am_i32 (i + 1) by omega), if_neg (show ¬ i + 1 < J0 19 2 by omega), if_pos (show am_i32 x by omega), if_pos (show am_i32 w' by omega)]
    rcases rel with ⟨r1, r2, r3⟩ | ⟨r1, r2, r3, r4⟩
    · rw [if_pos r3]
      rcases hx with rfl | rfl
      · exact ⟨m, _, _, _, rfl, by rw [r2], by omega⟩
      · exact ⟨w, _, _, _, rfl, by rw [r1], by omega⟩
    · rw [if_neg (show ¬ w' = -4 by omega), r2, r3]
      rcases hx with rfl | rfl
      · exact ⟨m, _, _, _, rfl, rfl, by omega⟩
      · exact ⟨w, _, _, _, rfl, rfl, by omega⟩
  | succ k ih =>
    intro n m w m' w' i J K J2 hn hk i0 i1 rel q kk eJ e66 e15 e68
    obtain ⟨n, rfl⟩ : ∃ m, n = m + 1 := ⟨n - 1, by omega⟩
    rw [f_UpRiver_lost_L22.eq_2, f_UpRiverModel_lost_L22.eq_2, eJ.1, e68, ← e, if_pos (show am_i32 (J0 19 2) by omega), if_pos (show am_i32 (i + 1) by omega), if_pos (show am_i32 x by omega), if_pos (show am_i32 (J0 19 2) by omega), if_pos (show am_i32 (i + 1) by omega), if_pos (show am_i32 x by omega), if_pos (show am_i32 w' by omega)]
    by_cases c0 : i + 1 < J0 19 2
    · rw [if_pos c0, if_pos c0]
      have hA := sLg_at hl i0 (show i < J0 19 2 by omega)
      have hB := sLg_at hl (i := i + 1) (by omega) c0
      have hC := (hi i.toNat (by omega)).1
      rw [show i.toNat + 1 = (i + 1).toNat by omega] at hC
      obtain ⟨p, J', K', u1, u2⟩ := c_stretch (i := i) hv q kk (by omega) (by rw [eJ.2.1]; omega) (by rw [eJ.2.2]; omega) (by rw [eJ.2.1]; omega)
      rw [eJ.2.1, eJ.2.2] at u2
      obtain ⟨p', J2', w1, w2⟩ := m_stretch (J := J2) (i := i) (by rw [e66]; exact hv) e15 (by omega) (by rw [e68, e66, ← hA.1]; omega) (by rw [e68, ← hA.2.1]; omega) (by rw [e68, e66, ← hB.1]; omega)
      rw [e68, e66, ← hB.1, ← hA.1, ← hA.2.1] at w2
      have ep : p' = p := arr_eq w2 u2
      subst ep
      have p32 := arr_32 u2
      have eJ' : J' 19 = J0 19 ∧ J' 20 = J0 20 ∧ J' 21 = J0 21 := by
        refine ⟨?_, ?_, ?_⟩
        · rw [← eJ.1]; funext j; exact frJ_UpRiver_stretchArrival u1 rfl
        · rw [← eJ.2.1]; funext j; exact frJ_UpRiver_stretchArrival u1 rfl
        · rw [← eJ.2.2]; funext j; exact frJ_UpRiver_stretchArrival u1 rfl
      have q' : rq (am_rv b) J' (J0 66) := rq_nw q (fun a j hw => frJ_UpRiver_stretchArrival u1 hw) rfl rfl
      have k' : rK (am_rv b) K' (J0 66) := rK_nw kk (fun a j hw => frK_UpRiver_stretchArrival u1 hw)
      have f66 : J2' 66 = J0 66 := by rw [← e66]; funext j; exact frJ_UpRiverModel_stretch w1 rfl
      have f15 : J2' 65 15 = 0 := by rw [← e15]; exact frJ_UpRiverModel_stretch w1 rfl
      have f68 : J2' 68 = J0 68 := by rw [← e68]; funext j; exact frJ_UpRiverModel_stretch w1 rfl
      rw [u1, w1]
      simp only [Option.bind_some]
      rw [if_pos p32, if_pos p32]
      by_cases c1 : p' = -4
      · rw [if_pos c1, if_pos c1]
        exact ih n m w m' w' (i + 1) J' K' J2' (by omega) (by omega) (by omega) (by omega) rel q' k' eJ' f66 f15 f68
      · have b1 := u2.1
        have L82 : ∀ s late : Int, (s = 0 ∨ s = 1) → f_UpRiverModel_lost_L82 (f_UpRiverModel_lost_L22 n) x w' m' i late s J2' = f_UpRiverModel_lost_L22 n x (if s = 0 then w' else i) (if s = 0 then m' else late) (i + 1) J2' := by
          intro s late hs
          unfold f_UpRiverModel_lost_L82 f_UpRiverModel_lost_L95
          rcases hs with rfl | rfl
          · rw [if_pos (show am_i32 0 by decide), if_pos (show (0 : Int) = 0 from rfl), if_pos (show am_i32 0 by decide), if_pos (show (0 : Int) = 0 from rfl)]; rfl
          · rw [if_pos (show am_i32 1 by decide), if_neg (show ¬ (1 : Int) = 0 by decide), if_pos (show am_i32 1 by decide), if_neg (show ¬ (1 : Int) = 0 by decide)]; rfl
        rw [if_neg c1, if_neg c1, if_pos (show 0 ≤ i + 1 ∧ i + 1 < 12 by omega), eJ'.2.2]
        unfold f_UpRiverModel_logOf
        rw [if_pos (show 0 ≤ 7 + 2 * (i + 1) + 1 ∧ 7 + 2 * (i + 1) + 1 < 216 by omega), f68, ← hB.2.1]
        simp only [Option.bind_some]
        rw [if_pos (show am_i32 w by omega), if_pos (show am_i32 w' by omega), L82 0 _ (Or.inl rfl), L82 1 _ (Or.inr rfl), if_pos (show (0 : Int) = 0 from rfl), if_pos (show (0 : Int) = 0 from rfl), if_neg (show ¬ (1 : Int) = 0 by decide), if_neg (show ¬ (1 : Int) = 0 by decide)]
        generalize hlate : J0 21 (i + 1).toNat - p' = late
        have bl : -300 ≤ late ∧ late ≤ 300 := by omega
        have win : ∃ r J'' K'' J2'', f_UpRiver_lost_L22 b n x late i (i + 1) J' K' = some (r, J'', K'') ∧ f_UpRiverModel_lost_L22 n x i late (i + 1) J2' = some (r, J2'') ∧ am_i32 r :=
          ih n late i late i (i + 1) J' K' J2' (by omega) (by omega) (by omega) (by omega) (Or.inr ⟨by omega, rfl, rfl, bl⟩) q' k' eJ' f66 f15 f68
        rcases rel with ⟨r1, r2, r3⟩ | ⟨r1, r2, r3, r4⟩
        · rw [if_pos r1, if_pos r3]
          exact win
        · rw [if_neg (show ¬ w = -1001 by omega), if_neg (show ¬ w' = -4 by omega), if_pos (show am_i32 m by omega), if_pos (show am_i32 late by omega), if_pos (show am_i32 m' by omega), if_pos (show am_i32 late by omega), r3]
          by_cases c2 : m < late
          · rw [if_pos c2, if_pos c2]
            exact win
          · rw [if_neg c2, if_neg c2]
            exact ih n m w m w' (i + 1) J' K' J2' (by omega) (by omega) (by omega) (by omega) (Or.inr ⟨r1, r2, rfl, r4⟩) q' k' eJ' f66 f15 f68
    · rw [if_neg c0, if_neg c0]
      rcases rel with ⟨r1, r2, r3⟩ | ⟨r1, r2, r3, r4⟩
      · rw [if_pos r3]
        rcases hx with rfl | rfl
        · exact ⟨m, _, _, _, rfl, by rw [r2], by omega⟩
        · exact ⟨w, _, _, _, rfl, by rw [r1], by omega⟩
      · rw [if_neg (show ¬ w' = -4 by omega), r2, r3]
        rcases hx with rfl | rfl
        · exact ⟨m, _, _, _, rfl, rfl, by omega⟩
        · exact ⟨w, _, _, _, rfl, rfl, by omega⟩
theorem e_lost {b : Bool} {J : am_J} {K : am_K} {x : Int} (hr : sR b J) (hk : rK (am_rv b) K (J 66)) (hl : sLg J) (hx : am_i32 x) : ∃ r J' K' J2, f_UpRiver_lost b x J K = some (r, J', K') ∧ f_UpRiverModel_lost x J' = some (r, J2) ∧ am_i32 r := by
  obtain ⟨h, q, e15⟩ := hr
  have mo : ∀ J1 : am_J, f_UpRiverModel_lost x J1 = if 0 ≤ x ∧ x ≤ 1 then f_UpRiverModel_lost_L22 am_FU x (-4) 0 0 J1 else some (-1000, J1) := by
    intro J1
    unfold f_UpRiverModel_lost
    rw [m_in3 hx]
    simp only [Option.bind_some, fl_32, if_true, fl_0]
    by_cases c0 : 0 ≤ x ∧ x ≤ 1
    · rw [if_neg (show ¬ ¬ (0 ≤ x ∧ x ≤ 1) from fun z => z c0), if_pos c0]
    · rw [if_pos c0, if_neg c0]
  have co : f_UpRiver_lost b x J K = if 0 ≤ x ∧ x ≤ 1 then f_UpRiver_lost_L22 b am_FU x (-1001) (-1001) 0 J K else some (-1000, J, K) := by
    unfold f_UpRiver_lost
    rw [c_isYesOrNo hx]
    simp only [Option.bind_some, fl_32, if_true, fl_0]
    by_cases c0 : 0 ≤ x ∧ x ≤ 1
    · rw [if_neg (show ¬ ¬ (0 ≤ x ∧ x ≤ 1) from fun z => z c0), if_pos c0]
    · rw [if_pos c0, if_neg c0]
  by_cases c0 : 0 ≤ x ∧ x ≤ 1
  · rw [if_pos c0] at co
    have s4 := hl.2.2.1
    have run : ∀ J2 : am_J, J2 66 = J 66 → J2 65 15 = 0 → J2 68 = J 68 → ∃ r J' K' J2', f_UpRiver_lost_L22 b am_FU x (-1001) (-1001) 0 J K = some (r, J', K') ∧ f_UpRiverModel_lost_L22 am_FU x (-4) 0 0 J2 = some (r, J2') ∧ am_i32 r :=
      fun J2 a1 a2 a3 => lost_loop h hl (by omega) (J 19 2 - 0).toNat am_FU (-1001) (-1001) 0 (-4) 0 J K J2 (by have : am_FU = 20000 := rfl; omega) rfl (by omega) (by omega) (Or.inl ⟨rfl, rfl, rfl⟩) q hk ⟨rfl, rfl, rfl⟩ a1 a2 a3
    obtain ⟨r, J', K', -, u1, -⟩ := run J rfl e15 rfl
    have u1' := co.trans u1
    obtain ⟨r', J'', K'', J2, w1, w2, w3⟩ := run J' (by funext j; exact frJ_UpRiver_lost u1' rfl) (by rw [← e15]; exact frJ_UpRiver_lost u1' rfl) (by funext j; exact frJ_UpRiver_lost u1' rfl)
    obtain ⟨e1, -⟩ := Prod.mk.inj (Option.some.inj (u1.symm.trans w1))
    exact ⟨r, J', K', J2, u1', by rw [mo, if_pos c0, e1]; exact w2, by rw [e1]; exact w3⟩
  · rw [if_neg c0] at co
    exact ⟨-1000, J, K, J, co, by rw [mo, if_neg c0], by decide⟩
